/-! BLOCKS, 6: what it takes to go on from a label; by program -/
section
variable {L : Nat} {xs : Nat → Int32}
set_option maxRecDepth 20000
set_option maxHeartbeats 1000000
/-! StillTownModel.frees(I)V -/
theorem e300 {x0 : Nat} {x1 : Int32} {h : iH} {Q : Option Value → iH → Prop} (H : i_P i_MT i_AT L xs 300 0 [some (.ref x0), some (.int x1), none, none] [] h 0 0 Q) : i_C i_MT i_AT L xs 300 [.ref x0, .int x1] h Q := ⟨i_m300, i_k300.1, Nat.le_of_ble_eq_true rfl, H⟩
theorem b300_0 {x0 : Nat} {x1 : Int32} {x2 : Option Value} {x3 : Option Value} {h : iH} {Q : Option Value → iH → Prop} (H : i_P i_MT i_AT L xs 300 2 [some (.ref x0), some (.int x1), some (.int (0 : Int32)), x3] [] h 0 0 Q) : i_P i_MT i_AT L xs 300 0 [some (.ref x0), some (.int x1), x2, x3] [] h 0 0 Q := by
  have hk := i_k300
  refine g_s1 (pc2 := 1) (st2 := [.int (0 : Int32)]) hk rfl rfl rfl rfl rfl ?_
  refine g_s1 (pc2 := 2) (lo2 := [some (.ref x0), some (.int x1), some (.int (0 : Int32)), x3]) hk rfl rfl rfl rfl rfl ?_
  exact H
theorem b300_2 {x0 : Nat} {x1 : Int32} {x2 : Int32} {x3 : Option Value} {h : iH} {Q : Option Value → iH → Prop} (H : (i_obj? h x0 12 ∧ i_C i_MT i_AT L xs 248 [.ref x0] h (fun v h1 => ∃ r2 : Int32, v = some (.int r2) ∧ i_P i_MT i_AT L xs 300 7 [some (.ref x0), some (.int x1), some (.int x2), x3] [.int r2, .int x2] h1 0 0 Q))) : i_P i_MT i_AT L xs 300 2 [some (.ref x0), some (.int x1), some (.int x2), x3] [] h 0 0 Q := by
  have hk := i_k300
  refine g_s1 (pc2 := 3) hk rfl rfl rfl rfl rfl ?_
  refine g_s1 (pc2 := 4) hk rfl rfl rfl rfl rfl ?_
  obtain ⟨ho, H⟩ := H
  refine g_call hk rfl rfl i_k248.1 ⟨rfl, rfl⟩ rfl (i_rcv_v ho rfl (by decide)) rfl ?_
  exact H.mono (fun v h2 q => by obtain ⟨r, rfl, q⟩ := q; exact q)
theorem b300_7 {x0 : Nat} {x1 : Int32} {x2 : Int32} {x3 : Option Value} {s0 : Int32} {s1 : Int32} {h : iH} {Q : Option Value → iH → Prop} (H : ((s1 ≤ s0 → Q none h) ∧ (¬ (s1 ≤ s0) → i_P i_MT i_AT L xs 300 12 [some (.ref x0), some (.int x1), some (.int x2), some (.int (0 : Int32))] [] h 0 0 Q))) : i_P i_MT i_AT L xs 300 7 [some (.ref x0), some (.int x1), some (.int x2), x3] [.int s1, .int s0] h 0 0 Q := by
  have hk := i_k300
  refine g_icmp_ge hk rfl (fun hc => ?_) (fun hc => ?_)
  · have H := H.1 hc
    exact g_return hk rfl (by decide) (by decide) rfl H
  · have H := H.2 hc
    refine g_s1 (pc2 := 11) (st2 := [.int (0 : Int32)]) hk rfl rfl rfl rfl rfl ?_
    refine g_s1 (pc2 := 12) (lo2 := [some (.ref x0), some (.int x1), some (.int x2), some (.int (0 : Int32))]) hk rfl rfl rfl rfl rfl ?_
    exact H
theorem b300_12 {x0 : Nat} {x1 : Int32} {x2 : Int32} {x3 : Int32} {h : iH} {Q : Option Value → iH → Prop} (H : (i_obj? h x0 12 ∧ i_C i_MT i_AT L xs 248 [.ref x0] h (fun v h1 => ∃ r2 : Int32, v = some (.int r2) ∧ i_P i_MT i_AT L xs 300 17 [some (.ref x0), some (.int x1), some (.int x2), some (.int x3)] [.int r2, .int x3] h1 0 0 Q))) : i_P i_MT i_AT L xs 300 12 [some (.ref x0), some (.int x1), some (.int x2), some (.int x3)] [] h 0 0 Q := by
  have hk := i_k300
  refine g_s1 (pc2 := 13) hk rfl rfl rfl rfl rfl ?_
  refine g_s1 (pc2 := 14) hk rfl rfl rfl rfl rfl ?_
  obtain ⟨ho, H⟩ := H
  refine g_call hk rfl rfl i_k248.1 ⟨rfl, rfl⟩ rfl (i_rcv_v ho rfl (by decide)) rfl ?_
  exact H.mono (fun v h2 q => by obtain ⟨r, rfl, q⟩ := q; exact q)
theorem b300_17 {x0 : Nat} {x1 : Int32} {x2 : Int32} {x3 : Int32} {s0 : Int32} {s1 : Int32} {h : iH} {Q : Option Value → iH → Prop} (H : ((s1 ≤ s0 → i_P i_MT i_AT L xs 300 2 [some (.ref x0), some (.int x1), some (.int (x2 + 1)), some (.int x3)] [] h 0 0 Q) ∧ (¬ (s1 ≤ s0) → (∃ v1 : Nat, i_fld h x0 12 47 = some (.ref v1) ∧ ((x2 = x3 → i_P i_MT i_AT L xs 300 49 [some (.ref x0), some (.int x1), some (.int x2), some (.int x3)] [.int (((48 : Int32) * x2) + x3), .ref v1] h 0 0 Q) ∧ (¬ (x2 = x3) → (i_obj? h x0 12 ∧ i_C i_MT i_AT L xs 269 [.ref x0, .int x2, .int x3, .int x1] h (fun v h2 => ∃ r3 : Int32, v = some (.int r3) ∧ i_P i_MT i_AT L xs 300 42 [some (.ref x0), some (.int x1), some (.int x2), some (.int x3)] [.int r3, .int (((48 : Int32) * x2) + x3), .ref v1] h2 0 0 Q)))))))) : i_P i_MT i_AT L xs 300 17 [some (.ref x0), some (.int x1), some (.int x2), some (.int x3)] [.int s1, .int s0] h 0 0 Q := by
  have hk := i_k300
  refine g_icmp_ge hk rfl (fun hc => ?_) (fun hc => ?_)
  · have H := H.1 hc
    refine g_s1 (pc2 := 60) (lo2 := [some (.ref x0), some (.int x1), some (.int (x2 + 1)), some (.int x3)]) hk rfl rfl rfl rfl rfl ?_
    refine g_s1 (pc2 := 2) hk rfl rfl rfl rfl rfl ?_
    exact H
  · have H := H.2 hc
    refine g_s1 (pc2 := 21) hk rfl rfl rfl rfl rfl ?_
    obtain ⟨v1, ev1, H⟩ := H
    refine g_step (pc2 := 24) hk rfl rfl rfl (s_get ev1) ?_
    refine g_s1 (pc2 := 26) (st2 := [.int (48 : Int32), .ref v1]) hk rfl rfl rfl rfl rfl ?_
    refine g_s1 (pc2 := 27) hk rfl rfl rfl rfl rfl ?_
    refine g_s1 (pc2 := 28) hk rfl rfl rfl rfl rfl ?_
    refine g_s1 (pc2 := 29) hk rfl rfl rfl rfl rfl ?_
    refine g_s1 (pc2 := 30) hk rfl rfl rfl rfl rfl ?_
    refine g_s1 (pc2 := 31) hk rfl rfl rfl rfl rfl ?_
    refine g_s1 (pc2 := 32) hk rfl rfl rfl rfl rfl ?_
    refine g_icmp_eq hk rfl (fun hc => ?_) (fun hc => ?_)
    · have H := H.1 hc
      exact H
    · have H := H.2 hc
      refine g_s1 (pc2 := 36) hk rfl rfl rfl rfl rfl ?_
      refine g_s1 (pc2 := 37) hk rfl rfl rfl rfl rfl ?_
      refine g_s1 (pc2 := 38) hk rfl rfl rfl rfl rfl ?_
      refine g_s1 (pc2 := 39) hk rfl rfl rfl rfl rfl ?_
      obtain ⟨ho, H⟩ := H
      refine g_call hk rfl rfl i_k269.1 ⟨rfl, rfl⟩ rfl (i_rcv_v ho rfl (by decide)) rfl ?_
      exact H.mono (fun v h2 q => by obtain ⟨r, rfl, q⟩ := q; exact q)
theorem b300_42 {x0 : Nat} {x1 : Int32} {x2 : Int32} {x3 : Int32} {s0 : Nat} {s1 : Int32} {s2 : Int32} {h : iH} {Q : Option Value → iH → Prop} (H : ((s2 = 0 → i_P i_MT i_AT L xs 300 49 [some (.ref x0), some (.int x1), some (.int x2), some (.int x3)] [.int s1, .ref s0] h 0 0 Q) ∧ (¬ (s2 = 0) → i_P i_MT i_AT L xs 300 50 [some (.ref x0), some (.int x1), some (.int x2), some (.int x3)] [.int (1 : Int32), .int s1, .ref s0] h 0 0 Q))) : i_P i_MT i_AT L xs 300 42 [some (.ref x0), some (.int x1), some (.int x2), some (.int x3)] [.int s2, .int s1, .ref s0] h 0 0 Q := by
  have hk := i_k300
  refine g_if_eq hk rfl (fun hc => ?_) (fun hc => ?_)
  · have H := H.1 hc
    exact H
  · have H := H.2 hc
    refine g_s1 (pc2 := 46) (st2 := [.int (1 : Int32), .int s1, .ref s0]) hk rfl rfl rfl rfl rfl ?_
    refine g_s1 (pc2 := 50) hk rfl rfl rfl rfl rfl ?_
    exact H
theorem b300_49 {x0 : Nat} {x1 : Int32} {x2 : Int32} {x3 : Int32} {s0 : Nat} {s1 : Int32} {h : iH} {Q : Option Value → iH → Prop} (H : i_P i_MT i_AT L xs 300 50 [some (.ref x0), some (.int x1), some (.int x2), some (.int x3)] [.int (0 : Int32), .int s1, .ref s0] h 0 0 Q) : i_P i_MT i_AT L xs 300 49 [some (.ref x0), some (.int x1), some (.int x2), some (.int x3)] [.int s1, .ref s0] h 0 0 Q := by
  have hk := i_k300
  refine g_s1 (pc2 := 50) (st2 := [.int (0 : Int32), .int s1, .ref s0]) hk rfl rfl rfl rfl rfl ?_
  exact H
theorem b300_50 {x0 : Nat} {x1 : Int32} {x2 : Int32} {x3 : Int32} {s0 : Nat} {s1 : Int32} {s2 : Int32} {h : iH} {Q : Option Value → iH → Prop} (H : (∃ (n1 : Nat) (f2 : Nat → Int32), i_arI h 2 s0 = some (n1, f2) ∧ ¬ (s1 < 0 ∨ n1 ≤ s1.toNatClampNeg) ∧ i_P i_MT i_AT L xs 300 51 [some (.ref x0), some (.int x1), some (.int x2), some (.int x3)] [] (i_siI h s0 s1.toNatClampNeg (vp_nar .boolean s2)) 0 0 Q)) : i_P i_MT i_AT L xs 300 50 [some (.ref x0), some (.int x1), some (.int x2), some (.int x3)] [.int s2, .int s1, .ref s0] h 0 0 Q := by
  have hk := i_k300
  obtain ⟨n1, f2, ef2, hi, H⟩ := H
  refine g_step (pc2 := 51) hk rfl rfl rfl (s_zput ef2 hi) ?_
  exact H
theorem b300_51 {x0 : Nat} {x1 : Int32} {x2 : Int32} {x3 : Int32} {h : iH} {Q : Option Value → iH → Prop} (H : i_P i_MT i_AT L xs 300 12 [some (.ref x0), some (.int x1), some (.int x2), some (.int (x3 + 1))] [] h 0 0 Q) : i_P i_MT i_AT L xs 300 51 [some (.ref x0), some (.int x1), some (.int x2), some (.int x3)] [] h 0 0 Q := by
  have hk := i_k300
  refine g_s1 (pc2 := 54) (lo2 := [some (.ref x0), some (.int x1), some (.int x2), some (.int (x3 + 1))]) hk rfl rfl rfl rfl rfl ?_
  refine g_s1 (pc2 := 12) hk rfl rfl rfl rfl rfl ?_
  exact H
/-! StillTownModel.meetsOn(IIIII)V -/
theorem e301 {x0 : Nat} {x1 : Int32} {x2 : Int32} {x3 : Int32} {x4 : Int32} {x5 : Int32} {h : iH} {Q : Option Value → iH → Prop} (H : i_P i_MT i_AT L xs 301 0 [some (.ref x0), some (.int x1), some (.int x2), some (.int x3), some (.int x4), some (.int x5), none, none, none, none, none] [] h 0 0 Q) : i_C i_MT i_AT L xs 301 [.ref x0, .int x1, .int x2, .int x3, .int x4, .int x5] h Q := ⟨i_m301, i_k301.1, Nat.le_of_ble_eq_true rfl, H⟩
theorem b301_0 {x0 : Nat} {x1 : Int32} {x2 : Int32} {x3 : Int32} {x4 : Int32} {x5 : Int32} {x6 : Option Value} {x7 : Option Value} {x8 : Option Value} {x9 : Option Value} {x10 : Option Value} {h : iH} {Q : Option Value → iH → Prop} (H : (¬ (4 : Int32) = 0 ∧ (¬ (48 : Int32) = 0 ∧ (¬ (4 : Int32) = 0 ∧ (¬ (48 : Int32) = 0 ∧ (∃ v1 : Nat, i_fld h x0 12 47 = some (.ref v1) ∧ (∃ (n2 : Nat) (f3 : Nat → Int32), i_arI h 2 v1 = some (n2, f3) ∧ ¬ ((((48 : Int32) * x4) + x5) < 0 ∨ n2 ≤ (((48 : Int32) * x4) + x5).toNatClampNeg) ∧ (∃ v4 : Nat, i_fld h x0 12 47 = some (.ref v4) ∧ (∃ (n5 : Nat) (f6 : Nat → Int32), i_arI h 2 v4 = some (n5, f6) ∧ ¬ ((((48 : Int32) * x5) + x4) < 0 ∨ n5 ≤ (((48 : Int32) * x5) + x4).toNatClampNeg) ∧ (¬ (4 : Int32) = 0 ∧ ((x5 = ((x1 / (4 : Int32)) - (x1 / (4 : Int32)) / (48 : Int32) * (48 : Int32)) → i_P i_MT i_AT L xs 301 86 [some (.ref x0), some (.int x1), some (.int x2), some (.int x3), some (.int x4), some (.int x5), some (.int ((x1 / (4 : Int32)) / (48 : Int32))), some (.int ((x1 / (4 : Int32)) - (x1 / (4 : Int32)) / (48 : Int32) * (48 : Int32))), some (.int (f3 (((48 : Int32) * x4) + x5).toNatClampNeg)), some (.int (f6 (((48 : Int32) * x5) + x4).toNatClampNeg)), some (.int (x1 - x1 / (4 : Int32) * (4 : Int32)))] [] h 0 0 Q) ∧ (¬ (x5 = ((x1 / (4 : Int32)) - (x1 / (4 : Int32)) / (48 : Int32) * (48 : Int32))) → (((f3 (((48 : Int32) * x4) + x5).toNatClampNeg) = 0 → i_P i_MT i_AT L xs 301 86 [some (.ref x0), some (.int x1), some (.int x2), some (.int x3), some (.int x4), some (.int x5), some (.int ((x1 / (4 : Int32)) / (48 : Int32))), some (.int ((x1 / (4 : Int32)) - (x1 / (4 : Int32)) / (48 : Int32) * (48 : Int32))), some (.int (f3 (((48 : Int32) * x4) + x5).toNatClampNeg)), some (.int (f6 (((48 : Int32) * x5) + x4).toNatClampNeg)), some (.int (x1 - x1 / (4 : Int32) * (4 : Int32)))] [] h 0 0 Q) ∧ (¬ ((f3 (((48 : Int32) * x4) + x5).toNatClampNeg) = 0) → (i_obj? h x0 12 ∧ i_C i_MT i_AT L xs 268 [.ref x0, .int x4, .int x5] h (fun v h7 => ∃ r8 : Int32, v = some (.int r8) ∧ i_P i_MT i_AT L xs 301 71 [some (.ref x0), some (.int x1), some (.int x2), some (.int x3), some (.int x4), some (.int x5), some (.int ((x1 / (4 : Int32)) / (48 : Int32))), some (.int ((x1 / (4 : Int32)) - (x1 / (4 : Int32)) / (48 : Int32) * (48 : Int32))), some (.int (f3 (((48 : Int32) * x4) + x5).toNatClampNeg)), some (.int (f6 (((48 : Int32) * x5) + x4).toNatClampNeg)), some (.int (x1 - x1 / (4 : Int32) * (4 : Int32)))] [.int r8] h7 0 0 Q)))))))))))))))) : i_P i_MT i_AT L xs 301 0 [some (.ref x0), some (.int x1), some (.int x2), some (.int x3), some (.int x4), some (.int x5), x6, x7, x8, x9, x10] [] h 0 0 Q := by
  have hk := i_k301
  refine g_s1 (pc2 := 1) hk rfl rfl rfl rfl rfl ?_
  refine g_s1 (pc2 := 2) (st2 := [.int (4 : Int32), .int x1]) hk rfl rfl rfl rfl rfl ?_
  obtain ⟨hz, H⟩ := H
  refine g_s1 (pc2 := 3) hk rfl rfl rfl rfl (s_if hz) ?_
  refine g_s1 (pc2 := 5) (st2 := [.int (48 : Int32), .int (x1 / (4 : Int32))]) hk rfl rfl rfl rfl rfl ?_
  obtain ⟨hz, H⟩ := H
  refine g_s1 (pc2 := 6) hk rfl rfl rfl rfl (s_if hz) ?_
  refine g_s1 (pc2 := 8) (lo2 := [some (.ref x0), some (.int x1), some (.int x2), some (.int x3), some (.int x4), some (.int x5), some (.int ((x1 / (4 : Int32)) / (48 : Int32))), x7, x8, x9, x10]) hk rfl rfl rfl rfl rfl ?_
  refine g_s1 (pc2 := 9) hk rfl rfl rfl rfl rfl ?_
  refine g_s1 (pc2 := 10) (st2 := [.int (4 : Int32), .int x1]) hk rfl rfl rfl rfl rfl ?_
  obtain ⟨hz, H⟩ := H
  refine g_s1 (pc2 := 11) hk rfl rfl rfl rfl (s_if hz) ?_
  refine g_s1 (pc2 := 13) (st2 := [.int (48 : Int32), .int (x1 / (4 : Int32))]) hk rfl rfl rfl rfl rfl ?_
  obtain ⟨hz, H⟩ := H
  refine g_s1 (pc2 := 14) hk rfl rfl rfl rfl (s_if hz) ?_
  refine g_s1 (pc2 := 16) (lo2 := [some (.ref x0), some (.int x1), some (.int x2), some (.int x3), some (.int x4), some (.int x5), some (.int ((x1 / (4 : Int32)) / (48 : Int32))), some (.int ((x1 / (4 : Int32)) - (x1 / (4 : Int32)) / (48 : Int32) * (48 : Int32))), x8, x9, x10]) hk rfl rfl rfl rfl rfl ?_
  refine g_s1 (pc2 := 17) hk rfl rfl rfl rfl rfl ?_
  obtain ⟨v1, ev1, H⟩ := H
  refine g_step (pc2 := 20) hk rfl rfl rfl (s_get ev1) ?_
  refine g_s1 (pc2 := 22) (st2 := [.int (48 : Int32), .ref v1]) hk rfl rfl rfl rfl rfl ?_
  refine g_s1 (pc2 := 24) hk rfl rfl rfl rfl rfl ?_
  refine g_s1 (pc2 := 25) hk rfl rfl rfl rfl rfl ?_
  refine g_s1 (pc2 := 27) hk rfl rfl rfl rfl rfl ?_
  refine g_s1 (pc2 := 28) hk rfl rfl rfl rfl rfl ?_
  obtain ⟨n2, f3, ef3, hi, H⟩ := H
  refine g_step (pc2 := 29) hk rfl rfl rfl (s_bget (t := 2) (by decide) ef3 hi) ?_
  refine g_s1 (pc2 := 31) (lo2 := [some (.ref x0), some (.int x1), some (.int x2), some (.int x3), some (.int x4), some (.int x5), some (.int ((x1 / (4 : Int32)) / (48 : Int32))), some (.int ((x1 / (4 : Int32)) - (x1 / (4 : Int32)) / (48 : Int32) * (48 : Int32))), some (.int (f3 (((48 : Int32) * x4) + x5).toNatClampNeg)), x9, x10]) hk rfl rfl rfl rfl rfl ?_
  refine g_s1 (pc2 := 32) hk rfl rfl rfl rfl rfl ?_
  obtain ⟨v4, ev4, H⟩ := H
  refine g_step (pc2 := 35) hk rfl rfl rfl (s_get ev4) ?_
  refine g_s1 (pc2 := 37) (st2 := [.int (48 : Int32), .ref v4]) hk rfl rfl rfl rfl rfl ?_
  refine g_s1 (pc2 := 39) hk rfl rfl rfl rfl rfl ?_
  refine g_s1 (pc2 := 40) hk rfl rfl rfl rfl rfl ?_
  refine g_s1 (pc2 := 42) hk rfl rfl rfl rfl rfl ?_
  refine g_s1 (pc2 := 43) hk rfl rfl rfl rfl rfl ?_
  obtain ⟨n5, f6, ef6, hi, H⟩ := H
  refine g_step (pc2 := 44) hk rfl rfl rfl (s_bget (t := 2) (by decide) ef6 hi) ?_
  refine g_s1 (pc2 := 46) (lo2 := [some (.ref x0), some (.int x1), some (.int x2), some (.int x3), some (.int x4), some (.int x5), some (.int ((x1 / (4 : Int32)) / (48 : Int32))), some (.int ((x1 / (4 : Int32)) - (x1 / (4 : Int32)) / (48 : Int32) * (48 : Int32))), some (.int (f3 (((48 : Int32) * x4) + x5).toNatClampNeg)), some (.int (f6 (((48 : Int32) * x5) + x4).toNatClampNeg)), x10]) hk rfl rfl rfl rfl rfl ?_
  refine g_s1 (pc2 := 47) hk rfl rfl rfl rfl rfl ?_
  refine g_s1 (pc2 := 48) (st2 := [.int (4 : Int32), .int x1]) hk rfl rfl rfl rfl rfl ?_
  obtain ⟨hz, H⟩ := H
  refine g_s1 (pc2 := 49) hk rfl rfl rfl rfl (s_if hz) ?_
  refine g_s1 (pc2 := 51) (lo2 := [some (.ref x0), some (.int x1), some (.int x2), some (.int x3), some (.int x4), some (.int x5), some (.int ((x1 / (4 : Int32)) / (48 : Int32))), some (.int ((x1 / (4 : Int32)) - (x1 / (4 : Int32)) / (48 : Int32) * (48 : Int32))), some (.int (f3 (((48 : Int32) * x4) + x5).toNatClampNeg)), some (.int (f6 (((48 : Int32) * x5) + x4).toNatClampNeg)), some (.int (x1 - x1 / (4 : Int32) * (4 : Int32)))]) hk rfl rfl rfl rfl rfl ?_
  refine g_s1 (pc2 := 53) hk rfl rfl rfl rfl rfl ?_
  refine g_s1 (pc2 := 55) hk rfl rfl rfl rfl rfl ?_
  refine g_icmp_eq hk rfl (fun hc => ?_) (fun hc => ?_)
  · have H := H.1 hc
    exact H
  · have H := H.2 hc
    refine g_s1 (pc2 := 60) hk rfl rfl rfl rfl rfl ?_
    refine g_if_eq hk rfl (fun hc => ?_) (fun hc => ?_)
    · have H := H.1 hc
      exact H
    · have H := H.2 hc
      refine g_s1 (pc2 := 64) hk rfl rfl rfl rfl rfl ?_
      refine g_s1 (pc2 := 66) hk rfl rfl rfl rfl rfl ?_
      refine g_s1 (pc2 := 68) hk rfl rfl rfl rfl rfl ?_
      obtain ⟨ho, H⟩ := H
      refine g_call hk rfl rfl i_k268.1 ⟨rfl, rfl⟩ rfl (i_rcv_v ho rfl (by decide)) rfl ?_
      exact H.mono (fun v h2 q => by obtain ⟨r, rfl, q⟩ := q; exact q)
theorem b301_71 {x0 : Nat} {x1 : Int32} {x2 : Int32} {x3 : Int32} {x4 : Int32} {x5 : Int32} {x6 : Int32} {x7 : Int32} {x8 : Int32} {x9 : Int32} {x10 : Int32} {s0 : Int32} {h : iH} {Q : Option Value → iH → Prop} (H : (i_obj? h x0 12 ∧ i_C i_MT i_AT L xs 256 [.ref x0, .int x2, .int (2 : Int32)] h (fun v h1 => ∃ r2 : Int32, v = some (.int r2) ∧ i_P i_MT i_AT L xs 301 77 [some (.ref x0), some (.int x1), some (.int x2), some (.int x3), some (.int x4), some (.int x5), some (.int x6), some (.int x7), some (.int x8), some (.int x9), some (.int x10)] [.int r2, .int s0] h1 0 0 Q))) : i_P i_MT i_AT L xs 301 71 [some (.ref x0), some (.int x1), some (.int x2), some (.int x3), some (.int x4), some (.int x5), some (.int x6), some (.int x7), some (.int x8), some (.int x9), some (.int x10)] [.int s0] h 0 0 Q := by
  have hk := i_k301
  refine g_s1 (pc2 := 72) hk rfl rfl rfl rfl rfl ?_
  refine g_s1 (pc2 := 73) hk rfl rfl rfl rfl rfl ?_
  refine g_s1 (pc2 := 74) (st2 := [.int (2 : Int32), .int x2, .ref x0, .int s0]) hk rfl rfl rfl rfl rfl ?_
  obtain ⟨ho, H⟩ := H
  refine g_call hk rfl rfl i_k256.1 ⟨rfl, rfl⟩ rfl (i_rcv_v ho rfl (by decide)) rfl ?_
  exact H.mono (fun v h2 q => by obtain ⟨r, rfl, q⟩ := q; exact q)
theorem b301_77 {x0 : Nat} {x1 : Int32} {x2 : Int32} {x3 : Int32} {x4 : Int32} {x5 : Int32} {x6 : Int32} {x7 : Int32} {x8 : Int32} {x9 : Int32} {x10 : Int32} {s0 : Int32} {s1 : Int32} {h : iH} {Q : Option Value → iH → Prop} (H : ((s1 < s0 → i_P i_MT i_AT L xs 301 86 [some (.ref x0), some (.int x1), some (.int x2), some (.int x3), some (.int x4), some (.int x5), some (.int x6), some (.int x7), some (.int x8), some (.int x9), some (.int x10)] [] h 0 0 Q) ∧ (¬ (s1 < s0) → i_P i_MT i_AT L xs 301 86 [some (.ref x0), some (.int x1), some (.int x2), some (.int x3), some (.int x4), some (.int x5), some (.int x6), some (.int x7), some (.int x8), some (.int x9), some (.int (x10 ||| (1 : Int32)))] [] h 0 0 Q))) : i_P i_MT i_AT L xs 301 77 [some (.ref x0), some (.int x1), some (.int x2), some (.int x3), some (.int x4), some (.int x5), some (.int x6), some (.int x7), some (.int x8), some (.int x9), some (.int x10)] [.int s1, .int s0] h 0 0 Q := by
  have hk := i_k301
  refine g_icmp_gt hk rfl (fun hc => ?_) (fun hc => ?_)
  · have H := H.1 hc
    exact H
  · have H := H.2 hc
    refine g_s1 (pc2 := 82) hk rfl rfl rfl rfl rfl ?_
    refine g_s1 (pc2 := 83) (st2 := [.int (1 : Int32), .int x10]) hk rfl rfl rfl rfl rfl ?_
    refine g_s1 (pc2 := 84) hk rfl rfl rfl rfl rfl ?_
    refine g_s1 (pc2 := 86) (lo2 := [some (.ref x0), some (.int x1), some (.int x2), some (.int x3), some (.int x4), some (.int x5), some (.int x6), some (.int x7), some (.int x8), some (.int x9), some (.int (x10 ||| (1 : Int32)))]) hk rfl rfl rfl rfl rfl ?_
    exact H
theorem b301_86 {x0 : Nat} {x1 : Int32} {x2 : Int32} {x3 : Int32} {x4 : Int32} {x5 : Int32} {x6 : Int32} {x7 : Int32} {x8 : Int32} {x9 : Int32} {x10 : Int32} {h : iH} {Q : Option Value → iH → Prop} (H : ((x4 = x6 → i_P i_MT i_AT L xs 301 121 [some (.ref x0), some (.int x1), some (.int x2), some (.int x3), some (.int x4), some (.int x5), some (.int x6), some (.int x7), some (.int x8), some (.int x9), some (.int x10)] [] h 0 0 Q) ∧ (¬ (x4 = x6) → ((x9 = 0 → i_P i_MT i_AT L xs 301 121 [some (.ref x0), some (.int x1), some (.int x2), some (.int x3), some (.int x4), some (.int x5), some (.int x6), some (.int x7), some (.int x8), some (.int x9), some (.int x10)] [] h 0 0 Q) ∧ (¬ (x9 = 0) → (i_obj? h x0 12 ∧ i_C i_MT i_AT L xs 268 [.ref x0, .int x4, .int x5] h (fun v h1 => ∃ r2 : Int32, v = some (.int r2) ∧ i_P i_MT i_AT L xs 301 106 [some (.ref x0), some (.int x1), some (.int x2), some (.int x3), some (.int x4), some (.int x5), some (.int x6), some (.int x7), some (.int x8), some (.int x9), some (.int x10)] [.int r2] h1 0 0 Q))))))) : i_P i_MT i_AT L xs 301 86 [some (.ref x0), some (.int x1), some (.int x2), some (.int x3), some (.int x4), some (.int x5), some (.int x6), some (.int x7), some (.int x8), some (.int x9), some (.int x10)] [] h 0 0 Q := by
  have hk := i_k301
  refine g_s1 (pc2 := 88) hk rfl rfl rfl rfl rfl ?_
  refine g_s1 (pc2 := 90) hk rfl rfl rfl rfl rfl ?_
  refine g_icmp_eq hk rfl (fun hc => ?_) (fun hc => ?_)
  · have H := H.1 hc
    exact H
  · have H := H.2 hc
    refine g_s1 (pc2 := 95) hk rfl rfl rfl rfl rfl ?_
    refine g_if_eq hk rfl (fun hc => ?_) (fun hc => ?_)
    · have H := H.1 hc
      exact H
    · have H := H.2 hc
      refine g_s1 (pc2 := 99) hk rfl rfl rfl rfl rfl ?_
      refine g_s1 (pc2 := 101) hk rfl rfl rfl rfl rfl ?_
      refine g_s1 (pc2 := 103) hk rfl rfl rfl rfl rfl ?_
      obtain ⟨ho, H⟩ := H
      refine g_call hk rfl rfl i_k268.1 ⟨rfl, rfl⟩ rfl (i_rcv_v ho rfl (by decide)) rfl ?_
      exact H.mono (fun v h2 q => by obtain ⟨r, rfl, q⟩ := q; exact q)
theorem b301_106 {x0 : Nat} {x1 : Int32} {x2 : Int32} {x3 : Int32} {x4 : Int32} {x5 : Int32} {x6 : Int32} {x7 : Int32} {x8 : Int32} {x9 : Int32} {x10 : Int32} {s0 : Int32} {h : iH} {Q : Option Value → iH → Prop} (H : (i_obj? h x0 12 ∧ i_C i_MT i_AT L xs 256 [.ref x0, .int x3, .int (2 : Int32)] h (fun v h1 => ∃ r2 : Int32, v = some (.int r2) ∧ i_P i_MT i_AT L xs 301 112 [some (.ref x0), some (.int x1), some (.int x2), some (.int x3), some (.int x4), some (.int x5), some (.int x6), some (.int x7), some (.int x8), some (.int x9), some (.int x10)] [.int r2, .int s0] h1 0 0 Q))) : i_P i_MT i_AT L xs 301 106 [some (.ref x0), some (.int x1), some (.int x2), some (.int x3), some (.int x4), some (.int x5), some (.int x6), some (.int x7), some (.int x8), some (.int x9), some (.int x10)] [.int s0] h 0 0 Q := by
  have hk := i_k301
  refine g_s1 (pc2 := 107) hk rfl rfl rfl rfl rfl ?_
  refine g_s1 (pc2 := 108) hk rfl rfl rfl rfl rfl ?_
  refine g_s1 (pc2 := 109) (st2 := [.int (2 : Int32), .int x3, .ref x0, .int s0]) hk rfl rfl rfl rfl rfl ?_
  obtain ⟨ho, H⟩ := H
  refine g_call hk rfl rfl i_k256.1 ⟨rfl, rfl⟩ rfl (i_rcv_v ho rfl (by decide)) rfl ?_
  exact H.mono (fun v h2 q => by obtain ⟨r, rfl, q⟩ := q; exact q)
theorem b301_112 {x0 : Nat} {x1 : Int32} {x2 : Int32} {x3 : Int32} {x4 : Int32} {x5 : Int32} {x6 : Int32} {x7 : Int32} {x8 : Int32} {x9 : Int32} {x10 : Int32} {s0 : Int32} {s1 : Int32} {h : iH} {Q : Option Value → iH → Prop} (H : ((s1 < s0 → i_P i_MT i_AT L xs 301 121 [some (.ref x0), some (.int x1), some (.int x2), some (.int x3), some (.int x4), some (.int x5), some (.int x6), some (.int x7), some (.int x8), some (.int x9), some (.int x10)] [] h 0 0 Q) ∧ (¬ (s1 < s0) → i_P i_MT i_AT L xs 301 121 [some (.ref x0), some (.int x1), some (.int x2), some (.int x3), some (.int x4), some (.int x5), some (.int x6), some (.int x7), some (.int x8), some (.int x9), some (.int (x10 ||| (2 : Int32)))] [] h 0 0 Q))) : i_P i_MT i_AT L xs 301 112 [some (.ref x0), some (.int x1), some (.int x2), some (.int x3), some (.int x4), some (.int x5), some (.int x6), some (.int x7), some (.int x8), some (.int x9), some (.int x10)] [.int s1, .int s0] h 0 0 Q := by
  have hk := i_k301
  refine g_icmp_gt hk rfl (fun hc => ?_) (fun hc => ?_)
  · have H := H.1 hc
    exact H
  · have H := H.2 hc
    refine g_s1 (pc2 := 117) hk rfl rfl rfl rfl rfl ?_
    refine g_s1 (pc2 := 118) (st2 := [.int (2 : Int32), .int x10]) hk rfl rfl rfl rfl rfl ?_
    refine g_s1 (pc2 := 119) hk rfl rfl rfl rfl rfl ?_
    refine g_s1 (pc2 := 121) (lo2 := [some (.ref x0), some (.int x1), some (.int x2), some (.int x3), some (.int x4), some (.int x5), some (.int x6), some (.int x7), some (.int x8), some (.int x9), some (.int (x10 ||| (2 : Int32)))]) hk rfl rfl rfl rfl rfl ?_
    exact H
theorem b301_121 {x0 : Nat} {x1 : Int32} {x2 : Int32} {x3 : Int32} {x4 : Int32} {x5 : Int32} {x6 : Int32} {x7 : Int32} {x8 : Int32} {x9 : Int32} {x10 : Int32} {h : iH} {Q : Option Value → iH → Prop} (H : (∃ v1 : Nat, i_fld h x0 12 46 = some (.ref v1) ∧ (∃ (n2 : Nat) (f3 : Nat → Int32), i_arI h 2 v1 = some (n2, f3) ∧ ¬ ((((4 : Int32) * (((48 : Int32) * x4) + x5)) + x10) < 0 ∨ n2 ≤ (((4 : Int32) * (((48 : Int32) * x4) + x5)) + x10).toNatClampNeg) ∧ i_P i_MT i_AT L xs 301 140 [some (.ref x0), some (.int x1), some (.int x2), some (.int x3), some (.int x4), some (.int x5), some (.int x6), some (.int x7), some (.int x8), some (.int x9), some (.int x10)] [] (i_siI h v1 (((4 : Int32) * (((48 : Int32) * x4) + x5)) + x10).toNatClampNeg (vp_nar .boolean (1 : Int32))) 0 0 Q))) : i_P i_MT i_AT L xs 301 121 [some (.ref x0), some (.int x1), some (.int x2), some (.int x3), some (.int x4), some (.int x5), some (.int x6), some (.int x7), some (.int x8), some (.int x9), some (.int x10)] [] h 0 0 Q := by
  have hk := i_k301
  refine g_s1 (pc2 := 122) hk rfl rfl rfl rfl rfl ?_
  obtain ⟨v1, ev1, H⟩ := H
  refine g_step (pc2 := 125) hk rfl rfl rfl (s_get ev1) ?_
  refine g_s1 (pc2 := 126) (st2 := [.int (4 : Int32), .ref v1]) hk rfl rfl rfl rfl rfl ?_
  refine g_s1 (pc2 := 128) (st2 := [.int (48 : Int32), .int (4 : Int32), .ref v1]) hk rfl rfl rfl rfl rfl ?_
  refine g_s1 (pc2 := 130) hk rfl rfl rfl rfl rfl ?_
  refine g_s1 (pc2 := 131) hk rfl rfl rfl rfl rfl ?_
  refine g_s1 (pc2 := 133) hk rfl rfl rfl rfl rfl ?_
  refine g_s1 (pc2 := 134) hk rfl rfl rfl rfl rfl ?_
  refine g_s1 (pc2 := 135) hk rfl rfl rfl rfl rfl ?_
  refine g_s1 (pc2 := 137) hk rfl rfl rfl rfl rfl ?_
  refine g_s1 (pc2 := 138) hk rfl rfl rfl rfl rfl ?_
  refine g_s1 (pc2 := 139) (st2 := [.int (1 : Int32), .int (((4 : Int32) * (((48 : Int32) * x4) + x5)) + x10), .ref v1]) hk rfl rfl rfl rfl rfl ?_
  obtain ⟨n2, f3, ef3, hi, H⟩ := H
  refine g_step (pc2 := 140) hk rfl rfl rfl (s_zput ef3 hi) ?_
  exact H
theorem b301_140 {x0 : Nat} {x1 : Int32} {x2 : Int32} {x3 : Int32} {x4 : Int32} {x5 : Int32} {x6 : Int32} {x7 : Int32} {x8 : Int32} {x9 : Int32} {x10 : Int32} {h : iH} {Q : Option Value → iH → Prop} (H : Q none h) : i_P i_MT i_AT L xs 301 140 [some (.ref x0), some (.int x1), some (.int x2), some (.int x3), some (.int x4), some (.int x5), some (.int x6), some (.int x7), some (.int x8), some (.int x9), some (.int x10)] [] h 0 0 Q := by
  have hk := i_k301
  exact g_return hk rfl (by decide) (by decide) rfl H
/-! StillTownModel.mayStep(II)Z -/
theorem e302 {x0 : Nat} {x1 : Int32} {x2 : Int32} {h : iH} {Q : Option Value → iH → Prop} (H : i_P i_MT i_AT L xs 302 0 [some (.ref x0), some (.int x1), some (.int x2)] [] h 0 0 Q) : i_C i_MT i_AT L xs 302 [.ref x0, .int x1, .int x2] h Q := ⟨i_m302, i_k302.1, Nat.le_of_ble_eq_true rfl, H⟩
theorem b302_0 {x0 : Nat} {x1 : Int32} {x2 : Int32} {h : iH} {Q : Option Value → iH → Prop} (H : ((x1 = x2 → i_P i_MT i_AT L xs 302 22 [some (.ref x0), some (.int x1), some (.int x2)] [] h 0 0 Q) ∧ (¬ (x1 = x2) → (i_obj? h x0 12 ∧ i_C i_MT i_AT L xs 285 [.ref x0, .int x1, .int x2] h (fun v h1 => ∃ r2 : Int32, v = some (.int r2) ∧ i_P i_MT i_AT L xs 302 11 [some (.ref x0), some (.int x1), some (.int x2)] [.int r2] h1 0 0 Q))))) : i_P i_MT i_AT L xs 302 0 [some (.ref x0), some (.int x1), some (.int x2)] [] h 0 0 Q := by
  have hk := i_k302
  refine g_s1 (pc2 := 1) hk rfl rfl rfl rfl rfl ?_
  refine g_s1 (pc2 := 2) hk rfl rfl rfl rfl rfl ?_
  refine g_icmp_eq hk rfl (fun hc => ?_) (fun hc => ?_)
  · have H := H.1 hc
    exact H
  · have H := H.2 hc
    refine g_s1 (pc2 := 6) hk rfl rfl rfl rfl rfl ?_
    refine g_s1 (pc2 := 7) hk rfl rfl rfl rfl rfl ?_
    refine g_s1 (pc2 := 8) hk rfl rfl rfl rfl rfl ?_
    obtain ⟨ho, H⟩ := H
    refine g_call hk rfl rfl i_k285.1 ⟨rfl, rfl⟩ rfl (i_rcv_v ho rfl (by decide)) rfl ?_
    exact H.mono (fun v h2 q => by obtain ⟨r, rfl, q⟩ := q; exact q)
theorem b302_11 {x0 : Nat} {x1 : Int32} {x2 : Int32} {s0 : Int32} {h : iH} {Q : Option Value → iH → Prop} (H : ((s0 = 0 → i_P i_MT i_AT L xs 302 26 [some (.ref x0), some (.int x1), some (.int x2)] [] h 0 0 Q) ∧ (¬ (s0 = 0) → (i_obj? h x0 12 ∧ i_C i_MT i_AT L xs 250 [.ref x0, .int x2] h (fun v h1 => ∃ r2 : Int32, v = some (.int r2) ∧ i_P i_MT i_AT L xs 302 19 [some (.ref x0), some (.int x1), some (.int x2)] [.int r2] h1 0 0 Q))))) : i_P i_MT i_AT L xs 302 11 [some (.ref x0), some (.int x1), some (.int x2)] [.int s0] h 0 0 Q := by
  have hk := i_k302
  refine g_if_eq hk rfl (fun hc => ?_) (fun hc => ?_)
  · have H := H.1 hc
    exact H
  · have H := H.2 hc
    refine g_s1 (pc2 := 15) hk rfl rfl rfl rfl rfl ?_
    refine g_s1 (pc2 := 16) hk rfl rfl rfl rfl rfl ?_
    obtain ⟨ho, H⟩ := H
    refine g_call hk rfl rfl i_k250.1 ⟨rfl, rfl⟩ rfl (i_rcv_v ho rfl (by decide)) rfl ?_
    exact H.mono (fun v h2 q => by obtain ⟨r, rfl, q⟩ := q; exact q)
theorem b302_19 {x0 : Nat} {x1 : Int32} {x2 : Int32} {s0 : Int32} {h : iH} {Q : Option Value → iH → Prop} (H : ((s0 = 0 → i_P i_MT i_AT L xs 302 26 [some (.ref x0), some (.int x1), some (.int x2)] [] h 0 0 Q) ∧ (¬ (s0 = 0) → i_P i_MT i_AT L xs 302 22 [some (.ref x0), some (.int x1), some (.int x2)] [] h 0 0 Q))) : i_P i_MT i_AT L xs 302 19 [some (.ref x0), some (.int x1), some (.int x2)] [.int s0] h 0 0 Q := by
  have hk := i_k302
  refine g_if_eq hk rfl (fun hc => ?_) (fun hc => ?_)
  · have H := H.1 hc
    exact H
  · have H := H.2 hc
    exact H
theorem b302_22 {x0 : Nat} {x1 : Int32} {x2 : Int32} {h : iH} {Q : Option Value → iH → Prop} (H : i_P i_MT i_AT L xs 302 27 [some (.ref x0), some (.int x1), some (.int x2)] [.int (1 : Int32)] h 0 0 Q) : i_P i_MT i_AT L xs 302 22 [some (.ref x0), some (.int x1), some (.int x2)] [] h 0 0 Q := by
  have hk := i_k302
  refine g_s1 (pc2 := 23) (st2 := [.int (1 : Int32)]) hk rfl rfl rfl rfl rfl ?_
  refine g_s1 (pc2 := 27) hk rfl rfl rfl rfl rfl ?_
  exact H
theorem b302_26 {x0 : Nat} {x1 : Int32} {x2 : Int32} {h : iH} {Q : Option Value → iH → Prop} (H : i_P i_MT i_AT L xs 302 27 [some (.ref x0), some (.int x1), some (.int x2)] [.int (0 : Int32)] h 0 0 Q) : i_P i_MT i_AT L xs 302 26 [some (.ref x0), some (.int x1), some (.int x2)] [] h 0 0 Q := by
  have hk := i_k302
  refine g_s1 (pc2 := 27) (st2 := [.int (0 : Int32)]) hk rfl rfl rfl rfl rfl ?_
  exact H
theorem b302_27 {x0 : Nat} {x1 : Int32} {x2 : Int32} {s0 : Int32} {h : iH} {Q : Option Value → iH → Prop} (H : (i_ret (some .boolean) s0 = true ∧ Q (some (.int s0)) h)) : i_P i_MT i_AT L xs 302 27 [some (.ref x0), some (.int x1), some (.int x2)] [.int s0] h 0 0 Q := by
  have hk := i_k302
  exact g_ireturn hk rfl (by decide) (by decide) H.1 H.2
/-! StillTownModel.meeting(II)I -/
theorem e303 {x0 : Nat} {x1 : Int32} {x2 : Int32} {h : iH} {Q : Option Value → iH → Prop} (H : i_P i_MT i_AT L xs 303 0 [some (.ref x0), some (.int x1), some (.int x2), none, none, none] [] h 0 0 Q) : i_C i_MT i_AT L xs 303 [.ref x0, .int x1, .int x2] h Q := ⟨i_m303, i_k303.1, Nat.le_of_ble_eq_true rfl, H⟩
theorem b303_0 {x0 : Nat} {x1 : Int32} {x2 : Int32} {x3 : Option Value} {x4 : Option Value} {x5 : Option Value} {h : iH} {Q : Option Value → iH → Prop} (H : (i_obj? h x0 12 ∧ i_C i_MT i_AT L xs 277 [.ref x0, .int x1, .int x2] h (fun v h1 => ∃ r2 : Int32, v = some (.int r2) ∧ i_P i_MT i_AT L xs 303 6 [some (.ref x0), some (.int x1), some (.int x2), x3, x4, x5] [.int r2] h1 0 0 Q))) : i_P i_MT i_AT L xs 303 0 [some (.ref x0), some (.int x1), some (.int x2), x3, x4, x5] [] h 0 0 Q := by
  have hk := i_k303
  refine g_s1 (pc2 := 1) hk rfl rfl rfl rfl rfl ?_
  refine g_s1 (pc2 := 2) hk rfl rfl rfl rfl rfl ?_
  refine g_s1 (pc2 := 3) hk rfl rfl rfl rfl rfl ?_
  obtain ⟨ho, H⟩ := H
  refine g_call hk rfl rfl i_k277.1 ⟨rfl, rfl⟩ rfl (i_rcv_v ho rfl (by decide)) rfl ?_
  exact H.mono (fun v h2 q => by obtain ⟨r, rfl, q⟩ := q; exact q)
theorem b303_6 {x0 : Nat} {x1 : Int32} {x2 : Int32} {x3 : Option Value} {x4 : Option Value} {x5 : Option Value} {s0 : Int32} {h : iH} {Q : Option Value → iH → Prop} (H : ((¬ s0 = 0 → i_P i_MT i_AT L xs 303 17 [some (.ref x0), some (.int x1), some (.int x2), some (.int (0 : Int32)), x4, x5] [] h 0 0 Q) ∧ (¬ (¬ s0 = 0) → (i_obj? h x0 12 ∧ i_C i_MT i_AT L xs 201 [.ref x0, .int (1 : Int32)] h (fun v h1 => ∃ r2 : Int32, v = some (.int r2) ∧ i_P i_MT i_AT L xs 303 14 [some (.ref x0), some (.int x1), some (.int x2), x3, x4, x5] [.int r2] h1 0 0 Q))))) : i_P i_MT i_AT L xs 303 6 [some (.ref x0), some (.int x1), some (.int x2), x3, x4, x5] [.int s0] h 0 0 Q := by
  have hk := i_k303
  refine g_if_ne hk rfl (fun hc => ?_) (fun hc => ?_)
  · have H := H.1 hc
    refine g_s1 (pc2 := 16) (st2 := [.int (0 : Int32)]) hk rfl rfl rfl rfl rfl ?_
    refine g_s1 (pc2 := 17) (lo2 := [some (.ref x0), some (.int x1), some (.int x2), some (.int (0 : Int32)), x4, x5]) hk rfl rfl rfl rfl rfl ?_
    exact H
  · have H := H.2 hc
    refine g_s1 (pc2 := 10) hk rfl rfl rfl rfl rfl ?_
    refine g_s1 (pc2 := 11) (st2 := [.int (1 : Int32), .ref x0]) hk rfl rfl rfl rfl rfl ?_
    obtain ⟨ho, H⟩ := H
    refine g_call hk rfl rfl i_k201.1 ⟨rfl, rfl⟩ rfl (i_rcv_v ho rfl (by decide)) rfl ?_
    exact H.mono (fun v h2 q => by obtain ⟨r, rfl, q⟩ := q; exact q)
theorem b303_14 {x0 : Nat} {x1 : Int32} {x2 : Int32} {x3 : Option Value} {x4 : Option Value} {x5 : Option Value} {s0 : Int32} {h : iH} {Q : Option Value → iH → Prop} (H : Q (some (.int s0)) h) : i_P i_MT i_AT L xs 303 14 [some (.ref x0), some (.int x1), some (.int x2), x3, x4, x5] [.int s0] h 0 0 Q := by
  have hk := i_k303
  exact g_ireturn hk rfl (by decide) (by decide) rfl H
theorem b303_17 {x0 : Nat} {x1 : Int32} {x2 : Int32} {x3 : Int32} {x4 : Option Value} {x5 : Option Value} {h : iH} {Q : Option Value → iH → Prop} (H : (((9216 : Int32) ≤ x3 → (∃ v1 : Nat, i_fld h x0 12 45 = some (.ref v1) ∧ (∃ v2 : Nat, i_fld h x0 12 0 = some (.ref v2) ∧ (∃ (n3 : Nat) (f4 : Nat → Int32), i_arI h 0 v2 = some (n3, f4) ∧ ¬ (((154 : Int32) + ((5 : Int32) * x1)) < 0 ∨ n3 ≤ ((154 : Int32) + ((5 : Int32) * x1)).toNatClampNeg) ∧ (∃ v5 : Nat, i_fld h x0 12 0 = some (.ref v5) ∧ (∃ (n6 : Nat) (f7 : Nat → Int32), i_arI h 0 v5 = some (n6, f7) ∧ ¬ (((154 : Int32) + ((5 : Int32) * x2)) < 0 ∨ n6 ≤ ((154 : Int32) + ((5 : Int32) * x2)).toNatClampNeg) ∧ (∃ (n8 : Nat) (f9 : Nat → Int32), i_arI h 2 v1 = some (n8, f9) ∧ ¬ (((4 : Int32) * (((48 : Int32) * (f4 ((154 : Int32) + ((5 : Int32) * x1)).toNatClampNeg)) + (f7 ((154 : Int32) + ((5 : Int32) * x2)).toNatClampNeg))) < 0 ∨ n8 ≤ ((4 : Int32) * (((48 : Int32) * (f4 ((154 : Int32) + ((5 : Int32) * x1)).toNatClampNeg)) + (f7 ((154 : Int32) + ((5 : Int32) * x2)).toNatClampNeg))).toNatClampNeg) ∧ i_P i_MT i_AT L xs 303 73 [some (.ref x0), some (.int x1), some (.int x2), some (.int x3), x4, x5] [] (i_siI h v1 ((4 : Int32) * (((48 : Int32) * (f4 ((154 : Int32) + ((5 : Int32) * x1)).toNatClampNeg)) + (f7 ((154 : Int32) + ((5 : Int32) * x2)).toNatClampNeg))).toNatClampNeg (vp_nar .boolean (1 : Int32))) 0 0 Q))))))) ∧ (¬ ((9216 : Int32) ≤ x3) → (∃ v10 : Nat, i_fld h x0 12 45 = some (.ref v10) ∧ (∃ (n11 : Nat) (f12 : Nat → Int32), i_arI h 2 v10 = some (n11, f12) ∧ ¬ (x3 < 0 ∨ n11 ≤ x3.toNatClampNeg) ∧ i_P i_MT i_AT L xs 303 31 [some (.ref x0), some (.int x1), some (.int x2), some (.int x3), x4, x5] [] (i_siI h v10 x3.toNatClampNeg (vp_nar .boolean (0 : Int32))) 0 0 Q))))) : i_P i_MT i_AT L xs 303 17 [some (.ref x0), some (.int x1), some (.int x2), some (.int x3), x4, x5] [] h 0 0 Q := by
  have hk := i_k303
  refine g_s1 (pc2 := 18) hk rfl rfl rfl rfl rfl ?_
  refine g_s1 (pc2 := 21) (st2 := [.int (9216 : Int32), .int x3]) hk rfl rfl rfl rfl rfl ?_
  refine g_icmp_ge hk rfl (fun hc => ?_) (fun hc => ?_)
  · have H := H.1 hc
    refine g_s1 (pc2 := 38) hk rfl rfl rfl rfl rfl ?_
    obtain ⟨v1, ev1, H⟩ := H
    refine g_step (pc2 := 41) hk rfl rfl rfl (s_get ev1) ?_
    refine g_s1 (pc2 := 42) (st2 := [.int (4 : Int32), .ref v1]) hk rfl rfl rfl rfl rfl ?_
    refine g_s1 (pc2 := 44) (st2 := [.int (48 : Int32), .int (4 : Int32), .ref v1]) hk rfl rfl rfl rfl rfl ?_
    refine g_s1 (pc2 := 45) hk rfl rfl rfl rfl rfl ?_
    obtain ⟨v2, ev2, H⟩ := H
    refine g_step (pc2 := 48) hk rfl rfl rfl (s_get ev2) ?_
    refine g_s1 (pc2 := 51) (st2 := [.int (154 : Int32), .ref v2, .int (48 : Int32), .int (4 : Int32), .ref v1]) hk rfl rfl rfl rfl rfl ?_
    refine g_s1 (pc2 := 52) (st2 := [.int (5 : Int32), .int (154 : Int32), .ref v2, .int (48 : Int32), .int (4 : Int32), .ref v1]) hk rfl rfl rfl rfl rfl ?_
    refine g_s1 (pc2 := 53) hk rfl rfl rfl rfl rfl ?_
    refine g_s1 (pc2 := 54) hk rfl rfl rfl rfl rfl ?_
    refine g_s1 (pc2 := 55) hk rfl rfl rfl rfl rfl ?_
    obtain ⟨n3, f4, ef4, hi, H⟩ := H
    refine g_step (pc2 := 56) hk rfl rfl rfl (s_aget (L := L) (xs := xs) ef4 hi) ?_
    refine g_s1 (pc2 := 57) hk rfl rfl rfl rfl rfl ?_
    refine g_s1 (pc2 := 58) hk rfl rfl rfl rfl rfl ?_
    obtain ⟨v5, ev5, H⟩ := H
    refine g_step (pc2 := 61) hk rfl rfl rfl (s_get ev5) ?_
    refine g_s1 (pc2 := 64) (st2 := [.int (154 : Int32), .ref v5, .int ((48 : Int32) * (f4 ((154 : Int32) + ((5 : Int32) * x1)).toNatClampNeg)), .int (4 : Int32), .ref v1]) hk rfl rfl rfl rfl rfl ?_
    refine g_s1 (pc2 := 65) (st2 := [.int (5 : Int32), .int (154 : Int32), .ref v5, .int ((48 : Int32) * (f4 ((154 : Int32) + ((5 : Int32) * x1)).toNatClampNeg)), .int (4 : Int32), .ref v1]) hk rfl rfl rfl rfl rfl ?_
    refine g_s1 (pc2 := 66) hk rfl rfl rfl rfl rfl ?_
    refine g_s1 (pc2 := 67) hk rfl rfl rfl rfl rfl ?_
    refine g_s1 (pc2 := 68) hk rfl rfl rfl rfl rfl ?_
    obtain ⟨n6, f7, ef7, hi, H⟩ := H
    refine g_step (pc2 := 69) hk rfl rfl rfl (s_aget (L := L) (xs := xs) ef7 hi) ?_
    refine g_s1 (pc2 := 70) hk rfl rfl rfl rfl rfl ?_
    refine g_s1 (pc2 := 71) hk rfl rfl rfl rfl rfl ?_
    refine g_s1 (pc2 := 72) (st2 := [.int (1 : Int32), .int ((4 : Int32) * (((48 : Int32) * (f4 ((154 : Int32) + ((5 : Int32) * x1)).toNatClampNeg)) + (f7 ((154 : Int32) + ((5 : Int32) * x2)).toNatClampNeg))), .ref v1]) hk rfl rfl rfl rfl rfl ?_
    obtain ⟨n8, f9, ef9, hi, H⟩ := H
    refine g_step (pc2 := 73) hk rfl rfl rfl (s_zput ef9 hi) ?_
    exact H
  · have H := H.2 hc
    refine g_s1 (pc2 := 25) hk rfl rfl rfl rfl rfl ?_
    obtain ⟨v10, ev10, H⟩ := H
    refine g_step (pc2 := 28) hk rfl rfl rfl (s_get ev10) ?_
    refine g_s1 (pc2 := 29) hk rfl rfl rfl rfl rfl ?_
    refine g_s1 (pc2 := 30) (st2 := [.int (0 : Int32), .int x3, .ref v10]) hk rfl rfl rfl rfl rfl ?_
    obtain ⟨n11, f12, ef12, hi, H⟩ := H
    refine g_step (pc2 := 31) hk rfl rfl rfl (s_zput ef12 hi) ?_
    exact H
theorem b303_31 {x0 : Nat} {x1 : Int32} {x2 : Int32} {x3 : Int32} {x4 : Option Value} {x5 : Option Value} {h : iH} {Q : Option Value → iH → Prop} (H : i_P i_MT i_AT L xs 303 17 [some (.ref x0), some (.int x1), some (.int x2), some (.int (x3 + 1)), x4, x5] [] h 0 0 Q) : i_P i_MT i_AT L xs 303 31 [some (.ref x0), some (.int x1), some (.int x2), some (.int x3), x4, x5] [] h 0 0 Q := by
  have hk := i_k303
  refine g_s1 (pc2 := 34) (lo2 := [some (.ref x0), some (.int x1), some (.int x2), some (.int (x3 + 1)), x4, x5]) hk rfl rfl rfl rfl rfl ?_
  refine g_s1 (pc2 := 17) hk rfl rfl rfl rfl rfl ?_
  exact H
theorem b303_73 {x0 : Nat} {x1 : Int32} {x2 : Int32} {x3 : Int32} {x4 : Option Value} {x5 : Option Value} {h : iH} {Q : Option Value → iH → Prop} (H : i_P i_MT i_AT L xs 303 75 [some (.ref x0), some (.int x1), some (.int x2), some (.int (1 : Int32)), x4, x5] [] h 0 0 Q) : i_P i_MT i_AT L xs 303 73 [some (.ref x0), some (.int x1), some (.int x2), some (.int x3), x4, x5] [] h 0 0 Q := by
  have hk := i_k303
  refine g_s1 (pc2 := 74) (st2 := [.int (1 : Int32)]) hk rfl rfl rfl rfl rfl ?_
  refine g_s1 (pc2 := 75) (lo2 := [some (.ref x0), some (.int x1), some (.int x2), some (.int (1 : Int32)), x4, x5]) hk rfl rfl rfl rfl rfl ?_
  exact H
theorem b303_75 {x0 : Nat} {x1 : Int32} {x2 : Int32} {x3 : Int32} {x4 : Option Value} {x5 : Option Value} {h : iH} {Q : Option Value → iH → Prop} (H : (((30 : Int32) < x3 → (i_obj? h x0 12 ∧ i_C i_MT i_AT L xs 201 [.ref x0, .int (6 : Int32)] h (fun v h1 => ∃ r2 : Int32, v = some (.int r2) ∧ i_P i_MT i_AT L xs 303 233 [some (.ref x0), some (.int x1), some (.int x2), some (.int x3), x4, x5] [.int r2] h1 0 0 Q))) ∧ (¬ ((30 : Int32) < x3) → (i_obj? h x0 12 ∧ i_C i_MT i_AT L xs 300 [.ref x0, .int x3] h (fun v h3 => v = none ∧ i_P i_MT i_AT L xs 303 86 [some (.ref x0), some (.int x1), some (.int x2), some (.int x3), x4, x5] [] h3 0 0 Q))))) : i_P i_MT i_AT L xs 303 75 [some (.ref x0), some (.int x1), some (.int x2), some (.int x3), x4, x5] [] h 0 0 Q := by
  have hk := i_k303
  refine g_s1 (pc2 := 76) hk rfl rfl rfl rfl rfl ?_
  refine g_s1 (pc2 := 78) (st2 := [.int (30 : Int32), .int x3]) hk rfl rfl rfl rfl rfl ?_
  refine g_icmp_gt hk rfl (fun hc => ?_) (fun hc => ?_)
  · have H := H.1 hc
    refine g_s1 (pc2 := 228) hk rfl rfl rfl rfl rfl ?_
    refine g_s1 (pc2 := 230) (st2 := [.int (6 : Int32), .ref x0]) hk rfl rfl rfl rfl rfl ?_
    obtain ⟨ho, H⟩ := H
    refine g_call hk rfl rfl i_k201.1 ⟨rfl, rfl⟩ rfl (i_rcv_v ho rfl (by decide)) rfl ?_
    exact H.mono (fun v h2 q => by obtain ⟨r, rfl, q⟩ := q; exact q)
  · have H := H.2 hc
    refine g_s1 (pc2 := 82) hk rfl rfl rfl rfl rfl ?_
    refine g_s1 (pc2 := 83) hk rfl rfl rfl rfl rfl ?_
    obtain ⟨ho, H⟩ := H
    refine g_call hk rfl rfl i_k300.1 ⟨rfl, rfl⟩ rfl (i_rcv_v ho rfl (by decide)) rfl ?_
    exact H.mono (fun v h2 q => by obtain ⟨rfl, q⟩ := q; exact q)
theorem b303_86 {x0 : Nat} {x1 : Int32} {x2 : Int32} {x3 : Int32} {x4 : Option Value} {x5 : Option Value} {h : iH} {Q : Option Value → iH → Prop} (H : i_P i_MT i_AT L xs 303 89 [some (.ref x0), some (.int x1), some (.int x2), some (.int x3), some (.int (0 : Int32)), x5] [] h 0 0 Q) : i_P i_MT i_AT L xs 303 86 [some (.ref x0), some (.int x1), some (.int x2), some (.int x3), x4, x5] [] h 0 0 Q := by
  have hk := i_k303
  refine g_s1 (pc2 := 87) (st2 := [.int (0 : Int32)]) hk rfl rfl rfl rfl rfl ?_
  refine g_s1 (pc2 := 89) (lo2 := [some (.ref x0), some (.int x1), some (.int x2), some (.int x3), some (.int (0 : Int32)), x5]) hk rfl rfl rfl rfl rfl ?_
  exact H
theorem b303_89 {x0 : Nat} {x1 : Int32} {x2 : Int32} {x3 : Int32} {x4 : Int32} {x5 : Option Value} {h : iH} {Q : Option Value → iH → Prop} (H : (((9216 : Int32) ≤ x4 → i_P i_MT i_AT L xs 303 114 [some (.ref x0), some (.int x1), some (.int x2), some (.int x3), some (.int (0 : Int32)), x5] [] h 0 0 Q) ∧ (¬ ((9216 : Int32) ≤ x4) → (∃ v1 : Nat, i_fld h x0 12 46 = some (.ref v1) ∧ (∃ (n2 : Nat) (f3 : Nat → Int32), i_arI h 2 v1 = some (n2, f3) ∧ ¬ (x4 < 0 ∨ n2 ≤ x4.toNatClampNeg) ∧ i_P i_MT i_AT L xs 303 105 [some (.ref x0), some (.int x1), some (.int x2), some (.int x3), some (.int x4), x5] [] (i_siI h v1 x4.toNatClampNeg (vp_nar .boolean (0 : Int32))) 0 0 Q))))) : i_P i_MT i_AT L xs 303 89 [some (.ref x0), some (.int x1), some (.int x2), some (.int x3), some (.int x4), x5] [] h 0 0 Q := by
  have hk := i_k303
  refine g_s1 (pc2 := 91) hk rfl rfl rfl rfl rfl ?_
  refine g_s1 (pc2 := 94) (st2 := [.int (9216 : Int32), .int x4]) hk rfl rfl rfl rfl rfl ?_
  refine g_icmp_ge hk rfl (fun hc => ?_) (fun hc => ?_)
  · have H := H.1 hc
    refine g_s1 (pc2 := 112) (st2 := [.int (0 : Int32)]) hk rfl rfl rfl rfl rfl ?_
    refine g_s1 (pc2 := 114) (lo2 := [some (.ref x0), some (.int x1), some (.int x2), some (.int x3), some (.int (0 : Int32)), x5]) hk rfl rfl rfl rfl rfl ?_
    exact H
  · have H := H.2 hc
    refine g_s1 (pc2 := 98) hk rfl rfl rfl rfl rfl ?_
    obtain ⟨v1, ev1, H⟩ := H
    refine g_step (pc2 := 101) hk rfl rfl rfl (s_get ev1) ?_
    refine g_s1 (pc2 := 103) hk rfl rfl rfl rfl rfl ?_
    refine g_s1 (pc2 := 104) (st2 := [.int (0 : Int32), .int x4, .ref v1]) hk rfl rfl rfl rfl rfl ?_
    obtain ⟨n2, f3, ef3, hi, H⟩ := H
    refine g_step (pc2 := 105) hk rfl rfl rfl (s_zput ef3 hi) ?_
    exact H
theorem b303_105 {x0 : Nat} {x1 : Int32} {x2 : Int32} {x3 : Int32} {x4 : Int32} {x5 : Option Value} {h : iH} {Q : Option Value → iH → Prop} (H : i_P i_MT i_AT L xs 303 89 [some (.ref x0), some (.int x1), some (.int x2), some (.int x3), some (.int (x4 + 1)), x5] [] h 0 0 Q) : i_P i_MT i_AT L xs 303 105 [some (.ref x0), some (.int x1), some (.int x2), some (.int x3), some (.int x4), x5] [] h 0 0 Q := by
  have hk := i_k303
  refine g_s1 (pc2 := 108) (lo2 := [some (.ref x0), some (.int x1), some (.int x2), some (.int x3), some (.int (x4 + 1)), x5]) hk rfl rfl rfl rfl rfl ?_
  refine g_s1 (pc2 := 89) hk rfl rfl rfl rfl rfl ?_
  exact H
theorem b303_114 {x0 : Nat} {x1 : Int32} {x2 : Int32} {x3 : Int32} {x4 : Int32} {x5 : Option Value} {h : iH} {Q : Option Value → iH → Prop} (H : (((9216 : Int32) ≤ x4 → i_P i_MT i_AT L xs 303 152 [some (.ref x0), some (.int x1), some (.int x2), some (.int x3), some (.int (0 : Int32)), some (.int (0 : Int32))] [] h 0 0 Q) ∧ (¬ ((9216 : Int32) ≤ x4) → (∃ v1 : Nat, i_fld h x0 12 45 = some (.ref v1) ∧ (∃ (n2 : Nat) (f3 : Nat → Int32), i_arI h 2 v1 = some (n2, f3) ∧ ¬ (x4 < 0 ∨ n2 ≤ x4.toNatClampNeg) ∧ (((f3 x4.toNatClampNeg) = 0 → i_P i_MT i_AT L xs 303 140 [some (.ref x0), some (.int x1), some (.int x2), some (.int x3), some (.int x4), x5] [] h 0 0 Q) ∧ (¬ ((f3 x4.toNatClampNeg) = 0) → (i_obj? h x0 12 ∧ i_C i_MT i_AT L xs 304 [.ref x0, .int x4, .int x1, .int x2] h (fun v h4 => v = none ∧ i_P i_MT i_AT L xs 303 140 [some (.ref x0), some (.int x1), some (.int x2), some (.int x3), some (.int x4), x5] [] h4 0 0 Q))))))))) : i_P i_MT i_AT L xs 303 114 [some (.ref x0), some (.int x1), some (.int x2), some (.int x3), some (.int x4), x5] [] h 0 0 Q := by
  have hk := i_k303
  refine g_s1 (pc2 := 116) hk rfl rfl rfl rfl rfl ?_
  refine g_s1 (pc2 := 119) (st2 := [.int (9216 : Int32), .int x4]) hk rfl rfl rfl rfl rfl ?_
  refine g_icmp_ge hk rfl (fun hc => ?_) (fun hc => ?_)
  · have H := H.1 hc
    refine g_s1 (pc2 := 147) (st2 := [.int (0 : Int32)]) hk rfl rfl rfl rfl rfl ?_
    refine g_s1 (pc2 := 149) (lo2 := [some (.ref x0), some (.int x1), some (.int x2), some (.int x3), some (.int (0 : Int32)), x5]) hk rfl rfl rfl rfl rfl ?_
    refine g_s1 (pc2 := 150) (st2 := [.int (0 : Int32)]) hk rfl rfl rfl rfl rfl ?_
    refine g_s1 (pc2 := 152) (lo2 := [some (.ref x0), some (.int x1), some (.int x2), some (.int x3), some (.int (0 : Int32)), some (.int (0 : Int32))]) hk rfl rfl rfl rfl rfl ?_
    exact H
  · have H := H.2 hc
    refine g_s1 (pc2 := 123) hk rfl rfl rfl rfl rfl ?_
    obtain ⟨v1, ev1, H⟩ := H
    refine g_step (pc2 := 126) hk rfl rfl rfl (s_get ev1) ?_
    refine g_s1 (pc2 := 128) hk rfl rfl rfl rfl rfl ?_
    obtain ⟨n2, f3, ef3, hi, H⟩ := H
    refine g_step (pc2 := 129) hk rfl rfl rfl (s_bget (t := 2) (by decide) ef3 hi) ?_
    refine g_if_eq hk rfl (fun hc => ?_) (fun hc => ?_)
    · have H := H.1 hc
      exact H
    · have H := H.2 hc
      refine g_s1 (pc2 := 133) hk rfl rfl rfl rfl rfl ?_
      refine g_s1 (pc2 := 135) hk rfl rfl rfl rfl rfl ?_
      refine g_s1 (pc2 := 136) hk rfl rfl rfl rfl rfl ?_
      refine g_s1 (pc2 := 137) hk rfl rfl rfl rfl rfl ?_
      obtain ⟨ho, H⟩ := H
      refine g_call hk rfl rfl i_k304.1 ⟨rfl, rfl⟩ rfl (i_rcv_v ho rfl (by decide)) rfl ?_
      exact H.mono (fun v h2 q => by obtain ⟨rfl, q⟩ := q; exact q)
theorem b303_140 {x0 : Nat} {x1 : Int32} {x2 : Int32} {x3 : Int32} {x4 : Int32} {x5 : Option Value} {h : iH} {Q : Option Value → iH → Prop} (H : i_P i_MT i_AT L xs 303 114 [some (.ref x0), some (.int x1), some (.int x2), some (.int x3), some (.int (x4 + 1)), x5] [] h 0 0 Q) : i_P i_MT i_AT L xs 303 140 [some (.ref x0), some (.int x1), some (.int x2), some (.int x3), some (.int x4), x5] [] h 0 0 Q := by
  have hk := i_k303
  refine g_s1 (pc2 := 143) (lo2 := [some (.ref x0), some (.int x1), some (.int x2), some (.int x3), some (.int (x4 + 1)), x5]) hk rfl rfl rfl rfl rfl ?_
  refine g_s1 (pc2 := 114) hk rfl rfl rfl rfl rfl ?_
  exact H
theorem b303_152 {x0 : Nat} {x1 : Int32} {x2 : Int32} {x3 : Int32} {x4 : Int32} {x5 : Int32} {h : iH} {Q : Option Value → iH → Prop} (H : (((9216 : Int32) ≤ x5 → ((x4 = 0 → i_P i_MT i_AT L xs 303 75 [some (.ref x0), some (.int x1), some (.int x2), some (.int (x3 + 1)), some (.int x4), some (.int x5)] [] h 0 0 Q) ∧ (¬ (x4 = 0) → (i_obj? h x0 12 ∧ i_C i_MT i_AT L xs 202 [.ref x0, .int x3] h (fun v h1 => ∃ r2 : Int32, v = some (.int r2) ∧ i_P i_MT i_AT L xs 303 220 [some (.ref x0), some (.int x1), some (.int x2), some (.int x3), some (.int x4), some (.int x5)] [.int r2] h1 0 0 Q))))) ∧ (¬ ((9216 : Int32) ≤ x5) → (∃ v3 : Nat, i_fld h x0 12 45 = some (.ref v3) ∧ (∃ v4 : Nat, i_fld h x0 12 46 = some (.ref v4) ∧ (∃ (n5 : Nat) (f6 : Nat → Int32), i_arI h 2 v4 = some (n5, f6) ∧ ¬ (x5 < 0 ∨ n5 ≤ x5.toNatClampNeg) ∧ (∃ (n7 : Nat) (f8 : Nat → Int32), i_arI h 2 v3 = some (n7, f8) ∧ ¬ (x5 < 0 ∨ n7 ≤ x5.toNatClampNeg) ∧ i_P i_MT i_AT L xs 303 174 [some (.ref x0), some (.int x1), some (.int x2), some (.int x3), some (.int x4), some (.int x5)] [] (i_siI h v3 x5.toNatClampNeg (vp_nar .boolean (f6 x5.toNatClampNeg))) 0 0 Q))))))) : i_P i_MT i_AT L xs 303 152 [some (.ref x0), some (.int x1), some (.int x2), some (.int x3), some (.int x4), some (.int x5)] [] h 0 0 Q := by
  have hk := i_k303
  refine g_s1 (pc2 := 154) hk rfl rfl rfl rfl rfl ?_
  refine g_s1 (pc2 := 157) (st2 := [.int (9216 : Int32), .int x5]) hk rfl rfl rfl rfl rfl ?_
  refine g_icmp_ge hk rfl (fun hc => ?_) (fun hc => ?_)
  · have H := H.1 hc
    refine g_s1 (pc2 := 212) hk rfl rfl rfl rfl rfl ?_
    refine g_if_eq hk rfl (fun hc => ?_) (fun hc => ?_)
    · have H := H.1 hc
      refine g_s1 (pc2 := 224) (lo2 := [some (.ref x0), some (.int x1), some (.int x2), some (.int (x3 + 1)), some (.int x4), some (.int x5)]) hk rfl rfl rfl rfl rfl ?_
      refine g_s1 (pc2 := 75) hk rfl rfl rfl rfl rfl ?_
      exact H
    · have H := H.2 hc
      refine g_s1 (pc2 := 216) hk rfl rfl rfl rfl rfl ?_
      refine g_s1 (pc2 := 217) hk rfl rfl rfl rfl rfl ?_
      obtain ⟨ho, H⟩ := H
      refine g_call hk rfl rfl i_k202.1 ⟨rfl, rfl⟩ rfl (i_rcv_v ho rfl (by decide)) rfl ?_
      exact H.mono (fun v h2 q => by obtain ⟨r, rfl, q⟩ := q; exact q)
  · have H := H.2 hc
    refine g_s1 (pc2 := 161) hk rfl rfl rfl rfl rfl ?_
    obtain ⟨v3, ev3, H⟩ := H
    refine g_step (pc2 := 164) hk rfl rfl rfl (s_get ev3) ?_
    refine g_s1 (pc2 := 166) hk rfl rfl rfl rfl rfl ?_
    refine g_s1 (pc2 := 167) hk rfl rfl rfl rfl rfl ?_
    obtain ⟨v4, ev4, H⟩ := H
    refine g_step (pc2 := 170) hk rfl rfl rfl (s_get ev4) ?_
    refine g_s1 (pc2 := 172) hk rfl rfl rfl rfl rfl ?_
    obtain ⟨n5, f6, ef6, hi, H⟩ := H
    refine g_step (pc2 := 173) hk rfl rfl rfl (s_bget (t := 2) (by decide) ef6 hi) ?_
    obtain ⟨n7, f8, ef8, hi, H⟩ := H
    refine g_step (pc2 := 174) hk rfl rfl rfl (s_zput ef8 hi) ?_
    exact H
theorem b303_174 {x0 : Nat} {x1 : Int32} {x2 : Int32} {x3 : Int32} {x4 : Int32} {x5 : Int32} {h : iH} {Q : Option Value → iH → Prop} (H : ((¬ x4 = 0 → i_P i_MT i_AT L xs 303 197 [some (.ref x0), some (.int x1), some (.int x2), some (.int x3), some (.int x4), some (.int x5)] [] h 0 0 Q) ∧ (¬ (¬ x4 = 0) → (¬ (4 : Int32) = 0 ∧ ((¬ (x5 - x5 / (4 : Int32) * (4 : Int32)) = (3 : Int32) → i_P i_MT i_AT L xs 303 201 [some (.ref x0), some (.int x1), some (.int x2), some (.int x3), some (.int x4), some (.int x5)] [] h 0 0 Q) ∧ (¬ (¬ (x5 - x5 / (4 : Int32) * (4 : Int32)) = (3 : Int32)) → (∃ v1 : Nat, i_fld h x0 12 45 = some (.ref v1) ∧ (∃ (n2 : Nat) (f3 : Nat → Int32), i_arI h 2 v1 = some (n2, f3) ∧ ¬ (x5 < 0 ∨ n2 ≤ x5.toNatClampNeg) ∧ (((f3 x5.toNatClampNeg) = 0 → i_P i_MT i_AT L xs 303 201 [some (.ref x0), some (.int x1), some (.int x2), some (.int x3), some (.int x4), some (.int x5)] [] h 0 0 Q) ∧ (¬ ((f3 x5.toNatClampNeg) = 0) → i_P i_MT i_AT L xs 303 197 [some (.ref x0), some (.int x1), some (.int x2), some (.int x3), some (.int x4), some (.int x5)] [] h 0 0 Q)))))))))) : i_P i_MT i_AT L xs 303 174 [some (.ref x0), some (.int x1), some (.int x2), some (.int x3), some (.int x4), some (.int x5)] [] h 0 0 Q := by
  have hk := i_k303
  refine g_s1 (pc2 := 176) hk rfl rfl rfl rfl rfl ?_
  refine g_if_ne hk rfl (fun hc => ?_) (fun hc => ?_)
  · have H := H.1 hc
    exact H
  · have H := H.2 hc
    refine g_s1 (pc2 := 181) hk rfl rfl rfl rfl rfl ?_
    refine g_s1 (pc2 := 182) (st2 := [.int (4 : Int32), .int x5]) hk rfl rfl rfl rfl rfl ?_
    obtain ⟨hz, H⟩ := H
    refine g_s1 (pc2 := 183) hk rfl rfl rfl rfl (s_if hz) ?_
    refine g_s1 (pc2 := 184) (st2 := [.int (3 : Int32), .int (x5 - x5 / (4 : Int32) * (4 : Int32))]) hk rfl rfl rfl rfl rfl ?_
    refine g_icmp_ne hk rfl (fun hc => ?_) (fun hc => ?_)
    · have H := H.1 hc
      exact H
    · have H := H.2 hc
      refine g_s1 (pc2 := 188) hk rfl rfl rfl rfl rfl ?_
      obtain ⟨v1, ev1, H⟩ := H
      refine g_step (pc2 := 191) hk rfl rfl rfl (s_get ev1) ?_
      refine g_s1 (pc2 := 193) hk rfl rfl rfl rfl rfl ?_
      obtain ⟨n2, f3, ef3, hi, H⟩ := H
      refine g_step (pc2 := 194) hk rfl rfl rfl (s_bget (t := 2) (by decide) ef3 hi) ?_
      refine g_if_eq hk rfl (fun hc => ?_) (fun hc => ?_)
      · have H := H.1 hc
        exact H
      · have H := H.2 hc
        exact H
theorem b303_197 {x0 : Nat} {x1 : Int32} {x2 : Int32} {x3 : Int32} {x4 : Int32} {x5 : Int32} {h : iH} {Q : Option Value → iH → Prop} (H : i_P i_MT i_AT L xs 303 202 [some (.ref x0), some (.int x1), some (.int x2), some (.int x3), some (.int x4), some (.int x5)] [.int (1 : Int32)] h 0 0 Q) : i_P i_MT i_AT L xs 303 197 [some (.ref x0), some (.int x1), some (.int x2), some (.int x3), some (.int x4), some (.int x5)] [] h 0 0 Q := by
  have hk := i_k303
  refine g_s1 (pc2 := 198) (st2 := [.int (1 : Int32)]) hk rfl rfl rfl rfl rfl ?_
  refine g_s1 (pc2 := 202) hk rfl rfl rfl rfl rfl ?_
  exact H
theorem b303_201 {x0 : Nat} {x1 : Int32} {x2 : Int32} {x3 : Int32} {x4 : Int32} {x5 : Int32} {h : iH} {Q : Option Value → iH → Prop} (H : i_P i_MT i_AT L xs 303 202 [some (.ref x0), some (.int x1), some (.int x2), some (.int x3), some (.int x4), some (.int x5)] [.int (0 : Int32)] h 0 0 Q) : i_P i_MT i_AT L xs 303 201 [some (.ref x0), some (.int x1), some (.int x2), some (.int x3), some (.int x4), some (.int x5)] [] h 0 0 Q := by
  have hk := i_k303
  refine g_s1 (pc2 := 202) (st2 := [.int (0 : Int32)]) hk rfl rfl rfl rfl rfl ?_
  exact H
theorem b303_202 {x0 : Nat} {x1 : Int32} {x2 : Int32} {x3 : Int32} {x4 : Int32} {x5 : Int32} {s0 : Int32} {h : iH} {Q : Option Value → iH → Prop} (H : i_P i_MT i_AT L xs 303 152 [some (.ref x0), some (.int x1), some (.int x2), some (.int x3), some (.int s0), some (.int (x5 + 1))] [] h 0 0 Q) : i_P i_MT i_AT L xs 303 202 [some (.ref x0), some (.int x1), some (.int x2), some (.int x3), some (.int x4), some (.int x5)] [.int s0] h 0 0 Q := by
  have hk := i_k303
  refine g_s1 (pc2 := 204) (lo2 := [some (.ref x0), some (.int x1), some (.int x2), some (.int x3), some (.int s0), some (.int x5)]) hk rfl rfl rfl rfl rfl ?_
  refine g_s1 (pc2 := 207) (lo2 := [some (.ref x0), some (.int x1), some (.int x2), some (.int x3), some (.int s0), some (.int (x5 + 1))]) hk rfl rfl rfl rfl rfl ?_
  refine g_s1 (pc2 := 152) hk rfl rfl rfl rfl rfl ?_
  exact H
theorem b303_220 {x0 : Nat} {x1 : Int32} {x2 : Int32} {x3 : Int32} {x4 : Int32} {x5 : Int32} {s0 : Int32} {h : iH} {Q : Option Value → iH → Prop} (H : Q (some (.int s0)) h) : i_P i_MT i_AT L xs 303 220 [some (.ref x0), some (.int x1), some (.int x2), some (.int x3), some (.int x4), some (.int x5)] [.int s0] h 0 0 Q := by
  have hk := i_k303
  exact g_ireturn hk rfl (by decide) (by decide) rfl H
theorem b303_233 {x0 : Nat} {x1 : Int32} {x2 : Int32} {x3 : Int32} {x4 : Option Value} {x5 : Option Value} {s0 : Int32} {h : iH} {Q : Option Value → iH → Prop} (H : Q (some (.int s0)) h) : i_P i_MT i_AT L xs 303 233 [some (.ref x0), some (.int x1), some (.int x2), some (.int x3), x4, x5] [.int s0] h 0 0 Q := by
  have hk := i_k303
  exact g_ireturn hk rfl (by decide) (by decide) rfl H
/-! StillTownModel.meetsFrom(III)V -/
theorem e304 {x0 : Nat} {x1 : Int32} {x2 : Int32} {x3 : Int32} {h : iH} {Q : Option Value → iH → Prop} (H : i_P i_MT i_AT L xs 304 0 [some (.ref x0), some (.int x1), some (.int x2), some (.int x3), none, none] [] h 0 0 Q) : i_C i_MT i_AT L xs 304 [.ref x0, .int x1, .int x2, .int x3] h Q := ⟨i_m304, i_k304.1, Nat.le_of_ble_eq_true rfl, H⟩
theorem b304_0 {x0 : Nat} {x1 : Int32} {x2 : Int32} {x3 : Int32} {x4 : Option Value} {x5 : Option Value} {h : iH} {Q : Option Value → iH → Prop} (H : i_P i_MT i_AT L xs 304 3 [some (.ref x0), some (.int x1), some (.int x2), some (.int x3), some (.int (0 : Int32)), x5] [] h 0 0 Q) : i_P i_MT i_AT L xs 304 0 [some (.ref x0), some (.int x1), some (.int x2), some (.int x3), x4, x5] [] h 0 0 Q := by
  have hk := i_k304
  refine g_s1 (pc2 := 1) (st2 := [.int (0 : Int32)]) hk rfl rfl rfl rfl rfl ?_
  refine g_s1 (pc2 := 3) (lo2 := [some (.ref x0), some (.int x1), some (.int x2), some (.int x3), some (.int (0 : Int32)), x5]) hk rfl rfl rfl rfl rfl ?_
  exact H
theorem b304_3 {x0 : Nat} {x1 : Int32} {x2 : Int32} {x3 : Int32} {x4 : Int32} {x5 : Option Value} {h : iH} {Q : Option Value → iH → Prop} (H : (i_obj? h x0 12 ∧ i_C i_MT i_AT L xs 248 [.ref x0] h (fun v h1 => ∃ r2 : Int32, v = some (.int r2) ∧ i_P i_MT i_AT L xs 304 9 [some (.ref x0), some (.int x1), some (.int x2), some (.int x3), some (.int x4), x5] [.int r2, .int x4] h1 0 0 Q))) : i_P i_MT i_AT L xs 304 3 [some (.ref x0), some (.int x1), some (.int x2), some (.int x3), some (.int x4), x5] [] h 0 0 Q := by
  have hk := i_k304
  refine g_s1 (pc2 := 5) hk rfl rfl rfl rfl rfl ?_
  refine g_s1 (pc2 := 6) hk rfl rfl rfl rfl rfl ?_
  obtain ⟨ho, H⟩ := H
  refine g_call hk rfl rfl i_k248.1 ⟨rfl, rfl⟩ rfl (i_rcv_v ho rfl (by decide)) rfl ?_
  exact H.mono (fun v h2 q => by obtain ⟨r, rfl, q⟩ := q; exact q)
theorem b304_9 {x0 : Nat} {x1 : Int32} {x2 : Int32} {x3 : Int32} {x4 : Int32} {x5 : Option Value} {s0 : Int32} {s1 : Int32} {h : iH} {Q : Option Value → iH → Prop} (H : ((s1 ≤ s0 → Q none h) ∧ (¬ (s1 ≤ s0) → (¬ (4 : Int32) = 0 ∧ (¬ (48 : Int32) = 0 ∧ (i_obj? h x0 12 ∧ i_C i_MT i_AT L xs 302 [.ref x0, .int ((x1 / (4 : Int32)) / (48 : Int32)), .int x4] h (fun v h1 => ∃ r2 : Int32, v = some (.int r2) ∧ i_P i_MT i_AT L xs 304 24 [some (.ref x0), some (.int x1), some (.int x2), some (.int x3), some (.int x4), x5] [.int r2] h1 0 0 Q))))))) : i_P i_MT i_AT L xs 304 9 [some (.ref x0), some (.int x1), some (.int x2), some (.int x3), some (.int x4), x5] [.int s1, .int s0] h 0 0 Q := by
  have hk := i_k304
  refine g_icmp_ge hk rfl (fun hc => ?_) (fun hc => ?_)
  · have H := H.1 hc
    exact g_return hk rfl (by decide) (by decide) rfl H
  · have H := H.2 hc
    refine g_s1 (pc2 := 13) hk rfl rfl rfl rfl rfl ?_
    refine g_s1 (pc2 := 14) hk rfl rfl rfl rfl rfl ?_
    refine g_s1 (pc2 := 15) (st2 := [.int (4 : Int32), .int x1, .ref x0]) hk rfl rfl rfl rfl rfl ?_
    obtain ⟨hz, H⟩ := H
    refine g_s1 (pc2 := 16) hk rfl rfl rfl rfl (s_if hz) ?_
    refine g_s1 (pc2 := 18) (st2 := [.int (48 : Int32), .int (x1 / (4 : Int32)), .ref x0]) hk rfl rfl rfl rfl rfl ?_
    obtain ⟨hz, H⟩ := H
    refine g_s1 (pc2 := 19) hk rfl rfl rfl rfl (s_if hz) ?_
    refine g_s1 (pc2 := 21) hk rfl rfl rfl rfl rfl ?_
    obtain ⟨ho, H⟩ := H
    refine g_call hk rfl rfl i_k302.1 ⟨rfl, rfl⟩ rfl (i_rcv_v ho rfl (by decide)) rfl ?_
    exact H.mono (fun v h2 q => by obtain ⟨r, rfl, q⟩ := q; exact q)
theorem b304_24 {x0 : Nat} {x1 : Int32} {x2 : Int32} {x3 : Int32} {x4 : Int32} {x5 : Option Value} {s0 : Int32} {h : iH} {Q : Option Value → iH → Prop} (H : ((¬ s0 = 0 → i_P i_MT i_AT L xs 304 33 [some (.ref x0), some (.int x1), some (.int x2), some (.int x3), some (.int x4), some (.int (0 : Int32))] [] h 0 0 Q) ∧ (¬ (¬ s0 = 0) → i_P i_MT i_AT L xs 304 74 [some (.ref x0), some (.int x1), some (.int x2), some (.int x3), some (.int x4), x5] [] h 0 0 Q))) : i_P i_MT i_AT L xs 304 24 [some (.ref x0), some (.int x1), some (.int x2), some (.int x3), some (.int x4), x5] [.int s0] h 0 0 Q := by
  have hk := i_k304
  refine g_if_ne hk rfl (fun hc => ?_) (fun hc => ?_)
  · have H := H.1 hc
    refine g_s1 (pc2 := 31) (st2 := [.int (0 : Int32)]) hk rfl rfl rfl rfl rfl ?_
    refine g_s1 (pc2 := 33) (lo2 := [some (.ref x0), some (.int x1), some (.int x2), some (.int x3), some (.int x4), some (.int (0 : Int32))]) hk rfl rfl rfl rfl rfl ?_
    exact H
  · have H := H.2 hc
    refine g_s1 (pc2 := 74) hk rfl rfl rfl rfl rfl ?_
    exact H
theorem b304_33 {x0 : Nat} {x1 : Int32} {x2 : Int32} {x3 : Int32} {x4 : Int32} {x5 : Int32} {h : iH} {Q : Option Value → iH → Prop} (H : (i_obj? h x0 12 ∧ i_C i_MT i_AT L xs 248 [.ref x0] h (fun v h1 => ∃ r2 : Int32, v = some (.int r2) ∧ i_P i_MT i_AT L xs 304 39 [some (.ref x0), some (.int x1), some (.int x2), some (.int x3), some (.int x4), some (.int x5)] [.int r2, .int x5] h1 0 0 Q))) : i_P i_MT i_AT L xs 304 33 [some (.ref x0), some (.int x1), some (.int x2), some (.int x3), some (.int x4), some (.int x5)] [] h 0 0 Q := by
  have hk := i_k304
  refine g_s1 (pc2 := 35) hk rfl rfl rfl rfl rfl ?_
  refine g_s1 (pc2 := 36) hk rfl rfl rfl rfl rfl ?_
  obtain ⟨ho, H⟩ := H
  refine g_call hk rfl rfl i_k248.1 ⟨rfl, rfl⟩ rfl (i_rcv_v ho rfl (by decide)) rfl ?_
  exact H.mono (fun v h2 q => by obtain ⟨r, rfl, q⟩ := q; exact q)
theorem b304_39 {x0 : Nat} {x1 : Int32} {x2 : Int32} {x3 : Int32} {x4 : Int32} {x5 : Int32} {s0 : Int32} {s1 : Int32} {h : iH} {Q : Option Value → iH → Prop} (H : ((s1 ≤ s0 → i_P i_MT i_AT L xs 304 74 [some (.ref x0), some (.int x1), some (.int x2), some (.int x3), some (.int x4), some (.int x5)] [] h 0 0 Q) ∧ (¬ (s1 ≤ s0) → (¬ (4 : Int32) = 0 ∧ (¬ (48 : Int32) = 0 ∧ (i_obj? h x0 12 ∧ i_C i_MT i_AT L xs 302 [.ref x0, .int ((x1 / (4 : Int32)) - (x1 / (4 : Int32)) / (48 : Int32) * (48 : Int32)), .int x5] h (fun v h1 => ∃ r2 : Int32, v = some (.int r2) ∧ i_P i_MT i_AT L xs 304 54 [some (.ref x0), some (.int x1), some (.int x2), some (.int x3), some (.int x4), some (.int x5)] [.int r2] h1 0 0 Q))))))) : i_P i_MT i_AT L xs 304 39 [some (.ref x0), some (.int x1), some (.int x2), some (.int x3), some (.int x4), some (.int x5)] [.int s1, .int s0] h 0 0 Q := by
  have hk := i_k304
  refine g_icmp_ge hk rfl (fun hc => ?_) (fun hc => ?_)
  · have H := H.1 hc
    exact H
  · have H := H.2 hc
    refine g_s1 (pc2 := 43) hk rfl rfl rfl rfl rfl ?_
    refine g_s1 (pc2 := 44) hk rfl rfl rfl rfl rfl ?_
    refine g_s1 (pc2 := 45) (st2 := [.int (4 : Int32), .int x1, .ref x0]) hk rfl rfl rfl rfl rfl ?_
    obtain ⟨hz, H⟩ := H
    refine g_s1 (pc2 := 46) hk rfl rfl rfl rfl (s_if hz) ?_
    refine g_s1 (pc2 := 48) (st2 := [.int (48 : Int32), .int (x1 / (4 : Int32)), .ref x0]) hk rfl rfl rfl rfl rfl ?_
    obtain ⟨hz, H⟩ := H
    refine g_s1 (pc2 := 49) hk rfl rfl rfl rfl (s_if hz) ?_
    refine g_s1 (pc2 := 51) hk rfl rfl rfl rfl rfl ?_
    obtain ⟨ho, H⟩ := H
    refine g_call hk rfl rfl i_k302.1 ⟨rfl, rfl⟩ rfl (i_rcv_v ho rfl (by decide)) rfl ?_
    exact H.mono (fun v h2 q => by obtain ⟨r, rfl, q⟩ := q; exact q)
theorem b304_54 {x0 : Nat} {x1 : Int32} {x2 : Int32} {x3 : Int32} {x4 : Int32} {x5 : Int32} {s0 : Int32} {h : iH} {Q : Option Value → iH → Prop} (H : ((s0 = 0 → i_P i_MT i_AT L xs 304 68 [some (.ref x0), some (.int x1), some (.int x2), some (.int x3), some (.int x4), some (.int x5)] [] h 0 0 Q) ∧ (¬ (s0 = 0) → (i_obj? h x0 12 ∧ i_C i_MT i_AT L xs 301 [.ref x0, .int x1, .int x2, .int x3, .int x4, .int x5] h (fun v h1 => v = none ∧ i_P i_MT i_AT L xs 304 68 [some (.ref x0), some (.int x1), some (.int x2), some (.int x3), some (.int x4), some (.int x5)] [] h1 0 0 Q))))) : i_P i_MT i_AT L xs 304 54 [some (.ref x0), some (.int x1), some (.int x2), some (.int x3), some (.int x4), some (.int x5)] [.int s0] h 0 0 Q := by
  have hk := i_k304
  refine g_if_eq hk rfl (fun hc => ?_) (fun hc => ?_)
  · have H := H.1 hc
    exact H
  · have H := H.2 hc
    refine g_s1 (pc2 := 58) hk rfl rfl rfl rfl rfl ?_
    refine g_s1 (pc2 := 59) hk rfl rfl rfl rfl rfl ?_
    refine g_s1 (pc2 := 60) hk rfl rfl rfl rfl rfl ?_
    refine g_s1 (pc2 := 61) hk rfl rfl rfl rfl rfl ?_
    refine g_s1 (pc2 := 63) hk rfl rfl rfl rfl rfl ?_
    refine g_s1 (pc2 := 65) hk rfl rfl rfl rfl rfl ?_
    obtain ⟨ho, H⟩ := H
    refine g_call hk rfl rfl i_k301.1 ⟨rfl, rfl⟩ rfl (i_rcv_v ho rfl (by decide)) rfl ?_
    exact H.mono (fun v h2 q => by obtain ⟨rfl, q⟩ := q; exact q)
theorem b304_68 {x0 : Nat} {x1 : Int32} {x2 : Int32} {x3 : Int32} {x4 : Int32} {x5 : Int32} {h : iH} {Q : Option Value → iH → Prop} (H : i_P i_MT i_AT L xs 304 33 [some (.ref x0), some (.int x1), some (.int x2), some (.int x3), some (.int x4), some (.int (x5 + 1))] [] h 0 0 Q) : i_P i_MT i_AT L xs 304 68 [some (.ref x0), some (.int x1), some (.int x2), some (.int x3), some (.int x4), some (.int x5)] [] h 0 0 Q := by
  have hk := i_k304
  refine g_s1 (pc2 := 71) (lo2 := [some (.ref x0), some (.int x1), some (.int x2), some (.int x3), some (.int x4), some (.int (x5 + 1))]) hk rfl rfl rfl rfl rfl ?_
  refine g_s1 (pc2 := 33) hk rfl rfl rfl rfl rfl ?_
  exact H
theorem b304_74 {x0 : Nat} {x1 : Int32} {x2 : Int32} {x3 : Int32} {x4 : Int32} {x5 : Option Value} {h : iH} {Q : Option Value → iH → Prop} (H : i_P i_MT i_AT L xs 304 3 [some (.ref x0), some (.int x1), some (.int x2), some (.int x3), some (.int (x4 + 1)), x5] [] h 0 0 Q) : i_P i_MT i_AT L xs 304 74 [some (.ref x0), some (.int x1), some (.int x2), some (.int x3), some (.int x4), x5] [] h 0 0 Q := by
  have hk := i_k304
  refine g_s1 (pc2 := 77) (lo2 := [some (.ref x0), some (.int x1), some (.int x2), some (.int x3), some (.int (x4 + 1)), x5]) hk rfl rfl rfl rfl rfl ?_
  refine g_s1 (pc2 := 3) hk rfl rfl rfl rfl rfl ?_
  exact H
/-! StillTownModel.has(III)Z -/
theorem e305 {x0 : Nat} {x1 : Int32} {x2 : Int32} {x3 : Int32} {h : iH} {Q : Option Value → iH → Prop} (H : i_P i_MT i_AT L xs 305 0 [some (.ref x0), some (.int x1), some (.int x2), some (.int x3), none, none, none] [] h 0 0 Q) : i_C i_MT i_AT L xs 305 [.ref x0, .int x1, .int x2, .int x3] h Q := ⟨i_m305, i_k305.1, Nat.le_of_ble_eq_true rfl, H⟩
theorem b305_0 {x0 : Nat} {x1 : Int32} {x2 : Int32} {x3 : Int32} {x4 : Option Value} {x5 : Option Value} {x6 : Option Value} {h : iH} {Q : Option Value → iH → Prop} (H : i_P i_MT i_AT L xs 305 3 [some (.ref x0), some (.int x1), some (.int x2), some (.int x3), some (.int (0 : Int32)), x5, x6] [] h 0 0 Q) : i_P i_MT i_AT L xs 305 0 [some (.ref x0), some (.int x1), some (.int x2), some (.int x3), x4, x5, x6] [] h 0 0 Q := by
  have hk := i_k305
  refine g_s1 (pc2 := 1) (st2 := [.int (0 : Int32)]) hk rfl rfl rfl rfl rfl ?_
  refine g_s1 (pc2 := 3) (lo2 := [some (.ref x0), some (.int x1), some (.int x2), some (.int x3), some (.int (0 : Int32)), x5, x6]) hk rfl rfl rfl rfl rfl ?_
  exact H
theorem b305_3 {x0 : Nat} {x1 : Int32} {x2 : Int32} {x3 : Int32} {x4 : Int32} {x5 : Option Value} {x6 : Option Value} {h : iH} {Q : Option Value → iH → Prop} (H : (i_obj? h x0 12 ∧ i_C i_MT i_AT L xs 248 [.ref x0] h (fun v h1 => ∃ r2 : Int32, v = some (.int r2) ∧ i_P i_MT i_AT L xs 305 9 [some (.ref x0), some (.int x1), some (.int x2), some (.int x3), some (.int x4), x5, x6] [.int r2, .int x4] h1 0 0 Q))) : i_P i_MT i_AT L xs 305 3 [some (.ref x0), some (.int x1), some (.int x2), some (.int x3), some (.int x4), x5, x6] [] h 0 0 Q := by
  have hk := i_k305
  refine g_s1 (pc2 := 5) hk rfl rfl rfl rfl rfl ?_
  refine g_s1 (pc2 := 6) hk rfl rfl rfl rfl rfl ?_
  obtain ⟨ho, H⟩ := H
  refine g_call hk rfl rfl i_k248.1 ⟨rfl, rfl⟩ rfl (i_rcv_v ho rfl (by decide)) rfl ?_
  exact H.mono (fun v h2 q => by obtain ⟨r, rfl, q⟩ := q; exact q)
theorem b305_9 {x0 : Nat} {x1 : Int32} {x2 : Int32} {x3 : Int32} {x4 : Int32} {x5 : Option Value} {x6 : Option Value} {s0 : Int32} {s1 : Int32} {h : iH} {Q : Option Value → iH → Prop} (H : ((s1 ≤ s0 → Q (some (.int 0)) h) ∧ (¬ (s1 ≤ s0) → (i_obj? h x0 12 ∧ i_C i_MT i_AT L xs 302 [.ref x0, .int x1, .int x4] h (fun v h1 => ∃ r2 : Int32, v = some (.int r2) ∧ i_P i_MT i_AT L xs 305 19 [some (.ref x0), some (.int x1), some (.int x2), some (.int x3), some (.int x4), x5, x6] [.int r2] h1 0 0 Q))))) : i_P i_MT i_AT L xs 305 9 [some (.ref x0), some (.int x1), some (.int x2), some (.int x3), some (.int x4), x5, x6] [.int s1, .int s0] h 0 0 Q := by
  have hk := i_k305
  refine g_icmp_ge hk rfl (fun hc => ?_) (fun hc => ?_)
  · have H := H.1 hc
    refine g_s1 (pc2 := 122) (st2 := [.int (0 : Int32)]) hk rfl rfl rfl rfl rfl ?_
    exact g_ireturn hk rfl (by decide) (by decide) rfl H
  · have H := H.2 hc
    refine g_s1 (pc2 := 13) hk rfl rfl rfl rfl rfl ?_
    refine g_s1 (pc2 := 14) hk rfl rfl rfl rfl rfl ?_
    refine g_s1 (pc2 := 16) hk rfl rfl rfl rfl rfl ?_
    obtain ⟨ho, H⟩ := H
    refine g_call hk rfl rfl i_k302.1 ⟨rfl, rfl⟩ rfl (i_rcv_v ho rfl (by decide)) rfl ?_
    exact H.mono (fun v h2 q => by obtain ⟨r, rfl, q⟩ := q; exact q)
theorem b305_19 {x0 : Nat} {x1 : Int32} {x2 : Int32} {x3 : Int32} {x4 : Int32} {x5 : Option Value} {x6 : Option Value} {s0 : Int32} {h : iH} {Q : Option Value → iH → Prop} (H : ((¬ s0 = 0 → i_P i_MT i_AT L xs 305 31 [some (.ref x0), some (.int x1), some (.int x2), some (.int x3), some (.int x4), some (.int (1 : Int32)), some (.int (0 : Int32))] [] h 0 0 Q) ∧ (¬ (¬ s0 = 0) → i_P i_MT i_AT L xs 305 115 [some (.ref x0), some (.int x1), some (.int x2), some (.int x3), some (.int x4), x5, x6] [] h 0 0 Q))) : i_P i_MT i_AT L xs 305 19 [some (.ref x0), some (.int x1), some (.int x2), some (.int x3), some (.int x4), x5, x6] [.int s0] h 0 0 Q := by
  have hk := i_k305
  refine g_if_ne hk rfl (fun hc => ?_) (fun hc => ?_)
  · have H := H.1 hc
    refine g_s1 (pc2 := 26) (st2 := [.int (1 : Int32)]) hk rfl rfl rfl rfl rfl ?_
    refine g_s1 (pc2 := 28) (lo2 := [some (.ref x0), some (.int x1), some (.int x2), some (.int x3), some (.int x4), some (.int (1 : Int32)), x6]) hk rfl rfl rfl rfl rfl ?_
    refine g_s1 (pc2 := 29) (st2 := [.int (0 : Int32)]) hk rfl rfl rfl rfl rfl ?_
    refine g_s1 (pc2 := 31) (lo2 := [some (.ref x0), some (.int x1), some (.int x2), some (.int x3), some (.int x4), some (.int (1 : Int32)), some (.int (0 : Int32))]) hk rfl rfl rfl rfl rfl ?_
    exact H
  · have H := H.2 hc
    refine g_s1 (pc2 := 115) hk rfl rfl rfl rfl rfl ?_
    exact H
theorem b305_31 {x0 : Nat} {x1 : Int32} {x2 : Int32} {x3 : Int32} {x4 : Int32} {x5 : Int32} {x6 : Int32} {h : iH} {Q : Option Value → iH → Prop} (H : (i_obj? h x0 12 ∧ i_C i_MT i_AT L xs 248 [.ref x0] h (fun v h1 => ∃ r2 : Int32, v = some (.int r2) ∧ i_P i_MT i_AT L xs 305 37 [some (.ref x0), some (.int x1), some (.int x2), some (.int x3), some (.int x4), some (.int x5), some (.int x6)] [.int r2, .int x6] h1 0 0 Q))) : i_P i_MT i_AT L xs 305 31 [some (.ref x0), some (.int x1), some (.int x2), some (.int x3), some (.int x4), some (.int x5), some (.int x6)] [] h 0 0 Q := by
  have hk := i_k305
  refine g_s1 (pc2 := 33) hk rfl rfl rfl rfl rfl ?_
  refine g_s1 (pc2 := 34) hk rfl rfl rfl rfl rfl ?_
  obtain ⟨ho, H⟩ := H
  refine g_call hk rfl rfl i_k248.1 ⟨rfl, rfl⟩ rfl (i_rcv_v ho rfl (by decide)) rfl ?_
  exact H.mono (fun v h2 q => by obtain ⟨r, rfl, q⟩ := q; exact q)
theorem b305_37 {x0 : Nat} {x1 : Int32} {x2 : Int32} {x3 : Int32} {x4 : Int32} {x5 : Int32} {x6 : Int32} {s0 : Int32} {s1 : Int32} {h : iH} {Q : Option Value → iH → Prop} (H : ((s1 ≤ s0 → i_P i_MT i_AT L xs 305 108 [some (.ref x0), some (.int x1), some (.int x2), some (.int x3), some (.int x4), some (.int x5), some (.int x6)] [] h 0 0 Q) ∧ (¬ (s1 ≤ s0) → ((x4 = x2 → i_P i_MT i_AT L xs 305 108 [some (.ref x0), some (.int x1), some (.int x2), some (.int x3), some (.int x4), some (.int x5), some (.int x6)] [] h 0 0 Q) ∧ (¬ (x4 = x2) → ((x5 = 0 → i_P i_MT i_AT L xs 305 99 [some (.ref x0), some (.int x1), some (.int x2), some (.int x3), some (.int x4), some (.int x5), some (.int x6)] [] h 0 0 Q) ∧ (¬ (x5 = 0) → (i_obj? h x0 12 ∧ i_C i_MT i_AT L xs 302 [.ref x0, .int x2, .int x6] h (fun v h1 => ∃ r2 : Int32, v = some (.int r2) ∧ i_P i_MT i_AT L xs 305 58 [some (.ref x0), some (.int x1), some (.int x2), some (.int x3), some (.int x4), some (.int x5), some (.int x6)] [.int r2] h1 0 0 Q))))))))) : i_P i_MT i_AT L xs 305 37 [some (.ref x0), some (.int x1), some (.int x2), some (.int x3), some (.int x4), some (.int x5), some (.int x6)] [.int s1, .int s0] h 0 0 Q := by
  have hk := i_k305
  refine g_icmp_ge hk rfl (fun hc => ?_) (fun hc => ?_)
  · have H := H.1 hc
    exact H
  · have H := H.2 hc
    refine g_s1 (pc2 := 42) hk rfl rfl rfl rfl rfl ?_
    refine g_s1 (pc2 := 43) hk rfl rfl rfl rfl rfl ?_
    refine g_icmp_eq hk rfl (fun hc => ?_) (fun hc => ?_)
    · have H := H.1 hc
      exact H
    · have H := H.2 hc
      refine g_s1 (pc2 := 48) hk rfl rfl rfl rfl rfl ?_
      refine g_if_eq hk rfl (fun hc => ?_) (fun hc => ?_)
      · have H := H.1 hc
        exact H
      · have H := H.2 hc
        refine g_s1 (pc2 := 52) hk rfl rfl rfl rfl rfl ?_
        refine g_s1 (pc2 := 53) hk rfl rfl rfl rfl rfl ?_
        refine g_s1 (pc2 := 55) hk rfl rfl rfl rfl rfl ?_
        obtain ⟨ho, H⟩ := H
        refine g_call hk rfl rfl i_k302.1 ⟨rfl, rfl⟩ rfl (i_rcv_v ho rfl (by decide)) rfl ?_
        exact H.mono (fun v h2 q => by obtain ⟨r, rfl, q⟩ := q; exact q)
theorem b305_58 {x0 : Nat} {x1 : Int32} {x2 : Int32} {x3 : Int32} {x4 : Int32} {x5 : Int32} {x6 : Int32} {s0 : Int32} {h : iH} {Q : Option Value → iH → Prop} (H : ((s0 = 0 → i_P i_MT i_AT L xs 305 95 [some (.ref x0), some (.int x1), some (.int x2), some (.int x3), some (.int x4), some (.int x5), some (.int x6)] [] h 0 0 Q) ∧ (¬ (s0 = 0) → (∃ v1 : Nat, i_fld h x0 12 48 = some (.ref v1) ∧ (∃ (n2 : Nat) (f3 : Nat → Int32), i_arI h 0 v1 = some (n2, f3) ∧ ¬ ((((48 : Int32) * x4) + x6) < 0 ∨ n2 ≤ (((48 : Int32) * x4) + x6).toNatClampNeg) ∧ (((f3 (((48 : Int32) * x4) + x6).toNatClampNeg) = (-1 : Int32) → i_P i_MT i_AT L xs 305 99 [some (.ref x0), some (.int x1), some (.int x2), some (.int x3), some (.int x4), some (.int x5), some (.int x6)] [] h 0 0 Q) ∧ (¬ ((f3 (((48 : Int32) * x4) + x6).toNatClampNeg) = (-1 : Int32)) → (∃ v4 : Nat, i_fld h x0 12 48 = some (.ref v4) ∧ (∃ (n5 : Nat) (f6 : Nat → Int32), i_arI h 0 v4 = some (n5, f6) ∧ ¬ ((((48 : Int32) * x4) + x6) < 0 ∨ n5 ≤ (((48 : Int32) * x4) + x6).toNatClampNeg) ∧ ((x3 ≤ (f6 (((48 : Int32) * x4) + x6).toNatClampNeg) → i_P i_MT i_AT L xs 305 99 [some (.ref x0), some (.int x1), some (.int x2), some (.int x3), some (.int x4), some (.int x5), some (.int x6)] [] h 0 0 Q) ∧ (¬ (x3 ≤ (f6 (((48 : Int32) * x4) + x6).toNatClampNeg)) → i_P i_MT i_AT L xs 305 95 [some (.ref x0), some (.int x1), some (.int x2), some (.int x3), some (.int x4), some (.int x5), some (.int x6)] [] h 0 0 Q))))))))))) : i_P i_MT i_AT L xs 305 58 [some (.ref x0), some (.int x1), some (.int x2), some (.int x3), some (.int x4), some (.int x5), some (.int x6)] [.int s0] h 0 0 Q := by
  have hk := i_k305
  refine g_if_eq hk rfl (fun hc => ?_) (fun hc => ?_)
  · have H := H.1 hc
    exact H
  · have H := H.2 hc
    refine g_s1 (pc2 := 62) hk rfl rfl rfl rfl rfl ?_
    obtain ⟨v1, ev1, H⟩ := H
    refine g_step (pc2 := 65) hk rfl rfl rfl (s_get ev1) ?_
    refine g_s1 (pc2 := 67) (st2 := [.int (48 : Int32), .ref v1]) hk rfl rfl rfl rfl rfl ?_
    refine g_s1 (pc2 := 69) hk rfl rfl rfl rfl rfl ?_
    refine g_s1 (pc2 := 70) hk rfl rfl rfl rfl rfl ?_
    refine g_s1 (pc2 := 72) hk rfl rfl rfl rfl rfl ?_
    refine g_s1 (pc2 := 73) hk rfl rfl rfl rfl rfl ?_
    obtain ⟨n2, f3, ef3, hi, H⟩ := H
    refine g_step (pc2 := 74) hk rfl rfl rfl (s_aget (L := L) (xs := xs) ef3 hi) ?_
    refine g_s1 (pc2 := 75) (st2 := [.int (-1 : Int32), .int (f3 (((48 : Int32) * x4) + x6).toNatClampNeg)]) hk rfl rfl rfl rfl rfl ?_
    refine g_icmp_eq hk rfl (fun hc => ?_) (fun hc => ?_)
    · have H := H.1 hc
      exact H
    · have H := H.2 hc
      refine g_s1 (pc2 := 79) hk rfl rfl rfl rfl rfl ?_
      obtain ⟨v4, ev4, H⟩ := H
      refine g_step (pc2 := 82) hk rfl rfl rfl (s_get ev4) ?_
      refine g_s1 (pc2 := 84) (st2 := [.int (48 : Int32), .ref v4]) hk rfl rfl rfl rfl rfl ?_
      refine g_s1 (pc2 := 86) hk rfl rfl rfl rfl rfl ?_
      refine g_s1 (pc2 := 87) hk rfl rfl rfl rfl rfl ?_
      refine g_s1 (pc2 := 89) hk rfl rfl rfl rfl rfl ?_
      refine g_s1 (pc2 := 90) hk rfl rfl rfl rfl rfl ?_
      obtain ⟨n5, f6, ef6, hi, H⟩ := H
      refine g_step (pc2 := 91) hk rfl rfl rfl (s_aget (L := L) (xs := xs) ef6 hi) ?_
      refine g_s1 (pc2 := 92) hk rfl rfl rfl rfl rfl ?_
      refine g_icmp_ge hk rfl (fun hc => ?_) (fun hc => ?_)
      · have H := H.1 hc
        exact H
      · have H := H.2 hc
        exact H
theorem b305_95 {x0 : Nat} {x1 : Int32} {x2 : Int32} {x3 : Int32} {x4 : Int32} {x5 : Int32} {x6 : Int32} {h : iH} {Q : Option Value → iH → Prop} (H : i_P i_MT i_AT L xs 305 100 [some (.ref x0), some (.int x1), some (.int x2), some (.int x3), some (.int x4), some (.int x5), some (.int x6)] [.int (1 : Int32)] h 0 0 Q) : i_P i_MT i_AT L xs 305 95 [some (.ref x0), some (.int x1), some (.int x2), some (.int x3), some (.int x4), some (.int x5), some (.int x6)] [] h 0 0 Q := by
  have hk := i_k305
  refine g_s1 (pc2 := 96) (st2 := [.int (1 : Int32)]) hk rfl rfl rfl rfl rfl ?_
  refine g_s1 (pc2 := 100) hk rfl rfl rfl rfl rfl ?_
  exact H
theorem b305_99 {x0 : Nat} {x1 : Int32} {x2 : Int32} {x3 : Int32} {x4 : Int32} {x5 : Int32} {x6 : Int32} {h : iH} {Q : Option Value → iH → Prop} (H : i_P i_MT i_AT L xs 305 100 [some (.ref x0), some (.int x1), some (.int x2), some (.int x3), some (.int x4), some (.int x5), some (.int x6)] [.int (0 : Int32)] h 0 0 Q) : i_P i_MT i_AT L xs 305 99 [some (.ref x0), some (.int x1), some (.int x2), some (.int x3), some (.int x4), some (.int x5), some (.int x6)] [] h 0 0 Q := by
  have hk := i_k305
  refine g_s1 (pc2 := 100) (st2 := [.int (0 : Int32)]) hk rfl rfl rfl rfl rfl ?_
  exact H
theorem b305_100 {x0 : Nat} {x1 : Int32} {x2 : Int32} {x3 : Int32} {x4 : Int32} {x5 : Int32} {x6 : Int32} {s0 : Int32} {h : iH} {Q : Option Value → iH → Prop} (H : i_P i_MT i_AT L xs 305 31 [some (.ref x0), some (.int x1), some (.int x2), some (.int x3), some (.int x4), some (.int s0), some (.int (x6 + 1))] [] h 0 0 Q) : i_P i_MT i_AT L xs 305 100 [some (.ref x0), some (.int x1), some (.int x2), some (.int x3), some (.int x4), some (.int x5), some (.int x6)] [.int s0] h 0 0 Q := by
  have hk := i_k305
  refine g_s1 (pc2 := 102) (lo2 := [some (.ref x0), some (.int x1), some (.int x2), some (.int x3), some (.int x4), some (.int s0), some (.int x6)]) hk rfl rfl rfl rfl rfl ?_
  refine g_s1 (pc2 := 105) (lo2 := [some (.ref x0), some (.int x1), some (.int x2), some (.int x3), some (.int x4), some (.int s0), some (.int (x6 + 1))]) hk rfl rfl rfl rfl rfl ?_
  refine g_s1 (pc2 := 31) hk rfl rfl rfl rfl rfl ?_
  exact H
theorem b305_108 {x0 : Nat} {x1 : Int32} {x2 : Int32} {x3 : Int32} {x4 : Int32} {x5 : Int32} {x6 : Int32} {h : iH} {Q : Option Value → iH → Prop} (H : ((x5 = 0 → i_P i_MT i_AT L xs 305 115 [some (.ref x0), some (.int x1), some (.int x2), some (.int x3), some (.int x4), some (.int x5), some (.int x6)] [] h 0 0 Q) ∧ (¬ (x5 = 0) → Q (some (.int 1)) h))) : i_P i_MT i_AT L xs 305 108 [some (.ref x0), some (.int x1), some (.int x2), some (.int x3), some (.int x4), some (.int x5), some (.int x6)] [] h 0 0 Q := by
  have hk := i_k305
  refine g_s1 (pc2 := 110) hk rfl rfl rfl rfl rfl ?_
  refine g_if_eq hk rfl (fun hc => ?_) (fun hc => ?_)
  · have H := H.1 hc
    exact H
  · have H := H.2 hc
    refine g_s1 (pc2 := 114) (st2 := [.int (1 : Int32)]) hk rfl rfl rfl rfl rfl ?_
    exact g_ireturn hk rfl (by decide) (by decide) rfl H
theorem b305_115 {x0 : Nat} {x1 : Int32} {x2 : Int32} {x3 : Int32} {x4 : Int32} {x5 : Option Value} {x6 : Option Value} {h : iH} {Q : Option Value → iH → Prop} (H : i_P i_MT i_AT L xs 305 3 [some (.ref x0), some (.int x1), some (.int x2), some (.int x3), some (.int (x4 + 1)), x5, x6] [] h 0 0 Q) : i_P i_MT i_AT L xs 305 115 [some (.ref x0), some (.int x1), some (.int x2), some (.int x3), some (.int x4), x5, x6] [] h 0 0 Q := by
  have hk := i_k305
  refine g_s1 (pc2 := 118) (lo2 := [some (.ref x0), some (.int x1), some (.int x2), some (.int x3), some (.int (x4 + 1)), x5, x6]) hk rfl rfl rfl rfl rfl ?_
  refine g_s1 (pc2 := 3) hk rfl rfl rfl rfl rfl ?_
  exact H
/-! StillTownModel.hunted(II)I -/
theorem e306 {x0 : Nat} {x1 : Int32} {x2 : Int32} {h : iH} {Q : Option Value → iH → Prop} (H : i_P i_MT i_AT L xs 306 0 [some (.ref x0), some (.int x1), some (.int x2), none, none, none, none, none] [] h 0 0 Q) : i_C i_MT i_AT L xs 306 [.ref x0, .int x1, .int x2] h Q := ⟨i_m306, i_k306.1, Nat.le_of_ble_eq_true rfl, H⟩
theorem b306_0 {x0 : Nat} {x1 : Int32} {x2 : Int32} {x3 : Option Value} {x4 : Option Value} {x5 : Option Value} {x6 : Option Value} {x7 : Option Value} {h : iH} {Q : Option Value → iH → Prop} (H : (i_obj? h x0 12 ∧ i_C i_MT i_AT L xs 249 [.ref x0, .long (x1.toInt64)] h (fun v h1 => ∃ r2 : Int32, v = some (.int r2) ∧ i_P i_MT i_AT L xs 306 6 [some (.ref x0), some (.int x1), some (.int x2), x3, x4, x5, x6, x7] [.int r2] h1 0 0 Q))) : i_P i_MT i_AT L xs 306 0 [some (.ref x0), some (.int x1), some (.int x2), x3, x4, x5, x6, x7] [] h 0 0 Q := by
  have hk := i_k306
  refine g_s1 (pc2 := 1) hk rfl rfl rfl rfl rfl ?_
  refine g_s1 (pc2 := 2) hk rfl rfl rfl rfl rfl ?_
  refine g_s1 (pc2 := 3) hk rfl rfl rfl rfl rfl ?_
  obtain ⟨ho, H⟩ := H
  refine g_call hk rfl rfl i_k249.1 ⟨rfl, rfl⟩ rfl (i_rcv_v ho rfl (by decide)) rfl ?_
  exact H.mono (fun v h2 q => by obtain ⟨r, rfl, q⟩ := q; exact q)
theorem b306_6 {x0 : Nat} {x1 : Int32} {x2 : Int32} {x3 : Option Value} {x4 : Option Value} {x5 : Option Value} {x6 : Option Value} {x7 : Option Value} {s0 : Int32} {h : iH} {Q : Option Value → iH → Prop} (H : ((s0 = 0 → i_P i_MT i_AT L xs 306 34 [some (.ref x0), some (.int x1), some (.int x2), x3, x4, x5, x6, x7] [] h 0 0 Q) ∧ (¬ (s0 = 0) → (i_obj? h x0 12 ∧ i_C i_MT i_AT L xs 249 [.ref x0, .long (x2.toInt64)] h (fun v h1 => ∃ r2 : Int32, v = some (.int r2) ∧ i_P i_MT i_AT L xs 306 15 [some (.ref x0), some (.int x1), some (.int x2), x3, x4, x5, x6, x7] [.int r2] h1 0 0 Q))))) : i_P i_MT i_AT L xs 306 6 [some (.ref x0), some (.int x1), some (.int x2), x3, x4, x5, x6, x7] [.int s0] h 0 0 Q := by
  have hk := i_k306
  refine g_if_eq hk rfl (fun hc => ?_) (fun hc => ?_)
  · have H := H.1 hc
    exact H
  · have H := H.2 hc
    refine g_s1 (pc2 := 10) hk rfl rfl rfl rfl rfl ?_
    refine g_s1 (pc2 := 11) hk rfl rfl rfl rfl rfl ?_
    refine g_s1 (pc2 := 12) hk rfl rfl rfl rfl rfl ?_
    obtain ⟨ho, H⟩ := H
    refine g_call hk rfl rfl i_k249.1 ⟨rfl, rfl⟩ rfl (i_rcv_v ho rfl (by decide)) rfl ?_
    exact H.mono (fun v h2 q => by obtain ⟨r, rfl, q⟩ := q; exact q)
theorem b306_15 {x0 : Nat} {x1 : Int32} {x2 : Int32} {x3 : Option Value} {x4 : Option Value} {x5 : Option Value} {x6 : Option Value} {x7 : Option Value} {s0 : Int32} {h : iH} {Q : Option Value → iH → Prop} (H : ((s0 = 0 → i_P i_MT i_AT L xs 306 34 [some (.ref x0), some (.int x1), some (.int x2), x3, x4, x5, x6, x7] [] h 0 0 Q) ∧ (¬ (s0 = 0) → (i_obj? h x0 12 ∧ i_C i_MT i_AT L xs 250 [.ref x0, .int x1] h (fun v h1 => ∃ r2 : Int32, v = some (.int r2) ∧ i_P i_MT i_AT L xs 306 23 [some (.ref x0), some (.int x1), some (.int x2), x3, x4, x5, x6, x7] [.int r2] h1 0 0 Q))))) : i_P i_MT i_AT L xs 306 15 [some (.ref x0), some (.int x1), some (.int x2), x3, x4, x5, x6, x7] [.int s0] h 0 0 Q := by
  have hk := i_k306
  refine g_if_eq hk rfl (fun hc => ?_) (fun hc => ?_)
  · have H := H.1 hc
    exact H
  · have H := H.2 hc
    refine g_s1 (pc2 := 19) hk rfl rfl rfl rfl rfl ?_
    refine g_s1 (pc2 := 20) hk rfl rfl rfl rfl rfl ?_
    obtain ⟨ho, H⟩ := H
    refine g_call hk rfl rfl i_k250.1 ⟨rfl, rfl⟩ rfl (i_rcv_v ho rfl (by decide)) rfl ?_
    exact H.mono (fun v h2 q => by obtain ⟨r, rfl, q⟩ := q; exact q)
theorem b306_23 {x0 : Nat} {x1 : Int32} {x2 : Int32} {x3 : Option Value} {x4 : Option Value} {x5 : Option Value} {x6 : Option Value} {x7 : Option Value} {s0 : Int32} {h : iH} {Q : Option Value → iH → Prop} (H : ((s0 = 0 → i_P i_MT i_AT L xs 306 34 [some (.ref x0), some (.int x1), some (.int x2), x3, x4, x5, x6, x7] [] h 0 0 Q) ∧ (¬ (s0 = 0) → (i_obj? h x0 12 ∧ i_C i_MT i_AT L xs 250 [.ref x0, .int x2] h (fun v h1 => ∃ r2 : Int32, v = some (.int r2) ∧ i_P i_MT i_AT L xs 306 31 [some (.ref x0), some (.int x1), some (.int x2), x3, x4, x5, x6, x7] [.int r2] h1 0 0 Q))))) : i_P i_MT i_AT L xs 306 23 [some (.ref x0), some (.int x1), some (.int x2), x3, x4, x5, x6, x7] [.int s0] h 0 0 Q := by
  have hk := i_k306
  refine g_if_eq hk rfl (fun hc => ?_) (fun hc => ?_)
  · have H := H.1 hc
    exact H
  · have H := H.2 hc
    refine g_s1 (pc2 := 27) hk rfl rfl rfl rfl rfl ?_
    refine g_s1 (pc2 := 28) hk rfl rfl rfl rfl rfl ?_
    obtain ⟨ho, H⟩ := H
    refine g_call hk rfl rfl i_k250.1 ⟨rfl, rfl⟩ rfl (i_rcv_v ho rfl (by decide)) rfl ?_
    exact H.mono (fun v h2 q => by obtain ⟨r, rfl, q⟩ := q; exact q)
theorem b306_31 {x0 : Nat} {x1 : Int32} {x2 : Int32} {x3 : Option Value} {x4 : Option Value} {x5 : Option Value} {x6 : Option Value} {x7 : Option Value} {s0 : Int32} {h : iH} {Q : Option Value → iH → Prop} (H : ((¬ s0 = 0 → (i_obj? h x0 12 ∧ i_C i_MT i_AT L xs 248 [.ref x0] h (fun v h1 => ∃ r2 : Int32, v = some (.int r2) ∧ i_P i_MT i_AT L xs 306 44 [some (.ref x0), some (.int x1), some (.int x2), x3, x4, x5, x6, x7] [.int r2] h1 0 0 Q))) ∧ (¬ (¬ s0 = 0) → i_P i_MT i_AT L xs 306 34 [some (.ref x0), some (.int x1), some (.int x2), x3, x4, x5, x6, x7] [] h 0 0 Q))) : i_P i_MT i_AT L xs 306 31 [some (.ref x0), some (.int x1), some (.int x2), x3, x4, x5, x6, x7] [.int s0] h 0 0 Q := by
  have hk := i_k306
  refine g_if_ne hk rfl (fun hc => ?_) (fun hc => ?_)
  · have H := H.1 hc
    refine g_s1 (pc2 := 41) hk rfl rfl rfl rfl rfl ?_
    obtain ⟨ho, H⟩ := H
    refine g_call hk rfl rfl i_k248.1 ⟨rfl, rfl⟩ rfl (i_rcv_v ho rfl (by decide)) rfl ?_
    exact H.mono (fun v h2 q => by obtain ⟨r, rfl, q⟩ := q; exact q)
  · have H := H.2 hc
    exact H
theorem b306_34 {x0 : Nat} {x1 : Int32} {x2 : Int32} {x3 : Option Value} {x4 : Option Value} {x5 : Option Value} {x6 : Option Value} {x7 : Option Value} {h : iH} {Q : Option Value → iH → Prop} (H : (i_obj? h x0 12 ∧ i_C i_MT i_AT L xs 201 [.ref x0, .int (1 : Int32)] h (fun v h1 => ∃ r2 : Int32, v = some (.int r2) ∧ i_P i_MT i_AT L xs 306 39 [some (.ref x0), some (.int x1), some (.int x2), x3, x4, x5, x6, x7] [.int r2] h1 0 0 Q))) : i_P i_MT i_AT L xs 306 34 [some (.ref x0), some (.int x1), some (.int x2), x3, x4, x5, x6, x7] [] h 0 0 Q := by
  have hk := i_k306
  refine g_s1 (pc2 := 35) hk rfl rfl rfl rfl rfl ?_
  refine g_s1 (pc2 := 36) (st2 := [.int (1 : Int32), .ref x0]) hk rfl rfl rfl rfl rfl ?_
  obtain ⟨ho, H⟩ := H
  refine g_call hk rfl rfl i_k201.1 ⟨rfl, rfl⟩ rfl (i_rcv_v ho rfl (by decide)) rfl ?_
  exact H.mono (fun v h2 q => by obtain ⟨r, rfl, q⟩ := q; exact q)
theorem b306_39 {x0 : Nat} {x1 : Int32} {x2 : Int32} {x3 : Option Value} {x4 : Option Value} {x5 : Option Value} {x6 : Option Value} {x7 : Option Value} {s0 : Int32} {h : iH} {Q : Option Value → iH → Prop} (H : Q (some (.int s0)) h) : i_P i_MT i_AT L xs 306 39 [some (.ref x0), some (.int x1), some (.int x2), x3, x4, x5, x6, x7] [.int s0] h 0 0 Q := by
  have hk := i_k306
  exact g_ireturn hk rfl (by decide) (by decide) rfl H
theorem b306_44 {x0 : Nat} {x1 : Int32} {x2 : Int32} {x3 : Option Value} {x4 : Option Value} {x5 : Option Value} {x6 : Option Value} {x7 : Option Value} {s0 : Int32} {h : iH} {Q : Option Value → iH → Prop} (H : i_P i_MT i_AT L xs 306 48 [some (.ref x0), some (.int x1), some (.int x2), some (.int s0), some (.int (0 : Int32)), x5, x6, x7] [] h 0 0 Q) : i_P i_MT i_AT L xs 306 44 [some (.ref x0), some (.int x1), some (.int x2), x3, x4, x5, x6, x7] [.int s0] h 0 0 Q := by
  have hk := i_k306
  refine g_s1 (pc2 := 45) (lo2 := [some (.ref x0), some (.int x1), some (.int x2), some (.int s0), x4, x5, x6, x7]) hk rfl rfl rfl rfl rfl ?_
  refine g_s1 (pc2 := 46) (st2 := [.int (0 : Int32)]) hk rfl rfl rfl rfl rfl ?_
  refine g_s1 (pc2 := 48) (lo2 := [some (.ref x0), some (.int x1), some (.int x2), some (.int s0), some (.int (0 : Int32)), x5, x6, x7]) hk rfl rfl rfl rfl rfl ?_
  exact H
theorem b306_48 {x0 : Nat} {x1 : Int32} {x2 : Int32} {x3 : Int32} {x4 : Int32} {x5 : Option Value} {x6 : Option Value} {x7 : Option Value} {h : iH} {Q : Option Value → iH → Prop} (H : ((x3 ≤ x4 → i_P i_MT i_AT L xs 306 106 [some (.ref x0), some (.int x1), some (.int x2), some (.int x3), some (.int (1 : Int32)), some (.int (1 : Int32)), x6, x7] [] h 0 0 Q) ∧ (¬ (x3 ≤ x4) → i_P i_MT i_AT L xs 306 57 [some (.ref x0), some (.int x1), some (.int x2), some (.int x3), some (.int x4), some (.int (0 : Int32)), x6, x7] [] h 0 0 Q))) : i_P i_MT i_AT L xs 306 48 [some (.ref x0), some (.int x1), some (.int x2), some (.int x3), some (.int x4), x5, x6, x7] [] h 0 0 Q := by
  have hk := i_k306
  refine g_s1 (pc2 := 50) hk rfl rfl rfl rfl rfl ?_
  refine g_s1 (pc2 := 51) hk rfl rfl rfl rfl rfl ?_
  refine g_icmp_ge hk rfl (fun hc => ?_) (fun hc => ?_)
  · have H := H.1 hc
    refine g_s1 (pc2 := 101) (st2 := [.int (1 : Int32)]) hk rfl rfl rfl rfl rfl ?_
    refine g_s1 (pc2 := 103) (lo2 := [some (.ref x0), some (.int x1), some (.int x2), some (.int x3), some (.int (1 : Int32)), x5, x6, x7]) hk rfl rfl rfl rfl rfl ?_
    refine g_s1 (pc2 := 104) (st2 := [.int (1 : Int32)]) hk rfl rfl rfl rfl rfl ?_
    refine g_s1 (pc2 := 106) (lo2 := [some (.ref x0), some (.int x1), some (.int x2), some (.int x3), some (.int (1 : Int32)), some (.int (1 : Int32)), x6, x7]) hk rfl rfl rfl rfl rfl ?_
    exact H
  · have H := H.2 hc
    refine g_s1 (pc2 := 55) (st2 := [.int (0 : Int32)]) hk rfl rfl rfl rfl rfl ?_
    refine g_s1 (pc2 := 57) (lo2 := [some (.ref x0), some (.int x1), some (.int x2), some (.int x3), some (.int x4), some (.int (0 : Int32)), x6, x7]) hk rfl rfl rfl rfl rfl ?_
    exact H
theorem b306_57 {x0 : Nat} {x1 : Int32} {x2 : Int32} {x3 : Int32} {x4 : Int32} {x5 : Int32} {x6 : Option Value} {x7 : Option Value} {h : iH} {Q : Option Value → iH → Prop} (H : ((x3 ≤ x5 → i_P i_MT i_AT L xs 306 48 [some (.ref x0), some (.int x1), some (.int x2), some (.int x3), some (.int (x4 + 1)), some (.int x5), x6, x7] [] h 0 0 Q) ∧ (¬ (x3 ≤ x5) → (∃ v1 : Nat, i_fld h x0 12 48 = some (.ref v1) ∧ ((¬ x4 = x5 → i_P i_MT i_AT L xs 306 87 [some (.ref x0), some (.int x1), some (.int x2), some (.int x3), some (.int x4), some (.int x5), x6, x7] [.int (-1 : Int32), .int (((48 : Int32) * x4) + x5), .ref v1] h 0 0 Q) ∧ (¬ (¬ x4 = x5) → i_P i_MT i_AT L xs 306 87 [some (.ref x0), some (.int x1), some (.int x2), some (.int x3), some (.int x4), some (.int x5), x6, x7] [.int (0 : Int32), .int (((48 : Int32) * x4) + x5), .ref v1] h 0 0 Q)))))) : i_P i_MT i_AT L xs 306 57 [some (.ref x0), some (.int x1), some (.int x2), some (.int x3), some (.int x4), some (.int x5), x6, x7] [] h 0 0 Q := by
  have hk := i_k306
  refine g_s1 (pc2 := 59) hk rfl rfl rfl rfl rfl ?_
  refine g_s1 (pc2 := 60) hk rfl rfl rfl rfl rfl ?_
  refine g_icmp_ge hk rfl (fun hc => ?_) (fun hc => ?_)
  · have H := H.1 hc
    refine g_s1 (pc2 := 97) (lo2 := [some (.ref x0), some (.int x1), some (.int x2), some (.int x3), some (.int (x4 + 1)), some (.int x5), x6, x7]) hk rfl rfl rfl rfl rfl ?_
    refine g_s1 (pc2 := 48) hk rfl rfl rfl rfl rfl ?_
    exact H
  · have H := H.2 hc
    refine g_s1 (pc2 := 64) hk rfl rfl rfl rfl rfl ?_
    obtain ⟨v1, ev1, H⟩ := H
    refine g_step (pc2 := 67) hk rfl rfl rfl (s_get ev1) ?_
    refine g_s1 (pc2 := 69) (st2 := [.int (48 : Int32), .ref v1]) hk rfl rfl rfl rfl rfl ?_
    refine g_s1 (pc2 := 71) hk rfl rfl rfl rfl rfl ?_
    refine g_s1 (pc2 := 72) hk rfl rfl rfl rfl rfl ?_
    refine g_s1 (pc2 := 74) hk rfl rfl rfl rfl rfl ?_
    refine g_s1 (pc2 := 75) hk rfl rfl rfl rfl rfl ?_
    refine g_s1 (pc2 := 77) hk rfl rfl rfl rfl rfl ?_
    refine g_s1 (pc2 := 79) hk rfl rfl rfl rfl rfl ?_
    refine g_icmp_ne hk rfl (fun hc => ?_) (fun hc => ?_)
    · have H := H.1 hc
      refine g_s1 (pc2 := 87) (st2 := [.int (-1 : Int32), .int (((48 : Int32) * x4) + x5), .ref v1]) hk rfl rfl rfl rfl rfl ?_
      exact H
    · have H := H.2 hc
      refine g_s1 (pc2 := 83) (st2 := [.int (0 : Int32), .int (((48 : Int32) * x4) + x5), .ref v1]) hk rfl rfl rfl rfl rfl ?_
      refine g_s1 (pc2 := 87) hk rfl rfl rfl rfl rfl ?_
      exact H
theorem b306_87 {x0 : Nat} {x1 : Int32} {x2 : Int32} {x3 : Int32} {x4 : Int32} {x5 : Int32} {x6 : Option Value} {x7 : Option Value} {s0 : Nat} {s1 : Int32} {s2 : Int32} {h : iH} {Q : Option Value → iH → Prop} (H : (∃ (n1 : Nat) (f2 : Nat → Int32), i_arI h 0 s0 = some (n1, f2) ∧ ¬ (s1 < 0 ∨ n1 ≤ s1.toNatClampNeg) ∧ i_P i_MT i_AT L xs 306 88 [some (.ref x0), some (.int x1), some (.int x2), some (.int x3), some (.int x4), some (.int x5), x6, x7] [] (i_siI h s0 s1.toNatClampNeg s2) 0 0 Q)) : i_P i_MT i_AT L xs 306 87 [some (.ref x0), some (.int x1), some (.int x2), some (.int x3), some (.int x4), some (.int x5), x6, x7] [.int s2, .int s1, .ref s0] h 0 0 Q := by
  have hk := i_k306
  obtain ⟨n1, f2, ef2, hi, H⟩ := H
  refine g_step (pc2 := 88) hk rfl rfl rfl (s_aput ef2 hi) ?_
  exact H
theorem b306_88 {x0 : Nat} {x1 : Int32} {x2 : Int32} {x3 : Int32} {x4 : Int32} {x5 : Int32} {x6 : Option Value} {x7 : Option Value} {h : iH} {Q : Option Value → iH → Prop} (H : i_P i_MT i_AT L xs 306 57 [some (.ref x0), some (.int x1), some (.int x2), some (.int x3), some (.int x4), some (.int (x5 + 1)), x6, x7] [] h 0 0 Q) : i_P i_MT i_AT L xs 306 88 [some (.ref x0), some (.int x1), some (.int x2), some (.int x3), some (.int x4), some (.int x5), x6, x7] [] h 0 0 Q := by
  have hk := i_k306
  refine g_s1 (pc2 := 91) (lo2 := [some (.ref x0), some (.int x1), some (.int x2), some (.int x3), some (.int x4), some (.int (x5 + 1)), x6, x7]) hk rfl rfl rfl rfl rfl ?_
  refine g_s1 (pc2 := 57) hk rfl rfl rfl rfl rfl ?_
  exact H
theorem b306_106 {x0 : Nat} {x1 : Int32} {x2 : Int32} {x3 : Int32} {x4 : Int32} {x5 : Int32} {x6 : Option Value} {x7 : Option Value} {h : iH} {Q : Option Value → iH → Prop} (H : ((x4 = 0 → i_P i_MT i_AT L xs 306 234 [some (.ref x0), some (.int x1), some (.int x2), some (.int x3), some (.int x4), some (.int x5), x6, x7] [] h 0 0 Q) ∧ (¬ (x4 = 0) → (∃ v1 : Nat, i_fld h x0 12 48 = some (.ref v1) ∧ (∃ (n2 : Nat) (f3 : Nat → Int32), i_arI h 0 v1 = some (n2, f3) ∧ ¬ ((((48 : Int32) * x1) + x2) < 0 ∨ n2 ≤ (((48 : Int32) * x1) + x2).toNatClampNeg) ∧ ((¬ (f3 (((48 : Int32) * x1) + x2).toNatClampNeg) = (-1 : Int32) → i_P i_MT i_AT L xs 306 234 [some (.ref x0), some (.int x1), some (.int x2), some (.int x3), some (.int x4), some (.int x5), x6, x7] [] h 0 0 Q) ∧ (¬ (¬ (f3 (((48 : Int32) * x1) + x2).toNatClampNeg) = (-1 : Int32)) → i_P i_MT i_AT L xs 306 132 [some (.ref x0), some (.int x1), some (.int x2), some (.int x3), some (.int (0 : Int32)), some (.int x5), some (.int (0 : Int32)), x7] [] h 0 0 Q))))))) : i_P i_MT i_AT L xs 306 106 [some (.ref x0), some (.int x1), some (.int x2), some (.int x3), some (.int x4), some (.int x5), x6, x7] [] h 0 0 Q := by
  have hk := i_k306
  refine g_s1 (pc2 := 108) hk rfl rfl rfl rfl rfl ?_
  refine g_if_eq hk rfl (fun hc => ?_) (fun hc => ?_)
  · have H := H.1 hc
    exact H
  · have H := H.2 hc
    refine g_s1 (pc2 := 112) hk rfl rfl rfl rfl rfl ?_
    obtain ⟨v1, ev1, H⟩ := H
    refine g_step (pc2 := 115) hk rfl rfl rfl (s_get ev1) ?_
    refine g_s1 (pc2 := 117) (st2 := [.int (48 : Int32), .ref v1]) hk rfl rfl rfl rfl rfl ?_
    refine g_s1 (pc2 := 118) hk rfl rfl rfl rfl rfl ?_
    refine g_s1 (pc2 := 119) hk rfl rfl rfl rfl rfl ?_
    refine g_s1 (pc2 := 120) hk rfl rfl rfl rfl rfl ?_
    refine g_s1 (pc2 := 121) hk rfl rfl rfl rfl rfl ?_
    obtain ⟨n2, f3, ef3, hi, H⟩ := H
    refine g_step (pc2 := 122) hk rfl rfl rfl (s_aget (L := L) (xs := xs) ef3 hi) ?_
    refine g_s1 (pc2 := 123) (st2 := [.int (-1 : Int32), .int (f3 (((48 : Int32) * x1) + x2).toNatClampNeg)]) hk rfl rfl rfl rfl rfl ?_
    refine g_icmp_ne hk rfl (fun hc => ?_) (fun hc => ?_)
    · have H := H.1 hc
      exact H
    · have H := H.2 hc
      refine g_s1 (pc2 := 127) (st2 := [.int (0 : Int32)]) hk rfl rfl rfl rfl rfl ?_
      refine g_s1 (pc2 := 129) (lo2 := [some (.ref x0), some (.int x1), some (.int x2), some (.int x3), some (.int (0 : Int32)), some (.int x5), x6, x7]) hk rfl rfl rfl rfl rfl ?_
      refine g_s1 (pc2 := 130) (st2 := [.int (0 : Int32)]) hk rfl rfl rfl rfl rfl ?_
      refine g_s1 (pc2 := 132) (lo2 := [some (.ref x0), some (.int x1), some (.int x2), some (.int x3), some (.int (0 : Int32)), some (.int x5), some (.int (0 : Int32)), x7]) hk rfl rfl rfl rfl rfl ?_
      exact H
theorem b306_132 {x0 : Nat} {x1 : Int32} {x2 : Int32} {x3 : Int32} {x4 : Int32} {x5 : Int32} {x6 : Int32} {x7 : Option Value} {h : iH} {Q : Option Value → iH → Prop} (H : ((x3 ≤ x6 → i_P i_MT i_AT L xs 306 106 [some (.ref x0), some (.int x1), some (.int x2), some (.int x3), some (.int x4), some (.int (x5 + 1)), some (.int x6), x7] [] h 0 0 Q) ∧ (¬ (x3 ≤ x6) → i_P i_MT i_AT L xs 306 141 [some (.ref x0), some (.int x1), some (.int x2), some (.int x3), some (.int x4), some (.int x5), some (.int x6), some (.int (0 : Int32))] [] h 0 0 Q))) : i_P i_MT i_AT L xs 306 132 [some (.ref x0), some (.int x1), some (.int x2), some (.int x3), some (.int x4), some (.int x5), some (.int x6), x7] [] h 0 0 Q := by
  have hk := i_k306
  refine g_s1 (pc2 := 134) hk rfl rfl rfl rfl rfl ?_
  refine g_s1 (pc2 := 135) hk rfl rfl rfl rfl rfl ?_
  refine g_icmp_ge hk rfl (fun hc => ?_) (fun hc => ?_)
  · have H := H.1 hc
    refine g_s1 (pc2 := 231) (lo2 := [some (.ref x0), some (.int x1), some (.int x2), some (.int x3), some (.int x4), some (.int (x5 + 1)), some (.int x6), x7]) hk rfl rfl rfl rfl rfl ?_
    refine g_s1 (pc2 := 106) hk rfl rfl rfl rfl rfl ?_
    exact H
  · have H := H.2 hc
    refine g_s1 (pc2 := 139) (st2 := [.int (0 : Int32)]) hk rfl rfl rfl rfl rfl ?_
    refine g_s1 (pc2 := 141) (lo2 := [some (.ref x0), some (.int x1), some (.int x2), some (.int x3), some (.int x4), some (.int x5), some (.int x6), some (.int (0 : Int32))]) hk rfl rfl rfl rfl rfl ?_
    exact H
theorem b306_141 {x0 : Nat} {x1 : Int32} {x2 : Int32} {x3 : Int32} {x4 : Int32} {x5 : Int32} {x6 : Int32} {x7 : Int32} {h : iH} {Q : Option Value → iH → Prop} (H : ((x3 ≤ x7 → i_P i_MT i_AT L xs 306 132 [some (.ref x0), some (.int x1), some (.int x2), some (.int x3), some (.int x4), some (.int x5), some (.int (x6 + 1)), some (.int x7)] [] h 0 0 Q) ∧ (¬ (x3 ≤ x7) → (i_obj? h x0 12 ∧ i_C i_MT i_AT L xs 250 [.ref x0, .int x6] h (fun v h1 => ∃ r2 : Int32, v = some (.int r2) ∧ i_P i_MT i_AT L xs 306 153 [some (.ref x0), some (.int x1), some (.int x2), some (.int x3), some (.int x4), some (.int x5), some (.int x6), some (.int x7)] [.int r2] h1 0 0 Q))))) : i_P i_MT i_AT L xs 306 141 [some (.ref x0), some (.int x1), some (.int x2), some (.int x3), some (.int x4), some (.int x5), some (.int x6), some (.int x7)] [] h 0 0 Q := by
  have hk := i_k306
  refine g_s1 (pc2 := 143) hk rfl rfl rfl rfl rfl ?_
  refine g_s1 (pc2 := 144) hk rfl rfl rfl rfl rfl ?_
  refine g_icmp_ge hk rfl (fun hc => ?_) (fun hc => ?_)
  · have H := H.1 hc
    refine g_s1 (pc2 := 225) (lo2 := [some (.ref x0), some (.int x1), some (.int x2), some (.int x3), some (.int x4), some (.int x5), some (.int (x6 + 1)), some (.int x7)]) hk rfl rfl rfl rfl rfl ?_
    refine g_s1 (pc2 := 132) hk rfl rfl rfl rfl rfl ?_
    exact H
  · have H := H.2 hc
    refine g_s1 (pc2 := 148) hk rfl rfl rfl rfl rfl ?_
    refine g_s1 (pc2 := 150) hk rfl rfl rfl rfl rfl ?_
    obtain ⟨ho, H⟩ := H
    refine g_call hk rfl rfl i_k250.1 ⟨rfl, rfl⟩ rfl (i_rcv_v ho rfl (by decide)) rfl ?_
    exact H.mono (fun v h2 q => by obtain ⟨r, rfl, q⟩ := q; exact q)
theorem b306_153 {x0 : Nat} {x1 : Int32} {x2 : Int32} {x3 : Int32} {x4 : Int32} {x5 : Int32} {x6 : Int32} {x7 : Int32} {s0 : Int32} {h : iH} {Q : Option Value → iH → Prop} (H : ((s0 = 0 → i_P i_MT i_AT L xs 306 216 [some (.ref x0), some (.int x1), some (.int x2), some (.int x3), some (.int x4), some (.int x5), some (.int x6), some (.int x7)] [] h 0 0 Q) ∧ (¬ (s0 = 0) → (i_obj? h x0 12 ∧ i_C i_MT i_AT L xs 250 [.ref x0, .int x7] h (fun v h1 => ∃ r2 : Int32, v = some (.int r2) ∧ i_P i_MT i_AT L xs 306 162 [some (.ref x0), some (.int x1), some (.int x2), some (.int x3), some (.int x4), some (.int x5), some (.int x6), some (.int x7)] [.int r2] h1 0 0 Q))))) : i_P i_MT i_AT L xs 306 153 [some (.ref x0), some (.int x1), some (.int x2), some (.int x3), some (.int x4), some (.int x5), some (.int x6), some (.int x7)] [.int s0] h 0 0 Q := by
  have hk := i_k306
  refine g_if_eq hk rfl (fun hc => ?_) (fun hc => ?_)
  · have H := H.1 hc
    exact H
  · have H := H.2 hc
    refine g_s1 (pc2 := 157) hk rfl rfl rfl rfl rfl ?_
    refine g_s1 (pc2 := 159) hk rfl rfl rfl rfl rfl ?_
    obtain ⟨ho, H⟩ := H
    refine g_call hk rfl rfl i_k250.1 ⟨rfl, rfl⟩ rfl (i_rcv_v ho rfl (by decide)) rfl ?_
    exact H.mono (fun v h2 q => by obtain ⟨r, rfl, q⟩ := q; exact q)
theorem b306_162 {x0 : Nat} {x1 : Int32} {x2 : Int32} {x3 : Int32} {x4 : Int32} {x5 : Int32} {x6 : Int32} {x7 : Int32} {s0 : Int32} {h : iH} {Q : Option Value → iH → Prop} (H : ((s0 = 0 → i_P i_MT i_AT L xs 306 216 [some (.ref x0), some (.int x1), some (.int x2), some (.int x3), some (.int x4), some (.int x5), some (.int x6), some (.int x7)] [] h 0 0 Q) ∧ (¬ (s0 = 0) → (∃ v1 : Nat, i_fld h x0 12 48 = some (.ref v1) ∧ (∃ (n2 : Nat) (f3 : Nat → Int32), i_arI h 0 v1 = some (n2, f3) ∧ ¬ ((((48 : Int32) * x6) + x7) < 0 ∨ n2 ≤ (((48 : Int32) * x6) + x7).toNatClampNeg) ∧ ((¬ (f3 (((48 : Int32) * x6) + x7).toNatClampNeg) = (-1 : Int32) → i_P i_MT i_AT L xs 306 216 [some (.ref x0), some (.int x1), some (.int x2), some (.int x3), some (.int x4), some (.int x5), some (.int x6), some (.int x7)] [] h 0 0 Q) ∧ (¬ (¬ (f3 (((48 : Int32) * x6) + x7).toNatClampNeg) = (-1 : Int32)) → (i_obj? h x0 12 ∧ i_C i_MT i_AT L xs 305 [.ref x0, .int x6, .int x7, .int x5] h (fun v h4 => ∃ r5 : Int32, v = some (.int r5) ∧ i_P i_MT i_AT L xs 306 192 [some (.ref x0), some (.int x1), some (.int x2), some (.int x3), some (.int x4), some (.int x5), some (.int x6), some (.int x7)] [.int r5] h4 0 0 Q))))))))) : i_P i_MT i_AT L xs 306 162 [some (.ref x0), some (.int x1), some (.int x2), some (.int x3), some (.int x4), some (.int x5), some (.int x6), some (.int x7)] [.int s0] h 0 0 Q := by
  have hk := i_k306
  refine g_if_eq hk rfl (fun hc => ?_) (fun hc => ?_)
  · have H := H.1 hc
    exact H
  · have H := H.2 hc
    refine g_s1 (pc2 := 166) hk rfl rfl rfl rfl rfl ?_
    obtain ⟨v1, ev1, H⟩ := H
    refine g_step (pc2 := 169) hk rfl rfl rfl (s_get ev1) ?_
    refine g_s1 (pc2 := 171) (st2 := [.int (48 : Int32), .ref v1]) hk rfl rfl rfl rfl rfl ?_
    refine g_s1 (pc2 := 173) hk rfl rfl rfl rfl rfl ?_
    refine g_s1 (pc2 := 174) hk rfl rfl rfl rfl rfl ?_
    refine g_s1 (pc2 := 176) hk rfl rfl rfl rfl rfl ?_
    refine g_s1 (pc2 := 177) hk rfl rfl rfl rfl rfl ?_
    obtain ⟨n2, f3, ef3, hi, H⟩ := H
    refine g_step (pc2 := 178) hk rfl rfl rfl (s_aget (L := L) (xs := xs) ef3 hi) ?_
    refine g_s1 (pc2 := 179) (st2 := [.int (-1 : Int32), .int (f3 (((48 : Int32) * x6) + x7).toNatClampNeg)]) hk rfl rfl rfl rfl rfl ?_
    refine g_icmp_ne hk rfl (fun hc => ?_) (fun hc => ?_)
    · have H := H.1 hc
      exact H
    · have H := H.2 hc
      refine g_s1 (pc2 := 183) hk rfl rfl rfl rfl rfl ?_
      refine g_s1 (pc2 := 185) hk rfl rfl rfl rfl rfl ?_
      refine g_s1 (pc2 := 187) hk rfl rfl rfl rfl rfl ?_
      refine g_s1 (pc2 := 189) hk rfl rfl rfl rfl rfl ?_
      obtain ⟨ho, H⟩ := H
      refine g_call hk rfl rfl i_k305.1 ⟨rfl, rfl⟩ rfl (i_rcv_v ho rfl (by decide)) rfl ?_
      exact H.mono (fun v h2 q => by obtain ⟨r, rfl, q⟩ := q; exact q)
theorem b306_192 {x0 : Nat} {x1 : Int32} {x2 : Int32} {x3 : Int32} {x4 : Int32} {x5 : Int32} {x6 : Int32} {x7 : Int32} {s0 : Int32} {h : iH} {Q : Option Value → iH → Prop} (H : ((¬ s0 = 0 → (∃ v1 : Nat, i_fld h x0 12 48 = some (.ref v1) ∧ (∃ (n2 : Nat) (f3 : Nat → Int32), i_arI h 0 v1 = some (n2, f3) ∧ ¬ ((((48 : Int32) * x6) + x7) < 0 ∨ n2 ≤ (((48 : Int32) * x6) + x7).toNatClampNeg) ∧ i_P i_MT i_AT L xs 306 213 [some (.ref x0), some (.int x1), some (.int x2), some (.int x3), some (.int x4), some (.int x5), some (.int x6), some (.int x7)] [] (i_siI h v1 (((48 : Int32) * x6) + x7).toNatClampNeg x5) 0 0 Q))) ∧ (¬ (¬ s0 = 0) → i_P i_MT i_AT L xs 306 216 [some (.ref x0), some (.int x1), some (.int x2), some (.int x3), some (.int x4), some (.int x5), some (.int x6), some (.int x7)] [] h 0 0 Q))) : i_P i_MT i_AT L xs 306 192 [some (.ref x0), some (.int x1), some (.int x2), some (.int x3), some (.int x4), some (.int x5), some (.int x6), some (.int x7)] [.int s0] h 0 0 Q := by
  have hk := i_k306
  refine g_if_ne hk rfl (fun hc => ?_) (fun hc => ?_)
  · have H := H.1 hc
    refine g_s1 (pc2 := 199) hk rfl rfl rfl rfl rfl ?_
    obtain ⟨v1, ev1, H⟩ := H
    refine g_step (pc2 := 202) hk rfl rfl rfl (s_get ev1) ?_
    refine g_s1 (pc2 := 204) (st2 := [.int (48 : Int32), .ref v1]) hk rfl rfl rfl rfl rfl ?_
    refine g_s1 (pc2 := 206) hk rfl rfl rfl rfl rfl ?_
    refine g_s1 (pc2 := 207) hk rfl rfl rfl rfl rfl ?_
    refine g_s1 (pc2 := 209) hk rfl rfl rfl rfl rfl ?_
    refine g_s1 (pc2 := 210) hk rfl rfl rfl rfl rfl ?_
    refine g_s1 (pc2 := 212) hk rfl rfl rfl rfl rfl ?_
    obtain ⟨n2, f3, ef3, hi, H⟩ := H
    refine g_step (pc2 := 213) hk rfl rfl rfl (s_aput ef3 hi) ?_
    exact H
  · have H := H.2 hc
    refine g_s1 (pc2 := 216) hk rfl rfl rfl rfl rfl ?_
    exact H
theorem b306_213 {x0 : Nat} {x1 : Int32} {x2 : Int32} {x3 : Int32} {x4 : Int32} {x5 : Int32} {x6 : Int32} {x7 : Int32} {h : iH} {Q : Option Value → iH → Prop} (H : i_P i_MT i_AT L xs 306 216 [some (.ref x0), some (.int x1), some (.int x2), some (.int x3), some (.int (1 : Int32)), some (.int x5), some (.int x6), some (.int x7)] [] h 0 0 Q) : i_P i_MT i_AT L xs 306 213 [some (.ref x0), some (.int x1), some (.int x2), some (.int x3), some (.int x4), some (.int x5), some (.int x6), some (.int x7)] [] h 0 0 Q := by
  have hk := i_k306
  refine g_s1 (pc2 := 214) (st2 := [.int (1 : Int32)]) hk rfl rfl rfl rfl rfl ?_
  refine g_s1 (pc2 := 216) (lo2 := [some (.ref x0), some (.int x1), some (.int x2), some (.int x3), some (.int (1 : Int32)), some (.int x5), some (.int x6), some (.int x7)]) hk rfl rfl rfl rfl rfl ?_
  exact H
theorem b306_216 {x0 : Nat} {x1 : Int32} {x2 : Int32} {x3 : Int32} {x4 : Int32} {x5 : Int32} {x6 : Int32} {x7 : Int32} {h : iH} {Q : Option Value → iH → Prop} (H : i_P i_MT i_AT L xs 306 141 [some (.ref x0), some (.int x1), some (.int x2), some (.int x3), some (.int x4), some (.int x5), some (.int x6), some (.int (x7 + 1))] [] h 0 0 Q) : i_P i_MT i_AT L xs 306 216 [some (.ref x0), some (.int x1), some (.int x2), some (.int x3), some (.int x4), some (.int x5), some (.int x6), some (.int x7)] [] h 0 0 Q := by
  have hk := i_k306
  refine g_s1 (pc2 := 219) (lo2 := [some (.ref x0), some (.int x1), some (.int x2), some (.int x3), some (.int x4), some (.int x5), some (.int x6), some (.int (x7 + 1))]) hk rfl rfl rfl rfl rfl ?_
  refine g_s1 (pc2 := 141) hk rfl rfl rfl rfl rfl ?_
  exact H
theorem b306_234 {x0 : Nat} {x1 : Int32} {x2 : Int32} {x3 : Int32} {x4 : Int32} {x5 : Int32} {x6 : Option Value} {x7 : Option Value} {h : iH} {Q : Option Value → iH → Prop} (H : (∃ v1 : Nat, i_fld h x0 12 48 = some (.ref v1) ∧ (∃ (n2 : Nat) (f3 : Nat → Int32), i_arI h 0 v1 = some (n2, f3) ∧ ¬ ((((48 : Int32) * x1) + x2) < 0 ∨ n2 ≤ (((48 : Int32) * x1) + x2).toNatClampNeg) ∧ ((¬ (f3 (((48 : Int32) * x1) + x2).toNatClampNeg) = (-1 : Int32) → (∃ v4 : Nat, i_fld h x0 12 48 = some (.ref v4) ∧ (∃ (n5 : Nat) (f6 : Nat → Int32), i_arI h 0 v4 = some (n5, f6) ∧ ¬ ((((48 : Int32) * x1) + x2) < 0 ∨ n5 ≤ (((48 : Int32) * x1) + x2).toNatClampNeg) ∧ (i_obj? h x0 12 ∧ i_C i_MT i_AT L xs 202 [.ref x0, .int (f6 (((48 : Int32) * x1) + x2).toNatClampNeg)] h (fun v h7 => ∃ r8 : Int32, v = some (.int r8) ∧ i_P i_MT i_AT L xs 306 273 [some (.ref x0), some (.int x1), some (.int x2), some (.int x3), some (.int x4), some (.int x5), x6, x7] [.int r8] h7 0 0 Q))))) ∧ (¬ (¬ (f3 (((48 : Int32) * x1) + x2).toNatClampNeg) = (-1 : Int32)) → (i_obj? h x0 12 ∧ i_C i_MT i_AT L xs 201 [.ref x0, .int (6 : Int32)] h (fun v h9 => ∃ r10 : Int32, v = some (.int r10) ∧ i_P i_MT i_AT L xs 306 255 [some (.ref x0), some (.int x1), some (.int x2), some (.int x3), some (.int x4), some (.int x5), x6, x7] [.int r10] h9 0 0 Q))))))) : i_P i_MT i_AT L xs 306 234 [some (.ref x0), some (.int x1), some (.int x2), some (.int x3), some (.int x4), some (.int x5), x6, x7] [] h 0 0 Q := by
  have hk := i_k306
  refine g_s1 (pc2 := 235) hk rfl rfl rfl rfl rfl ?_
  obtain ⟨v1, ev1, H⟩ := H
  refine g_step (pc2 := 238) hk rfl rfl rfl (s_get ev1) ?_
  refine g_s1 (pc2 := 240) (st2 := [.int (48 : Int32), .ref v1]) hk rfl rfl rfl rfl rfl ?_
  refine g_s1 (pc2 := 241) hk rfl rfl rfl rfl rfl ?_
  refine g_s1 (pc2 := 242) hk rfl rfl rfl rfl rfl ?_
  refine g_s1 (pc2 := 243) hk rfl rfl rfl rfl rfl ?_
  refine g_s1 (pc2 := 244) hk rfl rfl rfl rfl rfl ?_
  obtain ⟨n2, f3, ef3, hi, H⟩ := H
  refine g_step (pc2 := 245) hk rfl rfl rfl (s_aget (L := L) (xs := xs) ef3 hi) ?_
  refine g_s1 (pc2 := 246) (st2 := [.int (-1 : Int32), .int (f3 (((48 : Int32) * x1) + x2).toNatClampNeg)]) hk rfl rfl rfl rfl rfl ?_
  refine g_icmp_ne hk rfl (fun hc => ?_) (fun hc => ?_)
  · have H := H.1 hc
    refine g_s1 (pc2 := 259) hk rfl rfl rfl rfl rfl ?_
    refine g_s1 (pc2 := 260) hk rfl rfl rfl rfl rfl ?_
    obtain ⟨v4, ev4, H⟩ := H
    refine g_step (pc2 := 263) hk rfl rfl rfl (s_get ev4) ?_
    refine g_s1 (pc2 := 265) (st2 := [.int (48 : Int32), .ref v4, .ref x0]) hk rfl rfl rfl rfl rfl ?_
    refine g_s1 (pc2 := 266) hk rfl rfl rfl rfl rfl ?_
    refine g_s1 (pc2 := 267) hk rfl rfl rfl rfl rfl ?_
    refine g_s1 (pc2 := 268) hk rfl rfl rfl rfl rfl ?_
    refine g_s1 (pc2 := 269) hk rfl rfl rfl rfl rfl ?_
    obtain ⟨n5, f6, ef6, hi, H⟩ := H
    refine g_step (pc2 := 270) hk rfl rfl rfl (s_aget (L := L) (xs := xs) ef6 hi) ?_
    obtain ⟨ho, H⟩ := H
    refine g_call hk rfl rfl i_k202.1 ⟨rfl, rfl⟩ rfl (i_rcv_v ho rfl (by decide)) rfl ?_
    exact H.mono (fun v h2 q => by obtain ⟨r, rfl, q⟩ := q; exact q)
  · have H := H.2 hc
    refine g_s1 (pc2 := 250) hk rfl rfl rfl rfl rfl ?_
    refine g_s1 (pc2 := 252) (st2 := [.int (6 : Int32), .ref x0]) hk rfl rfl rfl rfl rfl ?_
    obtain ⟨ho, H⟩ := H
    refine g_call hk rfl rfl i_k201.1 ⟨rfl, rfl⟩ rfl (i_rcv_v ho rfl (by decide)) rfl ?_
    exact H.mono (fun v h2 q => by obtain ⟨r, rfl, q⟩ := q; exact q)
theorem b306_255 {x0 : Nat} {x1 : Int32} {x2 : Int32} {x3 : Int32} {x4 : Int32} {x5 : Int32} {x6 : Option Value} {x7 : Option Value} {s0 : Int32} {h : iH} {Q : Option Value → iH → Prop} (H : i_P i_MT i_AT L xs 306 273 [some (.ref x0), some (.int x1), some (.int x2), some (.int x3), some (.int x4), some (.int x5), x6, x7] [.int s0] h 0 0 Q) : i_P i_MT i_AT L xs 306 255 [some (.ref x0), some (.int x1), some (.int x2), some (.int x3), some (.int x4), some (.int x5), x6, x7] [.int s0] h 0 0 Q := by
  have hk := i_k306
  refine g_s1 (pc2 := 273) hk rfl rfl rfl rfl rfl ?_
  exact H
theorem b306_273 {x0 : Nat} {x1 : Int32} {x2 : Int32} {x3 : Int32} {x4 : Int32} {x5 : Int32} {x6 : Option Value} {x7 : Option Value} {s0 : Int32} {h : iH} {Q : Option Value → iH → Prop} (H : Q (some (.int s0)) h) : i_P i_MT i_AT L xs 306 273 [some (.ref x0), some (.int x1), some (.int x2), some (.int x3), some (.int x4), some (.int x5), x6, x7] [.int s0] h 0 0 Q := by
  have hk := i_k306
  exact g_ireturn hk rfl (by decide) (by decide) rfl H
/-! StillTownModel.bits(I)I -/
theorem e307 {x0 : Int32} {h : iH} {Q : Option Value → iH → Prop} (H : i_P i_MT i_AT L xs 307 0 [some (.int x0), none, none] [] h 0 0 Q) : i_C i_MT i_AT L xs 307 [.int x0] h Q := ⟨i_m307, i_k307.1, Nat.le_of_ble_eq_true rfl, H⟩
theorem b307_0 {x0 : Int32} {x1 : Option Value} {x2 : Option Value} {h : iH} {Q : Option Value → iH → Prop} (H : i_P i_MT i_AT L xs 307 4 [some (.int x0), some (.int (0 : Int32)), some (.int x0)] [] h 0 0 Q) : i_P i_MT i_AT L xs 307 0 [some (.int x0), x1, x2] [] h 0 0 Q := by
  have hk := i_k307
  refine g_s1 (pc2 := 1) (st2 := [.int (0 : Int32)]) hk rfl rfl rfl rfl rfl ?_
  refine g_s1 (pc2 := 2) (lo2 := [some (.int x0), some (.int (0 : Int32)), x2]) hk rfl rfl rfl rfl rfl ?_
  refine g_s1 (pc2 := 3) hk rfl rfl rfl rfl rfl ?_
  refine g_s1 (pc2 := 4) (lo2 := [some (.int x0), some (.int (0 : Int32)), some (.int x0)]) hk rfl rfl rfl rfl rfl ?_
  exact H
theorem b307_4 {x0 : Int32} {x1 : Int32} {x2 : Int32} {h : iH} {Q : Option Value → iH → Prop} (H : ((x2 = 0 → Q (some (.int x1)) h) ∧ (¬ (x2 = 0) → i_P i_MT i_AT L xs 307 4 [some (.int x0), some (.int (x1 + 1)), some (.int (x2 &&& (x2 - (1 : Int32))))] [] h 0 0 Q))) : i_P i_MT i_AT L xs 307 4 [some (.int x0), some (.int x1), some (.int x2)] [] h 0 0 Q := by
  have hk := i_k307
  refine g_s1 (pc2 := 5) hk rfl rfl rfl rfl rfl ?_
  refine g_if_eq hk rfl (fun hc => ?_) (fun hc => ?_)
  · have H := H.1 hc
    refine g_s1 (pc2 := 21) hk rfl rfl rfl rfl rfl ?_
    exact g_ireturn hk rfl (by decide) (by decide) rfl H
  · have H := H.2 hc
    refine g_s1 (pc2 := 11) (lo2 := [some (.int x0), some (.int (x1 + 1)), some (.int x2)]) hk rfl rfl rfl rfl rfl ?_
    refine g_s1 (pc2 := 12) hk rfl rfl rfl rfl rfl ?_
    refine g_s1 (pc2 := 13) hk rfl rfl rfl rfl rfl ?_
    refine g_s1 (pc2 := 14) (st2 := [.int (1 : Int32), .int x2, .int x2]) hk rfl rfl rfl rfl rfl ?_
    refine g_s1 (pc2 := 15) hk rfl rfl rfl rfl rfl ?_
    refine g_s1 (pc2 := 16) hk rfl rfl rfl rfl rfl ?_
    refine g_s1 (pc2 := 17) (lo2 := [some (.int x0), some (.int (x1 + 1)), some (.int (x2 &&& (x2 - (1 : Int32))))]) hk rfl rfl rfl rfl rfl ?_
    refine g_s1 (pc2 := 4) hk rfl rfl rfl rfl rfl ?_
    exact H
/-! StillTownModel.areLit(II)Z -/
theorem e308 {x0 : Nat} {x1 : Int32} {x2 : Int32} {h : iH} {Q : Option Value → iH → Prop} (H : i_P i_MT i_AT L xs 308 0 [some (.ref x0), some (.int x1), some (.int x2), none, none, none] [] h 0 0 Q) : i_C i_MT i_AT L xs 308 [.ref x0, .int x1, .int x2] h Q := ⟨i_m308, i_k308.1, Nat.le_of_ble_eq_true rfl, H⟩
theorem b308_0 {x0 : Nat} {x1 : Int32} {x2 : Int32} {x3 : Option Value} {x4 : Option Value} {x5 : Option Value} {h : iH} {Q : Option Value → iH → Prop} (H : i_P i_MT i_AT L xs 308 2 [some (.ref x0), some (.int x1), some (.int x2), some (.int (0 : Int32)), x4, x5] [] h 0 0 Q) : i_P i_MT i_AT L xs 308 0 [some (.ref x0), some (.int x1), some (.int x2), x3, x4, x5] [] h 0 0 Q := by
  have hk := i_k308
  refine g_s1 (pc2 := 1) (st2 := [.int (0 : Int32)]) hk rfl rfl rfl rfl rfl ?_
  refine g_s1 (pc2 := 2) (lo2 := [some (.ref x0), some (.int x1), some (.int x2), some (.int (0 : Int32)), x4, x5]) hk rfl rfl rfl rfl rfl ?_
  exact H
theorem b308_2 {x0 : Nat} {x1 : Int32} {x2 : Int32} {x3 : Int32} {x4 : Option Value} {x5 : Option Value} {h : iH} {Q : Option Value → iH → Prop} (H : (∃ v1 : Nat, i_fld h x0 12 0 = some (.ref v1) ∧ (∃ (n2 : Nat) (f3 : Nat → Int32), i_arI h 0 v1 = some (n2, f3) ∧ ¬ ((5 : Int32) < 0 ∨ n2 ≤ (5 : Int32).toNatClampNeg) ∧ (((f3 (5 : Int32).toNatClampNeg) ≤ x3 → Q (some (.int 1)) h) ∧ (¬ ((f3 (5 : Int32).toNatClampNeg) ≤ x3) → i_P i_MT i_AT L xs 308 18 [some (.ref x0), some (.int x1), some (.int x2), some (.int x3), some (.int (0 : Int32)), some (.int (0 : Int32))] [] h 0 0 Q))))) : i_P i_MT i_AT L xs 308 2 [some (.ref x0), some (.int x1), some (.int x2), some (.int x3), x4, x5] [] h 0 0 Q := by
  have hk := i_k308
  refine g_s1 (pc2 := 3) hk rfl rfl rfl rfl rfl ?_
  refine g_s1 (pc2 := 4) hk rfl rfl rfl rfl rfl ?_
  obtain ⟨v1, ev1, H⟩ := H
  refine g_step (pc2 := 7) hk rfl rfl rfl (s_get ev1) ?_
  refine g_s1 (pc2 := 8) (st2 := [.int (5 : Int32), .ref v1, .int x3]) hk rfl rfl rfl rfl rfl ?_
  obtain ⟨n2, f3, ef3, hi, H⟩ := H
  refine g_step (pc2 := 9) hk rfl rfl rfl (s_aget (L := L) (xs := xs) ef3 hi) ?_
  refine g_icmp_ge hk rfl (fun hc => ?_) (fun hc => ?_)
  · have H := H.1 hc
    refine g_s1 (pc2 := 89) (st2 := [.int (1 : Int32)]) hk rfl rfl rfl rfl rfl ?_
    exact g_ireturn hk rfl (by decide) (by decide) rfl H
  · have H := H.2 hc
    refine g_s1 (pc2 := 13) (st2 := [.int (0 : Int32)]) hk rfl rfl rfl rfl rfl ?_
    refine g_s1 (pc2 := 15) (lo2 := [some (.ref x0), some (.int x1), some (.int x2), some (.int x3), some (.int (0 : Int32)), x5]) hk rfl rfl rfl rfl rfl ?_
    refine g_s1 (pc2 := 16) (st2 := [.int (0 : Int32)]) hk rfl rfl rfl rfl rfl ?_
    refine g_s1 (pc2 := 18) (lo2 := [some (.ref x0), some (.int x1), some (.int x2), some (.int x3), some (.int (0 : Int32)), some (.int (0 : Int32))]) hk rfl rfl rfl rfl rfl ?_
    exact H
theorem b308_18 {x0 : Nat} {x1 : Int32} {x2 : Int32} {x3 : Int32} {x4 : Int32} {x5 : Int32} {h : iH} {Q : Option Value → iH → Prop} (H : (∃ v1 : Nat, i_fld h x0 12 0 = some (.ref v1) ∧ (∃ (n2 : Nat) (f3 : Nat → Int32), i_arI h 0 v1 = some (n2, f3) ∧ ¬ ((4 : Int32) < 0 ∨ n2 ≤ (4 : Int32).toNatClampNeg) ∧ (((f3 (4 : Int32).toNatClampNeg) ≤ x5 → ((x2 ≤ x4 → i_P i_MT i_AT L xs 308 2 [some (.ref x0), some (.int x1), some (.int x2), some (.int (x3 + 1)), some (.int x4), some (.int x5)] [] h 0 0 Q) ∧ (¬ (x2 ≤ x4) → Q (some (.int 0)) h))) ∧ (¬ ((f3 (4 : Int32).toNatClampNeg) ≤ x5) → ((¬ ((x1 >>> (x5 &&& 31)) &&& (1 : Int32)) = (1 : Int32) → i_P i_MT i_AT L xs 308 64 [some (.ref x0), some (.int x1), some (.int x2), some (.int x3), some (.int x4), some (.int x5)] [.int x4] h 0 0 Q) ∧ (¬ (¬ ((x1 >>> (x5 &&& 31)) &&& (1 : Int32)) = (1 : Int32)) → (∃ v4 : Nat, i_fld h x0 12 0 = some (.ref v4) ∧ (∃ (n5 : Nat) (f6 : Nat → Int32), i_arI h 0 v4 = some (n5, f6) ∧ ¬ (((106 : Int32) + x5) < 0 ∨ n5 ≤ ((106 : Int32) + x5).toNatClampNeg) ∧ (i_obj? h x0 12 ∧ i_C i_MT i_AT L xs 272 [.ref x0, .int x3, .int (f6 ((106 : Int32) + x5).toNatClampNeg), .int (0 : Int32)] h (fun v h7 => ∃ r8 : Int32, v = some (.int r8) ∧ i_P i_MT i_AT L xs 308 57 [some (.ref x0), some (.int x1), some (.int x2), some (.int x3), some (.int x4), some (.int x5)] [.int r8, .int x4] h7 0 0 Q))))))))))) : i_P i_MT i_AT L xs 308 18 [some (.ref x0), some (.int x1), some (.int x2), some (.int x3), some (.int x4), some (.int x5)] [] h 0 0 Q := by
  have hk := i_k308
  refine g_s1 (pc2 := 20) hk rfl rfl rfl rfl rfl ?_
  refine g_s1 (pc2 := 21) hk rfl rfl rfl rfl rfl ?_
  obtain ⟨v1, ev1, H⟩ := H
  refine g_step (pc2 := 24) hk rfl rfl rfl (s_get ev1) ?_
  refine g_s1 (pc2 := 25) (st2 := [.int (4 : Int32), .ref v1, .int x5]) hk rfl rfl rfl rfl rfl ?_
  obtain ⟨n2, f3, ef3, hi, H⟩ := H
  refine g_step (pc2 := 26) hk rfl rfl rfl (s_aget (L := L) (xs := xs) ef3 hi) ?_
  refine g_icmp_ge hk rfl (fun hc => ?_) (fun hc => ?_)
  · have H := H.1 hc
    refine g_s1 (pc2 := 76) hk rfl rfl rfl rfl rfl ?_
    refine g_s1 (pc2 := 77) hk rfl rfl rfl rfl rfl ?_
    refine g_icmp_ge hk rfl (fun hc => ?_) (fun hc => ?_)
    · have H := H.1 hc
      refine g_s1 (pc2 := 85) (lo2 := [some (.ref x0), some (.int x1), some (.int x2), some (.int (x3 + 1)), some (.int x4), some (.int x5)]) hk rfl rfl rfl rfl rfl ?_
      refine g_s1 (pc2 := 2) hk rfl rfl rfl rfl rfl ?_
      exact H
    · have H := H.2 hc
      refine g_s1 (pc2 := 81) (st2 := [.int (0 : Int32)]) hk rfl rfl rfl rfl rfl ?_
      exact g_ireturn hk rfl (by decide) (by decide) rfl H
  · have H := H.2 hc
    refine g_s1 (pc2 := 31) hk rfl rfl rfl rfl rfl ?_
    refine g_s1 (pc2 := 32) hk rfl rfl rfl rfl rfl ?_
    refine g_s1 (pc2 := 34) hk rfl rfl rfl rfl rfl ?_
    refine g_s1 (pc2 := 35) hk rfl rfl rfl rfl rfl ?_
    refine g_s1 (pc2 := 36) (st2 := [.int (1 : Int32), .int (x1 >>> (x5 &&& 31)), .int x4]) hk rfl rfl rfl rfl rfl ?_
    refine g_s1 (pc2 := 37) hk rfl rfl rfl rfl rfl ?_
    refine g_s1 (pc2 := 38) (st2 := [.int (1 : Int32), .int ((x1 >>> (x5 &&& 31)) &&& (1 : Int32)), .int x4]) hk rfl rfl rfl rfl rfl ?_
    refine g_icmp_ne hk rfl (fun hc => ?_) (fun hc => ?_)
    · have H := H.1 hc
      exact H
    · have H := H.2 hc
      refine g_s1 (pc2 := 42) hk rfl rfl rfl rfl rfl ?_
      refine g_s1 (pc2 := 43) hk rfl rfl rfl rfl rfl ?_
      refine g_s1 (pc2 := 44) hk rfl rfl rfl rfl rfl ?_
      obtain ⟨v4, ev4, H⟩ := H
      refine g_step (pc2 := 47) hk rfl rfl rfl (s_get ev4) ?_
      refine g_s1 (pc2 := 49) (st2 := [.int (106 : Int32), .ref v4, .int x3, .ref x0, .int x4]) hk rfl rfl rfl rfl rfl ?_
      refine g_s1 (pc2 := 51) hk rfl rfl rfl rfl rfl ?_
      refine g_s1 (pc2 := 52) hk rfl rfl rfl rfl rfl ?_
      obtain ⟨n5, f6, ef6, hi, H⟩ := H
      refine g_step (pc2 := 53) hk rfl rfl rfl (s_aget (L := L) (xs := xs) ef6 hi) ?_
      refine g_s1 (pc2 := 54) (st2 := [.int (0 : Int32), .int (f6 ((106 : Int32) + x5).toNatClampNeg), .int x3, .ref x0, .int x4]) hk rfl rfl rfl rfl rfl ?_
      obtain ⟨ho, H⟩ := H
      refine g_call hk rfl rfl i_k272.1 ⟨rfl, rfl⟩ rfl (i_rcv_v ho rfl (by decide)) rfl ?_
      exact H.mono (fun v h2 q => by obtain ⟨r, rfl, q⟩ := q; exact q)
theorem b308_57 {x0 : Nat} {x1 : Int32} {x2 : Int32} {x3 : Int32} {x4 : Int32} {x5 : Int32} {s0 : Int32} {s1 : Int32} {h : iH} {Q : Option Value → iH → Prop} (H : ((s1 = 0 → i_P i_MT i_AT L xs 308 64 [some (.ref x0), some (.int x1), some (.int x2), some (.int x3), some (.int x4), some (.int x5)] [.int s0] h 0 0 Q) ∧ (¬ (s1 = 0) → i_P i_MT i_AT L xs 308 65 [some (.ref x0), some (.int x1), some (.int x2), some (.int x3), some (.int x4), some (.int x5)] [.int (1 : Int32), .int s0] h 0 0 Q))) : i_P i_MT i_AT L xs 308 57 [some (.ref x0), some (.int x1), some (.int x2), some (.int x3), some (.int x4), some (.int x5)] [.int s1, .int s0] h 0 0 Q := by
  have hk := i_k308
  refine g_if_eq hk rfl (fun hc => ?_) (fun hc => ?_)
  · have H := H.1 hc
    exact H
  · have H := H.2 hc
    refine g_s1 (pc2 := 61) (st2 := [.int (1 : Int32), .int s0]) hk rfl rfl rfl rfl rfl ?_
    refine g_s1 (pc2 := 65) hk rfl rfl rfl rfl rfl ?_
    exact H
theorem b308_64 {x0 : Nat} {x1 : Int32} {x2 : Int32} {x3 : Int32} {x4 : Int32} {x5 : Int32} {s0 : Int32} {h : iH} {Q : Option Value → iH → Prop} (H : i_P i_MT i_AT L xs 308 65 [some (.ref x0), some (.int x1), some (.int x2), some (.int x3), some (.int x4), some (.int x5)] [.int (0 : Int32), .int s0] h 0 0 Q) : i_P i_MT i_AT L xs 308 64 [some (.ref x0), some (.int x1), some (.int x2), some (.int x3), some (.int x4), some (.int x5)] [.int s0] h 0 0 Q := by
  have hk := i_k308
  refine g_s1 (pc2 := 65) (st2 := [.int (0 : Int32), .int s0]) hk rfl rfl rfl rfl rfl ?_
  exact H
theorem b308_65 {x0 : Nat} {x1 : Int32} {x2 : Int32} {x3 : Int32} {x4 : Int32} {x5 : Int32} {s0 : Int32} {s1 : Int32} {h : iH} {Q : Option Value → iH → Prop} (H : i_P i_MT i_AT L xs 308 18 [some (.ref x0), some (.int x1), some (.int x2), some (.int x3), some (.int (s0 + s1)), some (.int (x5 + 1))] [] h 0 0 Q) : i_P i_MT i_AT L xs 308 65 [some (.ref x0), some (.int x1), some (.int x2), some (.int x3), some (.int x4), some (.int x5)] [.int s1, .int s0] h 0 0 Q := by
  have hk := i_k308
  refine g_s1 (pc2 := 66) hk rfl rfl rfl rfl rfl ?_
  refine g_s1 (pc2 := 68) (lo2 := [some (.ref x0), some (.int x1), some (.int x2), some (.int x3), some (.int (s0 + s1)), some (.int x5)]) hk rfl rfl rfl rfl rfl ?_
  refine g_s1 (pc2 := 71) (lo2 := [some (.ref x0), some (.int x1), some (.int x2), some (.int x3), some (.int (s0 + s1)), some (.int (x5 + 1))]) hk rfl rfl rfl rfl rfl ?_
  refine g_s1 (pc2 := 18) hk rfl rfl rfl rfl rfl ?_
  exact H
/-! StillTownModel.lamps(I)I -/
theorem e309 {x0 : Nat} {x1 : Int32} {h : iH} {Q : Option Value → iH → Prop} (H : i_P i_MT i_AT L xs 309 0 [some (.ref x0), some (.int x1), none, none] [] h 0 0 Q) : i_C i_MT i_AT L xs 309 [.ref x0, .int x1] h Q := ⟨i_m309, i_k309.1, Nat.le_of_ble_eq_true rfl, H⟩
theorem b309_0 {x0 : Nat} {x1 : Int32} {x2 : Option Value} {x3 : Option Value} {h : iH} {Q : Option Value → iH → Prop} (H : (i_C i_MT i_AT L xs 212 [.long (x1.toInt64), .long (0 : Int64), .long (8 : Int64)] h (fun v h1 => ∃ r2 : Int32, v = some (.int r2) ∧ i_P i_MT i_AT L xs 309 9 [some (.ref x0), some (.int x1), x2, x3] [.int r2] h1 0 0 Q))) : i_P i_MT i_AT L xs 309 0 [some (.ref x0), some (.int x1), x2, x3] [] h 0 0 Q := by
  have hk := i_k309
  refine g_s1 (pc2 := 1) hk rfl rfl rfl rfl rfl ?_
  refine g_s1 (pc2 := 2) hk rfl rfl rfl rfl rfl ?_
  refine g_s1 (pc2 := 3) (st2 := [.long (0 : Int64), .long (x1.toInt64)]) hk rfl rfl rfl rfl rfl ?_
  refine g_step (pc2 := 6) (st2 := [.long (8 : Int64), .long (0 : Int64), .long (x1.toInt64)]) hk rfl rfl rfl rfl ?_
  refine g_call hk rfl rfl i_k212.1 ⟨rfl, rfl⟩ rfl (i_rcv_0 rfl) rfl ?_
  exact H.mono (fun v h2 q => by obtain ⟨r, rfl, q⟩ := q; exact q)
theorem b309_9 {x0 : Nat} {x1 : Int32} {x2 : Option Value} {x3 : Option Value} {s0 : Int32} {h : iH} {Q : Option Value → iH → Prop} (H : ((¬ s0 = 0 → i_P i_MT i_AT L xs 309 22 [some (.ref x0), some (.int x1), some (.int (-1 : Int32)), some (.int (0 : Int32))] [] h 0 0 Q) ∧ (¬ (¬ s0 = 0) → (i_obj? h x0 12 ∧ i_C i_MT i_AT L xs 201 [.ref x0, .int (1 : Int32)] h (fun v h1 => ∃ r2 : Int32, v = some (.int r2) ∧ i_P i_MT i_AT L xs 309 17 [some (.ref x0), some (.int x1), x2, x3] [.int r2] h1 0 0 Q))))) : i_P i_MT i_AT L xs 309 9 [some (.ref x0), some (.int x1), x2, x3] [.int s0] h 0 0 Q := by
  have hk := i_k309
  refine g_if_ne hk rfl (fun hc => ?_) (fun hc => ?_)
  · have H := H.1 hc
    refine g_s1 (pc2 := 19) (st2 := [.int (-1 : Int32)]) hk rfl rfl rfl rfl rfl ?_
    refine g_s1 (pc2 := 20) (lo2 := [some (.ref x0), some (.int x1), some (.int (-1 : Int32)), x3]) hk rfl rfl rfl rfl rfl ?_
    refine g_s1 (pc2 := 21) (st2 := [.int (0 : Int32)]) hk rfl rfl rfl rfl rfl ?_
    refine g_s1 (pc2 := 22) (lo2 := [some (.ref x0), some (.int x1), some (.int (-1 : Int32)), some (.int (0 : Int32))]) hk rfl rfl rfl rfl rfl ?_
    exact H
  · have H := H.2 hc
    refine g_s1 (pc2 := 13) hk rfl rfl rfl rfl rfl ?_
    refine g_s1 (pc2 := 14) (st2 := [.int (1 : Int32), .ref x0]) hk rfl rfl rfl rfl rfl ?_
    obtain ⟨ho, H⟩ := H
    refine g_call hk rfl rfl i_k201.1 ⟨rfl, rfl⟩ rfl (i_rcv_v ho rfl (by decide)) rfl ?_
    exact H.mono (fun v h2 q => by obtain ⟨r, rfl, q⟩ := q; exact q)
theorem b309_17 {x0 : Nat} {x1 : Int32} {x2 : Option Value} {x3 : Option Value} {s0 : Int32} {h : iH} {Q : Option Value → iH → Prop} (H : Q (some (.int s0)) h) : i_P i_MT i_AT L xs 309 17 [some (.ref x0), some (.int x1), x2, x3] [.int s0] h 0 0 Q := by
  have hk := i_k309
  exact g_ireturn hk rfl (by decide) (by decide) rfl H
theorem b309_22 {x0 : Nat} {x1 : Int32} {x2 : Int32} {x3 : Int32} {h : iH} {Q : Option Value → iH → Prop} (H : (∃ v1 : Nat, i_fld h x0 12 0 = some (.ref v1) ∧ (∃ (n2 : Nat) (f3 : Nat → Int32), i_arI h 0 v1 = some (n2, f3) ∧ ¬ ((4 : Int32) < 0 ∨ n2 ≤ (4 : Int32).toNatClampNeg) ∧ ((((1 : Int32) <<< ((f3 (4 : Int32).toNatClampNeg) &&& 31)) ≤ x3 → ((¬ x2 = (-1 : Int32) → (i_obj? h x0 12 ∧ i_C i_MT i_AT L xs 202 [.ref x0, .int x2] h (fun v h4 => ∃ r5 : Int32, v = some (.int r5) ∧ i_P i_MT i_AT L xs 309 86 [some (.ref x0), some (.int x1), some (.int x2), some (.int x3)] [.int r5] h4 0 0 Q))) ∧ (¬ (¬ x2 = (-1 : Int32)) → (i_obj? h x0 12 ∧ i_C i_MT i_AT L xs 201 [.ref x0, .int (6 : Int32)] h (fun v h6 => ∃ r7 : Int32, v = some (.int r7) ∧ i_P i_MT i_AT L xs 309 78 [some (.ref x0), some (.int x1), some (.int x2), some (.int x3)] [.int r7] h6 0 0 Q))))) ∧ (¬ (((1 : Int32) <<< ((f3 (4 : Int32).toNatClampNeg) &&& 31)) ≤ x3) → (i_obj? h x0 12 ∧ i_C i_MT i_AT L xs 308 [.ref x0, .int x3, .int x1] h (fun v h8 => ∃ r9 : Int32, v = some (.int r9) ∧ i_P i_MT i_AT L xs 309 40 [some (.ref x0), some (.int x1), some (.int x2), some (.int x3)] [.int r9] h8 0 0 Q))))))) : i_P i_MT i_AT L xs 309 22 [some (.ref x0), some (.int x1), some (.int x2), some (.int x3)] [] h 0 0 Q := by
  have hk := i_k309
  refine g_s1 (pc2 := 23) hk rfl rfl rfl rfl rfl ?_
  refine g_s1 (pc2 := 24) (st2 := [.int (1 : Int32), .int x3]) hk rfl rfl rfl rfl rfl ?_
  refine g_s1 (pc2 := 25) hk rfl rfl rfl rfl rfl ?_
  obtain ⟨v1, ev1, H⟩ := H
  refine g_step (pc2 := 28) hk rfl rfl rfl (s_get ev1) ?_
  refine g_s1 (pc2 := 29) (st2 := [.int (4 : Int32), .ref v1, .int (1 : Int32), .int x3]) hk rfl rfl rfl rfl rfl ?_
  obtain ⟨n2, f3, ef3, hi, H⟩ := H
  refine g_step (pc2 := 30) hk rfl rfl rfl (s_aget (L := L) (xs := xs) ef3 hi) ?_
  refine g_s1 (pc2 := 31) hk rfl rfl rfl rfl rfl ?_
  refine g_icmp_ge hk rfl (fun hc => ?_) (fun hc => ?_)
  · have H := H.1 hc
    refine g_s1 (pc2 := 68) hk rfl rfl rfl rfl rfl ?_
    refine g_s1 (pc2 := 69) (st2 := [.int (-1 : Int32), .int x2]) hk rfl rfl rfl rfl rfl ?_
    refine g_icmp_ne hk rfl (fun hc => ?_) (fun hc => ?_)
    · have H := H.1 hc
      refine g_s1 (pc2 := 82) hk rfl rfl rfl rfl rfl ?_
      refine g_s1 (pc2 := 83) hk rfl rfl rfl rfl rfl ?_
      obtain ⟨ho, H⟩ := H
      refine g_call hk rfl rfl i_k202.1 ⟨rfl, rfl⟩ rfl (i_rcv_v ho rfl (by decide)) rfl ?_
      exact H.mono (fun v h2 q => by obtain ⟨r, rfl, q⟩ := q; exact q)
    · have H := H.2 hc
      refine g_s1 (pc2 := 73) hk rfl rfl rfl rfl rfl ?_
      refine g_s1 (pc2 := 75) (st2 := [.int (6 : Int32), .ref x0]) hk rfl rfl rfl rfl rfl ?_
      obtain ⟨ho, H⟩ := H
      refine g_call hk rfl rfl i_k201.1 ⟨rfl, rfl⟩ rfl (i_rcv_v ho rfl (by decide)) rfl ?_
      exact H.mono (fun v h2 q => by obtain ⟨r, rfl, q⟩ := q; exact q)
  · have H := H.2 hc
    refine g_s1 (pc2 := 35) hk rfl rfl rfl rfl rfl ?_
    refine g_s1 (pc2 := 36) hk rfl rfl rfl rfl rfl ?_
    refine g_s1 (pc2 := 37) hk rfl rfl rfl rfl rfl ?_
    obtain ⟨ho, H⟩ := H
    refine g_call hk rfl rfl i_k308.1 ⟨rfl, rfl⟩ rfl (i_rcv_v ho rfl (by decide)) rfl ?_
    exact H.mono (fun v h2 q => by obtain ⟨r, rfl, q⟩ := q; exact q)
theorem b309_40 {x0 : Nat} {x1 : Int32} {x2 : Int32} {x3 : Int32} {s0 : Int32} {h : iH} {Q : Option Value → iH → Prop} (H : ((s0 = 0 → i_P i_MT i_AT L xs 309 61 [some (.ref x0), some (.int x1), some (.int x2), some (.int x3)] [] h 0 0 Q) ∧ (¬ (s0 = 0) → ((x2 = (-1 : Int32) → i_P i_MT i_AT L xs 309 59 [some (.ref x0), some (.int x1), some (.int x2), some (.int x3)] [] h 0 0 Q) ∧ (¬ (x2 = (-1 : Int32)) → (i_C i_MT i_AT L xs 307 [.int x3] h (fun v h1 => ∃ r2 : Int32, v = some (.int r2) ∧ i_P i_MT i_AT L xs 309 52 [some (.ref x0), some (.int x1), some (.int x2), some (.int x3)] [.int r2] h1 0 0 Q))))))) : i_P i_MT i_AT L xs 309 40 [some (.ref x0), some (.int x1), some (.int x2), some (.int x3)] [.int s0] h 0 0 Q := by
  have hk := i_k309
  refine g_if_eq hk rfl (fun hc => ?_) (fun hc => ?_)
  · have H := H.1 hc
    exact H
  · have H := H.2 hc
    refine g_s1 (pc2 := 44) hk rfl rfl rfl rfl rfl ?_
    refine g_s1 (pc2 := 45) (st2 := [.int (-1 : Int32), .int x2]) hk rfl rfl rfl rfl rfl ?_
    refine g_icmp_eq hk rfl (fun hc => ?_) (fun hc => ?_)
    · have H := H.1 hc
      exact H
    · have H := H.2 hc
      refine g_s1 (pc2 := 49) hk rfl rfl rfl rfl rfl ?_
      refine g_call hk rfl rfl i_k307.1 ⟨rfl, rfl⟩ rfl (i_rcv_0 rfl) rfl ?_
      exact H.mono (fun v h2 q => by obtain ⟨r, rfl, q⟩ := q; exact q)
theorem b309_52 {x0 : Nat} {x1 : Int32} {x2 : Int32} {x3 : Int32} {s0 : Int32} {h : iH} {Q : Option Value → iH → Prop} (H : (i_C i_MT i_AT L xs 307 [.int x2] h (fun v h1 => ∃ r2 : Int32, v = some (.int r2) ∧ i_P i_MT i_AT L xs 309 56 [some (.ref x0), some (.int x1), some (.int x2), some (.int x3)] [.int r2, .int s0] h1 0 0 Q))) : i_P i_MT i_AT L xs 309 52 [some (.ref x0), some (.int x1), some (.int x2), some (.int x3)] [.int s0] h 0 0 Q := by
  have hk := i_k309
  refine g_s1 (pc2 := 53) hk rfl rfl rfl rfl rfl ?_
  refine g_call hk rfl rfl i_k307.1 ⟨rfl, rfl⟩ rfl (i_rcv_0 rfl) rfl ?_
  exact H.mono (fun v h2 q => by obtain ⟨r, rfl, q⟩ := q; exact q)
theorem b309_56 {x0 : Nat} {x1 : Int32} {x2 : Int32} {x3 : Int32} {s0 : Int32} {s1 : Int32} {h : iH} {Q : Option Value → iH → Prop} (H : ((s1 ≤ s0 → i_P i_MT i_AT L xs 309 61 [some (.ref x0), some (.int x1), some (.int x2), some (.int x3)] [] h 0 0 Q) ∧ (¬ (s1 ≤ s0) → i_P i_MT i_AT L xs 309 59 [some (.ref x0), some (.int x1), some (.int x2), some (.int x3)] [] h 0 0 Q))) : i_P i_MT i_AT L xs 309 56 [some (.ref x0), some (.int x1), some (.int x2), some (.int x3)] [.int s1, .int s0] h 0 0 Q := by
  have hk := i_k309
  refine g_icmp_ge hk rfl (fun hc => ?_) (fun hc => ?_)
  · have H := H.1 hc
    exact H
  · have H := H.2 hc
    exact H
theorem b309_59 {x0 : Nat} {x1 : Int32} {x2 : Int32} {x3 : Int32} {h : iH} {Q : Option Value → iH → Prop} (H : i_P i_MT i_AT L xs 309 61 [some (.ref x0), some (.int x1), some (.int x3), some (.int x3)] [] h 0 0 Q) : i_P i_MT i_AT L xs 309 59 [some (.ref x0), some (.int x1), some (.int x2), some (.int x3)] [] h 0 0 Q := by
  have hk := i_k309
  refine g_s1 (pc2 := 60) hk rfl rfl rfl rfl rfl ?_
  refine g_s1 (pc2 := 61) (lo2 := [some (.ref x0), some (.int x1), some (.int x3), some (.int x3)]) hk rfl rfl rfl rfl rfl ?_
  exact H
theorem b309_61 {x0 : Nat} {x1 : Int32} {x2 : Int32} {x3 : Int32} {h : iH} {Q : Option Value → iH → Prop} (H : i_P i_MT i_AT L xs 309 22 [some (.ref x0), some (.int x1), some (.int x2), some (.int (x3 + 1))] [] h 0 0 Q) : i_P i_MT i_AT L xs 309 61 [some (.ref x0), some (.int x1), some (.int x2), some (.int x3)] [] h 0 0 Q := by
  have hk := i_k309
  refine g_s1 (pc2 := 64) (lo2 := [some (.ref x0), some (.int x1), some (.int x2), some (.int (x3 + 1))]) hk rfl rfl rfl rfl rfl ?_
  refine g_s1 (pc2 := 22) hk rfl rfl rfl rfl rfl ?_
  exact H
theorem b309_78 {x0 : Nat} {x1 : Int32} {x2 : Int32} {x3 : Int32} {s0 : Int32} {h : iH} {Q : Option Value → iH → Prop} (H : i_P i_MT i_AT L xs 309 86 [some (.ref x0), some (.int x1), some (.int x2), some (.int x3)] [.int s0] h 0 0 Q) : i_P i_MT i_AT L xs 309 78 [some (.ref x0), some (.int x1), some (.int x2), some (.int x3)] [.int s0] h 0 0 Q := by
  have hk := i_k309
  refine g_s1 (pc2 := 86) hk rfl rfl rfl rfl rfl ?_
  exact H
theorem b309_86 {x0 : Nat} {x1 : Int32} {x2 : Int32} {x3 : Int32} {s0 : Int32} {h : iH} {Q : Option Value → iH → Prop} (H : Q (some (.int s0)) h) : i_P i_MT i_AT L xs 309 86 [some (.ref x0), some (.int x1), some (.int x2), some (.int x3)] [.int s0] h 0 0 Q := by
  have hk := i_k309
  exact g_ireturn hk rfl (by decide) (by decide) rfl H
/-! StillTownModel.words(III)I -/
theorem e310 {x0 : Nat} {x1 : Int32} {x2 : Int32} {x3 : Int32} {h : iH} {Q : Option Value → iH → Prop} (H : i_P i_MT i_AT L xs 310 0 [some (.ref x0), some (.int x1), some (.int x2), some (.int x3), none, none, none, none, none, none] [] h 0 0 Q) : i_C i_MT i_AT L xs 310 [.ref x0, .int x1, .int x2, .int x3] h Q := ⟨i_m310, i_k310.1, Nat.le_of_ble_eq_true rfl, H⟩
theorem b310_0 {x0 : Nat} {x1 : Int32} {x2 : Int32} {x3 : Int32} {x4 : Option Value} {x5 : Option Value} {x6 : Option Value} {x7 : Option Value} {x8 : Option Value} {x9 : Option Value} {h : iH} {Q : Option Value → iH → Prop} (H : (i_C i_MT i_AT L xs 205 [.int x1] h (fun v h1 => ∃ r2 : Int32, v = some (.int r2) ∧ i_P i_MT i_AT L xs 310 4 [some (.ref x0), some (.int x1), some (.int x2), some (.int x3), x4, x5, x6, x7, x8, x9] [.int r2] h1 0 0 Q))) : i_P i_MT i_AT L xs 310 0 [some (.ref x0), some (.int x1), some (.int x2), some (.int x3), x4, x5, x6, x7, x8, x9] [] h 0 0 Q := by
  have hk := i_k310
  refine g_s1 (pc2 := 1) hk rfl rfl rfl rfl rfl ?_
  refine g_call hk rfl rfl i_k205.1 ⟨rfl, rfl⟩ rfl (i_rcv_0 rfl) rfl ?_
  exact H.mono (fun v h2 q => by obtain ⟨r, rfl, q⟩ := q; exact q)
theorem b310_4 {x0 : Nat} {x1 : Int32} {x2 : Int32} {x3 : Int32} {x4 : Option Value} {x5 : Option Value} {x6 : Option Value} {x7 : Option Value} {x8 : Option Value} {x9 : Option Value} {s0 : Int32} {h : iH} {Q : Option Value → iH → Prop} (H : ((s0 = 0 → i_P i_MT i_AT L xs 310 35 [some (.ref x0), some (.int x1), some (.int x2), some (.int x3), x4, x5, x6, x7, x8, x9] [] h 0 0 Q) ∧ (¬ (s0 = 0) → (i_C i_MT i_AT L xs 212 [.long (x2.toInt64), .long (2 : Int64), .long (20 : Int64)] h (fun v h1 => ∃ r2 : Int32, v = some (.int r2) ∧ i_P i_MT i_AT L xs 310 18 [some (.ref x0), some (.int x1), some (.int x2), some (.int x3), x4, x5, x6, x7, x8, x9] [.int r2] h1 0 0 Q))))) : i_P i_MT i_AT L xs 310 4 [some (.ref x0), some (.int x1), some (.int x2), some (.int x3), x4, x5, x6, x7, x8, x9] [.int s0] h 0 0 Q := by
  have hk := i_k310
  refine g_if_eq hk rfl (fun hc => ?_) (fun hc => ?_)
  · have H := H.1 hc
    exact H
  · have H := H.2 hc
    refine g_s1 (pc2 := 8) hk rfl rfl rfl rfl rfl ?_
    refine g_s1 (pc2 := 9) hk rfl rfl rfl rfl rfl ?_
    refine g_step (pc2 := 12) (st2 := [.long (2 : Int64), .long (x2.toInt64)]) hk rfl rfl rfl rfl ?_
    refine g_step (pc2 := 15) (st2 := [.long (20 : Int64), .long (2 : Int64), .long (x2.toInt64)]) hk rfl rfl rfl rfl ?_
    refine g_call hk rfl rfl i_k212.1 ⟨rfl, rfl⟩ rfl (i_rcv_0 rfl) rfl ?_
    exact H.mono (fun v h2 q => by obtain ⟨r, rfl, q⟩ := q; exact q)
theorem b310_18 {x0 : Nat} {x1 : Int32} {x2 : Int32} {x3 : Int32} {x4 : Option Value} {x5 : Option Value} {x6 : Option Value} {x7 : Option Value} {x8 : Option Value} {x9 : Option Value} {s0 : Int32} {h : iH} {Q : Option Value → iH → Prop} (H : ((s0 = 0 → i_P i_MT i_AT L xs 310 35 [some (.ref x0), some (.int x1), some (.int x2), some (.int x3), x4, x5, x6, x7, x8, x9] [] h 0 0 Q) ∧ (¬ (s0 = 0) → (i_C i_MT i_AT L xs 212 [.long (x3.toInt64), .long (2 : Int64), .long (8 : Int64)] h (fun v h1 => ∃ r2 : Int32, v = some (.int r2) ∧ i_P i_MT i_AT L xs 310 32 [some (.ref x0), some (.int x1), some (.int x2), some (.int x3), x4, x5, x6, x7, x8, x9] [.int r2] h1 0 0 Q))))) : i_P i_MT i_AT L xs 310 18 [some (.ref x0), some (.int x1), some (.int x2), some (.int x3), x4, x5, x6, x7, x8, x9] [.int s0] h 0 0 Q := by
  have hk := i_k310
  refine g_if_eq hk rfl (fun hc => ?_) (fun hc => ?_)
  · have H := H.1 hc
    exact H
  · have H := H.2 hc
    refine g_s1 (pc2 := 22) hk rfl rfl rfl rfl rfl ?_
    refine g_s1 (pc2 := 23) hk rfl rfl rfl rfl rfl ?_
    refine g_step (pc2 := 26) (st2 := [.long (2 : Int64), .long (x3.toInt64)]) hk rfl rfl rfl rfl ?_
    refine g_step (pc2 := 29) (st2 := [.long (8 : Int64), .long (2 : Int64), .long (x3.toInt64)]) hk rfl rfl rfl rfl ?_
    refine g_call hk rfl rfl i_k212.1 ⟨rfl, rfl⟩ rfl (i_rcv_0 rfl) rfl ?_
    exact H.mono (fun v h2 q => by obtain ⟨r, rfl, q⟩ := q; exact q)
theorem b310_32 {x0 : Nat} {x1 : Int32} {x2 : Int32} {x3 : Int32} {x4 : Option Value} {x5 : Option Value} {x6 : Option Value} {x7 : Option Value} {x8 : Option Value} {x9 : Option Value} {s0 : Int32} {h : iH} {Q : Option Value → iH → Prop} (H : ((¬ s0 = 0 → (∃ v1 : Nat, i_fld h x0 12 8 = some (.ref v1) ∧ (∃ (n2 : Nat) (f3 : Nat → Int32), i_arI h 0 v1 = some (n2, f3) ∧ ¬ (x1 < 0 ∨ n2 ≤ x1.toNatClampNeg) ∧ ((¬ (f3 x1.toNatClampNeg) = (-1 : Int32) → (∃ v4 : Nat, i_fld h x0 12 8 = some (.ref v4) ∧ (∃ (n5 : Nat) (f6 : Nat → Int32), i_arI h 0 v4 = some (n5, f6) ∧ ¬ (x1 < 0 ∨ n5 ≤ x1.toNatClampNeg) ∧ ((x2 ≤ (f6 x1.toNatClampNeg) → i_P i_MT i_AT L xs 310 76 [some (.ref x0), some (.int x1), some (.int x2), some (.int x3), some (.int (0 : Int32)), x5, x6, x7, x8, x9] [] h 0 0 Q) ∧ (¬ (x2 ≤ (f6 x1.toNatClampNeg)) → (i_obj? h x0 12 ∧ i_C i_MT i_AT L xs 201 [.ref x0, .int (3 : Int32)] h (fun v h7 => ∃ r8 : Int32, v = some (.int r8) ∧ i_P i_MT i_AT L xs 310 72 [some (.ref x0), some (.int x1), some (.int x2), some (.int x3), x4, x5, x6, x7, x8, x9] [.int r8] h7 0 0 Q))))))) ∧ (¬ (¬ (f3 x1.toNatClampNeg) = (-1 : Int32)) → (i_obj? h x0 12 ∧ i_C i_MT i_AT L xs 201 [.ref x0, .int (2 : Int32)] h (fun v h9 => ∃ r10 : Int32, v = some (.int r10) ∧ i_P i_MT i_AT L xs 310 56 [some (.ref x0), some (.int x1), some (.int x2), some (.int x3), x4, x5, x6, x7, x8, x9] [.int r10] h9 0 0 Q))))))) ∧ (¬ (¬ s0 = 0) → i_P i_MT i_AT L xs 310 35 [some (.ref x0), some (.int x1), some (.int x2), some (.int x3), x4, x5, x6, x7, x8, x9] [] h 0 0 Q))) : i_P i_MT i_AT L xs 310 32 [some (.ref x0), some (.int x1), some (.int x2), some (.int x3), x4, x5, x6, x7, x8, x9] [.int s0] h 0 0 Q := by
  have hk := i_k310
  refine g_if_ne hk rfl (fun hc => ?_) (fun hc => ?_)
  · have H := H.1 hc
    refine g_s1 (pc2 := 42) hk rfl rfl rfl rfl rfl ?_
    obtain ⟨v1, ev1, H⟩ := H
    refine g_step (pc2 := 45) hk rfl rfl rfl (s_get ev1) ?_
    refine g_s1 (pc2 := 46) hk rfl rfl rfl rfl rfl ?_
    obtain ⟨n2, f3, ef3, hi, H⟩ := H
    refine g_step (pc2 := 47) hk rfl rfl rfl (s_aget (L := L) (xs := xs) ef3 hi) ?_
    refine g_s1 (pc2 := 48) (st2 := [.int (-1 : Int32), .int (f3 x1.toNatClampNeg)]) hk rfl rfl rfl rfl rfl ?_
    refine g_icmp_ne hk rfl (fun hc => ?_) (fun hc => ?_)
    · have H := H.1 hc
      refine g_s1 (pc2 := 58) hk rfl rfl rfl rfl rfl ?_
      obtain ⟨v4, ev4, H⟩ := H
      refine g_step (pc2 := 61) hk rfl rfl rfl (s_get ev4) ?_
      refine g_s1 (pc2 := 62) hk rfl rfl rfl rfl rfl ?_
      obtain ⟨n5, f6, ef6, hi, H⟩ := H
      refine g_step (pc2 := 63) hk rfl rfl rfl (s_aget (L := L) (xs := xs) ef6 hi) ?_
      refine g_s1 (pc2 := 64) hk rfl rfl rfl rfl rfl ?_
      refine g_icmp_ge hk rfl (fun hc => ?_) (fun hc => ?_)
      · have H := H.1 hc
        refine g_s1 (pc2 := 74) (st2 := [.int (0 : Int32)]) hk rfl rfl rfl rfl rfl ?_
        refine g_s1 (pc2 := 76) (lo2 := [some (.ref x0), some (.int x1), some (.int x2), some (.int x3), some (.int (0 : Int32)), x5, x6, x7, x8, x9]) hk rfl rfl rfl rfl rfl ?_
        exact H
      · have H := H.2 hc
        refine g_s1 (pc2 := 68) hk rfl rfl rfl rfl rfl ?_
        refine g_s1 (pc2 := 69) (st2 := [.int (3 : Int32), .ref x0]) hk rfl rfl rfl rfl rfl ?_
        obtain ⟨ho, H⟩ := H
        refine g_call hk rfl rfl i_k201.1 ⟨rfl, rfl⟩ rfl (i_rcv_v ho rfl (by decide)) rfl ?_
        exact H.mono (fun v h2 q => by obtain ⟨r, rfl, q⟩ := q; exact q)
    · have H := H.2 hc
      refine g_s1 (pc2 := 52) hk rfl rfl rfl rfl rfl ?_
      refine g_s1 (pc2 := 53) (st2 := [.int (2 : Int32), .ref x0]) hk rfl rfl rfl rfl rfl ?_
      obtain ⟨ho, H⟩ := H
      refine g_call hk rfl rfl i_k201.1 ⟨rfl, rfl⟩ rfl (i_rcv_v ho rfl (by decide)) rfl ?_
      exact H.mono (fun v h2 q => by obtain ⟨r, rfl, q⟩ := q; exact q)
  · have H := H.2 hc
    exact H
theorem b310_35 {x0 : Nat} {x1 : Int32} {x2 : Int32} {x3 : Int32} {x4 : Option Value} {x5 : Option Value} {x6 : Option Value} {x7 : Option Value} {x8 : Option Value} {x9 : Option Value} {h : iH} {Q : Option Value → iH → Prop} (H : (i_obj? h x0 12 ∧ i_C i_MT i_AT L xs 201 [.ref x0, .int (1 : Int32)] h (fun v h1 => ∃ r2 : Int32, v = some (.int r2) ∧ i_P i_MT i_AT L xs 310 40 [some (.ref x0), some (.int x1), some (.int x2), some (.int x3), x4, x5, x6, x7, x8, x9] [.int r2] h1 0 0 Q))) : i_P i_MT i_AT L xs 310 35 [some (.ref x0), some (.int x1), some (.int x2), some (.int x3), x4, x5, x6, x7, x8, x9] [] h 0 0 Q := by
  have hk := i_k310
  refine g_s1 (pc2 := 36) hk rfl rfl rfl rfl rfl ?_
  refine g_s1 (pc2 := 37) (st2 := [.int (1 : Int32), .ref x0]) hk rfl rfl rfl rfl rfl ?_
  obtain ⟨ho, H⟩ := H
  refine g_call hk rfl rfl i_k201.1 ⟨rfl, rfl⟩ rfl (i_rcv_v ho rfl (by decide)) rfl ?_
  exact H.mono (fun v h2 q => by obtain ⟨r, rfl, q⟩ := q; exact q)
theorem b310_40 {x0 : Nat} {x1 : Int32} {x2 : Int32} {x3 : Int32} {x4 : Option Value} {x5 : Option Value} {x6 : Option Value} {x7 : Option Value} {x8 : Option Value} {x9 : Option Value} {s0 : Int32} {h : iH} {Q : Option Value → iH → Prop} (H : Q (some (.int s0)) h) : i_P i_MT i_AT L xs 310 40 [some (.ref x0), some (.int x1), some (.int x2), some (.int x3), x4, x5, x6, x7, x8, x9] [.int s0] h 0 0 Q := by
  have hk := i_k310
  exact g_ireturn hk rfl (by decide) (by decide) rfl H
theorem b310_56 {x0 : Nat} {x1 : Int32} {x2 : Int32} {x3 : Int32} {x4 : Option Value} {x5 : Option Value} {x6 : Option Value} {x7 : Option Value} {x8 : Option Value} {x9 : Option Value} {s0 : Int32} {h : iH} {Q : Option Value → iH → Prop} (H : Q (some (.int s0)) h) : i_P i_MT i_AT L xs 310 56 [some (.ref x0), some (.int x1), some (.int x2), some (.int x3), x4, x5, x6, x7, x8, x9] [.int s0] h 0 0 Q := by
  have hk := i_k310
  exact g_ireturn hk rfl (by decide) (by decide) rfl H
theorem b310_72 {x0 : Nat} {x1 : Int32} {x2 : Int32} {x3 : Int32} {x4 : Option Value} {x5 : Option Value} {x6 : Option Value} {x7 : Option Value} {x8 : Option Value} {x9 : Option Value} {s0 : Int32} {h : iH} {Q : Option Value → iH → Prop} (H : Q (some (.int s0)) h) : i_P i_MT i_AT L xs 310 72 [some (.ref x0), some (.int x1), some (.int x2), some (.int x3), x4, x5, x6, x7, x8, x9] [.int s0] h 0 0 Q := by
  have hk := i_k310
  exact g_ireturn hk rfl (by decide) (by decide) rfl H
theorem b310_76 {x0 : Nat} {x1 : Int32} {x2 : Int32} {x3 : Int32} {x4 : Int32} {x5 : Option Value} {x6 : Option Value} {x7 : Option Value} {x8 : Option Value} {x9 : Option Value} {h : iH} {Q : Option Value → iH → Prop} (H : ((x2 ≤ x4 → i_P i_MT i_AT L xs 310 122 [some (.ref x0), some (.int x1), some (.int x2), some (.int x3), some (.int x2), some (.int (0 : Int32)), x6, x7, x8, x9] [] h 0 0 Q) ∧ (¬ (x2 ≤ x4) → (∃ v1 : Nat, i_fld h x0 12 9 = some (.ref v1) ∧ (∃ (n2 : Nat) (f3 : Nat → Int64), i_arJ h v1 = some (n2, f3) ∧ ¬ ((((60 : Int32) * x1) + x4) < 0 ∨ n2 ≤ (((60 : Int32) * x1) + x4).toNatClampNeg) ∧ (i_C i_MT i_AT L xs 212 [.long (f3 (((60 : Int32) * x1) + x4).toNatClampNeg), .long (0 : Int64), .long (9999 : Int64)] h (fun v h4 => ∃ r5 : Int32, v = some (.int r5) ∧ i_P i_MT i_AT L xs 310 101 [some (.ref x0), some (.int x1), some (.int x2), some (.int x3), some (.int x4), x5, x6, x7, x8, x9] [.int r5] h4 0 0 Q))))))) : i_P i_MT i_AT L xs 310 76 [some (.ref x0), some (.int x1), some (.int x2), some (.int x3), some (.int x4), x5, x6, x7, x8, x9] [] h 0 0 Q := by
  have hk := i_k310
  refine g_s1 (pc2 := 78) hk rfl rfl rfl rfl rfl ?_
  refine g_s1 (pc2 := 79) hk rfl rfl rfl rfl rfl ?_
  refine g_icmp_ge hk rfl (fun hc => ?_) (fun hc => ?_)
  · have H := H.1 hc
    refine g_s1 (pc2 := 117) hk rfl rfl rfl rfl rfl ?_
    refine g_s1 (pc2 := 119) (lo2 := [some (.ref x0), some (.int x1), some (.int x2), some (.int x3), some (.int x2), x5, x6, x7, x8, x9]) hk rfl rfl rfl rfl rfl ?_
    refine g_s1 (pc2 := 120) (st2 := [.int (0 : Int32)]) hk rfl rfl rfl rfl rfl ?_
    refine g_s1 (pc2 := 122) (lo2 := [some (.ref x0), some (.int x1), some (.int x2), some (.int x3), some (.int x2), some (.int (0 : Int32)), x6, x7, x8, x9]) hk rfl rfl rfl rfl rfl ?_
    exact H
  · have H := H.2 hc
    refine g_s1 (pc2 := 83) hk rfl rfl rfl rfl rfl ?_
    obtain ⟨v1, ev1, H⟩ := H
    refine g_step (pc2 := 86) hk rfl rfl rfl (s_get ev1) ?_
    refine g_s1 (pc2 := 88) (st2 := [.int (60 : Int32), .ref v1]) hk rfl rfl rfl rfl rfl ?_
    refine g_s1 (pc2 := 89) hk rfl rfl rfl rfl rfl ?_
    refine g_s1 (pc2 := 90) hk rfl rfl rfl rfl rfl ?_
    refine g_s1 (pc2 := 92) hk rfl rfl rfl rfl rfl ?_
    refine g_s1 (pc2 := 93) hk rfl rfl rfl rfl rfl ?_
    obtain ⟨n2, f3, ef3, hi, H⟩ := H
    refine g_step (pc2 := 94) hk rfl rfl rfl (s_lget ef3 hi) ?_
    refine g_s1 (pc2 := 95) (st2 := [.long (0 : Int64), .long (f3 (((60 : Int32) * x1) + x4).toNatClampNeg)]) hk rfl rfl rfl rfl rfl ?_
    refine g_step (pc2 := 98) (st2 := [.long (9999 : Int64), .long (0 : Int64), .long (f3 (((60 : Int32) * x1) + x4).toNatClampNeg)]) hk rfl rfl rfl rfl ?_
    refine g_call hk rfl rfl i_k212.1 ⟨rfl, rfl⟩ rfl (i_rcv_0 rfl) rfl ?_
    exact H.mono (fun v h2 q => by obtain ⟨r, rfl, q⟩ := q; exact q)
theorem b310_101 {x0 : Nat} {x1 : Int32} {x2 : Int32} {x3 : Int32} {x4 : Int32} {x5 : Option Value} {x6 : Option Value} {x7 : Option Value} {x8 : Option Value} {x9 : Option Value} {s0 : Int32} {h : iH} {Q : Option Value → iH → Prop} (H : ((¬ s0 = 0 → i_P i_MT i_AT L xs 310 76 [some (.ref x0), some (.int x1), some (.int x2), some (.int x3), some (.int (x4 + 1)), x5, x6, x7, x8, x9] [] h 0 0 Q) ∧ (¬ (¬ s0 = 0) → (i_obj? h x0 12 ∧ i_C i_MT i_AT L xs 201 [.ref x0, .int (5 : Int32)] h (fun v h1 => ∃ r2 : Int32, v = some (.int r2) ∧ i_P i_MT i_AT L xs 310 109 [some (.ref x0), some (.int x1), some (.int x2), some (.int x3), some (.int x4), x5, x6, x7, x8, x9] [.int r2] h1 0 0 Q))))) : i_P i_MT i_AT L xs 310 101 [some (.ref x0), some (.int x1), some (.int x2), some (.int x3), some (.int x4), x5, x6, x7, x8, x9] [.int s0] h 0 0 Q := by
  have hk := i_k310
  refine g_if_ne hk rfl (fun hc => ?_) (fun hc => ?_)
  · have H := H.1 hc
    refine g_s1 (pc2 := 113) (lo2 := [some (.ref x0), some (.int x1), some (.int x2), some (.int x3), some (.int (x4 + 1)), x5, x6, x7, x8, x9]) hk rfl rfl rfl rfl rfl ?_
    refine g_s1 (pc2 := 76) hk rfl rfl rfl rfl rfl ?_
    exact H
  · have H := H.2 hc
    refine g_s1 (pc2 := 105) hk rfl rfl rfl rfl rfl ?_
    refine g_s1 (pc2 := 106) (st2 := [.int (5 : Int32), .ref x0]) hk rfl rfl rfl rfl rfl ?_
    obtain ⟨ho, H⟩ := H
    refine g_call hk rfl rfl i_k201.1 ⟨rfl, rfl⟩ rfl (i_rcv_v ho rfl (by decide)) rfl ?_
    exact H.mono (fun v h2 q => by obtain ⟨r, rfl, q⟩ := q; exact q)
theorem b310_109 {x0 : Nat} {x1 : Int32} {x2 : Int32} {x3 : Int32} {x4 : Int32} {x5 : Option Value} {x6 : Option Value} {x7 : Option Value} {x8 : Option Value} {x9 : Option Value} {s0 : Int32} {h : iH} {Q : Option Value → iH → Prop} (H : Q (some (.int s0)) h) : i_P i_MT i_AT L xs 310 109 [some (.ref x0), some (.int x1), some (.int x2), some (.int x3), some (.int x4), x5, x6, x7, x8, x9] [.int s0] h 0 0 Q := by
  have hk := i_k310
  exact g_ireturn hk rfl (by decide) (by decide) rfl H
theorem b310_122 {x0 : Nat} {x1 : Int32} {x2 : Int32} {x3 : Int32} {x4 : Int32} {x5 : Int32} {x6 : Option Value} {x7 : Option Value} {x8 : Option Value} {x9 : Option Value} {h : iH} {Q : Option Value → iH → Prop} (H : ((x2 ≤ x5 → i_P i_MT i_AT L xs 310 154 [some (.ref x0), some (.int x1), some (.int x2), some (.int x3), some (.int x4), some (.int x5), x6, x7, x8, x9] [] h 0 0 Q) ∧ (¬ (x2 ≤ x5) → (∃ v1 : Nat, i_fld h x0 12 49 = some (.ref v1) ∧ (∃ v2 : Nat, i_fld h x0 12 9 = some (.ref v2) ∧ (∃ (n3 : Nat) (f4 : Nat → Int64), i_arJ h v2 = some (n3, f4) ∧ ¬ ((((60 : Int32) * x1) + x5) < 0 ∨ n3 ≤ (((60 : Int32) * x1) + x5).toNatClampNeg) ∧ (∃ (n5 : Nat) (f6 : Nat → Int32), i_arI h 0 v1 = some (n5, f6) ∧ ¬ (x5 < 0 ∨ n5 ≤ x5.toNatClampNeg) ∧ i_P i_MT i_AT L xs 310 148 [some (.ref x0), some (.int x1), some (.int x2), some (.int x3), some (.int x4), some (.int x5), x6, x7, x8, x9] [] (i_siI h v1 x5.toNatClampNeg ((f4 (((60 : Int32) * x1) + x5).toNatClampNeg).toInt32)) 0 0 Q))))))) : i_P i_MT i_AT L xs 310 122 [some (.ref x0), some (.int x1), some (.int x2), some (.int x3), some (.int x4), some (.int x5), x6, x7, x8, x9] [] h 0 0 Q := by
  have hk := i_k310
  refine g_s1 (pc2 := 124) hk rfl rfl rfl rfl rfl ?_
  refine g_s1 (pc2 := 125) hk rfl rfl rfl rfl rfl ?_
  refine g_icmp_ge hk rfl (fun hc => ?_) (fun hc => ?_)
  · have H := H.1 hc
    exact H
  · have H := H.2 hc
    refine g_s1 (pc2 := 129) hk rfl rfl rfl rfl rfl ?_
    obtain ⟨v1, ev1, H⟩ := H
    refine g_step (pc2 := 132) hk rfl rfl rfl (s_get ev1) ?_
    refine g_s1 (pc2 := 134) hk rfl rfl rfl rfl rfl ?_
    refine g_s1 (pc2 := 135) hk rfl rfl rfl rfl rfl ?_
    obtain ⟨v2, ev2, H⟩ := H
    refine g_step (pc2 := 138) hk rfl rfl rfl (s_get ev2) ?_
    refine g_s1 (pc2 := 140) (st2 := [.int (60 : Int32), .ref v2, .int x5, .ref v1]) hk rfl rfl rfl rfl rfl ?_
    refine g_s1 (pc2 := 141) hk rfl rfl rfl rfl rfl ?_
    refine g_s1 (pc2 := 142) hk rfl rfl rfl rfl rfl ?_
    refine g_s1 (pc2 := 144) hk rfl rfl rfl rfl rfl ?_
    refine g_s1 (pc2 := 145) hk rfl rfl rfl rfl rfl ?_
    obtain ⟨n3, f4, ef4, hi, H⟩ := H
    refine g_step (pc2 := 146) hk rfl rfl rfl (s_lget ef4 hi) ?_
    refine g_s1 (pc2 := 147) hk rfl rfl rfl rfl rfl ?_
    obtain ⟨n5, f6, ef6, hi, H⟩ := H
    refine g_step (pc2 := 148) hk rfl rfl rfl (s_aput ef6 hi) ?_
    exact H
theorem b310_148 {x0 : Nat} {x1 : Int32} {x2 : Int32} {x3 : Int32} {x4 : Int32} {x5 : Int32} {x6 : Option Value} {x7 : Option Value} {x8 : Option Value} {x9 : Option Value} {h : iH} {Q : Option Value → iH → Prop} (H : i_P i_MT i_AT L xs 310 122 [some (.ref x0), some (.int x1), some (.int x2), some (.int x3), some (.int x4), some (.int (x5 + 1)), x6, x7, x8, x9] [] h 0 0 Q) : i_P i_MT i_AT L xs 310 148 [some (.ref x0), some (.int x1), some (.int x2), some (.int x3), some (.int x4), some (.int x5), x6, x7, x8, x9] [] h 0 0 Q := by
  have hk := i_k310
  refine g_s1 (pc2 := 151) (lo2 := [some (.ref x0), some (.int x1), some (.int x2), some (.int x3), some (.int x4), some (.int (x5 + 1)), x6, x7, x8, x9]) hk rfl rfl rfl rfl rfl ?_
  refine g_s1 (pc2 := 122) hk rfl rfl rfl rfl rfl ?_
  exact H
theorem b310_154 {x0 : Nat} {x1 : Int32} {x2 : Int32} {x3 : Int32} {x4 : Int32} {x5 : Int32} {x6 : Option Value} {x7 : Option Value} {x8 : Option Value} {x9 : Option Value} {h : iH} {Q : Option Value → iH → Prop} (H : (¬ (x3 - (1 : Int32)) = 0 ∧ ((((x4 - (1 : Int32)) - (x4 - (1 : Int32)) / (x3 - (1 : Int32)) * (x3 - (1 : Int32))) = 0 → i_P i_MT i_AT L xs 310 182 [some (.ref x0), some (.int x1), some (.int x2), some (.int x3), some (.int x4), some (.int (0 : Int32)), x6, x7, x8, x9] [] h 0 0 Q) ∧ (¬ (((x4 - (1 : Int32)) - (x4 - (1 : Int32)) / (x3 - (1 : Int32)) * (x3 - (1 : Int32))) = 0) → (∃ v1 : Nat, i_fld h x0 12 49 = some (.ref v1) ∧ (∃ (n2 : Nat) (f3 : Nat → Int32), i_arI h 0 v1 = some (n2, f3) ∧ ¬ (x4 < 0 ∨ n2 ≤ x4.toNatClampNeg) ∧ i_P i_MT i_AT L xs 310 173 [some (.ref x0), some (.int x1), some (.int x2), some (.int x3), some (.int x4), some (.int x5), x6, x7, x8, x9] [] (i_siI h v1 x4.toNatClampNeg (0 : Int32)) 0 0 Q)))))) : i_P i_MT i_AT L xs 310 154 [some (.ref x0), some (.int x1), some (.int x2), some (.int x3), some (.int x4), some (.int x5), x6, x7, x8, x9] [] h 0 0 Q := by
  have hk := i_k310
  refine g_s1 (pc2 := 156) hk rfl rfl rfl rfl rfl ?_
  refine g_s1 (pc2 := 157) (st2 := [.int (1 : Int32), .int x4]) hk rfl rfl rfl rfl rfl ?_
  refine g_s1 (pc2 := 158) hk rfl rfl rfl rfl rfl ?_
  refine g_s1 (pc2 := 159) hk rfl rfl rfl rfl rfl ?_
  refine g_s1 (pc2 := 160) (st2 := [.int (1 : Int32), .int x3, .int (x4 - (1 : Int32))]) hk rfl rfl rfl rfl rfl ?_
  refine g_s1 (pc2 := 161) hk rfl rfl rfl rfl rfl ?_
  obtain ⟨hz, H⟩ := H
  refine g_s1 (pc2 := 162) hk rfl rfl rfl rfl (s_if hz) ?_
  refine g_if_eq hk rfl (fun hc => ?_) (fun hc => ?_)
  · have H := H.1 hc
    refine g_s1 (pc2 := 180) (st2 := [.int (0 : Int32)]) hk rfl rfl rfl rfl rfl ?_
    refine g_s1 (pc2 := 182) (lo2 := [some (.ref x0), some (.int x1), some (.int x2), some (.int x3), some (.int x4), some (.int (0 : Int32)), x6, x7, x8, x9]) hk rfl rfl rfl rfl rfl ?_
    exact H
  · have H := H.2 hc
    refine g_s1 (pc2 := 166) hk rfl rfl rfl rfl rfl ?_
    obtain ⟨v1, ev1, H⟩ := H
    refine g_step (pc2 := 169) hk rfl rfl rfl (s_get ev1) ?_
    refine g_s1 (pc2 := 171) hk rfl rfl rfl rfl rfl ?_
    refine g_s1 (pc2 := 172) (st2 := [.int (0 : Int32), .int x4, .ref v1]) hk rfl rfl rfl rfl rfl ?_
    obtain ⟨n2, f3, ef3, hi, H⟩ := H
    refine g_step (pc2 := 173) hk rfl rfl rfl (s_aput ef3 hi) ?_
    exact H
theorem b310_173 {x0 : Nat} {x1 : Int32} {x2 : Int32} {x3 : Int32} {x4 : Int32} {x5 : Int32} {x6 : Option Value} {x7 : Option Value} {x8 : Option Value} {x9 : Option Value} {h : iH} {Q : Option Value → iH → Prop} (H : i_P i_MT i_AT L xs 310 154 [some (.ref x0), some (.int x1), some (.int x2), some (.int x3), some (.int (x4 + 1)), some (.int x5), x6, x7, x8, x9] [] h 0 0 Q) : i_P i_MT i_AT L xs 310 173 [some (.ref x0), some (.int x1), some (.int x2), some (.int x3), some (.int x4), some (.int x5), x6, x7, x8, x9] [] h 0 0 Q := by
  have hk := i_k310
  refine g_s1 (pc2 := 176) (lo2 := [some (.ref x0), some (.int x1), some (.int x2), some (.int x3), some (.int (x4 + 1)), some (.int x5), x6, x7, x8, x9]) hk rfl rfl rfl rfl rfl ?_
  refine g_s1 (pc2 := 154) hk rfl rfl rfl rfl rfl ?_
  exact H
theorem b310_182 {x0 : Nat} {x1 : Int32} {x2 : Int32} {x3 : Int32} {x4 : Int32} {x5 : Int32} {x6 : Option Value} {x7 : Option Value} {x8 : Option Value} {x9 : Option Value} {h : iH} {Q : Option Value → iH → Prop} (H : ((x4 ≤ (1 : Int32) → (i_obj? h x0 12 ∧ i_C i_MT i_AT L xs 202 [.ref x0, .int x5] h (fun v h1 => ∃ r2 : Int32, v = some (.int r2) ∧ i_P i_MT i_AT L xs 310 308 [some (.ref x0), some (.int x1), some (.int x2), some (.int x3), some (.int x4), some (.int x5), x6, x7, x8, x9] [.int r2] h1 0 0 Q))) ∧ (¬ (x4 ≤ (1 : Int32)) → i_P i_MT i_AT L xs 310 194 [some (.ref x0), some (.int x1), some (.int x2), some (.int x3), some (.int x4), some (.int x5), some (.int (0 : Int32)), some (.int (0 : Int32)), x8, x9] [] h 0 0 Q))) : i_P i_MT i_AT L xs 310 182 [some (.ref x0), some (.int x1), some (.int x2), some (.int x3), some (.int x4), some (.int x5), x6, x7, x8, x9] [] h 0 0 Q := by
  have hk := i_k310
  refine g_s1 (pc2 := 184) hk rfl rfl rfl rfl rfl ?_
  refine g_s1 (pc2 := 185) (st2 := [.int (1 : Int32), .int x4]) hk rfl rfl rfl rfl rfl ?_
  refine g_icmp_le hk rfl (fun hc => ?_) (fun hc => ?_)
  · have H := H.1 hc
    refine g_s1 (pc2 := 303) hk rfl rfl rfl rfl rfl ?_
    refine g_s1 (pc2 := 305) hk rfl rfl rfl rfl rfl ?_
    obtain ⟨ho, H⟩ := H
    refine g_call hk rfl rfl i_k202.1 ⟨rfl, rfl⟩ rfl (i_rcv_v ho rfl (by decide)) rfl ?_
    exact H.mono (fun v h2 q => by obtain ⟨r, rfl, q⟩ := q; exact q)
  · have H := H.2 hc
    refine g_s1 (pc2 := 189) (st2 := [.int (0 : Int32)]) hk rfl rfl rfl rfl rfl ?_
    refine g_s1 (pc2 := 191) (lo2 := [some (.ref x0), some (.int x1), some (.int x2), some (.int x3), some (.int x4), some (.int x5), some (.int (0 : Int32)), x7, x8, x9]) hk rfl rfl rfl rfl rfl ?_
    refine g_s1 (pc2 := 192) (st2 := [.int (0 : Int32)]) hk rfl rfl rfl rfl rfl ?_
    refine g_s1 (pc2 := 194) (lo2 := [some (.ref x0), some (.int x1), some (.int x2), some (.int x3), some (.int x4), some (.int x5), some (.int (0 : Int32)), some (.int (0 : Int32)), x8, x9]) hk rfl rfl rfl rfl rfl ?_
    exact H
theorem b310_194 {x0 : Nat} {x1 : Int32} {x2 : Int32} {x3 : Int32} {x4 : Int32} {x5 : Int32} {x6 : Int32} {x7 : Int32} {x8 : Option Value} {x9 : Option Value} {h : iH} {Q : Option Value → iH → Prop} (H : ((x3 ≤ x7 → (∃ v1 : Nat, i_fld h x0 12 49 = some (.ref v1) ∧ (∃ (n2 : Nat) (f3 : Nat → Int32), i_arI h 0 v1 = some (n2, f3) ∧ ¬ (x4 < 0 ∨ n2 ≤ x4.toNatClampNeg) ∧ i_P i_MT i_AT L xs 310 289 [some (.ref x0), some (.int x1), some (.int x2), some (.int x3), some (.int x4), some (.int x5), some (.int x6), some (.int x7), x8, x9] [] (i_siI h v1 x4.toNatClampNeg x6) 0 0 Q))) ∧ (¬ (x3 ≤ x7) → i_P i_MT i_AT L xs 310 206 [some (.ref x0), some (.int x1), some (.int x2), some (.int x3), some (.int x4), some (.int x5), some (.int x6), some (.int x7), some (.int (0 : Int32)), some (.int (1 : Int32))] [] h 0 0 Q))) : i_P i_MT i_AT L xs 310 194 [some (.ref x0), some (.int x1), some (.int x2), some (.int x3), some (.int x4), some (.int x5), some (.int x6), some (.int x7), x8, x9] [] h 0 0 Q := by
  have hk := i_k310
  refine g_s1 (pc2 := 196) hk rfl rfl rfl rfl rfl ?_
  refine g_s1 (pc2 := 197) hk rfl rfl rfl rfl rfl ?_
  refine g_icmp_ge hk rfl (fun hc => ?_) (fun hc => ?_)
  · have H := H.1 hc
    refine g_s1 (pc2 := 281) hk rfl rfl rfl rfl rfl ?_
    obtain ⟨v1, ev1, H⟩ := H
    refine g_step (pc2 := 284) hk rfl rfl rfl (s_get ev1) ?_
    refine g_s1 (pc2 := 286) hk rfl rfl rfl rfl rfl ?_
    refine g_s1 (pc2 := 288) hk rfl rfl rfl rfl rfl ?_
    obtain ⟨n2, f3, ef3, hi, H⟩ := H
    refine g_step (pc2 := 289) hk rfl rfl rfl (s_aput ef3 hi) ?_
    exact H
  · have H := H.2 hc
    refine g_s1 (pc2 := 201) (st2 := [.int (0 : Int32)]) hk rfl rfl rfl rfl rfl ?_
    refine g_s1 (pc2 := 203) (lo2 := [some (.ref x0), some (.int x1), some (.int x2), some (.int x3), some (.int x4), some (.int x5), some (.int x6), some (.int x7), some (.int (0 : Int32)), x9]) hk rfl rfl rfl rfl rfl ?_
    refine g_s1 (pc2 := 204) (st2 := [.int (1 : Int32)]) hk rfl rfl rfl rfl rfl ?_
    refine g_s1 (pc2 := 206) (lo2 := [some (.ref x0), some (.int x1), some (.int x2), some (.int x3), some (.int x4), some (.int x5), some (.int x6), some (.int x7), some (.int (0 : Int32)), some (.int (1 : Int32))]) hk rfl rfl rfl rfl rfl ?_
    exact H
theorem b310_206 {x0 : Nat} {x1 : Int32} {x2 : Int32} {x3 : Int32} {x4 : Int32} {x5 : Int32} {x6 : Int32} {x7 : Int32} {x8 : Int32} {x9 : Int32} {h : iH} {Q : Option Value → iH → Prop} (H : ((x4 ≤ x9 → (∃ v1 : Nat, i_fld h x0 12 49 = some (.ref v1) ∧ (∃ (n2 : Nat) (f3 : Nat → Int32), i_arI h 0 v1 = some (n2, f3) ∧ ¬ (x8 < 0 ∨ n2 ≤ x8.toNatClampNeg) ∧ (∃ v4 : Nat, i_fld h x0 12 49 = some (.ref v4) ∧ (∃ v5 : Nat, i_fld h x0 12 49 = some (.ref v5) ∧ (∃ (n6 : Nat) (f7 : Nat → Int32), i_arI h 0 v5 = some (n6, f7) ∧ ¬ ((x4 + (-1)) < 0 ∨ n6 ≤ (x4 + (-1)).toNatClampNeg) ∧ (∃ (n8 : Nat) (f9 : Nat → Int32), i_arI h 0 v4 = some (n8, f9) ∧ ¬ (x8 < 0 ∨ n8 ≤ x8.toNatClampNeg) ∧ i_P i_MT i_AT L xs 310 274 [some (.ref x0), some (.int x1), some (.int x2), some (.int x3), some (.int (x4 + (-1))), some (.int x5), some (.int (x6 + (f3 x8.toNatClampNeg))), some (.int x7), some (.int x8), some (.int x9)] [] (i_siI h v4 x8.toNatClampNeg (f7 (x4 + (-1)).toNatClampNeg)) 0 0 Q))))))) ∧ (¬ (x4 ≤ x9) → (∃ v10 : Nat, i_fld h x0 12 49 = some (.ref v10) ∧ (∃ (n11 : Nat) (f12 : Nat → Int32), i_arI h 0 v10 = some (n11, f12) ∧ ¬ (x9 < 0 ∨ n11 ≤ x9.toNatClampNeg) ∧ (∃ v13 : Nat, i_fld h x0 12 49 = some (.ref v13) ∧ (∃ (n14 : Nat) (f15 : Nat → Int32), i_arI h 0 v13 = some (n14, f15) ∧ ¬ (x8 < 0 ∨ n14 ≤ x8.toNatClampNeg) ∧ (((f15 x8.toNatClampNeg) ≤ (f12 x9.toNatClampNeg) → i_P i_MT i_AT L xs 310 237 [some (.ref x0), some (.int x1), some (.int x2), some (.int x3), some (.int x4), some (.int x5), some (.int x6), some (.int x7), some (.int x8), some (.int x9)] [.int x8] h 0 0 Q) ∧ (¬ ((f15 x8.toNatClampNeg) ≤ (f12 x9.toNatClampNeg)) → i_P i_MT i_AT L xs 310 237 [some (.ref x0), some (.int x1), some (.int x2), some (.int x3), some (.int x4), some (.int x5), some (.int x6), some (.int x7), some (.int x8), some (.int x9)] [.int x9] h 0 0 Q))))))))) : i_P i_MT i_AT L xs 310 206 [some (.ref x0), some (.int x1), some (.int x2), some (.int x3), some (.int x4), some (.int x5), some (.int x6), some (.int x7), some (.int x8), some (.int x9)] [] h 0 0 Q := by
  have hk := i_k310
  refine g_s1 (pc2 := 208) hk rfl rfl rfl rfl rfl ?_
  refine g_s1 (pc2 := 210) hk rfl rfl rfl rfl rfl ?_
  refine g_icmp_ge hk rfl (fun hc => ?_) (fun hc => ?_)
  · have H := H.1 hc
    refine g_s1 (pc2 := 247) hk rfl rfl rfl rfl rfl ?_
    refine g_s1 (pc2 := 248) hk rfl rfl rfl rfl rfl ?_
    obtain ⟨v1, ev1, H⟩ := H
    refine g_step (pc2 := 251) hk rfl rfl rfl (s_get ev1) ?_
    refine g_s1 (pc2 := 253) hk rfl rfl rfl rfl rfl ?_
    obtain ⟨n2, f3, ef3, hi, H⟩ := H
    refine g_step (pc2 := 254) hk rfl rfl rfl (s_aget (L := L) (xs := xs) ef3 hi) ?_
    refine g_s1 (pc2 := 255) hk rfl rfl rfl rfl rfl ?_
    refine g_s1 (pc2 := 257) (lo2 := [some (.ref x0), some (.int x1), some (.int x2), some (.int x3), some (.int x4), some (.int x5), some (.int (x6 + (f3 x8.toNatClampNeg))), some (.int x7), some (.int x8), some (.int x9)]) hk rfl rfl rfl rfl rfl ?_
    refine g_s1 (pc2 := 260) (lo2 := [some (.ref x0), some (.int x1), some (.int x2), some (.int x3), some (.int (x4 + (-1))), some (.int x5), some (.int (x6 + (f3 x8.toNatClampNeg))), some (.int x7), some (.int x8), some (.int x9)]) hk rfl rfl rfl rfl rfl ?_
    refine g_s1 (pc2 := 261) hk rfl rfl rfl rfl rfl ?_
    obtain ⟨v4, ev4, H⟩ := H
    refine g_step (pc2 := 264) hk rfl rfl rfl (s_get ev4) ?_
    refine g_s1 (pc2 := 266) hk rfl rfl rfl rfl rfl ?_
    refine g_s1 (pc2 := 267) hk rfl rfl rfl rfl rfl ?_
    obtain ⟨v5, ev5, H⟩ := H
    refine g_step (pc2 := 270) hk rfl rfl rfl (s_get ev5) ?_
    refine g_s1 (pc2 := 272) hk rfl rfl rfl rfl rfl ?_
    obtain ⟨n6, f7, ef7, hi, H⟩ := H
    refine g_step (pc2 := 273) hk rfl rfl rfl (s_aget (L := L) (xs := xs) ef7 hi) ?_
    obtain ⟨n8, f9, ef9, hi, H⟩ := H
    refine g_step (pc2 := 274) hk rfl rfl rfl (s_aput ef9 hi) ?_
    exact H
  · have H := H.2 hc
    refine g_s1 (pc2 := 214) hk rfl rfl rfl rfl rfl ?_
    obtain ⟨v10, ev10, H⟩ := H
    refine g_step (pc2 := 217) hk rfl rfl rfl (s_get ev10) ?_
    refine g_s1 (pc2 := 219) hk rfl rfl rfl rfl rfl ?_
    obtain ⟨n11, f12, ef12, hi, H⟩ := H
    refine g_step (pc2 := 220) hk rfl rfl rfl (s_aget (L := L) (xs := xs) ef12 hi) ?_
    refine g_s1 (pc2 := 221) hk rfl rfl rfl rfl rfl ?_
    obtain ⟨v13, ev13, H⟩ := H
    refine g_step (pc2 := 224) hk rfl rfl rfl (s_get ev13) ?_
    refine g_s1 (pc2 := 226) hk rfl rfl rfl rfl rfl ?_
    obtain ⟨n14, f15, ef15, hi, H⟩ := H
    refine g_step (pc2 := 227) hk rfl rfl rfl (s_aget (L := L) (xs := xs) ef15 hi) ?_
    refine g_icmp_ge hk rfl (fun hc => ?_) (fun hc => ?_)
    · have H := H.1 hc
      refine g_s1 (pc2 := 237) hk rfl rfl rfl rfl rfl ?_
      exact H
    · have H := H.2 hc
      refine g_s1 (pc2 := 232) hk rfl rfl rfl rfl rfl ?_
      refine g_s1 (pc2 := 237) hk rfl rfl rfl rfl rfl ?_
      exact H
theorem b310_237 {x0 : Nat} {x1 : Int32} {x2 : Int32} {x3 : Int32} {x4 : Int32} {x5 : Int32} {x6 : Int32} {x7 : Int32} {x8 : Int32} {x9 : Int32} {s0 : Int32} {h : iH} {Q : Option Value → iH → Prop} (H : i_P i_MT i_AT L xs 310 206 [some (.ref x0), some (.int x1), some (.int x2), some (.int x3), some (.int x4), some (.int x5), some (.int x6), some (.int x7), some (.int s0), some (.int (x9 + 1))] [] h 0 0 Q) : i_P i_MT i_AT L xs 310 237 [some (.ref x0), some (.int x1), some (.int x2), some (.int x3), some (.int x4), some (.int x5), some (.int x6), some (.int x7), some (.int x8), some (.int x9)] [.int s0] h 0 0 Q := by
  have hk := i_k310
  refine g_s1 (pc2 := 239) (lo2 := [some (.ref x0), some (.int x1), some (.int x2), some (.int x3), some (.int x4), some (.int x5), some (.int x6), some (.int x7), some (.int s0), some (.int x9)]) hk rfl rfl rfl rfl rfl ?_
  refine g_s1 (pc2 := 242) (lo2 := [some (.ref x0), some (.int x1), some (.int x2), some (.int x3), some (.int x4), some (.int x5), some (.int x6), some (.int x7), some (.int s0), some (.int (x9 + 1))]) hk rfl rfl rfl rfl rfl ?_
  refine g_s1 (pc2 := 206) hk rfl rfl rfl rfl rfl ?_
  exact H
theorem b310_274 {x0 : Nat} {x1 : Int32} {x2 : Int32} {x3 : Int32} {x4 : Int32} {x5 : Int32} {x6 : Int32} {x7 : Int32} {x8 : Int32} {x9 : Int32} {h : iH} {Q : Option Value → iH → Prop} (H : i_P i_MT i_AT L xs 310 194 [some (.ref x0), some (.int x1), some (.int x2), some (.int x3), some (.int x4), some (.int x5), some (.int x6), some (.int (x7 + 1)), some (.int x8), some (.int x9)] [] h 0 0 Q) : i_P i_MT i_AT L xs 310 274 [some (.ref x0), some (.int x1), some (.int x2), some (.int x3), some (.int x4), some (.int x5), some (.int x6), some (.int x7), some (.int x8), some (.int x9)] [] h 0 0 Q := by
  have hk := i_k310
  refine g_s1 (pc2 := 277) (lo2 := [some (.ref x0), some (.int x1), some (.int x2), some (.int x3), some (.int x4), some (.int x5), some (.int x6), some (.int (x7 + 1)), some (.int x8), some (.int x9)]) hk rfl rfl rfl rfl rfl ?_
  refine g_s1 (pc2 := 194) hk rfl rfl rfl rfl rfl ?_
  exact H
theorem b310_289 {x0 : Nat} {x1 : Int32} {x2 : Int32} {x3 : Int32} {x4 : Int32} {x5 : Int32} {x6 : Int32} {x7 : Int32} {x8 : Option Value} {x9 : Option Value} {h : iH} {Q : Option Value → iH → Prop} (H : i_P i_MT i_AT L xs 310 182 [some (.ref x0), some (.int x1), some (.int x2), some (.int x3), some (.int (x4 + 1)), some (.int (x5 + x6)), some (.int x6), some (.int x7), x8, x9] [] h 0 0 Q) : i_P i_MT i_AT L xs 310 289 [some (.ref x0), some (.int x1), some (.int x2), some (.int x3), some (.int x4), some (.int x5), some (.int x6), some (.int x7), x8, x9] [] h 0 0 Q := by
  have hk := i_k310
  refine g_s1 (pc2 := 292) (lo2 := [some (.ref x0), some (.int x1), some (.int x2), some (.int x3), some (.int (x4 + 1)), some (.int x5), some (.int x6), some (.int x7), x8, x9]) hk rfl rfl rfl rfl rfl ?_
  refine g_s1 (pc2 := 294) hk rfl rfl rfl rfl rfl ?_
  refine g_s1 (pc2 := 296) hk rfl rfl rfl rfl rfl ?_
  refine g_s1 (pc2 := 297) hk rfl rfl rfl rfl rfl ?_
  refine g_s1 (pc2 := 299) (lo2 := [some (.ref x0), some (.int x1), some (.int x2), some (.int x3), some (.int (x4 + 1)), some (.int (x5 + x6)), some (.int x6), some (.int x7), x8, x9]) hk rfl rfl rfl rfl rfl ?_
  refine g_s1 (pc2 := 182) hk rfl rfl rfl rfl rfl ?_
  exact H
theorem b310_308 {x0 : Nat} {x1 : Int32} {x2 : Int32} {x3 : Int32} {x4 : Int32} {x5 : Int32} {x6 : Option Value} {x7 : Option Value} {x8 : Option Value} {x9 : Option Value} {s0 : Int32} {h : iH} {Q : Option Value → iH → Prop} (H : Q (some (.int s0)) h) : i_P i_MT i_AT L xs 310 308 [some (.ref x0), some (.int x1), some (.int x2), some (.int x3), some (.int x4), some (.int x5), x6, x7, x8, x9] [.int s0] h 0 0 Q := by
  have hk := i_k310
  exact g_ireturn hk rfl (by decide) (by decide) rfl H
/-! StillTownModel.moving(I)I -/
theorem e311 {x0 : Nat} {x1 : Int32} {h : iH} {Q : Option Value → iH → Prop} (H : i_P i_MT i_AT L xs 311 0 [some (.ref x0), some (.int x1), none, none] [] h 0 0 Q) : i_C i_MT i_AT L xs 311 [.ref x0, .int x1] h Q := ⟨i_m311, i_k311.1, Nat.le_of_ble_eq_true rfl, H⟩
theorem b311_0 {x0 : Nat} {x1 : Int32} {x2 : Option Value} {x3 : Option Value} {h : iH} {Q : Option Value → iH → Prop} (H : (i_C i_MT i_AT L xs 255 [.int x1] h (fun v h1 => ∃ r2 : Int32, v = some (.int r2) ∧ i_P i_MT i_AT L xs 311 4 [some (.ref x0), some (.int x1), x2, x3] [.int r2] h1 0 0 Q))) : i_P i_MT i_AT L xs 311 0 [some (.ref x0), some (.int x1), x2, x3] [] h 0 0 Q := by
  have hk := i_k311
  refine g_s1 (pc2 := 1) hk rfl rfl rfl rfl rfl ?_
  refine g_call hk rfl rfl i_k255.1 ⟨rfl, rfl⟩ rfl (i_rcv_0 rfl) rfl ?_
  exact H.mono (fun v h2 q => by obtain ⟨r, rfl, q⟩ := q; exact q)
theorem b311_4 {x0 : Nat} {x1 : Int32} {x2 : Option Value} {x3 : Option Value} {s0 : Int32} {h : iH} {Q : Option Value → iH → Prop} (H : ((s0 = 0 → i_P i_MT i_AT L xs 311 11 [some (.ref x0), some (.int x1), x2, x3] [] h 0 0 Q) ∧ (¬ (s0 = 0) → ((¬ x1 = 0 → i_P i_MT i_AT L xs 311 21 [some (.ref x0), some (.int x1), some (.int (0 : Int32)), some (.int (0 : Int32))] [] h 0 0 Q) ∧ (¬ (¬ x1 = 0) → i_P i_MT i_AT L xs 311 11 [some (.ref x0), some (.int x1), x2, x3] [] h 0 0 Q))))) : i_P i_MT i_AT L xs 311 4 [some (.ref x0), some (.int x1), x2, x3] [.int s0] h 0 0 Q := by
  have hk := i_k311
  refine g_if_eq hk rfl (fun hc => ?_) (fun hc => ?_)
  · have H := H.1 hc
    exact H
  · have H := H.2 hc
    refine g_s1 (pc2 := 8) hk rfl rfl rfl rfl rfl ?_
    refine g_if_ne hk rfl (fun hc => ?_) (fun hc => ?_)
    · have H := H.1 hc
      refine g_s1 (pc2 := 18) (st2 := [.int (0 : Int32)]) hk rfl rfl rfl rfl rfl ?_
      refine g_s1 (pc2 := 19) (lo2 := [some (.ref x0), some (.int x1), some (.int (0 : Int32)), x3]) hk rfl rfl rfl rfl rfl ?_
      refine g_s1 (pc2 := 20) (st2 := [.int (0 : Int32)]) hk rfl rfl rfl rfl rfl ?_
      refine g_s1 (pc2 := 21) (lo2 := [some (.ref x0), some (.int x1), some (.int (0 : Int32)), some (.int (0 : Int32))]) hk rfl rfl rfl rfl rfl ?_
      exact H
    · have H := H.2 hc
      exact H
theorem b311_11 {x0 : Nat} {x1 : Int32} {x2 : Option Value} {x3 : Option Value} {h : iH} {Q : Option Value → iH → Prop} (H : (i_obj? h x0 12 ∧ i_C i_MT i_AT L xs 201 [.ref x0, .int (1 : Int32)] h (fun v h1 => ∃ r2 : Int32, v = some (.int r2) ∧ i_P i_MT i_AT L xs 311 16 [some (.ref x0), some (.int x1), x2, x3] [.int r2] h1 0 0 Q))) : i_P i_MT i_AT L xs 311 11 [some (.ref x0), some (.int x1), x2, x3] [] h 0 0 Q := by
  have hk := i_k311
  refine g_s1 (pc2 := 12) hk rfl rfl rfl rfl rfl ?_
  refine g_s1 (pc2 := 13) (st2 := [.int (1 : Int32), .ref x0]) hk rfl rfl rfl rfl rfl ?_
  obtain ⟨ho, H⟩ := H
  refine g_call hk rfl rfl i_k201.1 ⟨rfl, rfl⟩ rfl (i_rcv_v ho rfl (by decide)) rfl ?_
  exact H.mono (fun v h2 q => by obtain ⟨r, rfl, q⟩ := q; exact q)
theorem b311_16 {x0 : Nat} {x1 : Int32} {x2 : Option Value} {x3 : Option Value} {s0 : Int32} {h : iH} {Q : Option Value → iH → Prop} (H : Q (some (.int s0)) h) : i_P i_MT i_AT L xs 311 16 [some (.ref x0), some (.int x1), x2, x3] [.int s0] h 0 0 Q := by
  have hk := i_k311
  exact g_ireturn hk rfl (by decide) (by decide) rfl H
theorem b311_21 {x0 : Nat} {x1 : Int32} {x2 : Int32} {x3 : Int32} {h : iH} {Q : Option Value → iH → Prop} (H : (∃ v1 : Nat, i_fld h x0 12 0 = some (.ref v1) ∧ (∃ (n2 : Nat) (f3 : Nat → Int32), i_arI h 0 v1 = some (n2, f3) ∧ ¬ ((5 : Int32) < 0 ∨ n2 ≤ (5 : Int32).toNatClampNeg) ∧ (((f3 (5 : Int32).toNatClampNeg) ≤ x3 → i_P i_MT i_AT L xs 311 61 [some (.ref x0), some (.int x1), some (.int x2), some (.int (0 : Int32))] [] h 0 0 Q) ∧ (¬ ((f3 (5 : Int32).toNatClampNeg) ≤ x3) → (∃ v4 : Nat, i_fld h x0 12 31 = some (.ref v4) ∧ (∃ (n5 : Nat) (f6 : Nat → Int32), i_arI h 0 v4 = some (n5, f6) ∧ ¬ ((((61 : Int32) * x3) + x1) < 0 ∨ n5 ≤ (((61 : Int32) * x3) + x1).toNatClampNeg) ∧ ((¬ (f6 (((61 : Int32) * x3) + x1).toNatClampNeg) = 0 → i_P i_MT i_AT L xs 311 51 [some (.ref x0), some (.int x1), some (.int x2), some (.int x3)] [.int (1 : Int32), .int x2] h 0 0 Q) ∧ (¬ (¬ (f6 (((61 : Int32) * x3) + x1).toNatClampNeg) = 0) → i_P i_MT i_AT L xs 311 51 [some (.ref x0), some (.int x1), some (.int x2), some (.int x3)] [.int (0 : Int32), .int x2] h 0 0 Q))))))))) : i_P i_MT i_AT L xs 311 21 [some (.ref x0), some (.int x1), some (.int x2), some (.int x3)] [] h 0 0 Q := by
  have hk := i_k311
  refine g_s1 (pc2 := 22) hk rfl rfl rfl rfl rfl ?_
  refine g_s1 (pc2 := 23) hk rfl rfl rfl rfl rfl ?_
  obtain ⟨v1, ev1, H⟩ := H
  refine g_step (pc2 := 26) hk rfl rfl rfl (s_get ev1) ?_
  refine g_s1 (pc2 := 27) (st2 := [.int (5 : Int32), .ref v1, .int x3]) hk rfl rfl rfl rfl rfl ?_
  obtain ⟨n2, f3, ef3, hi, H⟩ := H
  refine g_step (pc2 := 28) hk rfl rfl rfl (s_aget (L := L) (xs := xs) ef3 hi) ?_
  refine g_icmp_ge hk rfl (fun hc => ?_) (fun hc => ?_)
  · have H := H.1 hc
    refine g_s1 (pc2 := 60) (st2 := [.int (0 : Int32)]) hk rfl rfl rfl rfl rfl ?_
    refine g_s1 (pc2 := 61) (lo2 := [some (.ref x0), some (.int x1), some (.int x2), some (.int (0 : Int32))]) hk rfl rfl rfl rfl rfl ?_
    exact H
  · have H := H.2 hc
    refine g_s1 (pc2 := 32) hk rfl rfl rfl rfl rfl ?_
    refine g_s1 (pc2 := 33) hk rfl rfl rfl rfl rfl ?_
    obtain ⟨v4, ev4, H⟩ := H
    refine g_step (pc2 := 36) hk rfl rfl rfl (s_get ev4) ?_
    refine g_s1 (pc2 := 38) (st2 := [.int (61 : Int32), .ref v4, .int x2]) hk rfl rfl rfl rfl rfl ?_
    refine g_s1 (pc2 := 39) hk rfl rfl rfl rfl rfl ?_
    refine g_s1 (pc2 := 40) hk rfl rfl rfl rfl rfl ?_
    refine g_s1 (pc2 := 41) hk rfl rfl rfl rfl rfl ?_
    refine g_s1 (pc2 := 42) hk rfl rfl rfl rfl rfl ?_
    obtain ⟨n5, f6, ef6, hi, H⟩ := H
    refine g_step (pc2 := 43) hk rfl rfl rfl (s_aget (L := L) (xs := xs) ef6 hi) ?_
    refine g_if_ne hk rfl (fun hc => ?_) (fun hc => ?_)
    · have H := H.1 hc
      refine g_s1 (pc2 := 51) (st2 := [.int (1 : Int32), .int x2]) hk rfl rfl rfl rfl rfl ?_
      exact H
    · have H := H.2 hc
      refine g_s1 (pc2 := 47) (st2 := [.int (0 : Int32), .int x2]) hk rfl rfl rfl rfl rfl ?_
      refine g_s1 (pc2 := 51) hk rfl rfl rfl rfl rfl ?_
      exact H
theorem b311_51 {x0 : Nat} {x1 : Int32} {x2 : Int32} {x3 : Int32} {s0 : Int32} {s1 : Int32} {h : iH} {Q : Option Value → iH → Prop} (H : i_P i_MT i_AT L xs 311 21 [some (.ref x0), some (.int x1), some (.int (s0 + s1)), some (.int (x3 + 1))] [] h 0 0 Q) : i_P i_MT i_AT L xs 311 51 [some (.ref x0), some (.int x1), some (.int x2), some (.int x3)] [.int s1, .int s0] h 0 0 Q := by
  have hk := i_k311
  refine g_s1 (pc2 := 52) hk rfl rfl rfl rfl rfl ?_
  refine g_s1 (pc2 := 53) (lo2 := [some (.ref x0), some (.int x1), some (.int (s0 + s1)), some (.int x3)]) hk rfl rfl rfl rfl rfl ?_
  refine g_s1 (pc2 := 56) (lo2 := [some (.ref x0), some (.int x1), some (.int (s0 + s1)), some (.int (x3 + 1))]) hk rfl rfl rfl rfl rfl ?_
  refine g_s1 (pc2 := 21) hk rfl rfl rfl rfl rfl ?_
  exact H
theorem b311_61 {x0 : Nat} {x1 : Int32} {x2 : Int32} {x3 : Int32} {h : iH} {Q : Option Value → iH → Prop} (H : (∃ v1 : Nat, i_fld h x0 12 0 = some (.ref v1) ∧ (∃ (n2 : Nat) (f3 : Nat → Int32), i_arI h 0 v1 = some (n2, f3) ∧ ¬ ((3 : Int32) < 0 ∨ n2 ≤ (3 : Int32).toNatClampNeg) ∧ (((f3 (3 : Int32).toNatClampNeg) ≤ x3 → (i_obj? h x0 12 ∧ i_C i_MT i_AT L xs 202 [.ref x0, .int x2] h (fun v h4 => ∃ r5 : Int32, v = some (.int r5) ∧ i_P i_MT i_AT L xs 311 117 [some (.ref x0), some (.int x1), some (.int x2), some (.int x3)] [.int r5] h4 0 0 Q))) ∧ (¬ ((f3 (3 : Int32).toNatClampNeg) ≤ x3) → (∃ v6 : Nat, i_fld h x0 12 32 = some (.ref v6) ∧ (∃ (n7 : Nat) (f8 : Nat → Int32), i_arI h 0 v6 = some (n7, f8) ∧ ¬ ((((61 : Int32) * x3) + x1) < 0 ∨ n7 ≤ (((61 : Int32) * x3) + x1).toNatClampNeg) ∧ (∃ v9 : Nat, i_fld h x0 12 32 = some (.ref v9) ∧ (∃ (n10 : Nat) (f11 : Nat → Int32), i_arI h 0 v9 = some (n10, f11) ∧ ¬ (((((61 : Int32) * x3) + x1) - (1 : Int32)) < 0 ∨ n10 ≤ ((((61 : Int32) * x3) + x1) - (1 : Int32)).toNatClampNeg) ∧ ((¬ (f8 (((61 : Int32) * x3) + x1).toNatClampNeg) = (f11 ((((61 : Int32) * x3) + x1) - (1 : Int32)).toNatClampNeg) → i_P i_MT i_AT L xs 311 104 [some (.ref x0), some (.int x1), some (.int x2), some (.int x3)] [.int (1 : Int32), .int x2] h 0 0 Q) ∧ (¬ (¬ (f8 (((61 : Int32) * x3) + x1).toNatClampNeg) = (f11 ((((61 : Int32) * x3) + x1) - (1 : Int32)).toNatClampNeg)) → i_P i_MT i_AT L xs 311 104 [some (.ref x0), some (.int x1), some (.int x2), some (.int x3)] [.int (0 : Int32), .int x2] h 0 0 Q))))))))))) : i_P i_MT i_AT L xs 311 61 [some (.ref x0), some (.int x1), some (.int x2), some (.int x3)] [] h 0 0 Q := by
  have hk := i_k311
  refine g_s1 (pc2 := 62) hk rfl rfl rfl rfl rfl ?_
  refine g_s1 (pc2 := 63) hk rfl rfl rfl rfl rfl ?_
  obtain ⟨v1, ev1, H⟩ := H
  refine g_step (pc2 := 66) hk rfl rfl rfl (s_get ev1) ?_
  refine g_s1 (pc2 := 67) (st2 := [.int (3 : Int32), .ref v1, .int x3]) hk rfl rfl rfl rfl rfl ?_
  obtain ⟨n2, f3, ef3, hi, H⟩ := H
  refine g_step (pc2 := 68) hk rfl rfl rfl (s_aget (L := L) (xs := xs) ef3 hi) ?_
  refine g_icmp_ge hk rfl (fun hc => ?_) (fun hc => ?_)
  · have H := H.1 hc
    refine g_s1 (pc2 := 113) hk rfl rfl rfl rfl rfl ?_
    refine g_s1 (pc2 := 114) hk rfl rfl rfl rfl rfl ?_
    obtain ⟨ho, H⟩ := H
    refine g_call hk rfl rfl i_k202.1 ⟨rfl, rfl⟩ rfl (i_rcv_v ho rfl (by decide)) rfl ?_
    exact H.mono (fun v h2 q => by obtain ⟨r, rfl, q⟩ := q; exact q)
  · have H := H.2 hc
    refine g_s1 (pc2 := 72) hk rfl rfl rfl rfl rfl ?_
    refine g_s1 (pc2 := 73) hk rfl rfl rfl rfl rfl ?_
    obtain ⟨v6, ev6, H⟩ := H
    refine g_step (pc2 := 76) hk rfl rfl rfl (s_get ev6) ?_
    refine g_s1 (pc2 := 78) (st2 := [.int (61 : Int32), .ref v6, .int x2]) hk rfl rfl rfl rfl rfl ?_
    refine g_s1 (pc2 := 79) hk rfl rfl rfl rfl rfl ?_
    refine g_s1 (pc2 := 80) hk rfl rfl rfl rfl rfl ?_
    refine g_s1 (pc2 := 81) hk rfl rfl rfl rfl rfl ?_
    refine g_s1 (pc2 := 82) hk rfl rfl rfl rfl rfl ?_
    obtain ⟨n7, f8, ef8, hi, H⟩ := H
    refine g_step (pc2 := 83) hk rfl rfl rfl (s_aget (L := L) (xs := xs) ef8 hi) ?_
    refine g_s1 (pc2 := 84) hk rfl rfl rfl rfl rfl ?_
    obtain ⟨v9, ev9, H⟩ := H
    refine g_step (pc2 := 87) hk rfl rfl rfl (s_get ev9) ?_
    refine g_s1 (pc2 := 89) (st2 := [.int (61 : Int32), .ref v9, .int (f8 (((61 : Int32) * x3) + x1).toNatClampNeg), .int x2]) hk rfl rfl rfl rfl rfl ?_
    refine g_s1 (pc2 := 90) hk rfl rfl rfl rfl rfl ?_
    refine g_s1 (pc2 := 91) hk rfl rfl rfl rfl rfl ?_
    refine g_s1 (pc2 := 92) hk rfl rfl rfl rfl rfl ?_
    refine g_s1 (pc2 := 93) hk rfl rfl rfl rfl rfl ?_
    refine g_s1 (pc2 := 94) (st2 := [.int (1 : Int32), .int (((61 : Int32) * x3) + x1), .ref v9, .int (f8 (((61 : Int32) * x3) + x1).toNatClampNeg), .int x2]) hk rfl rfl rfl rfl rfl ?_
    refine g_s1 (pc2 := 95) hk rfl rfl rfl rfl rfl ?_
    obtain ⟨n10, f11, ef11, hi, H⟩ := H
    refine g_step (pc2 := 96) hk rfl rfl rfl (s_aget (L := L) (xs := xs) ef11 hi) ?_
    refine g_icmp_ne hk rfl (fun hc => ?_) (fun hc => ?_)
    · have H := H.1 hc
      refine g_s1 (pc2 := 104) (st2 := [.int (1 : Int32), .int x2]) hk rfl rfl rfl rfl rfl ?_
      exact H
    · have H := H.2 hc
      refine g_s1 (pc2 := 100) (st2 := [.int (0 : Int32), .int x2]) hk rfl rfl rfl rfl rfl ?_
      refine g_s1 (pc2 := 104) hk rfl rfl rfl rfl rfl ?_
      exact H
theorem b311_104 {x0 : Nat} {x1 : Int32} {x2 : Int32} {x3 : Int32} {s0 : Int32} {s1 : Int32} {h : iH} {Q : Option Value → iH → Prop} (H : i_P i_MT i_AT L xs 311 61 [some (.ref x0), some (.int x1), some (.int (s0 + s1)), some (.int (x3 + 1))] [] h 0 0 Q) : i_P i_MT i_AT L xs 311 104 [some (.ref x0), some (.int x1), some (.int x2), some (.int x3)] [.int s1, .int s0] h 0 0 Q := by
  have hk := i_k311
  refine g_s1 (pc2 := 105) hk rfl rfl rfl rfl rfl ?_
  refine g_s1 (pc2 := 106) (lo2 := [some (.ref x0), some (.int x1), some (.int (s0 + s1)), some (.int x3)]) hk rfl rfl rfl rfl rfl ?_
  refine g_s1 (pc2 := 109) (lo2 := [some (.ref x0), some (.int x1), some (.int (s0 + s1)), some (.int (x3 + 1))]) hk rfl rfl rfl rfl rfl ?_
  refine g_s1 (pc2 := 61) hk rfl rfl rfl rfl rfl ?_
  exact H
theorem b311_117 {x0 : Nat} {x1 : Int32} {x2 : Int32} {x3 : Int32} {s0 : Int32} {h : iH} {Q : Option Value → iH → Prop} (H : Q (some (.int s0)) h) : i_P i_MT i_AT L xs 311 117 [some (.ref x0), some (.int x1), some (.int x2), some (.int x3)] [.int s0] h 0 0 Q := by
  have hk := i_k311
  exact g_ireturn hk rfl (by decide) (by decide) rfl H
/-! StillTownModel.seesAny(II)Z -/
theorem e312 {x0 : Nat} {x1 : Int32} {x2 : Int32} {h : iH} {Q : Option Value → iH → Prop} (H : i_P i_MT i_AT L xs 312 0 [some (.ref x0), some (.int x1), some (.int x2), none] [] h 0 0 Q) : i_C i_MT i_AT L xs 312 [.ref x0, .int x1, .int x2] h Q := ⟨i_m312, i_k312.1, Nat.le_of_ble_eq_true rfl, H⟩
theorem b312_0 {x0 : Nat} {x1 : Int32} {x2 : Int32} {x3 : Option Value} {h : iH} {Q : Option Value → iH → Prop} (H : i_P i_MT i_AT L xs 312 2 [some (.ref x0), some (.int x1), some (.int x2), some (.int (0 : Int32))] [] h 0 0 Q) : i_P i_MT i_AT L xs 312 0 [some (.ref x0), some (.int x1), some (.int x2), x3] [] h 0 0 Q := by
  have hk := i_k312
  refine g_s1 (pc2 := 1) (st2 := [.int (0 : Int32)]) hk rfl rfl rfl rfl rfl ?_
  refine g_s1 (pc2 := 2) (lo2 := [some (.ref x0), some (.int x1), some (.int x2), some (.int (0 : Int32))]) hk rfl rfl rfl rfl rfl ?_
  exact H
theorem b312_2 {x0 : Nat} {x1 : Int32} {x2 : Int32} {x3 : Int32} {h : iH} {Q : Option Value → iH → Prop} (H : (∃ v1 : Nat, i_fld h x0 12 0 = some (.ref v1) ∧ (∃ (n2 : Nat) (f3 : Nat → Int32), i_arI h 0 v1 = some (n2, f3) ∧ ¬ ((5 : Int32) < 0 ∨ n2 ≤ (5 : Int32).toNatClampNeg) ∧ (((f3 (5 : Int32).toNatClampNeg) ≤ x3 → i_P i_MT i_AT L xs 312 37 [some (.ref x0), some (.int x1), some (.int x2), some (.int (0 : Int32))] [] h 0 0 Q) ∧ (¬ ((f3 (5 : Int32).toNatClampNeg) ≤ x3) → ((x3 = x1 → i_P i_MT i_AT L xs 312 29 [some (.ref x0), some (.int x1), some (.int x2), some (.int x3)] [] h 0 0 Q) ∧ (¬ (x3 = x1) → (i_obj? h x0 12 ∧ i_C i_MT i_AT L xs 276 [.ref x0, .int x1, .int x3, .int x2] h (fun v h4 => ∃ r5 : Int32, v = some (.int r5) ∧ i_P i_MT i_AT L xs 312 24 [some (.ref x0), some (.int x1), some (.int x2), some (.int x3)] [.int r5] h4 0 0 Q))))))))) : i_P i_MT i_AT L xs 312 2 [some (.ref x0), some (.int x1), some (.int x2), some (.int x3)] [] h 0 0 Q := by
  have hk := i_k312
  refine g_s1 (pc2 := 3) hk rfl rfl rfl rfl rfl ?_
  refine g_s1 (pc2 := 4) hk rfl rfl rfl rfl rfl ?_
  obtain ⟨v1, ev1, H⟩ := H
  refine g_step (pc2 := 7) hk rfl rfl rfl (s_get ev1) ?_
  refine g_s1 (pc2 := 8) (st2 := [.int (5 : Int32), .ref v1, .int x3]) hk rfl rfl rfl rfl rfl ?_
  obtain ⟨n2, f3, ef3, hi, H⟩ := H
  refine g_step (pc2 := 9) hk rfl rfl rfl (s_aget (L := L) (xs := xs) ef3 hi) ?_
  refine g_icmp_ge hk rfl (fun hc => ?_) (fun hc => ?_)
  · have H := H.1 hc
    refine g_s1 (pc2 := 36) (st2 := [.int (0 : Int32)]) hk rfl rfl rfl rfl rfl ?_
    refine g_s1 (pc2 := 37) (lo2 := [some (.ref x0), some (.int x1), some (.int x2), some (.int (0 : Int32))]) hk rfl rfl rfl rfl rfl ?_
    exact H
  · have H := H.2 hc
    refine g_s1 (pc2 := 13) hk rfl rfl rfl rfl rfl ?_
    refine g_s1 (pc2 := 14) hk rfl rfl rfl rfl rfl ?_
    refine g_icmp_eq hk rfl (fun hc => ?_) (fun hc => ?_)
    · have H := H.1 hc
      exact H
    · have H := H.2 hc
      refine g_s1 (pc2 := 18) hk rfl rfl rfl rfl rfl ?_
      refine g_s1 (pc2 := 19) hk rfl rfl rfl rfl rfl ?_
      refine g_s1 (pc2 := 20) hk rfl rfl rfl rfl rfl ?_
      refine g_s1 (pc2 := 21) hk rfl rfl rfl rfl rfl ?_
      obtain ⟨ho, H⟩ := H
      refine g_call hk rfl rfl i_k276.1 ⟨rfl, rfl⟩ rfl (i_rcv_v ho rfl (by decide)) rfl ?_
      exact H.mono (fun v h2 q => by obtain ⟨r, rfl, q⟩ := q; exact q)
theorem b312_24 {x0 : Nat} {x1 : Int32} {x2 : Int32} {x3 : Int32} {s0 : Int32} {h : iH} {Q : Option Value → iH → Prop} (H : ((s0 ≤ 0 → i_P i_MT i_AT L xs 312 29 [some (.ref x0), some (.int x1), some (.int x2), some (.int x3)] [] h 0 0 Q) ∧ (¬ (s0 ≤ 0) → Q (some (.int 1)) h))) : i_P i_MT i_AT L xs 312 24 [some (.ref x0), some (.int x1), some (.int x2), some (.int x3)] [.int s0] h 0 0 Q := by
  have hk := i_k312
  refine g_if_le hk rfl (fun hc => ?_) (fun hc => ?_)
  · have H := H.1 hc
    exact H
  · have H := H.2 hc
    refine g_s1 (pc2 := 28) (st2 := [.int (1 : Int32)]) hk rfl rfl rfl rfl rfl ?_
    exact g_ireturn hk rfl (by decide) (by decide) rfl H
theorem b312_29 {x0 : Nat} {x1 : Int32} {x2 : Int32} {x3 : Int32} {h : iH} {Q : Option Value → iH → Prop} (H : i_P i_MT i_AT L xs 312 2 [some (.ref x0), some (.int x1), some (.int x2), some (.int (x3 + 1))] [] h 0 0 Q) : i_P i_MT i_AT L xs 312 29 [some (.ref x0), some (.int x1), some (.int x2), some (.int x3)] [] h 0 0 Q := by
  have hk := i_k312
  refine g_s1 (pc2 := 32) (lo2 := [some (.ref x0), some (.int x1), some (.int x2), some (.int (x3 + 1))]) hk rfl rfl rfl rfl rfl ?_
  refine g_s1 (pc2 := 2) hk rfl rfl rfl rfl rfl ?_
  exact H
theorem b312_37 {x0 : Nat} {x1 : Int32} {x2 : Int32} {x3 : Int32} {h : iH} {Q : Option Value → iH → Prop} (H : (∃ v1 : Nat, i_fld h x0 12 0 = some (.ref v1) ∧ (∃ (n2 : Nat) (f3 : Nat → Int32), i_arI h 0 v1 = some (n2, f3) ∧ ¬ ((3 : Int32) < 0 ∨ n2 ≤ (3 : Int32).toNatClampNeg) ∧ (((f3 (3 : Int32).toNatClampNeg) ≤ x3 → Q (some (.int 0)) h) ∧ (¬ ((f3 (3 : Int32).toNatClampNeg) ≤ x3) → (∃ v4 : Nat, i_fld h x0 12 32 = some (.ref v4) ∧ (∃ (n5 : Nat) (f6 : Nat → Int32), i_arI h 0 v4 = some (n5, f6) ∧ ¬ ((((61 : Int32) * x3) + x2) < 0 ∨ n5 ≤ (((61 : Int32) * x3) + x2).toNatClampNeg) ∧ (∃ v7 : Nat, i_fld h x0 12 32 = some (.ref v7) ∧ (∃ (n8 : Nat) (f9 : Nat → Int32), i_arI h 0 v7 = some (n8, f9) ∧ ¬ (((((61 : Int32) * x3) + x2) - (1 : Int32)) < 0 ∨ n8 ≤ ((((61 : Int32) * x3) + x2) - (1 : Int32)).toNatClampNeg) ∧ (((f6 (((61 : Int32) * x3) + x2).toNatClampNeg) = (f9 ((((61 : Int32) * x3) + x2) - (1 : Int32)).toNatClampNeg) → i_P i_MT i_AT L xs 312 96 [some (.ref x0), some (.int x1), some (.int x2), some (.int x3)] [] h 0 0 Q) ∧ (¬ ((f6 (((61 : Int32) * x3) + x2).toNatClampNeg) = (f9 ((((61 : Int32) * x3) + x2) - (1 : Int32)).toNatClampNeg)) → (∃ v10 : Nat, i_fld h x0 12 32 = some (.ref v10) ∧ (∃ (n11 : Nat) (f12 : Nat → Int32), i_arI h 0 v10 = some (n11, f12) ∧ ¬ ((((61 : Int32) * x3) + x2) < 0 ∨ n11 ≤ (((61 : Int32) * x3) + x2).toNatClampNeg) ∧ (i_obj? h x0 12 ∧ i_C i_MT i_AT L xs 272 [.ref x0, .int x1, .int (f12 (((61 : Int32) * x3) + x2).toNatClampNeg), .int x2] h (fun v h13 => ∃ r14 : Int32, v = some (.int r14) ∧ i_P i_MT i_AT L xs 312 91 [some (.ref x0), some (.int x1), some (.int x2), some (.int x3)] [.int r14] h13 0 0 Q))))))))))))))) : i_P i_MT i_AT L xs 312 37 [some (.ref x0), some (.int x1), some (.int x2), some (.int x3)] [] h 0 0 Q := by
  have hk := i_k312
  refine g_s1 (pc2 := 38) hk rfl rfl rfl rfl rfl ?_
  refine g_s1 (pc2 := 39) hk rfl rfl rfl rfl rfl ?_
  obtain ⟨v1, ev1, H⟩ := H
  refine g_step (pc2 := 42) hk rfl rfl rfl (s_get ev1) ?_
  refine g_s1 (pc2 := 43) (st2 := [.int (3 : Int32), .ref v1, .int x3]) hk rfl rfl rfl rfl rfl ?_
  obtain ⟨n2, f3, ef3, hi, H⟩ := H
  refine g_step (pc2 := 44) hk rfl rfl rfl (s_aget (L := L) (xs := xs) ef3 hi) ?_
  refine g_icmp_ge hk rfl (fun hc => ?_) (fun hc => ?_)
  · have H := H.1 hc
    refine g_s1 (pc2 := 103) (st2 := [.int (0 : Int32)]) hk rfl rfl rfl rfl rfl ?_
    exact g_ireturn hk rfl (by decide) (by decide) rfl H
  · have H := H.2 hc
    refine g_s1 (pc2 := 48) hk rfl rfl rfl rfl rfl ?_
    obtain ⟨v4, ev4, H⟩ := H
    refine g_step (pc2 := 51) hk rfl rfl rfl (s_get ev4) ?_
    refine g_s1 (pc2 := 53) (st2 := [.int (61 : Int32), .ref v4]) hk rfl rfl rfl rfl rfl ?_
    refine g_s1 (pc2 := 54) hk rfl rfl rfl rfl rfl ?_
    refine g_s1 (pc2 := 55) hk rfl rfl rfl rfl rfl ?_
    refine g_s1 (pc2 := 56) hk rfl rfl rfl rfl rfl ?_
    refine g_s1 (pc2 := 57) hk rfl rfl rfl rfl rfl ?_
    obtain ⟨n5, f6, ef6, hi, H⟩ := H
    refine g_step (pc2 := 58) hk rfl rfl rfl (s_aget (L := L) (xs := xs) ef6 hi) ?_
    refine g_s1 (pc2 := 59) hk rfl rfl rfl rfl rfl ?_
    obtain ⟨v7, ev7, H⟩ := H
    refine g_step (pc2 := 62) hk rfl rfl rfl (s_get ev7) ?_
    refine g_s1 (pc2 := 64) (st2 := [.int (61 : Int32), .ref v7, .int (f6 (((61 : Int32) * x3) + x2).toNatClampNeg)]) hk rfl rfl rfl rfl rfl ?_
    refine g_s1 (pc2 := 65) hk rfl rfl rfl rfl rfl ?_
    refine g_s1 (pc2 := 66) hk rfl rfl rfl rfl rfl ?_
    refine g_s1 (pc2 := 67) hk rfl rfl rfl rfl rfl ?_
    refine g_s1 (pc2 := 68) hk rfl rfl rfl rfl rfl ?_
    refine g_s1 (pc2 := 69) (st2 := [.int (1 : Int32), .int (((61 : Int32) * x3) + x2), .ref v7, .int (f6 (((61 : Int32) * x3) + x2).toNatClampNeg)]) hk rfl rfl rfl rfl rfl ?_
    refine g_s1 (pc2 := 70) hk rfl rfl rfl rfl rfl ?_
    obtain ⟨n8, f9, ef9, hi, H⟩ := H
    refine g_step (pc2 := 71) hk rfl rfl rfl (s_aget (L := L) (xs := xs) ef9 hi) ?_
    refine g_icmp_eq hk rfl (fun hc => ?_) (fun hc => ?_)
    · have H := H.1 hc
      exact H
    · have H := H.2 hc
      refine g_s1 (pc2 := 75) hk rfl rfl rfl rfl rfl ?_
      refine g_s1 (pc2 := 76) hk rfl rfl rfl rfl rfl ?_
      refine g_s1 (pc2 := 77) hk rfl rfl rfl rfl rfl ?_
      obtain ⟨v10, ev10, H⟩ := H
      refine g_step (pc2 := 80) hk rfl rfl rfl (s_get ev10) ?_
      refine g_s1 (pc2 := 82) (st2 := [.int (61 : Int32), .ref v10, .int x1, .ref x0]) hk rfl rfl rfl rfl rfl ?_
      refine g_s1 (pc2 := 83) hk rfl rfl rfl rfl rfl ?_
      refine g_s1 (pc2 := 84) hk rfl rfl rfl rfl rfl ?_
      refine g_s1 (pc2 := 85) hk rfl rfl rfl rfl rfl ?_
      refine g_s1 (pc2 := 86) hk rfl rfl rfl rfl rfl ?_
      obtain ⟨n11, f12, ef12, hi, H⟩ := H
      refine g_step (pc2 := 87) hk rfl rfl rfl (s_aget (L := L) (xs := xs) ef12 hi) ?_
      refine g_s1 (pc2 := 88) hk rfl rfl rfl rfl rfl ?_
      obtain ⟨ho, H⟩ := H
      refine g_call hk rfl rfl i_k272.1 ⟨rfl, rfl⟩ rfl (i_rcv_v ho rfl (by decide)) rfl ?_
      exact H.mono (fun v h2 q => by obtain ⟨r, rfl, q⟩ := q; exact q)
theorem b312_91 {x0 : Nat} {x1 : Int32} {x2 : Int32} {x3 : Int32} {s0 : Int32} {h : iH} {Q : Option Value → iH → Prop} (H : ((s0 = 0 → i_P i_MT i_AT L xs 312 96 [some (.ref x0), some (.int x1), some (.int x2), some (.int x3)] [] h 0 0 Q) ∧ (¬ (s0 = 0) → Q (some (.int 1)) h))) : i_P i_MT i_AT L xs 312 91 [some (.ref x0), some (.int x1), some (.int x2), some (.int x3)] [.int s0] h 0 0 Q := by
  have hk := i_k312
  refine g_if_eq hk rfl (fun hc => ?_) (fun hc => ?_)
  · have H := H.1 hc
    exact H
  · have H := H.2 hc
    refine g_s1 (pc2 := 95) (st2 := [.int (1 : Int32)]) hk rfl rfl rfl rfl rfl ?_
    exact g_ireturn hk rfl (by decide) (by decide) rfl H
theorem b312_96 {x0 : Nat} {x1 : Int32} {x2 : Int32} {x3 : Int32} {h : iH} {Q : Option Value → iH → Prop} (H : i_P i_MT i_AT L xs 312 37 [some (.ref x0), some (.int x1), some (.int x2), some (.int (x3 + 1))] [] h 0 0 Q) : i_P i_MT i_AT L xs 312 96 [some (.ref x0), some (.int x1), some (.int x2), some (.int x3)] [] h 0 0 Q := by
  have hk := i_k312
  refine g_s1 (pc2 := 99) (lo2 := [some (.ref x0), some (.int x1), some (.int x2), some (.int (x3 + 1))]) hk rfl rfl rfl rfl rfl ?_
  refine g_s1 (pc2 := 37) hk rfl rfl rfl rfl rfl ?_
  exact H
/-! StillTownModel.gone(I)I -/
theorem e313 {x0 : Nat} {x1 : Int32} {h : iH} {Q : Option Value → iH → Prop} (H : i_P i_MT i_AT L xs 313 0 [some (.ref x0), some (.int x1), none, none] [] h 0 0 Q) : i_C i_MT i_AT L xs 313 [.ref x0, .int x1] h Q := ⟨i_m313, i_k313.1, Nat.le_of_ble_eq_true rfl, H⟩
theorem b313_0 {x0 : Nat} {x1 : Int32} {x2 : Option Value} {x3 : Option Value} {h : iH} {Q : Option Value → iH → Prop} (H : (i_obj? h x0 12 ∧ i_C i_MT i_AT L xs 254 [.ref x0, .int x1] h (fun v h1 => ∃ r2 : Int32, v = some (.int r2) ∧ i_P i_MT i_AT L xs 313 5 [some (.ref x0), some (.int x1), x2, x3] [.int r2] h1 0 0 Q))) : i_P i_MT i_AT L xs 313 0 [some (.ref x0), some (.int x1), x2, x3] [] h 0 0 Q := by
  have hk := i_k313
  refine g_s1 (pc2 := 1) hk rfl rfl rfl rfl rfl ?_
  refine g_s1 (pc2 := 2) hk rfl rfl rfl rfl rfl ?_
  obtain ⟨ho, H⟩ := H
  refine g_call hk rfl rfl i_k254.1 ⟨rfl, rfl⟩ rfl (i_rcv_v ho rfl (by decide)) rfl ?_
  exact H.mono (fun v h2 q => by obtain ⟨r, rfl, q⟩ := q; exact q)
theorem b313_5 {x0 : Nat} {x1 : Int32} {x2 : Option Value} {x3 : Option Value} {s0 : Int32} {h : iH} {Q : Option Value → iH → Prop} (H : ((¬ s0 = 0 → i_P i_MT i_AT L xs 313 18 [some (.ref x0), some (.int x1), some (.int (0 : Int32)), some (.int (1 : Int32))] [] h 0 0 Q) ∧ (¬ (¬ s0 = 0) → (i_obj? h x0 12 ∧ i_C i_MT i_AT L xs 201 [.ref x0, .int (1 : Int32)] h (fun v h1 => ∃ r2 : Int32, v = some (.int r2) ∧ i_P i_MT i_AT L xs 313 13 [some (.ref x0), some (.int x1), x2, x3] [.int r2] h1 0 0 Q))))) : i_P i_MT i_AT L xs 313 5 [some (.ref x0), some (.int x1), x2, x3] [.int s0] h 0 0 Q := by
  have hk := i_k313
  refine g_if_ne hk rfl (fun hc => ?_) (fun hc => ?_)
  · have H := H.1 hc
    refine g_s1 (pc2 := 15) (st2 := [.int (0 : Int32)]) hk rfl rfl rfl rfl rfl ?_
    refine g_s1 (pc2 := 16) (lo2 := [some (.ref x0), some (.int x1), some (.int (0 : Int32)), x3]) hk rfl rfl rfl rfl rfl ?_
    refine g_s1 (pc2 := 17) (st2 := [.int (1 : Int32)]) hk rfl rfl rfl rfl rfl ?_
    refine g_s1 (pc2 := 18) (lo2 := [some (.ref x0), some (.int x1), some (.int (0 : Int32)), some (.int (1 : Int32))]) hk rfl rfl rfl rfl rfl ?_
    exact H
  · have H := H.2 hc
    refine g_s1 (pc2 := 9) hk rfl rfl rfl rfl rfl ?_
    refine g_s1 (pc2 := 10) (st2 := [.int (1 : Int32), .ref x0]) hk rfl rfl rfl rfl rfl ?_
    obtain ⟨ho, H⟩ := H
    refine g_call hk rfl rfl i_k201.1 ⟨rfl, rfl⟩ rfl (i_rcv_v ho rfl (by decide)) rfl ?_
    exact H.mono (fun v h2 q => by obtain ⟨r, rfl, q⟩ := q; exact q)
theorem b313_13 {x0 : Nat} {x1 : Int32} {x2 : Option Value} {x3 : Option Value} {s0 : Int32} {h : iH} {Q : Option Value → iH → Prop} (H : Q (some (.int s0)) h) : i_P i_MT i_AT L xs 313 13 [some (.ref x0), some (.int x1), x2, x3] [.int s0] h 0 0 Q := by
  have hk := i_k313
  exact g_ireturn hk rfl (by decide) (by decide) rfl H
theorem b313_18 {x0 : Nat} {x1 : Int32} {x2 : Int32} {x3 : Int32} {h : iH} {Q : Option Value → iH → Prop} (H : (((60 : Int32) < x3 → (i_obj? h x0 12 ∧ i_C i_MT i_AT L xs 202 [.ref x0, .int x2] h (fun v h1 => ∃ r2 : Int32, v = some (.int r2) ∧ i_P i_MT i_AT L xs 313 52 [some (.ref x0), some (.int x1), some (.int x2), some (.int x3)] [.int r2] h1 0 0 Q))) ∧ (¬ ((60 : Int32) < x3) → (i_obj? h x0 12 ∧ i_C i_MT i_AT L xs 312 [.ref x0, .int x1, .int x3] h (fun v h3 => ∃ r4 : Int32, v = some (.int r4) ∧ i_P i_MT i_AT L xs 313 31 [some (.ref x0), some (.int x1), some (.int x2), some (.int x3)] [.int r4, .int x2] h3 0 0 Q))))) : i_P i_MT i_AT L xs 313 18 [some (.ref x0), some (.int x1), some (.int x2), some (.int x3)] [] h 0 0 Q := by
  have hk := i_k313
  refine g_s1 (pc2 := 19) hk rfl rfl rfl rfl rfl ?_
  refine g_s1 (pc2 := 21) (st2 := [.int (60 : Int32), .int x3]) hk rfl rfl rfl rfl rfl ?_
  refine g_icmp_gt hk rfl (fun hc => ?_) (fun hc => ?_)
  · have H := H.1 hc
    refine g_s1 (pc2 := 48) hk rfl rfl rfl rfl rfl ?_
    refine g_s1 (pc2 := 49) hk rfl rfl rfl rfl rfl ?_
    obtain ⟨ho, H⟩ := H
    refine g_call hk rfl rfl i_k202.1 ⟨rfl, rfl⟩ rfl (i_rcv_v ho rfl (by decide)) rfl ?_
    exact H.mono (fun v h2 q => by obtain ⟨r, rfl, q⟩ := q; exact q)
  · have H := H.2 hc
    refine g_s1 (pc2 := 25) hk rfl rfl rfl rfl rfl ?_
    refine g_s1 (pc2 := 26) hk rfl rfl rfl rfl rfl ?_
    refine g_s1 (pc2 := 27) hk rfl rfl rfl rfl rfl ?_
    refine g_s1 (pc2 := 28) hk rfl rfl rfl rfl rfl ?_
    obtain ⟨ho, H⟩ := H
    refine g_call hk rfl rfl i_k312.1 ⟨rfl, rfl⟩ rfl (i_rcv_v ho rfl (by decide)) rfl ?_
    exact H.mono (fun v h2 q => by obtain ⟨r, rfl, q⟩ := q; exact q)
theorem b313_31 {x0 : Nat} {x1 : Int32} {x2 : Int32} {x3 : Int32} {s0 : Int32} {s1 : Int32} {h : iH} {Q : Option Value → iH → Prop} (H : ((s1 = 0 → i_P i_MT i_AT L xs 313 39 [some (.ref x0), some (.int x1), some (.int x2), some (.int x3)] [.int (1 : Int32), .int s0] h 0 0 Q) ∧ (¬ (s1 = 0) → i_P i_MT i_AT L xs 313 39 [some (.ref x0), some (.int x1), some (.int x2), some (.int x3)] [.int (0 : Int32), .int s0] h 0 0 Q))) : i_P i_MT i_AT L xs 313 31 [some (.ref x0), some (.int x1), some (.int x2), some (.int x3)] [.int s1, .int s0] h 0 0 Q := by
  have hk := i_k313
  refine g_if_eq hk rfl (fun hc => ?_) (fun hc => ?_)
  · have H := H.1 hc
    refine g_s1 (pc2 := 39) (st2 := [.int (1 : Int32), .int s0]) hk rfl rfl rfl rfl rfl ?_
    exact H
  · have H := H.2 hc
    refine g_s1 (pc2 := 35) (st2 := [.int (0 : Int32), .int s0]) hk rfl rfl rfl rfl rfl ?_
    refine g_s1 (pc2 := 39) hk rfl rfl rfl rfl rfl ?_
    exact H
theorem b313_39 {x0 : Nat} {x1 : Int32} {x2 : Int32} {x3 : Int32} {s0 : Int32} {s1 : Int32} {h : iH} {Q : Option Value → iH → Prop} (H : i_P i_MT i_AT L xs 313 18 [some (.ref x0), some (.int x1), some (.int (s0 + s1)), some (.int (x3 + 1))] [] h 0 0 Q) : i_P i_MT i_AT L xs 313 39 [some (.ref x0), some (.int x1), some (.int x2), some (.int x3)] [.int s1, .int s0] h 0 0 Q := by
  have hk := i_k313
  refine g_s1 (pc2 := 40) hk rfl rfl rfl rfl rfl ?_
  refine g_s1 (pc2 := 41) (lo2 := [some (.ref x0), some (.int x1), some (.int (s0 + s1)), some (.int x3)]) hk rfl rfl rfl rfl rfl ?_
  refine g_s1 (pc2 := 44) (lo2 := [some (.ref x0), some (.int x1), some (.int (s0 + s1)), some (.int (x3 + 1))]) hk rfl rfl rfl rfl rfl ?_
  refine g_s1 (pc2 := 18) hk rfl rfl rfl rfl rfl ?_
  exact H
theorem b313_52 {x0 : Nat} {x1 : Int32} {x2 : Int32} {x3 : Int32} {s0 : Int32} {h : iH} {Q : Option Value → iH → Prop} (H : Q (some (.int s0)) h) : i_P i_MT i_AT L xs 313 52 [some (.ref x0), some (.int x1), some (.int x2), some (.int x3)] [.int s0] h 0 0 Q := by
  have hk := i_k313
  exact g_ireturn hk rfl (by decide) (by decide) rfl H
/-! StillTownModel.stands(II)I -/
theorem e314 {x0 : Nat} {x1 : Int32} {x2 : Int32} {h : iH} {Q : Option Value → iH → Prop} (H : i_P i_MT i_AT L xs 314 0 [some (.ref x0), some (.int x1), some (.int x2), none, none] [] h 0 0 Q) : i_C i_MT i_AT L xs 314 [.ref x0, .int x1, .int x2] h Q := ⟨i_m314, i_k314.1, Nat.le_of_ble_eq_true rfl, H⟩
theorem b314_0 {x0 : Nat} {x1 : Int32} {x2 : Int32} {x3 : Option Value} {x4 : Option Value} {h : iH} {Q : Option Value → iH → Prop} (H : (i_obj? h x0 12 ∧ i_C i_MT i_AT L xs 254 [.ref x0, .int x1] h (fun v h1 => ∃ r2 : Int32, v = some (.int r2) ∧ i_P i_MT i_AT L xs 314 5 [some (.ref x0), some (.int x1), some (.int x2), x3, x4] [.int r2] h1 0 0 Q))) : i_P i_MT i_AT L xs 314 0 [some (.ref x0), some (.int x1), some (.int x2), x3, x4] [] h 0 0 Q := by
  have hk := i_k314
  refine g_s1 (pc2 := 1) hk rfl rfl rfl rfl rfl ?_
  refine g_s1 (pc2 := 2) hk rfl rfl rfl rfl rfl ?_
  obtain ⟨ho, H⟩ := H
  refine g_call hk rfl rfl i_k254.1 ⟨rfl, rfl⟩ rfl (i_rcv_v ho rfl (by decide)) rfl ?_
  exact H.mono (fun v h2 q => by obtain ⟨r, rfl, q⟩ := q; exact q)
theorem b314_5 {x0 : Nat} {x1 : Int32} {x2 : Int32} {x3 : Option Value} {x4 : Option Value} {s0 : Int32} {h : iH} {Q : Option Value → iH → Prop} (H : ((s0 = 0 → i_P i_MT i_AT L xs 314 15 [some (.ref x0), some (.int x1), some (.int x2), x3, x4] [] h 0 0 Q) ∧ (¬ (s0 = 0) → (i_C i_MT i_AT L xs 255 [.int x2] h (fun v h1 => ∃ r2 : Int32, v = some (.int r2) ∧ i_P i_MT i_AT L xs 314 12 [some (.ref x0), some (.int x1), some (.int x2), x3, x4] [.int r2] h1 0 0 Q))))) : i_P i_MT i_AT L xs 314 5 [some (.ref x0), some (.int x1), some (.int x2), x3, x4] [.int s0] h 0 0 Q := by
  have hk := i_k314
  refine g_if_eq hk rfl (fun hc => ?_) (fun hc => ?_)
  · have H := H.1 hc
    exact H
  · have H := H.2 hc
    refine g_s1 (pc2 := 9) hk rfl rfl rfl rfl rfl ?_
    refine g_call hk rfl rfl i_k255.1 ⟨rfl, rfl⟩ rfl (i_rcv_0 rfl) rfl ?_
    exact H.mono (fun v h2 q => by obtain ⟨r, rfl, q⟩ := q; exact q)
theorem b314_12 {x0 : Nat} {x1 : Int32} {x2 : Int32} {x3 : Option Value} {x4 : Option Value} {s0 : Int32} {h : iH} {Q : Option Value → iH → Prop} (H : ((¬ s0 = 0 → i_P i_MT i_AT L xs 314 26 [some (.ref x0), some (.int x1), some (.int x2), some (.int (0 : Int32)), some (.int (0 : Int32))] [] h 0 0 Q) ∧ (¬ (¬ s0 = 0) → i_P i_MT i_AT L xs 314 15 [some (.ref x0), some (.int x1), some (.int x2), x3, x4] [] h 0 0 Q))) : i_P i_MT i_AT L xs 314 12 [some (.ref x0), some (.int x1), some (.int x2), x3, x4] [.int s0] h 0 0 Q := by
  have hk := i_k314
  refine g_if_ne hk rfl (fun hc => ?_) (fun hc => ?_)
  · have H := H.1 hc
    refine g_s1 (pc2 := 22) (st2 := [.int (0 : Int32)]) hk rfl rfl rfl rfl rfl ?_
    refine g_s1 (pc2 := 23) (lo2 := [some (.ref x0), some (.int x1), some (.int x2), some (.int (0 : Int32)), x4]) hk rfl rfl rfl rfl rfl ?_
    refine g_s1 (pc2 := 24) (st2 := [.int (0 : Int32)]) hk rfl rfl rfl rfl rfl ?_
    refine g_s1 (pc2 := 26) (lo2 := [some (.ref x0), some (.int x1), some (.int x2), some (.int (0 : Int32)), some (.int (0 : Int32))]) hk rfl rfl rfl rfl rfl ?_
    exact H
  · have H := H.2 hc
    exact H
theorem b314_15 {x0 : Nat} {x1 : Int32} {x2 : Int32} {x3 : Option Value} {x4 : Option Value} {h : iH} {Q : Option Value → iH → Prop} (H : (i_obj? h x0 12 ∧ i_C i_MT i_AT L xs 201 [.ref x0, .int (1 : Int32)] h (fun v h1 => ∃ r2 : Int32, v = some (.int r2) ∧ i_P i_MT i_AT L xs 314 20 [some (.ref x0), some (.int x1), some (.int x2), x3, x4] [.int r2] h1 0 0 Q))) : i_P i_MT i_AT L xs 314 15 [some (.ref x0), some (.int x1), some (.int x2), x3, x4] [] h 0 0 Q := by
  have hk := i_k314
  refine g_s1 (pc2 := 16) hk rfl rfl rfl rfl rfl ?_
  refine g_s1 (pc2 := 17) (st2 := [.int (1 : Int32), .ref x0]) hk rfl rfl rfl rfl rfl ?_
  obtain ⟨ho, H⟩ := H
  refine g_call hk rfl rfl i_k201.1 ⟨rfl, rfl⟩ rfl (i_rcv_v ho rfl (by decide)) rfl ?_
  exact H.mono (fun v h2 q => by obtain ⟨r, rfl, q⟩ := q; exact q)
theorem b314_20 {x0 : Nat} {x1 : Int32} {x2 : Int32} {x3 : Option Value} {x4 : Option Value} {s0 : Int32} {h : iH} {Q : Option Value → iH → Prop} (H : Q (some (.int s0)) h) : i_P i_MT i_AT L xs 314 20 [some (.ref x0), some (.int x1), some (.int x2), x3, x4] [.int s0] h 0 0 Q := by
  have hk := i_k314
  exact g_ireturn hk rfl (by decide) (by decide) rfl H
theorem b314_26 {x0 : Nat} {x1 : Int32} {x2 : Int32} {x3 : Int32} {x4 : Int32} {h : iH} {Q : Option Value → iH → Prop} (H : (∃ v1 : Nat, i_fld h x0 12 0 = some (.ref v1) ∧ (∃ (n2 : Nat) (f3 : Nat → Int32), i_arI h 0 v1 = some (n2, f3) ∧ ¬ ((5 : Int32) < 0 ∨ n2 ≤ (5 : Int32).toNatClampNeg) ∧ (((f3 (5 : Int32).toNatClampNeg) ≤ x4 → (i_obj? h x0 12 ∧ i_C i_MT i_AT L xs 202 [.ref x0, .int x3] h (fun v h4 => ∃ r5 : Int32, v = some (.int r5) ∧ i_P i_MT i_AT L xs 314 86 [some (.ref x0), some (.int x1), some (.int x2), some (.int x3), some (.int x4)] [.int r5] h4 0 0 Q))) ∧ (¬ ((f3 (5 : Int32).toNatClampNeg) ≤ x4) → ((x4 = x1 → i_P i_MT i_AT L xs 314 72 [some (.ref x0), some (.int x1), some (.int x2), some (.int x3), some (.int x4)] [.int x3] h 0 0 Q) ∧ (¬ (x4 = x1) → (∃ v6 : Nat, i_fld h x0 12 29 = some (.ref v6) ∧ (∃ (n7 : Nat) (f8 : Nat → Int32), i_arI h 0 v6 = some (n7, f8) ∧ ¬ ((((61 : Int32) * x4) + x2) < 0 ∨ n7 ≤ (((61 : Int32) * x4) + x2).toNatClampNeg) ∧ (i_obj? h x0 12 ∧ i_C i_MT i_AT L xs 272 [.ref x0, .int x1, .int (f8 (((61 : Int32) * x4) + x2).toNatClampNeg), .int x2] h (fun v h9 => ∃ r10 : Int32, v = some (.int r10) ∧ i_P i_MT i_AT L xs 314 62 [some (.ref x0), some (.int x1), some (.int x2), some (.int x3), some (.int x4)] [.int r10, .int x3] h9 0 0 Q))))))))))) : i_P i_MT i_AT L xs 314 26 [some (.ref x0), some (.int x1), some (.int x2), some (.int x3), some (.int x4)] [] h 0 0 Q := by
  have hk := i_k314
  refine g_s1 (pc2 := 28) hk rfl rfl rfl rfl rfl ?_
  refine g_s1 (pc2 := 29) hk rfl rfl rfl rfl rfl ?_
  obtain ⟨v1, ev1, H⟩ := H
  refine g_step (pc2 := 32) hk rfl rfl rfl (s_get ev1) ?_
  refine g_s1 (pc2 := 33) (st2 := [.int (5 : Int32), .ref v1, .int x4]) hk rfl rfl rfl rfl rfl ?_
  obtain ⟨n2, f3, ef3, hi, H⟩ := H
  refine g_step (pc2 := 34) hk rfl rfl rfl (s_aget (L := L) (xs := xs) ef3 hi) ?_
  refine g_icmp_ge hk rfl (fun hc => ?_) (fun hc => ?_)
  · have H := H.1 hc
    refine g_s1 (pc2 := 82) hk rfl rfl rfl rfl rfl ?_
    refine g_s1 (pc2 := 83) hk rfl rfl rfl rfl rfl ?_
    obtain ⟨ho, H⟩ := H
    refine g_call hk rfl rfl i_k202.1 ⟨rfl, rfl⟩ rfl (i_rcv_v ho rfl (by decide)) rfl ?_
    exact H.mono (fun v h2 q => by obtain ⟨r, rfl, q⟩ := q; exact q)
  · have H := H.2 hc
    refine g_s1 (pc2 := 38) hk rfl rfl rfl rfl rfl ?_
    refine g_s1 (pc2 := 40) hk rfl rfl rfl rfl rfl ?_
    refine g_s1 (pc2 := 41) hk rfl rfl rfl rfl rfl ?_
    refine g_icmp_eq hk rfl (fun hc => ?_) (fun hc => ?_)
    · have H := H.1 hc
      exact H
    · have H := H.2 hc
      refine g_s1 (pc2 := 45) hk rfl rfl rfl rfl rfl ?_
      refine g_s1 (pc2 := 46) hk rfl rfl rfl rfl rfl ?_
      refine g_s1 (pc2 := 47) hk rfl rfl rfl rfl rfl ?_
      obtain ⟨v6, ev6, H⟩ := H
      refine g_step (pc2 := 50) hk rfl rfl rfl (s_get ev6) ?_
      refine g_s1 (pc2 := 52) (st2 := [.int (61 : Int32), .ref v6, .int x1, .ref x0, .int x3]) hk rfl rfl rfl rfl rfl ?_
      refine g_s1 (pc2 := 54) hk rfl rfl rfl rfl rfl ?_
      refine g_s1 (pc2 := 55) hk rfl rfl rfl rfl rfl ?_
      refine g_s1 (pc2 := 56) hk rfl rfl rfl rfl rfl ?_
      refine g_s1 (pc2 := 57) hk rfl rfl rfl rfl rfl ?_
      obtain ⟨n7, f8, ef8, hi, H⟩ := H
      refine g_step (pc2 := 58) hk rfl rfl rfl (s_aget (L := L) (xs := xs) ef8 hi) ?_
      refine g_s1 (pc2 := 59) hk rfl rfl rfl rfl rfl ?_
      obtain ⟨ho, H⟩ := H
      refine g_call hk rfl rfl i_k272.1 ⟨rfl, rfl⟩ rfl (i_rcv_v ho rfl (by decide)) rfl ?_
      exact H.mono (fun v h2 q => by obtain ⟨r, rfl, q⟩ := q; exact q)
theorem b314_62 {x0 : Nat} {x1 : Int32} {x2 : Int32} {x3 : Int32} {x4 : Int32} {s0 : Int32} {s1 : Int32} {h : iH} {Q : Option Value → iH → Prop} (H : ((s1 = 0 → i_P i_MT i_AT L xs 314 72 [some (.ref x0), some (.int x1), some (.int x2), some (.int x3), some (.int x4)] [.int s0] h 0 0 Q) ∧ (¬ (s1 = 0) → i_P i_MT i_AT L xs 314 73 [some (.ref x0), some (.int x1), some (.int x2), some (.int x3), some (.int x4)] [.int ((1 : Int32) <<< (x4 &&& 31)), .int s0] h 0 0 Q))) : i_P i_MT i_AT L xs 314 62 [some (.ref x0), some (.int x1), some (.int x2), some (.int x3), some (.int x4)] [.int s1, .int s0] h 0 0 Q := by
  have hk := i_k314
  refine g_if_eq hk rfl (fun hc => ?_) (fun hc => ?_)
  · have H := H.1 hc
    exact H
  · have H := H.2 hc
    refine g_s1 (pc2 := 66) (st2 := [.int (1 : Int32), .int s0]) hk rfl rfl rfl rfl rfl ?_
    refine g_s1 (pc2 := 68) hk rfl rfl rfl rfl rfl ?_
    refine g_s1 (pc2 := 69) hk rfl rfl rfl rfl rfl ?_
    refine g_s1 (pc2 := 73) hk rfl rfl rfl rfl rfl ?_
    exact H
theorem b314_72 {x0 : Nat} {x1 : Int32} {x2 : Int32} {x3 : Int32} {x4 : Int32} {s0 : Int32} {h : iH} {Q : Option Value → iH → Prop} (H : i_P i_MT i_AT L xs 314 73 [some (.ref x0), some (.int x1), some (.int x2), some (.int x3), some (.int x4)] [.int (0 : Int32), .int s0] h 0 0 Q) : i_P i_MT i_AT L xs 314 72 [some (.ref x0), some (.int x1), some (.int x2), some (.int x3), some (.int x4)] [.int s0] h 0 0 Q := by
  have hk := i_k314
  refine g_s1 (pc2 := 73) (st2 := [.int (0 : Int32), .int s0]) hk rfl rfl rfl rfl rfl ?_
  exact H
theorem b314_73 {x0 : Nat} {x1 : Int32} {x2 : Int32} {x3 : Int32} {x4 : Int32} {s0 : Int32} {s1 : Int32} {h : iH} {Q : Option Value → iH → Prop} (H : i_P i_MT i_AT L xs 314 26 [some (.ref x0), some (.int x1), some (.int x2), some (.int (s0 ||| s1)), some (.int (x4 + 1))] [] h 0 0 Q) : i_P i_MT i_AT L xs 314 73 [some (.ref x0), some (.int x1), some (.int x2), some (.int x3), some (.int x4)] [.int s1, .int s0] h 0 0 Q := by
  have hk := i_k314
  refine g_s1 (pc2 := 74) hk rfl rfl rfl rfl rfl ?_
  refine g_s1 (pc2 := 75) (lo2 := [some (.ref x0), some (.int x1), some (.int x2), some (.int (s0 ||| s1)), some (.int x4)]) hk rfl rfl rfl rfl rfl ?_
  refine g_s1 (pc2 := 78) (lo2 := [some (.ref x0), some (.int x1), some (.int x2), some (.int (s0 ||| s1)), some (.int (x4 + 1))]) hk rfl rfl rfl rfl rfl ?_
  refine g_s1 (pc2 := 26) hk rfl rfl rfl rfl rfl ?_
  exact H
theorem b314_86 {x0 : Nat} {x1 : Int32} {x2 : Int32} {x3 : Int32} {x4 : Int32} {s0 : Int32} {h : iH} {Q : Option Value → iH → Prop} (H : Q (some (.int s0)) h) : i_P i_MT i_AT L xs 314 86 [some (.ref x0), some (.int x1), some (.int x2), some (.int x3), some (.int x4)] [.int s0] h 0 0 Q := by
  have hk := i_k314
  exact g_ireturn hk rfl (by decide) (by decide) rfl H
/-! StillTownModel.stood(II)I -/
theorem e315 {x0 : Nat} {x1 : Int32} {x2 : Int32} {h : iH} {Q : Option Value → iH → Prop} (H : i_P i_MT i_AT L xs 315 0 [some (.ref x0), some (.int x1), some (.int x2), none, none, none, none] [] h 0 0 Q) : i_C i_MT i_AT L xs 315 [.ref x0, .int x1, .int x2] h Q := ⟨i_m315, i_k315.1, Nat.le_of_ble_eq_true rfl, H⟩
theorem b315_0 {x0 : Nat} {x1 : Int32} {x2 : Int32} {x3 : Option Value} {x4 : Option Value} {x5 : Option Value} {x6 : Option Value} {h : iH} {Q : Option Value → iH → Prop} (H : (i_obj? h x0 12 ∧ i_C i_MT i_AT L xs 277 [.ref x0, .int x1, .int x2] h (fun v h1 => ∃ r2 : Int32, v = some (.int r2) ∧ i_P i_MT i_AT L xs 315 6 [some (.ref x0), some (.int x1), some (.int x2), x3, x4, x5, x6] [.int r2] h1 0 0 Q))) : i_P i_MT i_AT L xs 315 0 [some (.ref x0), some (.int x1), some (.int x2), x3, x4, x5, x6] [] h 0 0 Q := by
  have hk := i_k315
  refine g_s1 (pc2 := 1) hk rfl rfl rfl rfl rfl ?_
  refine g_s1 (pc2 := 2) hk rfl rfl rfl rfl rfl ?_
  refine g_s1 (pc2 := 3) hk rfl rfl rfl rfl rfl ?_
  obtain ⟨ho, H⟩ := H
  refine g_call hk rfl rfl i_k277.1 ⟨rfl, rfl⟩ rfl (i_rcv_v ho rfl (by decide)) rfl ?_
  exact H.mono (fun v h2 q => by obtain ⟨r, rfl, q⟩ := q; exact q)
theorem b315_6 {x0 : Nat} {x1 : Int32} {x2 : Int32} {x3 : Option Value} {x4 : Option Value} {x5 : Option Value} {x6 : Option Value} {s0 : Int32} {h : iH} {Q : Option Value → iH → Prop} (H : ((¬ s0 = 0 → i_P i_MT i_AT L xs 315 23 [some (.ref x0), some (.int x1), some (.int x2), some (.int (0 : Int32)), some (.int (0 : Int32)), some (.int (1 : Int32)), x6] [] h 0 0 Q) ∧ (¬ (¬ s0 = 0) → (i_obj? h x0 12 ∧ i_C i_MT i_AT L xs 201 [.ref x0, .int (1 : Int32)] h (fun v h1 => ∃ r2 : Int32, v = some (.int r2) ∧ i_P i_MT i_AT L xs 315 14 [some (.ref x0), some (.int x1), some (.int x2), x3, x4, x5, x6] [.int r2] h1 0 0 Q))))) : i_P i_MT i_AT L xs 315 6 [some (.ref x0), some (.int x1), some (.int x2), x3, x4, x5, x6] [.int s0] h 0 0 Q := by
  have hk := i_k315
  refine g_if_ne hk rfl (fun hc => ?_) (fun hc => ?_)
  · have H := H.1 hc
    refine g_s1 (pc2 := 16) (st2 := [.int (0 : Int32)]) hk rfl rfl rfl rfl rfl ?_
    refine g_s1 (pc2 := 17) (lo2 := [some (.ref x0), some (.int x1), some (.int x2), some (.int (0 : Int32)), x4, x5, x6]) hk rfl rfl rfl rfl rfl ?_
    refine g_s1 (pc2 := 18) (st2 := [.int (0 : Int32)]) hk rfl rfl rfl rfl rfl ?_
    refine g_s1 (pc2 := 20) (lo2 := [some (.ref x0), some (.int x1), some (.int x2), some (.int (0 : Int32)), some (.int (0 : Int32)), x5, x6]) hk rfl rfl rfl rfl rfl ?_
    refine g_s1 (pc2 := 21) (st2 := [.int (1 : Int32)]) hk rfl rfl rfl rfl rfl ?_
    refine g_s1 (pc2 := 23) (lo2 := [some (.ref x0), some (.int x1), some (.int x2), some (.int (0 : Int32)), some (.int (0 : Int32)), some (.int (1 : Int32)), x6]) hk rfl rfl rfl rfl rfl ?_
    exact H
  · have H := H.2 hc
    refine g_s1 (pc2 := 10) hk rfl rfl rfl rfl rfl ?_
    refine g_s1 (pc2 := 11) (st2 := [.int (1 : Int32), .ref x0]) hk rfl rfl rfl rfl rfl ?_
    obtain ⟨ho, H⟩ := H
    refine g_call hk rfl rfl i_k201.1 ⟨rfl, rfl⟩ rfl (i_rcv_v ho rfl (by decide)) rfl ?_
    exact H.mono (fun v h2 q => by obtain ⟨r, rfl, q⟩ := q; exact q)
theorem b315_14 {x0 : Nat} {x1 : Int32} {x2 : Int32} {x3 : Option Value} {x4 : Option Value} {x5 : Option Value} {x6 : Option Value} {s0 : Int32} {h : iH} {Q : Option Value → iH → Prop} (H : Q (some (.int s0)) h) : i_P i_MT i_AT L xs 315 14 [some (.ref x0), some (.int x1), some (.int x2), x3, x4, x5, x6] [.int s0] h 0 0 Q := by
  have hk := i_k315
  exact g_ireturn hk rfl (by decide) (by decide) rfl H
theorem b315_23 {x0 : Nat} {x1 : Int32} {x2 : Int32} {x3 : Int32} {x4 : Int32} {x5 : Int32} {x6 : Option Value} {h : iH} {Q : Option Value → iH → Prop} (H : (((60 : Int32) < x5 → (i_obj? h x0 12 ∧ i_C i_MT i_AT L xs 202 [.ref x0, .int x3] h (fun v h1 => ∃ r2 : Int32, v = some (.int r2) ∧ i_P i_MT i_AT L xs 315 118 [some (.ref x0), some (.int x1), some (.int x2), some (.int x3), some (.int x4), some (.int x5), x6] [.int r2] h1 0 0 Q))) ∧ (¬ ((60 : Int32) < x5) → (∃ v3 : Nat, i_fld h x0 12 29 = some (.ref v3) ∧ (∃ (n4 : Nat) (f5 : Nat → Int32), i_arI h 0 v3 = some (n4, f5) ∧ ¬ ((((61 : Int32) * x1) + x5) < 0 ∨ n4 ≤ (((61 : Int32) * x1) + x5).toNatClampNeg) ∧ (∃ v6 : Nat, i_fld h x0 12 29 = some (.ref v6) ∧ (∃ (n7 : Nat) (f8 : Nat → Int32), i_arI h 0 v6 = some (n7, f8) ∧ ¬ ((((61 : Int32) * x2) + x5) < 0 ∨ n7 ≤ (((61 : Int32) * x2) + x5).toNatClampNeg) ∧ (i_obj? h x0 12 ∧ i_C i_MT i_AT L xs 268 [.ref x0, .int (f5 (((61 : Int32) * x1) + x5).toNatClampNeg), .int (f8 (((61 : Int32) * x2) + x5).toNatClampNeg)] h (fun v h9 => ∃ r10 : Int32, v = some (.int r10) ∧ i_P i_MT i_AT L xs 315 58 [some (.ref x0), some (.int x1), some (.int x2), some (.int x3), some (.int x4), some (.int x5), x6] [.int r10] h9 0 0 Q))))))))) : i_P i_MT i_AT L xs 315 23 [some (.ref x0), some (.int x1), some (.int x2), some (.int x3), some (.int x4), some (.int x5), x6] [] h 0 0 Q := by
  have hk := i_k315
  refine g_s1 (pc2 := 25) hk rfl rfl rfl rfl rfl ?_
  refine g_s1 (pc2 := 27) (st2 := [.int (60 : Int32), .int x5]) hk rfl rfl rfl rfl rfl ?_
  refine g_icmp_gt hk rfl (fun hc => ?_) (fun hc => ?_)
  · have H := H.1 hc
    refine g_s1 (pc2 := 114) hk rfl rfl rfl rfl rfl ?_
    refine g_s1 (pc2 := 115) hk rfl rfl rfl rfl rfl ?_
    obtain ⟨ho, H⟩ := H
    refine g_call hk rfl rfl i_k202.1 ⟨rfl, rfl⟩ rfl (i_rcv_v ho rfl (by decide)) rfl ?_
    exact H.mono (fun v h2 q => by obtain ⟨r, rfl, q⟩ := q; exact q)
  · have H := H.2 hc
    refine g_s1 (pc2 := 31) hk rfl rfl rfl rfl rfl ?_
    refine g_s1 (pc2 := 32) hk rfl rfl rfl rfl rfl ?_
    obtain ⟨v3, ev3, H⟩ := H
    refine g_step (pc2 := 35) hk rfl rfl rfl (s_get ev3) ?_
    refine g_s1 (pc2 := 37) (st2 := [.int (61 : Int32), .ref v3, .ref x0]) hk rfl rfl rfl rfl rfl ?_
    refine g_s1 (pc2 := 38) hk rfl rfl rfl rfl rfl ?_
    refine g_s1 (pc2 := 39) hk rfl rfl rfl rfl rfl ?_
    refine g_s1 (pc2 := 41) hk rfl rfl rfl rfl rfl ?_
    refine g_s1 (pc2 := 42) hk rfl rfl rfl rfl rfl ?_
    obtain ⟨n4, f5, ef5, hi, H⟩ := H
    refine g_step (pc2 := 43) hk rfl rfl rfl (s_aget (L := L) (xs := xs) ef5 hi) ?_
    refine g_s1 (pc2 := 44) hk rfl rfl rfl rfl rfl ?_
    obtain ⟨v6, ev6, H⟩ := H
    refine g_step (pc2 := 47) hk rfl rfl rfl (s_get ev6) ?_
    refine g_s1 (pc2 := 49) (st2 := [.int (61 : Int32), .ref v6, .int (f5 (((61 : Int32) * x1) + x5).toNatClampNeg), .ref x0]) hk rfl rfl rfl rfl rfl ?_
    refine g_s1 (pc2 := 50) hk rfl rfl rfl rfl rfl ?_
    refine g_s1 (pc2 := 51) hk rfl rfl rfl rfl rfl ?_
    refine g_s1 (pc2 := 53) hk rfl rfl rfl rfl rfl ?_
    refine g_s1 (pc2 := 54) hk rfl rfl rfl rfl rfl ?_
    obtain ⟨n7, f8, ef8, hi, H⟩ := H
    refine g_step (pc2 := 55) hk rfl rfl rfl (s_aget (L := L) (xs := xs) ef8 hi) ?_
    obtain ⟨ho, H⟩ := H
    refine g_call hk rfl rfl i_k268.1 ⟨rfl, rfl⟩ rfl (i_rcv_v ho rfl (by decide)) rfl ?_
    exact H.mono (fun v h2 q => by obtain ⟨r, rfl, q⟩ := q; exact q)
theorem b315_58 {x0 : Nat} {x1 : Int32} {x2 : Int32} {x3 : Int32} {x4 : Int32} {x5 : Int32} {x6 : Option Value} {s0 : Int32} {h : iH} {Q : Option Value → iH → Prop} (H : (i_obj? h x0 12 ∧ i_C i_MT i_AT L xs 256 [.ref x0, .int x2, .int (2 : Int32)] h (fun v h1 => ∃ r2 : Int32, v = some (.int r2) ∧ i_P i_MT i_AT L xs 315 64 [some (.ref x0), some (.int x1), some (.int x2), some (.int x3), some (.int x4), some (.int x5), x6] [.int r2, .int s0] h1 0 0 Q))) : i_P i_MT i_AT L xs 315 58 [some (.ref x0), some (.int x1), some (.int x2), some (.int x3), some (.int x4), some (.int x5), x6] [.int s0] h 0 0 Q := by
  have hk := i_k315
  refine g_s1 (pc2 := 59) hk rfl rfl rfl rfl rfl ?_
  refine g_s1 (pc2 := 60) hk rfl rfl rfl rfl rfl ?_
  refine g_s1 (pc2 := 61) (st2 := [.int (2 : Int32), .int x2, .ref x0, .int s0]) hk rfl rfl rfl rfl rfl ?_
  obtain ⟨ho, H⟩ := H
  refine g_call hk rfl rfl i_k256.1 ⟨rfl, rfl⟩ rfl (i_rcv_v ho rfl (by decide)) rfl ?_
  exact H.mono (fun v h2 q => by obtain ⟨r, rfl, q⟩ := q; exact q)
theorem b315_64 {x0 : Nat} {x1 : Int32} {x2 : Int32} {x3 : Int32} {x4 : Int32} {x5 : Int32} {x6 : Option Value} {s0 : Int32} {s1 : Int32} {h : iH} {Q : Option Value → iH → Prop} (H : ((s1 < s0 → i_P i_MT i_AT L xs 315 82 [some (.ref x0), some (.int x1), some (.int x2), some (.int x3), some (.int x4), some (.int x5), x6] [] h 0 0 Q) ∧ (¬ (s1 < s0) → (i_obj? h x0 12 ∧ i_C i_MT i_AT L xs 276 [.ref x0, .int x2, .int x1, .int x5] h (fun v h1 => ∃ r2 : Int32, v = some (.int r2) ∧ i_P i_MT i_AT L xs 315 75 [some (.ref x0), some (.int x1), some (.int x2), some (.int x3), some (.int x4), some (.int x5), x6] [.int r2] h1 0 0 Q))))) : i_P i_MT i_AT L xs 315 64 [some (.ref x0), some (.int x1), some (.int x2), some (.int x3), some (.int x4), some (.int x5), x6] [.int s1, .int s0] h 0 0 Q := by
  have hk := i_k315
  refine g_icmp_gt hk rfl (fun hc => ?_) (fun hc => ?_)
  · have H := H.1 hc
    exact H
  · have H := H.2 hc
    refine g_s1 (pc2 := 68) hk rfl rfl rfl rfl rfl ?_
    refine g_s1 (pc2 := 69) hk rfl rfl rfl rfl rfl ?_
    refine g_s1 (pc2 := 70) hk rfl rfl rfl rfl rfl ?_
    refine g_s1 (pc2 := 72) hk rfl rfl rfl rfl rfl ?_
    obtain ⟨ho, H⟩ := H
    refine g_call hk rfl rfl i_k276.1 ⟨rfl, rfl⟩ rfl (i_rcv_v ho rfl (by decide)) rfl ?_
    exact H.mono (fun v h2 q => by obtain ⟨r, rfl, q⟩ := q; exact q)
theorem b315_75 {x0 : Nat} {x1 : Int32} {x2 : Int32} {x3 : Int32} {x4 : Int32} {x5 : Int32} {x6 : Option Value} {s0 : Int32} {h : iH} {Q : Option Value → iH → Prop} (H : ((¬ s0 = 0 → i_P i_MT i_AT L xs 315 82 [some (.ref x0), some (.int x1), some (.int x2), some (.int x3), some (.int x4), some (.int x5), x6] [] h 0 0 Q) ∧ (¬ (¬ s0 = 0) → i_P i_MT i_AT L xs 315 83 [some (.ref x0), some (.int x1), some (.int x2), some (.int x3), some (.int x4), some (.int x5), x6] [.int (1 : Int32)] h 0 0 Q))) : i_P i_MT i_AT L xs 315 75 [some (.ref x0), some (.int x1), some (.int x2), some (.int x3), some (.int x4), some (.int x5), x6] [.int s0] h 0 0 Q := by
  have hk := i_k315
  refine g_if_ne hk rfl (fun hc => ?_) (fun hc => ?_)
  · have H := H.1 hc
    exact H
  · have H := H.2 hc
    refine g_s1 (pc2 := 79) (st2 := [.int (1 : Int32)]) hk rfl rfl rfl rfl rfl ?_
    refine g_s1 (pc2 := 83) hk rfl rfl rfl rfl rfl ?_
    exact H
theorem b315_82 {x0 : Nat} {x1 : Int32} {x2 : Int32} {x3 : Int32} {x4 : Int32} {x5 : Int32} {x6 : Option Value} {h : iH} {Q : Option Value → iH → Prop} (H : i_P i_MT i_AT L xs 315 83 [some (.ref x0), some (.int x1), some (.int x2), some (.int x3), some (.int x4), some (.int x5), x6] [.int (0 : Int32)] h 0 0 Q) : i_P i_MT i_AT L xs 315 82 [some (.ref x0), some (.int x1), some (.int x2), some (.int x3), some (.int x4), some (.int x5), x6] [] h 0 0 Q := by
  have hk := i_k315
  refine g_s1 (pc2 := 83) (st2 := [.int (0 : Int32)]) hk rfl rfl rfl rfl rfl ?_
  exact H
theorem b315_83 {x0 : Nat} {x1 : Int32} {x2 : Int32} {x3 : Int32} {x4 : Int32} {x5 : Int32} {x6 : Option Value} {s0 : Int32} {h : iH} {Q : Option Value → iH → Prop} (H : ((s0 = 0 → i_P i_MT i_AT L xs 315 98 [some (.ref x0), some (.int x1), some (.int x2), some (.int x3), some (.int x4), some (.int x5), some (.int s0)] [.int (0 : Int32)] h 0 0 Q) ∧ (¬ (s0 = 0) → i_P i_MT i_AT L xs 315 98 [some (.ref x0), some (.int x1), some (.int x2), some (.int x3), some (.int x4), some (.int x5), some (.int s0)] [.int (x4 + (1 : Int32))] h 0 0 Q))) : i_P i_MT i_AT L xs 315 83 [some (.ref x0), some (.int x1), some (.int x2), some (.int x3), some (.int x4), some (.int x5), x6] [.int s0] h 0 0 Q := by
  have hk := i_k315
  refine g_s1 (pc2 := 85) (lo2 := [some (.ref x0), some (.int x1), some (.int x2), some (.int x3), some (.int x4), some (.int x5), some (.int s0)]) hk rfl rfl rfl rfl rfl ?_
  refine g_s1 (pc2 := 87) hk rfl rfl rfl rfl rfl ?_
  refine g_if_eq hk rfl (fun hc => ?_) (fun hc => ?_)
  · have H := H.1 hc
    refine g_s1 (pc2 := 98) (st2 := [.int (0 : Int32)]) hk rfl rfl rfl rfl rfl ?_
    exact H
  · have H := H.2 hc
    refine g_s1 (pc2 := 92) hk rfl rfl rfl rfl rfl ?_
    refine g_s1 (pc2 := 93) (st2 := [.int (1 : Int32), .int x4]) hk rfl rfl rfl rfl rfl ?_
    refine g_s1 (pc2 := 94) hk rfl rfl rfl rfl rfl ?_
    refine g_s1 (pc2 := 98) hk rfl rfl rfl rfl rfl ?_
    exact H
theorem b315_98 {x0 : Nat} {x1 : Int32} {x2 : Int32} {x3 : Int32} {x4 : Int32} {x5 : Int32} {x6 : Int32} {s0 : Int32} {h : iH} {Q : Option Value → iH → Prop} (H : (i_C i_MT i_AT L xs 336 [.int x3, .int s0] h (fun v h1 => ∃ r2 : Int32, v = some (.int r2) ∧ i_P i_MT i_AT L xs 315 106 [some (.ref x0), some (.int x1), some (.int x2), some (.int x3), some (.int s0), some (.int x5), some (.int x6)] [.int r2] h1 0 0 Q))) : i_P i_MT i_AT L xs 315 98 [some (.ref x0), some (.int x1), some (.int x2), some (.int x3), some (.int x4), some (.int x5), some (.int x6)] [.int s0] h 0 0 Q := by
  have hk := i_k315
  refine g_s1 (pc2 := 100) (lo2 := [some (.ref x0), some (.int x1), some (.int x2), some (.int x3), some (.int s0), some (.int x5), some (.int x6)]) hk rfl rfl rfl rfl rfl ?_
  refine g_s1 (pc2 := 101) hk rfl rfl rfl rfl rfl ?_
  refine g_s1 (pc2 := 103) hk rfl rfl rfl rfl rfl ?_
  refine g_call hk rfl rfl i_k336.1 ⟨rfl, rfl⟩ rfl (i_rcv_0 rfl) rfl ?_
  exact H.mono (fun v h2 q => by obtain ⟨r, rfl, q⟩ := q; exact q)
theorem b315_106 {x0 : Nat} {x1 : Int32} {x2 : Int32} {x3 : Int32} {x4 : Int32} {x5 : Int32} {x6 : Int32} {s0 : Int32} {h : iH} {Q : Option Value → iH → Prop} (H : i_P i_MT i_AT L xs 315 23 [some (.ref x0), some (.int x1), some (.int x2), some (.int s0), some (.int x4), some (.int (x5 + 1)), some (.int x6)] [] h 0 0 Q) : i_P i_MT i_AT L xs 315 106 [some (.ref x0), some (.int x1), some (.int x2), some (.int x3), some (.int x4), some (.int x5), some (.int x6)] [.int s0] h 0 0 Q := by
  have hk := i_k315
  refine g_s1 (pc2 := 107) (lo2 := [some (.ref x0), some (.int x1), some (.int x2), some (.int s0), some (.int x4), some (.int x5), some (.int x6)]) hk rfl rfl rfl rfl rfl ?_
  refine g_s1 (pc2 := 110) (lo2 := [some (.ref x0), some (.int x1), some (.int x2), some (.int s0), some (.int x4), some (.int (x5 + 1)), some (.int x6)]) hk rfl rfl rfl rfl rfl ?_
  refine g_s1 (pc2 := 23) hk rfl rfl rfl rfl rfl ?_
  exact H
theorem b315_118 {x0 : Nat} {x1 : Int32} {x2 : Int32} {x3 : Int32} {x4 : Int32} {x5 : Int32} {x6 : Option Value} {s0 : Int32} {h : iH} {Q : Option Value → iH → Prop} (H : Q (some (.int s0)) h) : i_P i_MT i_AT L xs 315 118 [some (.ref x0), some (.int x1), some (.int x2), some (.int x3), some (.int x4), some (.int x5), x6] [.int s0] h 0 0 Q := by
  have hk := i_k315
  exact g_ireturn hk rfl (by decide) (by decide) rfl H
/-! StillTownModel.mayFollow(IIIII)Z -/
theorem e316 {x0 : Nat} {x1 : Int32} {x2 : Int32} {x3 : Int32} {x4 : Int32} {x5 : Int32} {h : iH} {Q : Option Value → iH → Prop} (H : i_P i_MT i_AT L xs 316 0 [some (.ref x0), some (.int x1), some (.int x2), some (.int x3), some (.int x4), some (.int x5)] [] h 0 0 Q) : i_C i_MT i_AT L xs 316 [.ref x0, .int x1, .int x2, .int x3, .int x4, .int x5] h Q := ⟨i_m316, i_k316.1, Nat.le_of_ble_eq_true rfl, H⟩
theorem b316_0 {x0 : Nat} {x1 : Int32} {x2 : Int32} {x3 : Int32} {x4 : Int32} {x5 : Int32} {h : iH} {Q : Option Value → iH → Prop} (H : (∃ v1 : Nat, i_fld h x0 12 29 = some (.ref v1) ∧ (∃ (n2 : Nat) (f3 : Nat → Int32), i_arI h 0 v1 = some (n2, f3) ∧ ¬ ((((61 : Int32) * x1) + x5) < 0 ∨ n2 ≤ (((61 : Int32) * x1) + x5).toNatClampNeg) ∧ (i_obj? h x0 12 ∧ i_C i_MT i_AT L xs 268 [.ref x0, .int x3, .int (f3 (((61 : Int32) * x1) + x5).toNatClampNeg)] h (fun v h4 => ∃ r5 : Int32, v = some (.int r5) ∧ i_P i_MT i_AT L xs 316 17 [some (.ref x0), some (.int x1), some (.int x2), some (.int x3), some (.int x4), some (.int x5)] [.int r5] h4 0 0 Q))))) : i_P i_MT i_AT L xs 316 0 [some (.ref x0), some (.int x1), some (.int x2), some (.int x3), some (.int x4), some (.int x5)] [] h 0 0 Q := by
  have hk := i_k316
  refine g_s1 (pc2 := 1) hk rfl rfl rfl rfl rfl ?_
  refine g_s1 (pc2 := 2) hk rfl rfl rfl rfl rfl ?_
  refine g_s1 (pc2 := 3) hk rfl rfl rfl rfl rfl ?_
  obtain ⟨v1, ev1, H⟩ := H
  refine g_step (pc2 := 6) hk rfl rfl rfl (s_get ev1) ?_
  refine g_s1 (pc2 := 8) (st2 := [.int (61 : Int32), .ref v1, .int x3, .ref x0]) hk rfl rfl rfl rfl rfl ?_
  refine g_s1 (pc2 := 9) hk rfl rfl rfl rfl rfl ?_
  refine g_s1 (pc2 := 10) hk rfl rfl rfl rfl rfl ?_
  refine g_s1 (pc2 := 12) hk rfl rfl rfl rfl rfl ?_
  refine g_s1 (pc2 := 13) hk rfl rfl rfl rfl rfl ?_
  obtain ⟨n2, f3, ef3, hi, H⟩ := H
  refine g_step (pc2 := 14) hk rfl rfl rfl (s_aget (L := L) (xs := xs) ef3 hi) ?_
  obtain ⟨ho, H⟩ := H
  refine g_call hk rfl rfl i_k268.1 ⟨rfl, rfl⟩ rfl (i_rcv_v ho rfl (by decide)) rfl ?_
  exact H.mono (fun v h2 q => by obtain ⟨r, rfl, q⟩ := q; exact q)
theorem b316_17 {x0 : Nat} {x1 : Int32} {x2 : Int32} {x3 : Int32} {x4 : Int32} {x5 : Int32} {s0 : Int32} {h : iH} {Q : Option Value → iH → Prop} (H : ((s0 ≤ x4 → ((¬ x2 = x3 → (i_obj? h x0 12 ∧ i_C i_MT i_AT L xs 285 [.ref x0, .int x2, .int x3] h (fun v h1 => ∃ r2 : Int32, v = some (.int r2) ∧ i_P i_MT i_AT L xs 316 53 [some (.ref x0), some (.int x1), some (.int x2), some (.int x3), some (.int x4), some (.int x5)] [.int r2] h1 0 0 Q))) ∧ (¬ (¬ x2 = x3) → (i_obj? h x0 12 ∧ i_C i_MT i_AT L xs 275 [.ref x0, .int x1, .int x3, .int (0 : Int32), .int x5] h (fun v h3 => ∃ r4 : Int32, v = some (.int r4) ∧ i_P i_MT i_AT L xs 316 38 [some (.ref x0), some (.int x1), some (.int x2), some (.int x3), some (.int x4), some (.int x5)] [.int r4] h3 0 0 Q))))) ∧ (¬ (s0 ≤ x4) → Q (some (.int 0)) h))) : i_P i_MT i_AT L xs 316 17 [some (.ref x0), some (.int x1), some (.int x2), some (.int x3), some (.int x4), some (.int x5)] [.int s0] h 0 0 Q := by
  have hk := i_k316
  refine g_s1 (pc2 := 19) hk rfl rfl rfl rfl rfl ?_
  refine g_icmp_le hk rfl (fun hc => ?_) (fun hc => ?_)
  · have H := H.1 hc
    refine g_s1 (pc2 := 25) hk rfl rfl rfl rfl rfl ?_
    refine g_s1 (pc2 := 26) hk rfl rfl rfl rfl rfl ?_
    refine g_icmp_ne hk rfl (fun hc => ?_) (fun hc => ?_)
    · have H := H.1 hc
      refine g_s1 (pc2 := 48) hk rfl rfl rfl rfl rfl ?_
      refine g_s1 (pc2 := 49) hk rfl rfl rfl rfl rfl ?_
      refine g_s1 (pc2 := 50) hk rfl rfl rfl rfl rfl ?_
      obtain ⟨ho, H⟩ := H
      refine g_call hk rfl rfl i_k285.1 ⟨rfl, rfl⟩ rfl (i_rcv_v ho rfl (by decide)) rfl ?_
      exact H.mono (fun v h2 q => by obtain ⟨r, rfl, q⟩ := q; exact q)
    · have H := H.2 hc
      refine g_s1 (pc2 := 30) hk rfl rfl rfl rfl rfl ?_
      refine g_s1 (pc2 := 31) hk rfl rfl rfl rfl rfl ?_
      refine g_s1 (pc2 := 32) hk rfl rfl rfl rfl rfl ?_
      refine g_s1 (pc2 := 33) (st2 := [.int (0 : Int32), .int x3, .int x1, .ref x0]) hk rfl rfl rfl rfl rfl ?_
      refine g_s1 (pc2 := 35) hk rfl rfl rfl rfl rfl ?_
      obtain ⟨ho, H⟩ := H
      refine g_call hk rfl rfl i_k275.1 ⟨rfl, rfl⟩ rfl (i_rcv_v ho rfl (by decide)) rfl ?_
      exact H.mono (fun v h2 q => by obtain ⟨r, rfl, q⟩ := q; exact q)
  · have H := H.2 hc
    refine g_s1 (pc2 := 23) (st2 := [.int (0 : Int32)]) hk rfl rfl rfl rfl rfl ?_
    exact g_ireturn hk rfl (by decide) (by decide) rfl H
theorem b316_38 {x0 : Nat} {x1 : Int32} {x2 : Int32} {x3 : Int32} {x4 : Int32} {x5 : Int32} {s0 : Int32} {h : iH} {Q : Option Value → iH → Prop} (H : ((¬ s0 = 0 → i_P i_MT i_AT L xs 316 46 [some (.ref x0), some (.int x1), some (.int x2), some (.int x3), some (.int x4), some (.int x5)] [.int (0 : Int32)] h 0 0 Q) ∧ (¬ (¬ s0 = 0) → i_P i_MT i_AT L xs 316 46 [some (.ref x0), some (.int x1), some (.int x2), some (.int x3), some (.int x4), some (.int x5)] [.int (1 : Int32)] h 0 0 Q))) : i_P i_MT i_AT L xs 316 38 [some (.ref x0), some (.int x1), some (.int x2), some (.int x3), some (.int x4), some (.int x5)] [.int s0] h 0 0 Q := by
  have hk := i_k316
  refine g_if_ne hk rfl (fun hc => ?_) (fun hc => ?_)
  · have H := H.1 hc
    refine g_s1 (pc2 := 46) (st2 := [.int (0 : Int32)]) hk rfl rfl rfl rfl rfl ?_
    exact H
  · have H := H.2 hc
    refine g_s1 (pc2 := 42) (st2 := [.int (1 : Int32)]) hk rfl rfl rfl rfl rfl ?_
    refine g_s1 (pc2 := 46) hk rfl rfl rfl rfl rfl ?_
    exact H
theorem b316_46 {x0 : Nat} {x1 : Int32} {x2 : Int32} {x3 : Int32} {x4 : Int32} {x5 : Int32} {s0 : Int32} {h : iH} {Q : Option Value → iH → Prop} (H : (i_ret (some .boolean) s0 = true ∧ Q (some (.int s0)) h)) : i_P i_MT i_AT L xs 316 46 [some (.ref x0), some (.int x1), some (.int x2), some (.int x3), some (.int x4), some (.int x5)] [.int s0] h 0 0 Q := by
  have hk := i_k316
  exact g_ireturn hk rfl (by decide) (by decide) H.1 H.2
theorem b316_53 {x0 : Nat} {x1 : Int32} {x2 : Int32} {x3 : Int32} {x4 : Int32} {x5 : Int32} {s0 : Int32} {h : iH} {Q : Option Value → iH → Prop} (H : ((s0 = 0 → i_P i_MT i_AT L xs 316 92 [some (.ref x0), some (.int x1), some (.int x2), some (.int x3), some (.int x4), some (.int x5)] [] h 0 0 Q) ∧ (¬ (s0 = 0) → (i_obj? h x0 12 ∧ i_C i_MT i_AT L xs 250 [.ref x0, .int x3] h (fun v h1 => ∃ r2 : Int32, v = some (.int r2) ∧ i_P i_MT i_AT L xs 316 61 [some (.ref x0), some (.int x1), some (.int x2), some (.int x3), some (.int x4), some (.int x5)] [.int r2] h1 0 0 Q))))) : i_P i_MT i_AT L xs 316 53 [some (.ref x0), some (.int x1), some (.int x2), some (.int x3), some (.int x4), some (.int x5)] [.int s0] h 0 0 Q := by
  have hk := i_k316
  refine g_if_eq hk rfl (fun hc => ?_) (fun hc => ?_)
  · have H := H.1 hc
    exact H
  · have H := H.2 hc
    refine g_s1 (pc2 := 57) hk rfl rfl rfl rfl rfl ?_
    refine g_s1 (pc2 := 58) hk rfl rfl rfl rfl rfl ?_
    obtain ⟨ho, H⟩ := H
    refine g_call hk rfl rfl i_k250.1 ⟨rfl, rfl⟩ rfl (i_rcv_v ho rfl (by decide)) rfl ?_
    exact H.mono (fun v h2 q => by obtain ⟨r, rfl, q⟩ := q; exact q)
theorem b316_61 {x0 : Nat} {x1 : Int32} {x2 : Int32} {x3 : Int32} {x4 : Int32} {x5 : Int32} {s0 : Int32} {h : iH} {Q : Option Value → iH → Prop} (H : ((s0 = 0 → i_P i_MT i_AT L xs 316 92 [some (.ref x0), some (.int x1), some (.int x2), some (.int x3), some (.int x4), some (.int x5)] [] h 0 0 Q) ∧ (¬ (s0 = 0) → (i_obj? h x0 12 ∧ i_C i_MT i_AT L xs 275 [.ref x0, .int x1, .int x3, .int (2 : Int32), .int x5] h (fun v h1 => ∃ r2 : Int32, v = some (.int r2) ∧ i_P i_MT i_AT L xs 316 73 [some (.ref x0), some (.int x1), some (.int x2), some (.int x3), some (.int x4), some (.int x5)] [.int r2] h1 0 0 Q))))) : i_P i_MT i_AT L xs 316 61 [some (.ref x0), some (.int x1), some (.int x2), some (.int x3), some (.int x4), some (.int x5)] [.int s0] h 0 0 Q := by
  have hk := i_k316
  refine g_if_eq hk rfl (fun hc => ?_) (fun hc => ?_)
  · have H := H.1 hc
    exact H
  · have H := H.2 hc
    refine g_s1 (pc2 := 65) hk rfl rfl rfl rfl rfl ?_
    refine g_s1 (pc2 := 66) hk rfl rfl rfl rfl rfl ?_
    refine g_s1 (pc2 := 67) hk rfl rfl rfl rfl rfl ?_
    refine g_s1 (pc2 := 68) (st2 := [.int (2 : Int32), .int x3, .int x1, .ref x0]) hk rfl rfl rfl rfl rfl ?_
    refine g_s1 (pc2 := 70) hk rfl rfl rfl rfl rfl ?_
    obtain ⟨ho, H⟩ := H
    refine g_call hk rfl rfl i_k275.1 ⟨rfl, rfl⟩ rfl (i_rcv_v ho rfl (by decide)) rfl ?_
    exact H.mono (fun v h2 q => by obtain ⟨r, rfl, q⟩ := q; exact q)
theorem b316_73 {x0 : Nat} {x1 : Int32} {x2 : Int32} {x3 : Int32} {x4 : Int32} {x5 : Int32} {s0 : Int32} {h : iH} {Q : Option Value → iH → Prop} (H : ((s0 = 0 → i_P i_MT i_AT L xs 316 88 [some (.ref x0), some (.int x1), some (.int x2), some (.int x3), some (.int x4), some (.int x5)] [] h 0 0 Q) ∧ (¬ (s0 = 0) → (i_obj? h x0 12 ∧ i_C i_MT i_AT L xs 275 [.ref x0, .int x1, .int x3, .int (1 : Int32), .int x5] h (fun v h1 => ∃ r2 : Int32, v = some (.int r2) ∧ i_P i_MT i_AT L xs 316 85 [some (.ref x0), some (.int x1), some (.int x2), some (.int x3), some (.int x4), some (.int x5)] [.int r2] h1 0 0 Q))))) : i_P i_MT i_AT L xs 316 73 [some (.ref x0), some (.int x1), some (.int x2), some (.int x3), some (.int x4), some (.int x5)] [.int s0] h 0 0 Q := by
  have hk := i_k316
  refine g_if_eq hk rfl (fun hc => ?_) (fun hc => ?_)
  · have H := H.1 hc
    exact H
  · have H := H.2 hc
    refine g_s1 (pc2 := 77) hk rfl rfl rfl rfl rfl ?_
    refine g_s1 (pc2 := 78) hk rfl rfl rfl rfl rfl ?_
    refine g_s1 (pc2 := 79) hk rfl rfl rfl rfl rfl ?_
    refine g_s1 (pc2 := 80) (st2 := [.int (1 : Int32), .int x3, .int x1, .ref x0]) hk rfl rfl rfl rfl rfl ?_
    refine g_s1 (pc2 := 82) hk rfl rfl rfl rfl rfl ?_
    obtain ⟨ho, H⟩ := H
    refine g_call hk rfl rfl i_k275.1 ⟨rfl, rfl⟩ rfl (i_rcv_v ho rfl (by decide)) rfl ?_
    exact H.mono (fun v h2 q => by obtain ⟨r, rfl, q⟩ := q; exact q)
theorem b316_85 {x0 : Nat} {x1 : Int32} {x2 : Int32} {x3 : Int32} {x4 : Int32} {x5 : Int32} {s0 : Int32} {h : iH} {Q : Option Value → iH → Prop} (H : ((¬ s0 = 0 → i_P i_MT i_AT L xs 316 92 [some (.ref x0), some (.int x1), some (.int x2), some (.int x3), some (.int x4), some (.int x5)] [] h 0 0 Q) ∧ (¬ (¬ s0 = 0) → i_P i_MT i_AT L xs 316 88 [some (.ref x0), some (.int x1), some (.int x2), some (.int x3), some (.int x4), some (.int x5)] [] h 0 0 Q))) : i_P i_MT i_AT L xs 316 85 [some (.ref x0), some (.int x1), some (.int x2), some (.int x3), some (.int x4), some (.int x5)] [.int s0] h 0 0 Q := by
  have hk := i_k316
  refine g_if_ne hk rfl (fun hc => ?_) (fun hc => ?_)
  · have H := H.1 hc
    exact H
  · have H := H.2 hc
    exact H
theorem b316_88 {x0 : Nat} {x1 : Int32} {x2 : Int32} {x3 : Int32} {x4 : Int32} {x5 : Int32} {h : iH} {Q : Option Value → iH → Prop} (H : i_P i_MT i_AT L xs 316 93 [some (.ref x0), some (.int x1), some (.int x2), some (.int x3), some (.int x4), some (.int x5)] [.int (1 : Int32)] h 0 0 Q) : i_P i_MT i_AT L xs 316 88 [some (.ref x0), some (.int x1), some (.int x2), some (.int x3), some (.int x4), some (.int x5)] [] h 0 0 Q := by
  have hk := i_k316
  refine g_s1 (pc2 := 89) (st2 := [.int (1 : Int32)]) hk rfl rfl rfl rfl rfl ?_
  refine g_s1 (pc2 := 93) hk rfl rfl rfl rfl rfl ?_
  exact H
theorem b316_92 {x0 : Nat} {x1 : Int32} {x2 : Int32} {x3 : Int32} {x4 : Int32} {x5 : Int32} {h : iH} {Q : Option Value → iH → Prop} (H : i_P i_MT i_AT L xs 316 93 [some (.ref x0), some (.int x1), some (.int x2), some (.int x3), some (.int x4), some (.int x5)] [.int (0 : Int32)] h 0 0 Q) : i_P i_MT i_AT L xs 316 92 [some (.ref x0), some (.int x1), some (.int x2), some (.int x3), some (.int x4), some (.int x5)] [] h 0 0 Q := by
  have hk := i_k316
  refine g_s1 (pc2 := 93) (st2 := [.int (0 : Int32)]) hk rfl rfl rfl rfl rfl ?_
  exact H
theorem b316_93 {x0 : Nat} {x1 : Int32} {x2 : Int32} {x3 : Int32} {x4 : Int32} {x5 : Int32} {s0 : Int32} {h : iH} {Q : Option Value → iH → Prop} (H : (i_ret (some .boolean) s0 = true ∧ Q (some (.int s0)) h)) : i_P i_MT i_AT L xs 316 93 [some (.ref x0), some (.int x1), some (.int x2), some (.int x3), some (.int x4), some (.int x5)] [.int s0] h 0 0 Q := by
  have hk := i_k316
  exact g_ireturn hk rfl (by decide) (by decide) H.1 H.2
/-! StillTownModel.followed(III)I -/
theorem e317 {x0 : Nat} {x1 : Int32} {x2 : Int32} {x3 : Int32} {h : iH} {Q : Option Value → iH → Prop} (H : i_P i_MT i_AT L xs 317 0 [some (.ref x0), some (.int x1), some (.int x2), some (.int x3), none, none, none, none, none, none] [] h 0 0 Q) : i_C i_MT i_AT L xs 317 [.ref x0, .int x1, .int x2, .int x3] h Q := ⟨i_m317, i_k317.1, Nat.le_of_ble_eq_true rfl, H⟩
theorem b317_0 {x0 : Nat} {x1 : Int32} {x2 : Int32} {x3 : Int32} {x4 : Option Value} {x5 : Option Value} {x6 : Option Value} {x7 : Option Value} {x8 : Option Value} {x9 : Option Value} {h : iH} {Q : Option Value → iH → Prop} (H : (i_obj? h x0 12 ∧ i_C i_MT i_AT L xs 277 [.ref x0, .int x1, .int x2] h (fun v h1 => ∃ r2 : Int32, v = some (.int r2) ∧ i_P i_MT i_AT L xs 317 6 [some (.ref x0), some (.int x1), some (.int x2), some (.int x3), x4, x5, x6, x7, x8, x9] [.int r2] h1 0 0 Q))) : i_P i_MT i_AT L xs 317 0 [some (.ref x0), some (.int x1), some (.int x2), some (.int x3), x4, x5, x6, x7, x8, x9] [] h 0 0 Q := by
  have hk := i_k317
  refine g_s1 (pc2 := 1) hk rfl rfl rfl rfl rfl ?_
  refine g_s1 (pc2 := 2) hk rfl rfl rfl rfl rfl ?_
  refine g_s1 (pc2 := 3) hk rfl rfl rfl rfl rfl ?_
  obtain ⟨ho, H⟩ := H
  refine g_call hk rfl rfl i_k277.1 ⟨rfl, rfl⟩ rfl (i_rcv_v ho rfl (by decide)) rfl ?_
  exact H.mono (fun v h2 q => by obtain ⟨r, rfl, q⟩ := q; exact q)
theorem b317_6 {x0 : Nat} {x1 : Int32} {x2 : Int32} {x3 : Int32} {x4 : Option Value} {x5 : Option Value} {x6 : Option Value} {x7 : Option Value} {x8 : Option Value} {x9 : Option Value} {s0 : Int32} {h : iH} {Q : Option Value → iH → Prop} (H : ((s0 = 0 → i_P i_MT i_AT L xs 317 21 [some (.ref x0), some (.int x1), some (.int x2), some (.int x3), x4, x5, x6, x7, x8, x9] [] h 0 0 Q) ∧ (¬ (s0 = 0) → (i_C i_MT i_AT L xs 212 [.long (x3.toInt64), .long (1 : Int64), .long (9 : Int64)] h (fun v h1 => ∃ r2 : Int32, v = some (.int r2) ∧ i_P i_MT i_AT L xs 317 18 [some (.ref x0), some (.int x1), some (.int x2), some (.int x3), x4, x5, x6, x7, x8, x9] [.int r2] h1 0 0 Q))))) : i_P i_MT i_AT L xs 317 6 [some (.ref x0), some (.int x1), some (.int x2), some (.int x3), x4, x5, x6, x7, x8, x9] [.int s0] h 0 0 Q := by
  have hk := i_k317
  refine g_if_eq hk rfl (fun hc => ?_) (fun hc => ?_)
  · have H := H.1 hc
    exact H
  · have H := H.2 hc
    refine g_s1 (pc2 := 10) hk rfl rfl rfl rfl rfl ?_
    refine g_s1 (pc2 := 11) hk rfl rfl rfl rfl rfl ?_
    refine g_s1 (pc2 := 12) (st2 := [.long (1 : Int64), .long (x3.toInt64)]) hk rfl rfl rfl rfl rfl ?_
    refine g_step (pc2 := 15) (st2 := [.long (9 : Int64), .long (1 : Int64), .long (x3.toInt64)]) hk rfl rfl rfl rfl ?_
    refine g_call hk rfl rfl i_k212.1 ⟨rfl, rfl⟩ rfl (i_rcv_0 rfl) rfl ?_
    exact H.mono (fun v h2 q => by obtain ⟨r, rfl, q⟩ := q; exact q)
theorem b317_18 {x0 : Nat} {x1 : Int32} {x2 : Int32} {x3 : Int32} {x4 : Option Value} {x5 : Option Value} {x6 : Option Value} {x7 : Option Value} {x8 : Option Value} {x9 : Option Value} {s0 : Int32} {h : iH} {Q : Option Value → iH → Prop} (H : ((¬ s0 = 0 → (i_obj? h x0 12 ∧ i_C i_MT i_AT L xs 248 [.ref x0] h (fun v h1 => ∃ r2 : Int32, v = some (.int r2) ∧ i_P i_MT i_AT L xs 317 31 [some (.ref x0), some (.int x1), some (.int x2), some (.int x3), x4, x5, x6, x7, x8, x9] [.int r2] h1 0 0 Q))) ∧ (¬ (¬ s0 = 0) → i_P i_MT i_AT L xs 317 21 [some (.ref x0), some (.int x1), some (.int x2), some (.int x3), x4, x5, x6, x7, x8, x9] [] h 0 0 Q))) : i_P i_MT i_AT L xs 317 18 [some (.ref x0), some (.int x1), some (.int x2), some (.int x3), x4, x5, x6, x7, x8, x9] [.int s0] h 0 0 Q := by
  have hk := i_k317
  refine g_if_ne hk rfl (fun hc => ?_) (fun hc => ?_)
  · have H := H.1 hc
    refine g_s1 (pc2 := 28) hk rfl rfl rfl rfl rfl ?_
    obtain ⟨ho, H⟩ := H
    refine g_call hk rfl rfl i_k248.1 ⟨rfl, rfl⟩ rfl (i_rcv_v ho rfl (by decide)) rfl ?_
    exact H.mono (fun v h2 q => by obtain ⟨r, rfl, q⟩ := q; exact q)
  · have H := H.2 hc
    exact H
theorem b317_21 {x0 : Nat} {x1 : Int32} {x2 : Int32} {x3 : Int32} {x4 : Option Value} {x5 : Option Value} {x6 : Option Value} {x7 : Option Value} {x8 : Option Value} {x9 : Option Value} {h : iH} {Q : Option Value → iH → Prop} (H : (i_obj? h x0 12 ∧ i_C i_MT i_AT L xs 201 [.ref x0, .int (1 : Int32)] h (fun v h1 => ∃ r2 : Int32, v = some (.int r2) ∧ i_P i_MT i_AT L xs 317 26 [some (.ref x0), some (.int x1), some (.int x2), some (.int x3), x4, x5, x6, x7, x8, x9] [.int r2] h1 0 0 Q))) : i_P i_MT i_AT L xs 317 21 [some (.ref x0), some (.int x1), some (.int x2), some (.int x3), x4, x5, x6, x7, x8, x9] [] h 0 0 Q := by
  have hk := i_k317
  refine g_s1 (pc2 := 22) hk rfl rfl rfl rfl rfl ?_
  refine g_s1 (pc2 := 23) (st2 := [.int (1 : Int32), .ref x0]) hk rfl rfl rfl rfl rfl ?_
  obtain ⟨ho, H⟩ := H
  refine g_call hk rfl rfl i_k201.1 ⟨rfl, rfl⟩ rfl (i_rcv_v ho rfl (by decide)) rfl ?_
  exact H.mono (fun v h2 q => by obtain ⟨r, rfl, q⟩ := q; exact q)
theorem b317_26 {x0 : Nat} {x1 : Int32} {x2 : Int32} {x3 : Int32} {x4 : Option Value} {x5 : Option Value} {x6 : Option Value} {x7 : Option Value} {x8 : Option Value} {x9 : Option Value} {s0 : Int32} {h : iH} {Q : Option Value → iH → Prop} (H : Q (some (.int s0)) h) : i_P i_MT i_AT L xs 317 26 [some (.ref x0), some (.int x1), some (.int x2), some (.int x3), x4, x5, x6, x7, x8, x9] [.int s0] h 0 0 Q := by
  have hk := i_k317
  exact g_ireturn hk rfl (by decide) (by decide) rfl H
theorem b317_31 {x0 : Nat} {x1 : Int32} {x2 : Int32} {x3 : Int32} {x4 : Option Value} {x5 : Option Value} {x6 : Option Value} {x7 : Option Value} {x8 : Option Value} {x9 : Option Value} {s0 : Int32} {h : iH} {Q : Option Value → iH → Prop} (H : i_P i_MT i_AT L xs 317 36 [some (.ref x0), some (.int x1), some (.int x2), some (.int x3), some (.int s0), some (.int (0 : Int32)), x6, x7, x8, x9] [] h 0 0 Q) : i_P i_MT i_AT L xs 317 31 [some (.ref x0), some (.int x1), some (.int x2), some (.int x3), x4, x5, x6, x7, x8, x9] [.int s0] h 0 0 Q := by
  have hk := i_k317
  refine g_s1 (pc2 := 33) (lo2 := [some (.ref x0), some (.int x1), some (.int x2), some (.int x3), some (.int s0), x5, x6, x7, x8, x9]) hk rfl rfl rfl rfl rfl ?_
  refine g_s1 (pc2 := 34) (st2 := [.int (0 : Int32)]) hk rfl rfl rfl rfl rfl ?_
  refine g_s1 (pc2 := 36) (lo2 := [some (.ref x0), some (.int x1), some (.int x2), some (.int x3), some (.int s0), some (.int (0 : Int32)), x6, x7, x8, x9]) hk rfl rfl rfl rfl rfl ?_
  exact H
theorem b317_36 {x0 : Nat} {x1 : Int32} {x2 : Int32} {x3 : Int32} {x4 : Int32} {x5 : Int32} {x6 : Option Value} {x7 : Option Value} {x8 : Option Value} {x9 : Option Value} {h : iH} {Q : Option Value → iH → Prop} (H : ((x4 ≤ x5 → i_P i_MT i_AT L xs 317 81 [some (.ref x0), some (.int x1), some (.int x2), some (.int x3), some (.int x4), some (.int (1 : Int32)), x6, x7, x8, x9] [] h 0 0 Q) ∧ (¬ (x4 ≤ x5) → (∃ v1 : Nat, i_fld h x0 12 33 = some (.ref v1) ∧ (∃ v2 : Nat, i_fld h x0 12 0 = some (.ref v2) ∧ (∃ (n3 : Nat) (f4 : Nat → Int32), i_arI h 0 v2 = some (n3, f4) ∧ ¬ (((154 : Int32) + ((5 : Int32) * x1)) < 0 ∨ n3 ≤ ((154 : Int32) + ((5 : Int32) * x1)).toNatClampNeg) ∧ ((¬ x5 = (f4 ((154 : Int32) + ((5 : Int32) * x1)).toNatClampNeg) → i_P i_MT i_AT L xs 317 71 [some (.ref x0), some (.int x1), some (.int x2), some (.int x3), some (.int x4), some (.int x5), x6, x7, x8, x9] [.int (0 : Int32), .int x5, .ref v1] h 0 0 Q) ∧ (¬ (¬ x5 = (f4 ((154 : Int32) + ((5 : Int32) * x1)).toNatClampNeg)) → i_P i_MT i_AT L xs 317 71 [some (.ref x0), some (.int x1), some (.int x2), some (.int x3), some (.int x4), some (.int x5), x6, x7, x8, x9] [.int (1 : Int32), .int x5, .ref v1] h 0 0 Q)))))))) : i_P i_MT i_AT L xs 317 36 [some (.ref x0), some (.int x1), some (.int x2), some (.int x3), some (.int x4), some (.int x5), x6, x7, x8, x9] [] h 0 0 Q := by
  have hk := i_k317
  refine g_s1 (pc2 := 38) hk rfl rfl rfl rfl rfl ?_
  refine g_s1 (pc2 := 40) hk rfl rfl rfl rfl rfl ?_
  refine g_icmp_ge hk rfl (fun hc => ?_) (fun hc => ?_)
  · have H := H.1 hc
    refine g_s1 (pc2 := 79) (st2 := [.int (1 : Int32)]) hk rfl rfl rfl rfl rfl ?_
    refine g_s1 (pc2 := 81) (lo2 := [some (.ref x0), some (.int x1), some (.int x2), some (.int x3), some (.int x4), some (.int (1 : Int32)), x6, x7, x8, x9]) hk rfl rfl rfl rfl rfl ?_
    exact H
  · have H := H.2 hc
    refine g_s1 (pc2 := 44) hk rfl rfl rfl rfl rfl ?_
    obtain ⟨v1, ev1, H⟩ := H
    refine g_step (pc2 := 47) hk rfl rfl rfl (s_get ev1) ?_
    refine g_s1 (pc2 := 49) hk rfl rfl rfl rfl rfl ?_
    refine g_s1 (pc2 := 51) hk rfl rfl rfl rfl rfl ?_
    refine g_s1 (pc2 := 52) hk rfl rfl rfl rfl rfl ?_
    obtain ⟨v2, ev2, H⟩ := H
    refine g_step (pc2 := 55) hk rfl rfl rfl (s_get ev2) ?_
    refine g_s1 (pc2 := 58) (st2 := [.int (154 : Int32), .ref v2, .int x5, .int x5, .ref v1]) hk rfl rfl rfl rfl rfl ?_
    refine g_s1 (pc2 := 59) (st2 := [.int (5 : Int32), .int (154 : Int32), .ref v2, .int x5, .int x5, .ref v1]) hk rfl rfl rfl rfl rfl ?_
    refine g_s1 (pc2 := 60) hk rfl rfl rfl rfl rfl ?_
    refine g_s1 (pc2 := 61) hk rfl rfl rfl rfl rfl ?_
    refine g_s1 (pc2 := 62) hk rfl rfl rfl rfl rfl ?_
    obtain ⟨n3, f4, ef4, hi, H⟩ := H
    refine g_step (pc2 := 63) hk rfl rfl rfl (s_aget (L := L) (xs := xs) ef4 hi) ?_
    refine g_icmp_ne hk rfl (fun hc => ?_) (fun hc => ?_)
    · have H := H.1 hc
      refine g_s1 (pc2 := 71) (st2 := [.int (0 : Int32), .int x5, .ref v1]) hk rfl rfl rfl rfl rfl ?_
      exact H
    · have H := H.2 hc
      refine g_s1 (pc2 := 67) (st2 := [.int (1 : Int32), .int x5, .ref v1]) hk rfl rfl rfl rfl rfl ?_
      refine g_s1 (pc2 := 71) hk rfl rfl rfl rfl rfl ?_
      exact H
theorem b317_71 {x0 : Nat} {x1 : Int32} {x2 : Int32} {x3 : Int32} {x4 : Int32} {x5 : Int32} {x6 : Option Value} {x7 : Option Value} {x8 : Option Value} {x9 : Option Value} {s0 : Nat} {s1 : Int32} {s2 : Int32} {h : iH} {Q : Option Value → iH → Prop} (H : (∃ (n1 : Nat) (f2 : Nat → Int32), i_arI h 2 s0 = some (n1, f2) ∧ ¬ (s1 < 0 ∨ n1 ≤ s1.toNatClampNeg) ∧ i_P i_MT i_AT L xs 317 72 [some (.ref x0), some (.int x1), some (.int x2), some (.int x3), some (.int x4), some (.int x5), x6, x7, x8, x9] [] (i_siI h s0 s1.toNatClampNeg (vp_nar .boolean s2)) 0 0 Q)) : i_P i_MT i_AT L xs 317 71 [some (.ref x0), some (.int x1), some (.int x2), some (.int x3), some (.int x4), some (.int x5), x6, x7, x8, x9] [.int s2, .int s1, .ref s0] h 0 0 Q := by
  have hk := i_k317
  obtain ⟨n1, f2, ef2, hi, H⟩ := H
  refine g_step (pc2 := 72) hk rfl rfl rfl (s_zput ef2 hi) ?_
  exact H
theorem b317_72 {x0 : Nat} {x1 : Int32} {x2 : Int32} {x3 : Int32} {x4 : Int32} {x5 : Int32} {x6 : Option Value} {x7 : Option Value} {x8 : Option Value} {x9 : Option Value} {h : iH} {Q : Option Value → iH → Prop} (H : i_P i_MT i_AT L xs 317 36 [some (.ref x0), some (.int x1), some (.int x2), some (.int x3), some (.int x4), some (.int (x5 + 1)), x6, x7, x8, x9] [] h 0 0 Q) : i_P i_MT i_AT L xs 317 72 [some (.ref x0), some (.int x1), some (.int x2), some (.int x3), some (.int x4), some (.int x5), x6, x7, x8, x9] [] h 0 0 Q := by
  have hk := i_k317
  refine g_s1 (pc2 := 75) (lo2 := [some (.ref x0), some (.int x1), some (.int x2), some (.int x3), some (.int x4), some (.int (x5 + 1)), x6, x7, x8, x9]) hk rfl rfl rfl rfl rfl ?_
  refine g_s1 (pc2 := 36) hk rfl rfl rfl rfl rfl ?_
  exact H
theorem b317_81 {x0 : Nat} {x1 : Int32} {x2 : Int32} {x3 : Int32} {x4 : Int32} {x5 : Int32} {x6 : Option Value} {x7 : Option Value} {x8 : Option Value} {x9 : Option Value} {h : iH} {Q : Option Value → iH → Prop} (H : (((60 : Int32) < x5 → (i_obj? h x0 12 ∧ i_C i_MT i_AT L xs 202 [.ref x0, .int (60 : Int32)] h (fun v h1 => ∃ r2 : Int32, v = some (.int r2) ∧ i_P i_MT i_AT L xs 317 247 [some (.ref x0), some (.int x1), some (.int x2), some (.int x3), some (.int x4), some (.int x5), x6, x7, x8, x9] [.int r2] h1 0 0 Q))) ∧ (¬ ((60 : Int32) < x5) → i_P i_MT i_AT L xs 317 94 [some (.ref x0), some (.int x1), some (.int x2), some (.int x3), some (.int x4), some (.int x5), some (.int (0 : Int32)), some (.int (0 : Int32)), x8, x9] [] h 0 0 Q))) : i_P i_MT i_AT L xs 317 81 [some (.ref x0), some (.int x1), some (.int x2), some (.int x3), some (.int x4), some (.int x5), x6, x7, x8, x9] [] h 0 0 Q := by
  have hk := i_k317
  refine g_s1 (pc2 := 83) hk rfl rfl rfl rfl rfl ?_
  refine g_s1 (pc2 := 85) (st2 := [.int (60 : Int32), .int x5]) hk rfl rfl rfl rfl rfl ?_
  refine g_icmp_gt hk rfl (fun hc => ?_) (fun hc => ?_)
  · have H := H.1 hc
    refine g_s1 (pc2 := 242) hk rfl rfl rfl rfl rfl ?_
    refine g_s1 (pc2 := 244) (st2 := [.int (60 : Int32), .ref x0]) hk rfl rfl rfl rfl rfl ?_
    obtain ⟨ho, H⟩ := H
    refine g_call hk rfl rfl i_k202.1 ⟨rfl, rfl⟩ rfl (i_rcv_v ho rfl (by decide)) rfl ?_
    exact H.mono (fun v h2 q => by obtain ⟨r, rfl, q⟩ := q; exact q)
  · have H := H.2 hc
    refine g_s1 (pc2 := 89) (st2 := [.int (0 : Int32)]) hk rfl rfl rfl rfl rfl ?_
    refine g_s1 (pc2 := 91) (lo2 := [some (.ref x0), some (.int x1), some (.int x2), some (.int x3), some (.int x4), some (.int x5), some (.int (0 : Int32)), x7, x8, x9]) hk rfl rfl rfl rfl rfl ?_
    refine g_s1 (pc2 := 92) (st2 := [.int (0 : Int32)]) hk rfl rfl rfl rfl rfl ?_
    refine g_s1 (pc2 := 94) (lo2 := [some (.ref x0), some (.int x1), some (.int x2), some (.int x3), some (.int x4), some (.int x5), some (.int (0 : Int32)), some (.int (0 : Int32)), x8, x9]) hk rfl rfl rfl rfl rfl ?_
    exact H
theorem b317_94 {x0 : Nat} {x1 : Int32} {x2 : Int32} {x3 : Int32} {x4 : Int32} {x5 : Int32} {x6 : Int32} {x7 : Int32} {x8 : Option Value} {x9 : Option Value} {h : iH} {Q : Option Value → iH → Prop} (H : ((x4 ≤ x7 → ((¬ x6 = 0 → i_P i_MT i_AT L xs 317 81 [some (.ref x0), some (.int x1), some (.int x2), some (.int x3), some (.int x4), some (.int (x5 + 1)), some (.int x6), some (.int x7), x8, x9] [] h 0 0 Q) ∧ (¬ (¬ x6 = 0) → (i_obj? h x0 12 ∧ i_C i_MT i_AT L xs 202 [.ref x0, .int (x5 - (1 : Int32))] h (fun v h1 => ∃ r2 : Int32, v = some (.int r2) ∧ i_P i_MT i_AT L xs 317 234 [some (.ref x0), some (.int x1), some (.int x2), some (.int x3), some (.int x4), some (.int x5), some (.int x6), some (.int x7), x8, x9] [.int r2] h1 0 0 Q))))) ∧ (¬ (x4 ≤ x7) → i_P i_MT i_AT L xs 317 107 [some (.ref x0), some (.int x1), some (.int x2), some (.int x3), some (.int x4), some (.int x5), some (.int x6), some (.int x7), some (.int (0 : Int32)), some (.int (0 : Int32))] [] h 0 0 Q))) : i_P i_MT i_AT L xs 317 94 [some (.ref x0), some (.int x1), some (.int x2), some (.int x3), some (.int x4), some (.int x5), some (.int x6), some (.int x7), x8, x9] [] h 0 0 Q := by
  have hk := i_k317
  refine g_s1 (pc2 := 96) hk rfl rfl rfl rfl rfl ?_
  refine g_s1 (pc2 := 98) hk rfl rfl rfl rfl rfl ?_
  refine g_icmp_ge hk rfl (fun hc => ?_) (fun hc => ?_)
  · have H := H.1 hc
    refine g_s1 (pc2 := 223) hk rfl rfl rfl rfl rfl ?_
    refine g_if_ne hk rfl (fun hc => ?_) (fun hc => ?_)
    · have H := H.1 hc
      refine g_s1 (pc2 := 238) (lo2 := [some (.ref x0), some (.int x1), some (.int x2), some (.int x3), some (.int x4), some (.int (x5 + 1)), some (.int x6), some (.int x7), x8, x9]) hk rfl rfl rfl rfl rfl ?_
      refine g_s1 (pc2 := 81) hk rfl rfl rfl rfl rfl ?_
      exact H
    · have H := H.2 hc
      refine g_s1 (pc2 := 227) hk rfl rfl rfl rfl rfl ?_
      refine g_s1 (pc2 := 229) hk rfl rfl rfl rfl rfl ?_
      refine g_s1 (pc2 := 230) (st2 := [.int (1 : Int32), .int x5, .ref x0]) hk rfl rfl rfl rfl rfl ?_
      refine g_s1 (pc2 := 231) hk rfl rfl rfl rfl rfl ?_
      obtain ⟨ho, H⟩ := H
      refine g_call hk rfl rfl i_k202.1 ⟨rfl, rfl⟩ rfl (i_rcv_v ho rfl (by decide)) rfl ?_
      exact H.mono (fun v h2 q => by obtain ⟨r, rfl, q⟩ := q; exact q)
  · have H := H.2 hc
    refine g_s1 (pc2 := 102) (st2 := [.int (0 : Int32)]) hk rfl rfl rfl rfl rfl ?_
    refine g_s1 (pc2 := 104) (lo2 := [some (.ref x0), some (.int x1), some (.int x2), some (.int x3), some (.int x4), some (.int x5), some (.int x6), some (.int x7), some (.int (0 : Int32)), x9]) hk rfl rfl rfl rfl rfl ?_
    refine g_s1 (pc2 := 105) (st2 := [.int (0 : Int32)]) hk rfl rfl rfl rfl rfl ?_
    refine g_s1 (pc2 := 107) (lo2 := [some (.ref x0), some (.int x1), some (.int x2), some (.int x3), some (.int x4), some (.int x5), some (.int x6), some (.int x7), some (.int (0 : Int32)), some (.int (0 : Int32))]) hk rfl rfl rfl rfl rfl ?_
    exact H
theorem b317_107 {x0 : Nat} {x1 : Int32} {x2 : Int32} {x3 : Int32} {x4 : Int32} {x5 : Int32} {x6 : Int32} {x7 : Int32} {x8 : Int32} {x9 : Int32} {h : iH} {Q : Option Value → iH → Prop} (H : ((x4 ≤ x9 → (∃ v1 : Nat, i_fld h x0 12 33 = some (.ref v1) ∧ (∃ (n2 : Nat) (f3 : Nat → Int32), i_arI h 2 v1 = some (n2, f3) ∧ ¬ ((((48 : Int32) * x5) + x7) < 0 ∨ n2 ≤ (((48 : Int32) * x5) + x7).toNatClampNeg) ∧ i_P i_MT i_AT L xs 317 198 [some (.ref x0), some (.int x1), some (.int x2), some (.int x3), some (.int x4), some (.int x5), some (.int x6), some (.int x7), some (.int x8), some (.int x9)] [] (i_siI h v1 (((48 : Int32) * x5) + x7).toNatClampNeg (vp_nar .boolean x8)) 0 0 Q))) ∧ (¬ (x4 ≤ x9) → ((¬ x8 = 0 → i_P i_MT i_AT L xs 317 170 [some (.ref x0), some (.int x1), some (.int x2), some (.int x3), some (.int x4), some (.int x5), some (.int x6), some (.int x7), some (.int x8), some (.int x9)] [] h 0 0 Q) ∧ (¬ (¬ x8 = 0) → (∃ v4 : Nat, i_fld h x0 12 33 = some (.ref v4) ∧ (∃ (n5 : Nat) (f6 : Nat → Int32), i_arI h 2 v4 = some (n5, f6) ∧ ¬ ((((48 : Int32) * (x5 - (1 : Int32))) + x9) < 0 ∨ n5 ≤ (((48 : Int32) * (x5 - (1 : Int32))) + x9).toNatClampNeg) ∧ (((f6 (((48 : Int32) * (x5 - (1 : Int32))) + x9).toNatClampNeg) = 0 → i_P i_MT i_AT L xs 317 174 [some (.ref x0), some (.int x1), some (.int x2), some (.int x3), some (.int x4), some (.int x5), some (.int x6), some (.int x7), some (.int x8), some (.int x9)] [] h 0 0 Q) ∧ (¬ ((f6 (((48 : Int32) * (x5 - (1 : Int32))) + x9).toNatClampNeg) = 0) → ((x9 = x7 → i_P i_MT i_AT L xs 317 155 [some (.ref x0), some (.int x1), some (.int x2), some (.int x3), some (.int x4), some (.int x5), some (.int x6), some (.int x7), some (.int x8), some (.int x9)] [] h 0 0 Q) ∧ (¬ (x9 = x7) → (i_obj? h x0 12 ∧ i_C i_MT i_AT L xs 285 [.ref x0, .int x9, .int x7] h (fun v h7 => ∃ r8 : Int32, v = some (.int r8) ∧ i_P i_MT i_AT L xs 317 152 [some (.ref x0), some (.int x1), some (.int x2), some (.int x3), some (.int x4), some (.int x5), some (.int x6), some (.int x7), some (.int x8), some (.int x9)] [.int r8] h7 0 0 Q))))))))))))) : i_P i_MT i_AT L xs 317 107 [some (.ref x0), some (.int x1), some (.int x2), some (.int x3), some (.int x4), some (.int x5), some (.int x6), some (.int x7), some (.int x8), some (.int x9)] [] h 0 0 Q := by
  have hk := i_k317
  refine g_s1 (pc2 := 109) hk rfl rfl rfl rfl rfl ?_
  refine g_s1 (pc2 := 111) hk rfl rfl rfl rfl rfl ?_
  refine g_icmp_ge hk rfl (fun hc => ?_) (fun hc => ?_)
  · have H := H.1 hc
    refine g_s1 (pc2 := 184) hk rfl rfl rfl rfl rfl ?_
    obtain ⟨v1, ev1, H⟩ := H
    refine g_step (pc2 := 187) hk rfl rfl rfl (s_get ev1) ?_
    refine g_s1 (pc2 := 189) (st2 := [.int (48 : Int32), .ref v1]) hk rfl rfl rfl rfl rfl ?_
    refine g_s1 (pc2 := 191) hk rfl rfl rfl rfl rfl ?_
    refine g_s1 (pc2 := 192) hk rfl rfl rfl rfl rfl ?_
    refine g_s1 (pc2 := 194) hk rfl rfl rfl rfl rfl ?_
    refine g_s1 (pc2 := 195) hk rfl rfl rfl rfl rfl ?_
    refine g_s1 (pc2 := 197) hk rfl rfl rfl rfl rfl ?_
    obtain ⟨n2, f3, ef3, hi, H⟩ := H
    refine g_step (pc2 := 198) hk rfl rfl rfl (s_zput ef3 hi) ?_
    exact H
  · have H := H.2 hc
    refine g_s1 (pc2 := 116) hk rfl rfl rfl rfl rfl ?_
    refine g_if_ne hk rfl (fun hc => ?_) (fun hc => ?_)
    · have H := H.1 hc
      exact H
    · have H := H.2 hc
      refine g_s1 (pc2 := 120) hk rfl rfl rfl rfl rfl ?_
      obtain ⟨v4, ev4, H⟩ := H
      refine g_step (pc2 := 123) hk rfl rfl rfl (s_get ev4) ?_
      refine g_s1 (pc2 := 125) (st2 := [.int (48 : Int32), .ref v4]) hk rfl rfl rfl rfl rfl ?_
      refine g_s1 (pc2 := 127) hk rfl rfl rfl rfl rfl ?_
      refine g_s1 (pc2 := 128) (st2 := [.int (1 : Int32), .int x5, .int (48 : Int32), .ref v4]) hk rfl rfl rfl rfl rfl ?_
      refine g_s1 (pc2 := 129) hk rfl rfl rfl rfl rfl ?_
      refine g_s1 (pc2 := 130) hk rfl rfl rfl rfl rfl ?_
      refine g_s1 (pc2 := 132) hk rfl rfl rfl rfl rfl ?_
      refine g_s1 (pc2 := 133) hk rfl rfl rfl rfl rfl ?_
      obtain ⟨n5, f6, ef6, hi, H⟩ := H
      refine g_step (pc2 := 134) hk rfl rfl rfl (s_bget (t := 2) (by decide) ef6 hi) ?_
      refine g_if_eq hk rfl (fun hc => ?_) (fun hc => ?_)
      · have H := H.1 hc
        exact H
      · have H := H.2 hc
        refine g_s1 (pc2 := 139) hk rfl rfl rfl rfl rfl ?_
        refine g_s1 (pc2 := 141) hk rfl rfl rfl rfl rfl ?_
        refine g_icmp_eq hk rfl (fun hc => ?_) (fun hc => ?_)
        · have H := H.1 hc
          exact H
        · have H := H.2 hc
          refine g_s1 (pc2 := 145) hk rfl rfl rfl rfl rfl ?_
          refine g_s1 (pc2 := 147) hk rfl rfl rfl rfl rfl ?_
          refine g_s1 (pc2 := 149) hk rfl rfl rfl rfl rfl ?_
          obtain ⟨ho, H⟩ := H
          refine g_call hk rfl rfl i_k285.1 ⟨rfl, rfl⟩ rfl (i_rcv_v ho rfl (by decide)) rfl ?_
          exact H.mono (fun v h2 q => by obtain ⟨r, rfl, q⟩ := q; exact q)
theorem b317_152 {x0 : Nat} {x1 : Int32} {x2 : Int32} {x3 : Int32} {x4 : Int32} {x5 : Int32} {x6 : Int32} {x7 : Int32} {x8 : Int32} {x9 : Int32} {s0 : Int32} {h : iH} {Q : Option Value → iH → Prop} (H : ((s0 = 0 → i_P i_MT i_AT L xs 317 174 [some (.ref x0), some (.int x1), some (.int x2), some (.int x3), some (.int x4), some (.int x5), some (.int x6), some (.int x7), some (.int x8), some (.int x9)] [] h 0 0 Q) ∧ (¬ (s0 = 0) → i_P i_MT i_AT L xs 317 155 [some (.ref x0), some (.int x1), some (.int x2), some (.int x3), some (.int x4), some (.int x5), some (.int x6), some (.int x7), some (.int x8), some (.int x9)] [] h 0 0 Q))) : i_P i_MT i_AT L xs 317 152 [some (.ref x0), some (.int x1), some (.int x2), some (.int x3), some (.int x4), some (.int x5), some (.int x6), some (.int x7), some (.int x8), some (.int x9)] [.int s0] h 0 0 Q := by
  have hk := i_k317
  refine g_if_eq hk rfl (fun hc => ?_) (fun hc => ?_)
  · have H := H.1 hc
    exact H
  · have H := H.2 hc
    exact H
theorem b317_155 {x0 : Nat} {x1 : Int32} {x2 : Int32} {x3 : Int32} {x4 : Int32} {x5 : Int32} {x6 : Int32} {x7 : Int32} {x8 : Int32} {x9 : Int32} {h : iH} {Q : Option Value → iH → Prop} (H : (i_obj? h x0 12 ∧ i_C i_MT i_AT L xs 316 [.ref x0, .int x2, .int x9, .int x7, .int x3, .int x5] h (fun v h1 => ∃ r2 : Int32, v = some (.int r2) ∧ i_P i_MT i_AT L xs 317 167 [some (.ref x0), some (.int x1), some (.int x2), some (.int x3), some (.int x4), some (.int x5), some (.int x6), some (.int x7), some (.int x8), some (.int x9)] [.int r2] h1 0 0 Q))) : i_P i_MT i_AT L xs 317 155 [some (.ref x0), some (.int x1), some (.int x2), some (.int x3), some (.int x4), some (.int x5), some (.int x6), some (.int x7), some (.int x8), some (.int x9)] [] h 0 0 Q := by
  have hk := i_k317
  refine g_s1 (pc2 := 156) hk rfl rfl rfl rfl rfl ?_
  refine g_s1 (pc2 := 157) hk rfl rfl rfl rfl rfl ?_
  refine g_s1 (pc2 := 159) hk rfl rfl rfl rfl rfl ?_
  refine g_s1 (pc2 := 161) hk rfl rfl rfl rfl rfl ?_
  refine g_s1 (pc2 := 162) hk rfl rfl rfl rfl rfl ?_
  refine g_s1 (pc2 := 164) hk rfl rfl rfl rfl rfl ?_
  obtain ⟨ho, H⟩ := H
  refine g_call hk rfl rfl i_k316.1 ⟨rfl, rfl⟩ rfl (i_rcv_v ho rfl (by decide)) rfl ?_
  exact H.mono (fun v h2 q => by obtain ⟨r, rfl, q⟩ := q; exact q)
theorem b317_167 {x0 : Nat} {x1 : Int32} {x2 : Int32} {x3 : Int32} {x4 : Int32} {x5 : Int32} {x6 : Int32} {x7 : Int32} {x8 : Int32} {x9 : Int32} {s0 : Int32} {h : iH} {Q : Option Value → iH → Prop} (H : ((s0 = 0 → i_P i_MT i_AT L xs 317 174 [some (.ref x0), some (.int x1), some (.int x2), some (.int x3), some (.int x4), some (.int x5), some (.int x6), some (.int x7), some (.int x8), some (.int x9)] [] h 0 0 Q) ∧ (¬ (s0 = 0) → i_P i_MT i_AT L xs 317 170 [some (.ref x0), some (.int x1), some (.int x2), some (.int x3), some (.int x4), some (.int x5), some (.int x6), some (.int x7), some (.int x8), some (.int x9)] [] h 0 0 Q))) : i_P i_MT i_AT L xs 317 167 [some (.ref x0), some (.int x1), some (.int x2), some (.int x3), some (.int x4), some (.int x5), some (.int x6), some (.int x7), some (.int x8), some (.int x9)] [.int s0] h 0 0 Q := by
  have hk := i_k317
  refine g_if_eq hk rfl (fun hc => ?_) (fun hc => ?_)
  · have H := H.1 hc
    exact H
  · have H := H.2 hc
    exact H
theorem b317_170 {x0 : Nat} {x1 : Int32} {x2 : Int32} {x3 : Int32} {x4 : Int32} {x5 : Int32} {x6 : Int32} {x7 : Int32} {x8 : Int32} {x9 : Int32} {h : iH} {Q : Option Value → iH → Prop} (H : i_P i_MT i_AT L xs 317 175 [some (.ref x0), some (.int x1), some (.int x2), some (.int x3), some (.int x4), some (.int x5), some (.int x6), some (.int x7), some (.int x8), some (.int x9)] [.int (1 : Int32)] h 0 0 Q) : i_P i_MT i_AT L xs 317 170 [some (.ref x0), some (.int x1), some (.int x2), some (.int x3), some (.int x4), some (.int x5), some (.int x6), some (.int x7), some (.int x8), some (.int x9)] [] h 0 0 Q := by
  have hk := i_k317
  refine g_s1 (pc2 := 171) (st2 := [.int (1 : Int32)]) hk rfl rfl rfl rfl rfl ?_
  refine g_s1 (pc2 := 175) hk rfl rfl rfl rfl rfl ?_
  exact H
theorem b317_174 {x0 : Nat} {x1 : Int32} {x2 : Int32} {x3 : Int32} {x4 : Int32} {x5 : Int32} {x6 : Int32} {x7 : Int32} {x8 : Int32} {x9 : Int32} {h : iH} {Q : Option Value → iH → Prop} (H : i_P i_MT i_AT L xs 317 175 [some (.ref x0), some (.int x1), some (.int x2), some (.int x3), some (.int x4), some (.int x5), some (.int x6), some (.int x7), some (.int x8), some (.int x9)] [.int (0 : Int32)] h 0 0 Q) : i_P i_MT i_AT L xs 317 174 [some (.ref x0), some (.int x1), some (.int x2), some (.int x3), some (.int x4), some (.int x5), some (.int x6), some (.int x7), some (.int x8), some (.int x9)] [] h 0 0 Q := by
  have hk := i_k317
  refine g_s1 (pc2 := 175) (st2 := [.int (0 : Int32)]) hk rfl rfl rfl rfl rfl ?_
  exact H
theorem b317_175 {x0 : Nat} {x1 : Int32} {x2 : Int32} {x3 : Int32} {x4 : Int32} {x5 : Int32} {x6 : Int32} {x7 : Int32} {x8 : Int32} {x9 : Int32} {s0 : Int32} {h : iH} {Q : Option Value → iH → Prop} (H : i_P i_MT i_AT L xs 317 107 [some (.ref x0), some (.int x1), some (.int x2), some (.int x3), some (.int x4), some (.int x5), some (.int x6), some (.int x7), some (.int s0), some (.int (x9 + 1))] [] h 0 0 Q) : i_P i_MT i_AT L xs 317 175 [some (.ref x0), some (.int x1), some (.int x2), some (.int x3), some (.int x4), some (.int x5), some (.int x6), some (.int x7), some (.int x8), some (.int x9)] [.int s0] h 0 0 Q := by
  have hk := i_k317
  refine g_s1 (pc2 := 177) (lo2 := [some (.ref x0), some (.int x1), some (.int x2), some (.int x3), some (.int x4), some (.int x5), some (.int x6), some (.int x7), some (.int s0), some (.int x9)]) hk rfl rfl rfl rfl rfl ?_
  refine g_s1 (pc2 := 180) (lo2 := [some (.ref x0), some (.int x1), some (.int x2), some (.int x3), some (.int x4), some (.int x5), some (.int x6), some (.int x7), some (.int s0), some (.int (x9 + 1))]) hk rfl rfl rfl rfl rfl ?_
  refine g_s1 (pc2 := 107) hk rfl rfl rfl rfl rfl ?_
  exact H
theorem b317_198 {x0 : Nat} {x1 : Int32} {x2 : Int32} {x3 : Int32} {x4 : Int32} {x5 : Int32} {x6 : Int32} {x7 : Int32} {x8 : Int32} {x9 : Int32} {h : iH} {Q : Option Value → iH → Prop} (H : ((¬ x6 = 0 → i_P i_MT i_AT L xs 317 208 [some (.ref x0), some (.int x1), some (.int x2), some (.int x3), some (.int x4), some (.int x5), some (.int x6), some (.int x7), some (.int x8), some (.int x9)] [] h 0 0 Q) ∧ (¬ (¬ x6 = 0) → ((x8 = 0 → i_P i_MT i_AT L xs 317 213 [some (.ref x0), some (.int x1), some (.int x2), some (.int x3), some (.int x4), some (.int x5), some (.int x6), some (.int x7), some (.int x8), some (.int x9)] [.int (0 : Int32)] h 0 0 Q) ∧ (¬ (x8 = 0) → i_P i_MT i_AT L xs 317 208 [some (.ref x0), some (.int x1), some (.int x2), some (.int x3), some (.int x4), some (.int x5), some (.int x6), some (.int x7), some (.int x8), some (.int x9)] [] h 0 0 Q))))) : i_P i_MT i_AT L xs 317 198 [some (.ref x0), some (.int x1), some (.int x2), some (.int x3), some (.int x4), some (.int x5), some (.int x6), some (.int x7), some (.int x8), some (.int x9)] [] h 0 0 Q := by
  have hk := i_k317
  refine g_s1 (pc2 := 200) hk rfl rfl rfl rfl rfl ?_
  refine g_if_ne hk rfl (fun hc => ?_) (fun hc => ?_)
  · have H := H.1 hc
    exact H
  · have H := H.2 hc
    refine g_s1 (pc2 := 205) hk rfl rfl rfl rfl rfl ?_
    refine g_if_eq hk rfl (fun hc => ?_) (fun hc => ?_)
    · have H := H.1 hc
      refine g_s1 (pc2 := 213) (st2 := [.int (0 : Int32)]) hk rfl rfl rfl rfl rfl ?_
      exact H
    · have H := H.2 hc
      exact H
theorem b317_208 {x0 : Nat} {x1 : Int32} {x2 : Int32} {x3 : Int32} {x4 : Int32} {x5 : Int32} {x6 : Int32} {x7 : Int32} {x8 : Int32} {x9 : Int32} {h : iH} {Q : Option Value → iH → Prop} (H : i_P i_MT i_AT L xs 317 213 [some (.ref x0), some (.int x1), some (.int x2), some (.int x3), some (.int x4), some (.int x5), some (.int x6), some (.int x7), some (.int x8), some (.int x9)] [.int (1 : Int32)] h 0 0 Q) : i_P i_MT i_AT L xs 317 208 [some (.ref x0), some (.int x1), some (.int x2), some (.int x3), some (.int x4), some (.int x5), some (.int x6), some (.int x7), some (.int x8), some (.int x9)] [] h 0 0 Q := by
  have hk := i_k317
  refine g_s1 (pc2 := 209) (st2 := [.int (1 : Int32)]) hk rfl rfl rfl rfl rfl ?_
  refine g_s1 (pc2 := 213) hk rfl rfl rfl rfl rfl ?_
  exact H
theorem b317_213 {x0 : Nat} {x1 : Int32} {x2 : Int32} {x3 : Int32} {x4 : Int32} {x5 : Int32} {x6 : Int32} {x7 : Int32} {x8 : Int32} {x9 : Int32} {s0 : Int32} {h : iH} {Q : Option Value → iH → Prop} (H : i_P i_MT i_AT L xs 317 94 [some (.ref x0), some (.int x1), some (.int x2), some (.int x3), some (.int x4), some (.int x5), some (.int s0), some (.int (x7 + 1)), some (.int x8), some (.int x9)] [] h 0 0 Q) : i_P i_MT i_AT L xs 317 213 [some (.ref x0), some (.int x1), some (.int x2), some (.int x3), some (.int x4), some (.int x5), some (.int x6), some (.int x7), some (.int x8), some (.int x9)] [.int s0] h 0 0 Q := by
  have hk := i_k317
  refine g_s1 (pc2 := 215) (lo2 := [some (.ref x0), some (.int x1), some (.int x2), some (.int x3), some (.int x4), some (.int x5), some (.int s0), some (.int x7), some (.int x8), some (.int x9)]) hk rfl rfl rfl rfl rfl ?_
  refine g_s1 (pc2 := 218) (lo2 := [some (.ref x0), some (.int x1), some (.int x2), some (.int x3), some (.int x4), some (.int x5), some (.int s0), some (.int (x7 + 1)), some (.int x8), some (.int x9)]) hk rfl rfl rfl rfl rfl ?_
  refine g_s1 (pc2 := 94) hk rfl rfl rfl rfl rfl ?_
  exact H
theorem b317_234 {x0 : Nat} {x1 : Int32} {x2 : Int32} {x3 : Int32} {x4 : Int32} {x5 : Int32} {x6 : Int32} {x7 : Int32} {x8 : Option Value} {x9 : Option Value} {s0 : Int32} {h : iH} {Q : Option Value → iH → Prop} (H : Q (some (.int s0)) h) : i_P i_MT i_AT L xs 317 234 [some (.ref x0), some (.int x1), some (.int x2), some (.int x3), some (.int x4), some (.int x5), some (.int x6), some (.int x7), x8, x9] [.int s0] h 0 0 Q := by
  have hk := i_k317
  exact g_ireturn hk rfl (by decide) (by decide) rfl H
theorem b317_247 {x0 : Nat} {x1 : Int32} {x2 : Int32} {x3 : Int32} {x4 : Int32} {x5 : Int32} {x6 : Option Value} {x7 : Option Value} {x8 : Option Value} {x9 : Option Value} {s0 : Int32} {h : iH} {Q : Option Value → iH → Prop} (H : Q (some (.int s0)) h) : i_P i_MT i_AT L xs 317 247 [some (.ref x0), some (.int x1), some (.int x2), some (.int x3), some (.int x4), some (.int x5), x6, x7, x8, x9] [.int s0] h 0 0 Q := by
  have hk := i_k317
  exact g_ireturn hk rfl (by decide) (by decide) rfl H
/-! StillTownModel.signs(III)I -/
theorem e318 {x0 : Nat} {x1 : Int32} {x2 : Int32} {x3 : Int32} {h : iH} {Q : Option Value → iH → Prop} (H : i_P i_MT i_AT L xs 318 0 [some (.ref x0), some (.int x1), some (.int x2), some (.int x3), none, none] [] h 0 0 Q) : i_C i_MT i_AT L xs 318 [.ref x0, .int x1, .int x2, .int x3] h Q := ⟨i_m318, i_k318.1, Nat.le_of_ble_eq_true rfl, H⟩
theorem b318_0 {x0 : Nat} {x1 : Int32} {x2 : Int32} {x3 : Int32} {x4 : Option Value} {x5 : Option Value} {h : iH} {Q : Option Value → iH → Prop} (H : (i_obj? h x0 12 ∧ i_C i_MT i_AT L xs 277 [.ref x0, .int x1, .int x2] h (fun v h1 => ∃ r2 : Int32, v = some (.int r2) ∧ i_P i_MT i_AT L xs 318 6 [some (.ref x0), some (.int x1), some (.int x2), some (.int x3), x4, x5] [.int r2] h1 0 0 Q))) : i_P i_MT i_AT L xs 318 0 [some (.ref x0), some (.int x1), some (.int x2), some (.int x3), x4, x5] [] h 0 0 Q := by
  have hk := i_k318
  refine g_s1 (pc2 := 1) hk rfl rfl rfl rfl rfl ?_
  refine g_s1 (pc2 := 2) hk rfl rfl rfl rfl rfl ?_
  refine g_s1 (pc2 := 3) hk rfl rfl rfl rfl rfl ?_
  obtain ⟨ho, H⟩ := H
  refine g_call hk rfl rfl i_k277.1 ⟨rfl, rfl⟩ rfl (i_rcv_v ho rfl (by decide)) rfl ?_
  exact H.mono (fun v h2 q => by obtain ⟨r, rfl, q⟩ := q; exact q)
theorem b318_6 {x0 : Nat} {x1 : Int32} {x2 : Int32} {x3 : Int32} {x4 : Option Value} {x5 : Option Value} {s0 : Int32} {h : iH} {Q : Option Value → iH → Prop} (H : ((s0 = 0 → i_P i_MT i_AT L xs 318 21 [some (.ref x0), some (.int x1), some (.int x2), some (.int x3), x4, x5] [] h 0 0 Q) ∧ (¬ (s0 = 0) → (i_C i_MT i_AT L xs 212 [.long (x3.toInt64), .long (0 : Int64), .long (999999 : Int64)] h (fun v h1 => ∃ r2 : Int32, v = some (.int r2) ∧ i_P i_MT i_AT L xs 318 18 [some (.ref x0), some (.int x1), some (.int x2), some (.int x3), x4, x5] [.int r2] h1 0 0 Q))))) : i_P i_MT i_AT L xs 318 6 [some (.ref x0), some (.int x1), some (.int x2), some (.int x3), x4, x5] [.int s0] h 0 0 Q := by
  have hk := i_k318
  refine g_if_eq hk rfl (fun hc => ?_) (fun hc => ?_)
  · have H := H.1 hc
    exact H
  · have H := H.2 hc
    refine g_s1 (pc2 := 10) hk rfl rfl rfl rfl rfl ?_
    refine g_s1 (pc2 := 11) hk rfl rfl rfl rfl rfl ?_
    refine g_s1 (pc2 := 12) (st2 := [.long (0 : Int64), .long (x3.toInt64)]) hk rfl rfl rfl rfl rfl ?_
    refine g_step (pc2 := 15) (st2 := [.long (999999 : Int64), .long (0 : Int64), .long (x3.toInt64)]) hk rfl rfl rfl rfl ?_
    refine g_call hk rfl rfl i_k212.1 ⟨rfl, rfl⟩ rfl (i_rcv_0 rfl) rfl ?_
    exact H.mono (fun v h2 q => by obtain ⟨r, rfl, q⟩ := q; exact q)
theorem b318_18 {x0 : Nat} {x1 : Int32} {x2 : Int32} {x3 : Int32} {x4 : Option Value} {x5 : Option Value} {s0 : Int32} {h : iH} {Q : Option Value → iH → Prop} (H : ((¬ s0 = 0 → i_P i_MT i_AT L xs 318 35 [some (.ref x0), some (.int x1), some (.int x2), some (.int x3), some (.int (1000000 : Int32)), some (.int (1 : Int32))] [] h 0 0 Q) ∧ (¬ (¬ s0 = 0) → i_P i_MT i_AT L xs 318 21 [some (.ref x0), some (.int x1), some (.int x2), some (.int x3), x4, x5] [] h 0 0 Q))) : i_P i_MT i_AT L xs 318 18 [some (.ref x0), some (.int x1), some (.int x2), some (.int x3), x4, x5] [.int s0] h 0 0 Q := by
  have hk := i_k318
  refine g_if_ne hk rfl (fun hc => ?_) (fun hc => ?_)
  · have H := H.1 hc
    refine g_step (pc2 := 30) (st2 := [.int (1000000 : Int32)]) hk rfl rfl rfl rfl ?_
    refine g_s1 (pc2 := 32) (lo2 := [some (.ref x0), some (.int x1), some (.int x2), some (.int x3), some (.int (1000000 : Int32)), x5]) hk rfl rfl rfl rfl rfl ?_
    refine g_s1 (pc2 := 33) (st2 := [.int (1 : Int32)]) hk rfl rfl rfl rfl rfl ?_
    refine g_s1 (pc2 := 35) (lo2 := [some (.ref x0), some (.int x1), some (.int x2), some (.int x3), some (.int (1000000 : Int32)), some (.int (1 : Int32))]) hk rfl rfl rfl rfl rfl ?_
    exact H
  · have H := H.2 hc
    exact H
theorem b318_21 {x0 : Nat} {x1 : Int32} {x2 : Int32} {x3 : Int32} {x4 : Option Value} {x5 : Option Value} {h : iH} {Q : Option Value → iH → Prop} (H : (i_obj? h x0 12 ∧ i_C i_MT i_AT L xs 201 [.ref x0, .int (1 : Int32)] h (fun v h1 => ∃ r2 : Int32, v = some (.int r2) ∧ i_P i_MT i_AT L xs 318 26 [some (.ref x0), some (.int x1), some (.int x2), some (.int x3), x4, x5] [.int r2] h1 0 0 Q))) : i_P i_MT i_AT L xs 318 21 [some (.ref x0), some (.int x1), some (.int x2), some (.int x3), x4, x5] [] h 0 0 Q := by
  have hk := i_k318
  refine g_s1 (pc2 := 22) hk rfl rfl rfl rfl rfl ?_
  refine g_s1 (pc2 := 23) (st2 := [.int (1 : Int32), .ref x0]) hk rfl rfl rfl rfl rfl ?_
  obtain ⟨ho, H⟩ := H
  refine g_call hk rfl rfl i_k201.1 ⟨rfl, rfl⟩ rfl (i_rcv_v ho rfl (by decide)) rfl ?_
  exact H.mono (fun v h2 q => by obtain ⟨r, rfl, q⟩ := q; exact q)
theorem b318_26 {x0 : Nat} {x1 : Int32} {x2 : Int32} {x3 : Int32} {x4 : Option Value} {x5 : Option Value} {s0 : Int32} {h : iH} {Q : Option Value → iH → Prop} (H : Q (some (.int s0)) h) : i_P i_MT i_AT L xs 318 26 [some (.ref x0), some (.int x1), some (.int x2), some (.int x3), x4, x5] [.int s0] h 0 0 Q := by
  have hk := i_k318
  exact g_ireturn hk rfl (by decide) (by decide) rfl H
theorem b318_35 {x0 : Nat} {x1 : Int32} {x2 : Int32} {x3 : Int32} {x4 : Int32} {x5 : Int32} {h : iH} {Q : Option Value → iH → Prop} (H : (((60 : Int32) < x5 → (i_obj? h x0 12 ∧ i_C i_MT i_AT L xs 201 [.ref x0, .int (6 : Int32)] h (fun v h1 => ∃ r2 : Int32, v = some (.int r2) ∧ i_P i_MT i_AT L xs 318 98 [some (.ref x0), some (.int x1), some (.int x2), some (.int x3), some (.int x4), some (.int x5)] [.int r2] h1 0 0 Q))) ∧ (¬ ((60 : Int32) < x5) → (∃ v3 : Nat, i_fld h x0 12 0 = some (.ref v3) ∧ (∃ (n4 : Nat) (f5 : Nat → Int32), i_arI h 0 v3 = some (n4, f5) ∧ ¬ (((154 : Int32) + ((5 : Int32) * x1)) < 0 ∨ n4 ≤ ((154 : Int32) + ((5 : Int32) * x1)).toNatClampNeg) ∧ (i_obj? h x0 12 ∧ i_C i_MT i_AT L xs 275 [.ref x0, .int x2, .int (f5 ((154 : Int32) + ((5 : Int32) * x1)).toNatClampNeg), .int (4 : Int32), .int x5] h (fun v h6 => ∃ r7 : Int32, v = some (.int r7) ∧ i_P i_MT i_AT L xs 318 66 [some (.ref x0), some (.int x1), some (.int x2), some (.int x3), some (.int x4), some (.int x5)] [.int r7, .int (16 : Int32), .int x4] h6 0 0 Q))))))) : i_P i_MT i_AT L xs 318 35 [some (.ref x0), some (.int x1), some (.int x2), some (.int x3), some (.int x4), some (.int x5)] [] h 0 0 Q := by
  have hk := i_k318
  refine g_s1 (pc2 := 37) hk rfl rfl rfl rfl rfl ?_
  refine g_s1 (pc2 := 39) (st2 := [.int (60 : Int32), .int x5]) hk rfl rfl rfl rfl rfl ?_
  refine g_icmp_gt hk rfl (fun hc => ?_) (fun hc => ?_)
  · have H := H.1 hc
    refine g_s1 (pc2 := 93) hk rfl rfl rfl rfl rfl ?_
    refine g_s1 (pc2 := 95) (st2 := [.int (6 : Int32), .ref x0]) hk rfl rfl rfl rfl rfl ?_
    obtain ⟨ho, H⟩ := H
    refine g_call hk rfl rfl i_k201.1 ⟨rfl, rfl⟩ rfl (i_rcv_v ho rfl (by decide)) rfl ?_
    exact H.mono (fun v h2 q => by obtain ⟨r, rfl, q⟩ := q; exact q)
  · have H := H.2 hc
    refine g_s1 (pc2 := 44) hk rfl rfl rfl rfl rfl ?_
    refine g_s1 (pc2 := 46) (st2 := [.int (16 : Int32), .int x4]) hk rfl rfl rfl rfl rfl ?_
    refine g_s1 (pc2 := 47) hk rfl rfl rfl rfl rfl ?_
    refine g_s1 (pc2 := 48) hk rfl rfl rfl rfl rfl ?_
    refine g_s1 (pc2 := 49) hk rfl rfl rfl rfl rfl ?_
    obtain ⟨v3, ev3, H⟩ := H
    refine g_step (pc2 := 52) hk rfl rfl rfl (s_get ev3) ?_
    refine g_s1 (pc2 := 55) (st2 := [.int (154 : Int32), .ref v3, .int x2, .ref x0, .int (16 : Int32), .int x4]) hk rfl rfl rfl rfl rfl ?_
    refine g_s1 (pc2 := 56) (st2 := [.int (5 : Int32), .int (154 : Int32), .ref v3, .int x2, .ref x0, .int (16 : Int32), .int x4]) hk rfl rfl rfl rfl rfl ?_
    refine g_s1 (pc2 := 57) hk rfl rfl rfl rfl rfl ?_
    refine g_s1 (pc2 := 58) hk rfl rfl rfl rfl rfl ?_
    refine g_s1 (pc2 := 59) hk rfl rfl rfl rfl rfl ?_
    obtain ⟨n4, f5, ef5, hi, H⟩ := H
    refine g_step (pc2 := 60) hk rfl rfl rfl (s_aget (L := L) (xs := xs) ef5 hi) ?_
    refine g_s1 (pc2 := 61) (st2 := [.int (4 : Int32), .int (f5 ((154 : Int32) + ((5 : Int32) * x1)).toNatClampNeg), .int x2, .ref x0, .int (16 : Int32), .int x4]) hk rfl rfl rfl rfl rfl ?_
    refine g_s1 (pc2 := 63) hk rfl rfl rfl rfl rfl ?_
    obtain ⟨ho, H⟩ := H
    refine g_call hk rfl rfl i_k275.1 ⟨rfl, rfl⟩ rfl (i_rcv_v ho rfl (by decide)) rfl ?_
    exact H.mono (fun v h2 q => by obtain ⟨r, rfl, q⟩ := q; exact q)
theorem b318_66 {x0 : Nat} {x1 : Int32} {x2 : Int32} {x3 : Int32} {x4 : Int32} {x5 : Int32} {s0 : Int32} {s1 : Int32} {s2 : Int32} {h : iH} {Q : Option Value → iH → Prop} (H : (¬ (16 : Int32) = 0 ∧ ((x3 < ((s0 * (s1 - s2)) / (16 : Int32)) → i_P i_MT i_AT L xs 318 35 [some (.ref x0), some (.int x1), some (.int x2), some (.int x3), some (.int ((s0 * (s1 - s2)) / (16 : Int32))), some (.int (x5 + 1))] [] h 0 0 Q) ∧ (¬ (x3 < ((s0 * (s1 - s2)) / (16 : Int32))) → (i_obj? h x0 12 ∧ i_C i_MT i_AT L xs 202 [.ref x0, .int x5] h (fun v h1 => ∃ r2 : Int32, v = some (.int r2) ∧ i_P i_MT i_AT L xs 318 85 [some (.ref x0), some (.int x1), some (.int x2), some (.int x3), some (.int ((s0 * (s1 - s2)) / (16 : Int32))), some (.int x5)] [.int r2] h1 0 0 Q)))))) : i_P i_MT i_AT L xs 318 66 [some (.ref x0), some (.int x1), some (.int x2), some (.int x3), some (.int x4), some (.int x5)] [.int s2, .int s1, .int s0] h 0 0 Q := by
  have hk := i_k318
  refine g_s1 (pc2 := 67) hk rfl rfl rfl rfl rfl ?_
  refine g_s1 (pc2 := 68) hk rfl rfl rfl rfl rfl ?_
  refine g_s1 (pc2 := 70) (st2 := [.int (16 : Int32), .int (s0 * (s1 - s2))]) hk rfl rfl rfl rfl rfl ?_
  obtain ⟨hz, H⟩ := H
  refine g_s1 (pc2 := 71) hk rfl rfl rfl rfl (s_if hz) ?_
  refine g_s1 (pc2 := 73) (lo2 := [some (.ref x0), some (.int x1), some (.int x2), some (.int x3), some (.int ((s0 * (s1 - s2)) / (16 : Int32))), some (.int x5)]) hk rfl rfl rfl rfl rfl ?_
  refine g_s1 (pc2 := 75) hk rfl rfl rfl rfl rfl ?_
  refine g_s1 (pc2 := 76) hk rfl rfl rfl rfl rfl ?_
  refine g_icmp_gt hk rfl (fun hc => ?_) (fun hc => ?_)
  · have H := H.1 hc
    refine g_s1 (pc2 := 89) (lo2 := [some (.ref x0), some (.int x1), some (.int x2), some (.int x3), some (.int ((s0 * (s1 - s2)) / (16 : Int32))), some (.int (x5 + 1))]) hk rfl rfl rfl rfl rfl ?_
    refine g_s1 (pc2 := 35) hk rfl rfl rfl rfl rfl ?_
    exact H
  · have H := H.2 hc
    refine g_s1 (pc2 := 80) hk rfl rfl rfl rfl rfl ?_
    refine g_s1 (pc2 := 82) hk rfl rfl rfl rfl rfl ?_
    obtain ⟨ho, H⟩ := H
    refine g_call hk rfl rfl i_k202.1 ⟨rfl, rfl⟩ rfl (i_rcv_v ho rfl (by decide)) rfl ?_
    exact H.mono (fun v h2 q => by obtain ⟨r, rfl, q⟩ := q; exact q)
theorem b318_85 {x0 : Nat} {x1 : Int32} {x2 : Int32} {x3 : Int32} {x4 : Int32} {x5 : Int32} {s0 : Int32} {h : iH} {Q : Option Value → iH → Prop} (H : Q (some (.int s0)) h) : i_P i_MT i_AT L xs 318 85 [some (.ref x0), some (.int x1), some (.int x2), some (.int x3), some (.int x4), some (.int x5)] [.int s0] h 0 0 Q := by
  have hk := i_k318
  exact g_ireturn hk rfl (by decide) (by decide) rfl H
theorem b318_98 {x0 : Nat} {x1 : Int32} {x2 : Int32} {x3 : Int32} {x4 : Int32} {x5 : Int32} {s0 : Int32} {h : iH} {Q : Option Value → iH → Prop} (H : Q (some (.int s0)) h) : i_P i_MT i_AT L xs 318 98 [some (.ref x0), some (.int x1), some (.int x2), some (.int x3), some (.int x4), some (.int x5)] [.int s0] h 0 0 Q := by
  have hk := i_k318
  exact g_ireturn hk rfl (by decide) (by decide) rfl H
/-! StillTownModel.sightFrom(IIII)J -/
theorem e319 {x0 : Nat} {x1 : Int32} {x2 : Int32} {x3 : Int32} {x4 : Int32} {h : iH} {Q : Option Value → iH → Prop} (H : i_P i_MT i_AT L xs 319 0 [some (.ref x0), some (.int x1), some (.int x2), some (.int x3), some (.int x4), none, none, none] [] h 0 0 Q) : i_C i_MT i_AT L xs 319 [.ref x0, .int x1, .int x2, .int x3, .int x4] h Q := ⟨i_m319, i_k319.1, Nat.le_of_ble_eq_true rfl, H⟩
theorem b319_0 {x0 : Nat} {x1 : Int32} {x2 : Int32} {x3 : Int32} {x4 : Int32} {x5 : Option Value} {x6 : Option Value} {x7 : Option Value} {h : iH} {Q : Option Value → iH → Prop} (H : i_P i_MT i_AT L xs 319 6 [some (.ref x0), some (.int x1), some (.int x2), some (.int x3), some (.int x4), some (.long (0 : Int64)), none, some (.int (0 : Int32))] [] h 0 0 Q) : i_P i_MT i_AT L xs 319 0 [some (.ref x0), some (.int x1), some (.int x2), some (.int x3), some (.int x4), x5, x6, x7] [] h 0 0 Q := by
  have hk := i_k319
  refine g_s1 (pc2 := 1) (st2 := [.long (0 : Int64)]) hk rfl rfl rfl rfl rfl ?_
  refine g_s1 (pc2 := 3) (lo2 := [some (.ref x0), some (.int x1), some (.int x2), some (.int x3), some (.int x4), some (.long (0 : Int64)), none, x7]) hk rfl rfl rfl rfl rfl ?_
  refine g_s1 (pc2 := 4) (st2 := [.int (0 : Int32)]) hk rfl rfl rfl rfl rfl ?_
  refine g_s1 (pc2 := 6) (lo2 := [some (.ref x0), some (.int x1), some (.int x2), some (.int x3), some (.int x4), some (.long (0 : Int64)), none, some (.int (0 : Int32))]) hk rfl rfl rfl rfl rfl ?_
  exact H
theorem b319_6 {x0 : Nat} {x1 : Int32} {x2 : Int32} {x3 : Int32} {x4 : Int32} {x5 : Int64} {x7 : Int32} {h : iH} {Q : Option Value → iH → Prop} (H : (i_obj? h x0 12 ∧ i_C i_MT i_AT L xs 248 [.ref x0] h (fun v h1 => ∃ r2 : Int32, v = some (.int r2) ∧ i_P i_MT i_AT L xs 319 12 [some (.ref x0), some (.int x1), some (.int x2), some (.int x3), some (.int x4), some (.long x5), none, some (.int x7)] [.int r2, .int x7] h1 0 0 Q))) : i_P i_MT i_AT L xs 319 6 [some (.ref x0), some (.int x1), some (.int x2), some (.int x3), some (.int x4), some (.long x5), none, some (.int x7)] [] h 0 0 Q := by
  have hk := i_k319
  refine g_s1 (pc2 := 8) hk rfl rfl rfl rfl rfl ?_
  refine g_s1 (pc2 := 9) hk rfl rfl rfl rfl rfl ?_
  obtain ⟨ho, H⟩ := H
  refine g_call hk rfl rfl i_k248.1 ⟨rfl, rfl⟩ rfl (i_rcv_v ho rfl (by decide)) rfl ?_
  exact H.mono (fun v h2 q => by obtain ⟨r, rfl, q⟩ := q; exact q)
theorem b319_12 {x0 : Nat} {x1 : Int32} {x2 : Int32} {x3 : Int32} {x4 : Int32} {x5 : Int64} {x7 : Int32} {s0 : Int32} {s1 : Int32} {h : iH} {Q : Option Value → iH → Prop} (H : ((s1 ≤ s0 → Q (some (.long x5)) h) ∧ (¬ (s1 ≤ s0) → (i_obj? h x0 12 ∧ i_C i_MT i_AT L xs 256 [.ref x0, .int x1, .int (2 : Int32)] h (fun v h1 => ∃ r2 : Int32, v = some (.int r2) ∧ i_P i_MT i_AT L xs 319 26 [some (.ref x0), some (.int x1), some (.int x2), some (.int x3), some (.int x4), some (.long x5), none, some (.int x7)] [.int r2, .int x3, .int x2, .ref x0, .long x5] h1 0 0 Q))))) : i_P i_MT i_AT L xs 319 12 [some (.ref x0), some (.int x1), some (.int x2), some (.int x3), some (.int x4), some (.long x5), none, some (.int x7)] [.int s1, .int s0] h 0 0 Q := by
  have hk := i_k319
  refine g_icmp_ge hk rfl (fun hc => ?_) (fun hc => ?_)
  · have H := H.1 hc
    refine g_s1 (pc2 := 55) hk rfl rfl rfl rfl rfl ?_
    exact g_lreturn hk rfl (by decide) (by decide) rfl H
  · have H := H.2 hc
    refine g_s1 (pc2 := 17) hk rfl rfl rfl rfl rfl ?_
    refine g_s1 (pc2 := 18) hk rfl rfl rfl rfl rfl ?_
    refine g_s1 (pc2 := 19) hk rfl rfl rfl rfl rfl ?_
    refine g_s1 (pc2 := 20) hk rfl rfl rfl rfl rfl ?_
    refine g_s1 (pc2 := 21) hk rfl rfl rfl rfl rfl ?_
    refine g_s1 (pc2 := 22) hk rfl rfl rfl rfl rfl ?_
    refine g_s1 (pc2 := 23) (st2 := [.int (2 : Int32), .int x1, .ref x0, .int x3, .int x2, .ref x0, .long x5]) hk rfl rfl rfl rfl rfl ?_
    obtain ⟨ho, H⟩ := H
    refine g_call hk rfl rfl i_k256.1 ⟨rfl, rfl⟩ rfl (i_rcv_v ho rfl (by decide)) rfl ?_
    exact H.mono (fun v h2 q => by obtain ⟨r, rfl, q⟩ := q; exact q)
theorem b319_26 {x0 : Nat} {x1 : Int32} {x2 : Int32} {x3 : Int32} {x4 : Int32} {x5 : Int64} {x7 : Int32} {s0 : Int64} {s1 : Nat} {s2 : Int32} {s3 : Int32} {s4 : Int32} {h : iH} {Q : Option Value → iH → Prop} (H : (i_obj? h s1 12 ∧ i_C i_MT i_AT L xs 271 [.ref s1, .int s2, .int s3, .int s4, .int x7, .int x4] h (fun v h1 => ∃ r2 : Int32, v = some (.int r2) ∧ i_P i_MT i_AT L xs 319 33 [some (.ref x0), some (.int x1), some (.int x2), some (.int x3), some (.int x4), some (.long x5), none, some (.int x7)] [.int r2, .long s0] h1 0 0 Q))) : i_P i_MT i_AT L xs 319 26 [some (.ref x0), some (.int x1), some (.int x2), some (.int x3), some (.int x4), some (.long x5), none, some (.int x7)] [.int s4, .int s3, .int s2, .ref s1, .long s0] h 0 0 Q := by
  have hk := i_k319
  refine g_s1 (pc2 := 28) hk rfl rfl rfl rfl rfl ?_
  refine g_s1 (pc2 := 30) hk rfl rfl rfl rfl rfl ?_
  obtain ⟨ho, H⟩ := H
  refine g_call hk rfl rfl i_k271.1 ⟨rfl, rfl⟩ rfl (i_rcv_v ho rfl (by decide)) rfl ?_
  exact H.mono (fun v h2 q => by obtain ⟨r, rfl, q⟩ := q; exact q)
theorem b319_33 {x0 : Nat} {x1 : Int32} {x2 : Int32} {x3 : Int32} {x4 : Int32} {x5 : Int64} {x7 : Int32} {s0 : Int64} {s1 : Int32} {h : iH} {Q : Option Value → iH → Prop} (H : ((s1 = 0 → i_P i_MT i_AT L xs 319 44 [some (.ref x0), some (.int x1), some (.int x2), some (.int x3), some (.int x4), some (.long x5), none, some (.int x7)] [.long (0 : Int64), .long s0] h 0 0 Q) ∧ (¬ (s1 = 0) → i_P i_MT i_AT L xs 319 44 [some (.ref x0), some (.int x1), some (.int x2), some (.int x3), some (.int x4), some (.long x5), none, some (.int x7)] [.long ((1 : Int64) <<< (x7.toInt64 &&& 63)), .long s0] h 0 0 Q))) : i_P i_MT i_AT L xs 319 33 [some (.ref x0), some (.int x1), some (.int x2), some (.int x3), some (.int x4), some (.long x5), none, some (.int x7)] [.int s1, .long s0] h 0 0 Q := by
  have hk := i_k319
  refine g_if_eq hk rfl (fun hc => ?_) (fun hc => ?_)
  · have H := H.1 hc
    refine g_s1 (pc2 := 44) (st2 := [.long (0 : Int64), .long s0]) hk rfl rfl rfl rfl rfl ?_
    exact H
  · have H := H.2 hc
    refine g_s1 (pc2 := 37) (st2 := [.long (1 : Int64), .long s0]) hk rfl rfl rfl rfl rfl ?_
    refine g_s1 (pc2 := 39) hk rfl rfl rfl rfl rfl ?_
    refine g_s1 (pc2 := 40) hk rfl rfl rfl rfl rfl ?_
    refine g_s1 (pc2 := 44) hk rfl rfl rfl rfl rfl ?_
    exact H
theorem b319_44 {x0 : Nat} {x1 : Int32} {x2 : Int32} {x3 : Int32} {x4 : Int32} {x5 : Int64} {x7 : Int32} {s0 : Int64} {s1 : Int64} {h : iH} {Q : Option Value → iH → Prop} (H : i_P i_MT i_AT L xs 319 6 [some (.ref x0), some (.int x1), some (.int x2), some (.int x3), some (.int x4), some (.long (s0 ||| s1)), none, some (.int (x7 + 1))] [] h 0 0 Q) : i_P i_MT i_AT L xs 319 44 [some (.ref x0), some (.int x1), some (.int x2), some (.int x3), some (.int x4), some (.long x5), none, some (.int x7)] [.long s1, .long s0] h 0 0 Q := by
  have hk := i_k319
  refine g_s1 (pc2 := 45) hk rfl rfl rfl rfl rfl ?_
  refine g_s1 (pc2 := 47) (lo2 := [some (.ref x0), some (.int x1), some (.int x2), some (.int x3), some (.int x4), some (.long (s0 ||| s1)), none, some (.int x7)]) hk rfl rfl rfl rfl rfl ?_
  refine g_s1 (pc2 := 50) (lo2 := [some (.ref x0), some (.int x1), some (.int x2), some (.int x3), some (.int x4), some (.long (s0 ||| s1)), none, some (.int (x7 + 1))]) hk rfl rfl rfl rfl rfl ?_
  refine g_s1 (pc2 := 6) hk rfl rfl rfl rfl rfl ?_
  exact H
/-! StillTownModel.many(J)I -/
theorem e320 {x0 : Int64} {h : iH} {Q : Option Value → iH → Prop} (H : i_P i_MT i_AT L xs 320 0 [some (.long x0), none, none, none, none] [] h 0 0 Q) : i_C i_MT i_AT L xs 320 [.long x0] h Q := ⟨i_m320, i_k320.1, Nat.le_of_ble_eq_true rfl, H⟩
theorem b320_0 {x0 : Int64} {x2 : Option Value} {x3 : Option Value} {x4 : Option Value} {h : iH} {Q : Option Value → iH → Prop} (H : i_P i_MT i_AT L xs 320 4 [some (.long x0), none, some (.int (0 : Int32)), some (.long x0), none] [] h 0 0 Q) : i_P i_MT i_AT L xs 320 0 [some (.long x0), none, x2, x3, x4] [] h 0 0 Q := by
  have hk := i_k320
  refine g_s1 (pc2 := 1) (st2 := [.int (0 : Int32)]) hk rfl rfl rfl rfl rfl ?_
  refine g_s1 (pc2 := 2) (lo2 := [some (.long x0), none, some (.int (0 : Int32)), x3, x4]) hk rfl rfl rfl rfl rfl ?_
  refine g_s1 (pc2 := 3) hk rfl rfl rfl rfl rfl ?_
  refine g_s1 (pc2 := 4) (lo2 := [some (.long x0), none, some (.int (0 : Int32)), some (.long x0), none]) hk rfl rfl rfl rfl rfl ?_
  exact H
theorem b320_4 {x0 : Int64} {x2 : Int32} {x3 : Int64} {h : iH} {Q : Option Value → iH → Prop} (H : (((lg_cmp x3 (0 : Int64)) = 0 → Q (some (.int x2)) h) ∧ (¬ ((lg_cmp x3 (0 : Int64)) = 0) → i_P i_MT i_AT L xs 320 4 [some (.long x0), none, some (.int (x2 + 1)), some (.long (x3 &&& (x3 - (1 : Int64)))), none] [] h 0 0 Q))) : i_P i_MT i_AT L xs 320 4 [some (.long x0), none, some (.int x2), some (.long x3), none] [] h 0 0 Q := by
  have hk := i_k320
  refine g_s1 (pc2 := 5) hk rfl rfl rfl rfl rfl ?_
  refine g_s1 (pc2 := 6) (st2 := [.long (0 : Int64), .long x3]) hk rfl rfl rfl rfl rfl ?_
  refine g_s1 (pc2 := 7) hk rfl rfl rfl rfl rfl ?_
  refine g_if_eq hk rfl (fun hc => ?_) (fun hc => ?_)
  · have H := H.1 hc
    refine g_s1 (pc2 := 23) hk rfl rfl rfl rfl rfl ?_
    exact g_ireturn hk rfl (by decide) (by decide) rfl H
  · have H := H.2 hc
    refine g_s1 (pc2 := 13) (lo2 := [some (.long x0), none, some (.int (x2 + 1)), some (.long x3), none]) hk rfl rfl rfl rfl rfl ?_
    refine g_s1 (pc2 := 14) hk rfl rfl rfl rfl rfl ?_
    refine g_s1 (pc2 := 15) hk rfl rfl rfl rfl rfl ?_
    refine g_s1 (pc2 := 16) (st2 := [.long (1 : Int64), .long x3, .long x3]) hk rfl rfl rfl rfl rfl ?_
    refine g_s1 (pc2 := 17) hk rfl rfl rfl rfl rfl ?_
    refine g_s1 (pc2 := 18) hk rfl rfl rfl rfl rfl ?_
    refine g_s1 (pc2 := 19) (lo2 := [some (.long x0), none, some (.int (x2 + 1)), some (.long (x3 &&& (x3 - (1 : Int64)))), none]) hk rfl rfl rfl rfl rfl ?_
    refine g_s1 (pc2 := 4) hk rfl rfl rfl rfl rfl ?_
    exact H
/-! StillTownModel.swept(II)I -/
theorem e321 {x0 : Nat} {x1 : Int32} {x2 : Int32} {h : iH} {Q : Option Value → iH → Prop} (H : i_P i_MT i_AT L xs 321 0 [some (.ref x0), some (.int x1), some (.int x2), none, none, none, none, none, none, none, none, none, none, none, none] [] h 0 0 Q) : i_C i_MT i_AT L xs 321 [.ref x0, .int x1, .int x2] h Q := ⟨i_m321, i_k321.1, Nat.le_of_ble_eq_true rfl, H⟩
theorem b321_0 {x0 : Nat} {x1 : Int32} {x2 : Int32} {x3 : Option Value} {x4 : Option Value} {x5 : Option Value} {x6 : Option Value} {x7 : Option Value} {x8 : Option Value} {x9 : Option Value} {x10 : Option Value} {x11 : Option Value} {x12 : Option Value} {x13 : Option Value} {x14 : Option Value} {h : iH} {Q : Option Value → iH → Prop} (H : (i_obj? h x0 12 ∧ i_C i_MT i_AT L xs 254 [.ref x0, .int x1] h (fun v h1 => ∃ r2 : Int32, v = some (.int r2) ∧ i_P i_MT i_AT L xs 321 5 [some (.ref x0), some (.int x1), some (.int x2), x3, x4, x5, x6, x7, x8, x9, x10, x11, x12, x13, x14] [.int r2] h1 0 0 Q))) : i_P i_MT i_AT L xs 321 0 [some (.ref x0), some (.int x1), some (.int x2), x3, x4, x5, x6, x7, x8, x9, x10, x11, x12, x13, x14] [] h 0 0 Q := by
  have hk := i_k321
  refine g_s1 (pc2 := 1) hk rfl rfl rfl rfl rfl ?_
  refine g_s1 (pc2 := 2) hk rfl rfl rfl rfl rfl ?_
  obtain ⟨ho, H⟩ := H
  refine g_call hk rfl rfl i_k254.1 ⟨rfl, rfl⟩ rfl (i_rcv_v ho rfl (by decide)) rfl ?_
  exact H.mono (fun v h2 q => by obtain ⟨r, rfl, q⟩ := q; exact q)
theorem b321_5 {x0 : Nat} {x1 : Int32} {x2 : Int32} {x3 : Option Value} {x4 : Option Value} {x5 : Option Value} {x6 : Option Value} {x7 : Option Value} {x8 : Option Value} {x9 : Option Value} {x10 : Option Value} {x11 : Option Value} {x12 : Option Value} {x13 : Option Value} {x14 : Option Value} {s0 : Int32} {h : iH} {Q : Option Value → iH → Prop} (H : ((s0 = 0 → i_P i_MT i_AT L xs 321 15 [some (.ref x0), some (.int x1), some (.int x2), x3, x4, x5, x6, x7, x8, x9, x10, x11, x12, x13, x14] [] h 0 0 Q) ∧ (¬ (s0 = 0) → (i_C i_MT i_AT L xs 255 [.int x2] h (fun v h1 => ∃ r2 : Int32, v = some (.int r2) ∧ i_P i_MT i_AT L xs 321 12 [some (.ref x0), some (.int x1), some (.int x2), x3, x4, x5, x6, x7, x8, x9, x10, x11, x12, x13, x14] [.int r2] h1 0 0 Q))))) : i_P i_MT i_AT L xs 321 5 [some (.ref x0), some (.int x1), some (.int x2), x3, x4, x5, x6, x7, x8, x9, x10, x11, x12, x13, x14] [.int s0] h 0 0 Q := by
  have hk := i_k321
  refine g_if_eq hk rfl (fun hc => ?_) (fun hc => ?_)
  · have H := H.1 hc
    exact H
  · have H := H.2 hc
    refine g_s1 (pc2 := 9) hk rfl rfl rfl rfl rfl ?_
    refine g_call hk rfl rfl i_k255.1 ⟨rfl, rfl⟩ rfl (i_rcv_0 rfl) rfl ?_
    exact H.mono (fun v h2 q => by obtain ⟨r, rfl, q⟩ := q; exact q)
theorem b321_12 {x0 : Nat} {x1 : Int32} {x2 : Int32} {x3 : Option Value} {x4 : Option Value} {x5 : Option Value} {x6 : Option Value} {x7 : Option Value} {x8 : Option Value} {x9 : Option Value} {x10 : Option Value} {x11 : Option Value} {x12 : Option Value} {x13 : Option Value} {x14 : Option Value} {s0 : Int32} {h : iH} {Q : Option Value → iH → Prop} (H : ((¬ s0 = 0 → (∃ v1 : Nat, i_fld h x0 12 0 = some (.ref v1) ∧ (∃ (n2 : Nat) (f3 : Nat → Int32), i_arI h 0 v1 = some (n2, f3) ∧ ¬ (((154 : Int32) + ((5 : Int32) * x1)) < 0 ∨ n2 ≤ ((154 : Int32) + ((5 : Int32) * x1)).toNatClampNeg) ∧ i_P i_MT i_AT L xs 321 40 [some (.ref x0), some (.int x1), some (.int x2), some (.int (f3 ((154 : Int32) + ((5 : Int32) * x1)).toNatClampNeg)), some (.long (0 : Int64)), none, some (.int (1 : Int32)), x7, x8, x9, x10, x11, x12, x13, x14] [] h 0 0 Q))) ∧ (¬ (¬ s0 = 0) → i_P i_MT i_AT L xs 321 15 [some (.ref x0), some (.int x1), some (.int x2), x3, x4, x5, x6, x7, x8, x9, x10, x11, x12, x13, x14] [] h 0 0 Q))) : i_P i_MT i_AT L xs 321 12 [some (.ref x0), some (.int x1), some (.int x2), x3, x4, x5, x6, x7, x8, x9, x10, x11, x12, x13, x14] [.int s0] h 0 0 Q := by
  have hk := i_k321
  refine g_if_ne hk rfl (fun hc => ?_) (fun hc => ?_)
  · have H := H.1 hc
    refine g_s1 (pc2 := 22) hk rfl rfl rfl rfl rfl ?_
    obtain ⟨v1, ev1, H⟩ := H
    refine g_step (pc2 := 25) hk rfl rfl rfl (s_get ev1) ?_
    refine g_s1 (pc2 := 28) (st2 := [.int (154 : Int32), .ref v1]) hk rfl rfl rfl rfl rfl ?_
    refine g_s1 (pc2 := 29) (st2 := [.int (5 : Int32), .int (154 : Int32), .ref v1]) hk rfl rfl rfl rfl rfl ?_
    refine g_s1 (pc2 := 30) hk rfl rfl rfl rfl rfl ?_
    refine g_s1 (pc2 := 31) hk rfl rfl rfl rfl rfl ?_
    refine g_s1 (pc2 := 32) hk rfl rfl rfl rfl rfl ?_
    obtain ⟨n2, f3, ef3, hi, H⟩ := H
    refine g_step (pc2 := 33) hk rfl rfl rfl (s_aget (L := L) (xs := xs) ef3 hi) ?_
    refine g_s1 (pc2 := 34) (lo2 := [some (.ref x0), some (.int x1), some (.int x2), some (.int (f3 ((154 : Int32) + ((5 : Int32) * x1)).toNatClampNeg)), x4, x5, x6, x7, x8, x9, x10, x11, x12, x13, x14]) hk rfl rfl rfl rfl rfl ?_
    refine g_s1 (pc2 := 35) (st2 := [.long (0 : Int64)]) hk rfl rfl rfl rfl rfl ?_
    refine g_s1 (pc2 := 37) (lo2 := [some (.ref x0), some (.int x1), some (.int x2), some (.int (f3 ((154 : Int32) + ((5 : Int32) * x1)).toNatClampNeg)), some (.long (0 : Int64)), none, x6, x7, x8, x9, x10, x11, x12, x13, x14]) hk rfl rfl rfl rfl rfl ?_
    refine g_s1 (pc2 := 38) (st2 := [.int (1 : Int32)]) hk rfl rfl rfl rfl rfl ?_
    refine g_s1 (pc2 := 40) (lo2 := [some (.ref x0), some (.int x1), some (.int x2), some (.int (f3 ((154 : Int32) + ((5 : Int32) * x1)).toNatClampNeg)), some (.long (0 : Int64)), none, some (.int (1 : Int32)), x7, x8, x9, x10, x11, x12, x13, x14]) hk rfl rfl rfl rfl rfl ?_
    exact H
  · have H := H.2 hc
    exact H
theorem b321_15 {x0 : Nat} {x1 : Int32} {x2 : Int32} {x3 : Option Value} {x4 : Option Value} {x5 : Option Value} {x6 : Option Value} {x7 : Option Value} {x8 : Option Value} {x9 : Option Value} {x10 : Option Value} {x11 : Option Value} {x12 : Option Value} {x13 : Option Value} {x14 : Option Value} {h : iH} {Q : Option Value → iH → Prop} (H : (i_obj? h x0 12 ∧ i_C i_MT i_AT L xs 201 [.ref x0, .int (1 : Int32)] h (fun v h1 => ∃ r2 : Int32, v = some (.int r2) ∧ i_P i_MT i_AT L xs 321 20 [some (.ref x0), some (.int x1), some (.int x2), x3, x4, x5, x6, x7, x8, x9, x10, x11, x12, x13, x14] [.int r2] h1 0 0 Q))) : i_P i_MT i_AT L xs 321 15 [some (.ref x0), some (.int x1), some (.int x2), x3, x4, x5, x6, x7, x8, x9, x10, x11, x12, x13, x14] [] h 0 0 Q := by
  have hk := i_k321
  refine g_s1 (pc2 := 16) hk rfl rfl rfl rfl rfl ?_
  refine g_s1 (pc2 := 17) (st2 := [.int (1 : Int32), .ref x0]) hk rfl rfl rfl rfl rfl ?_
  obtain ⟨ho, H⟩ := H
  refine g_call hk rfl rfl i_k201.1 ⟨rfl, rfl⟩ rfl (i_rcv_v ho rfl (by decide)) rfl ?_
  exact H.mono (fun v h2 q => by obtain ⟨r, rfl, q⟩ := q; exact q)
theorem b321_20 {x0 : Nat} {x1 : Int32} {x2 : Int32} {x3 : Option Value} {x4 : Option Value} {x5 : Option Value} {x6 : Option Value} {x7 : Option Value} {x8 : Option Value} {x9 : Option Value} {x10 : Option Value} {x11 : Option Value} {x12 : Option Value} {x13 : Option Value} {x14 : Option Value} {s0 : Int32} {h : iH} {Q : Option Value → iH → Prop} (H : Q (some (.int s0)) h) : i_P i_MT i_AT L xs 321 20 [some (.ref x0), some (.int x1), some (.int x2), x3, x4, x5, x6, x7, x8, x9, x10, x11, x12, x13, x14] [.int s0] h 0 0 Q := by
  have hk := i_k321
  exact g_ireturn hk rfl (by decide) (by decide) rfl H
theorem b321_40 {x0 : Nat} {x1 : Int32} {x2 : Int32} {x3 : Int32} {x4 : Int64} {x6 : Int32} {x7 : Option Value} {x8 : Option Value} {x9 : Option Value} {x10 : Option Value} {x11 : Option Value} {x12 : Option Value} {x13 : Option Value} {x14 : Option Value} {h : iH} {Q : Option Value → iH → Prop} (H : ((x2 < x6 → (i_C i_MT i_AT L xs 320 [.long x4] h (fun v h1 => ∃ r2 : Int32, v = some (.int r2) ∧ i_P i_MT i_AT L xs 321 179 [some (.ref x0), some (.int x1), some (.int x2), some (.int x3), some (.long x4), none, some (.int x6), x7, x8, x9, x10, x11, x12, x13, x14] [.int r2, .ref x0] h1 0 0 Q))) ∧ (¬ (x2 < x6) → i_P i_MT i_AT L xs 321 58 [some (.ref x0), some (.int x1), some (.int x2), some (.int x3), some (.long x4), none, some (.int x6), some (.int (-1 : Int32)), some (.int x3), some (.long (0 : Int64)), none, some (.int (0 : Int32)), x12, x13, x14] [] h 0 0 Q))) : i_P i_MT i_AT L xs 321 40 [some (.ref x0), some (.int x1), some (.int x2), some (.int x3), some (.long x4), none, some (.int x6), x7, x8, x9, x10, x11, x12, x13, x14] [] h 0 0 Q := by
  have hk := i_k321
  refine g_s1 (pc2 := 42) hk rfl rfl rfl rfl rfl ?_
  refine g_s1 (pc2 := 43) hk rfl rfl rfl rfl rfl ?_
  refine g_icmp_gt hk rfl (fun hc => ?_) (fun hc => ?_)
  · have H := H.1 hc
    refine g_s1 (pc2 := 174) hk rfl rfl rfl rfl rfl ?_
    refine g_s1 (pc2 := 176) hk rfl rfl rfl rfl rfl ?_
    refine g_call hk rfl rfl i_k320.1 ⟨rfl, rfl⟩ rfl (i_rcv_0 rfl) rfl ?_
    exact H.mono (fun v h2 q => by obtain ⟨r, rfl, q⟩ := q; exact q)
  · have H := H.2 hc
    refine g_s1 (pc2 := 47) (st2 := [.int (-1 : Int32)]) hk rfl rfl rfl rfl rfl ?_
    refine g_s1 (pc2 := 49) (lo2 := [some (.ref x0), some (.int x1), some (.int x2), some (.int x3), some (.long x4), none, some (.int x6), some (.int (-1 : Int32)), x8, x9, x10, x11, x12, x13, x14]) hk rfl rfl rfl rfl rfl ?_
    refine g_s1 (pc2 := 50) hk rfl rfl rfl rfl rfl ?_
    refine g_s1 (pc2 := 52) (lo2 := [some (.ref x0), some (.int x1), some (.int x2), some (.int x3), some (.long x4), none, some (.int x6), some (.int (-1 : Int32)), some (.int x3), x9, x10, x11, x12, x13, x14]) hk rfl rfl rfl rfl rfl ?_
    refine g_s1 (pc2 := 53) (st2 := [.long (0 : Int64)]) hk rfl rfl rfl rfl rfl ?_
    refine g_s1 (pc2 := 55) (lo2 := [some (.ref x0), some (.int x1), some (.int x2), some (.int x3), some (.long x4), none, some (.int x6), some (.int (-1 : Int32)), some (.int x3), some (.long (0 : Int64)), none, x11, x12, x13, x14]) hk rfl rfl rfl rfl rfl ?_
    refine g_s1 (pc2 := 56) (st2 := [.int (0 : Int32)]) hk rfl rfl rfl rfl rfl ?_
    refine g_s1 (pc2 := 58) (lo2 := [some (.ref x0), some (.int x1), some (.int x2), some (.int x3), some (.long x4), none, some (.int x6), some (.int (-1 : Int32)), some (.int x3), some (.long (0 : Int64)), none, some (.int (0 : Int32)), x12, x13, x14]) hk rfl rfl rfl rfl rfl ?_
    exact H
theorem b321_58 {x0 : Nat} {x1 : Int32} {x2 : Int32} {x3 : Int32} {x4 : Int64} {x6 : Int32} {x7 : Int32} {x8 : Int32} {x9 : Int64} {x11 : Int32} {x12 : Option Value} {x13 : Option Value} {x14 : Option Value} {h : iH} {Q : Option Value → iH → Prop} (H : (((16 : Int32) ≤ x11 → i_P i_MT i_AT L xs 321 40 [some (.ref x0), some (.int x1), some (.int x2), some (.int x8), some (.long (x4 ||| x9)), none, some (.int (x6 + 1)), some (.int x7), some (.int x8), some (.long x9), none, some (.int x11), x12, x13, x14] [] h 0 0 Q) ∧ (¬ ((16 : Int32) ≤ x11) → (((8 : Int32) ≤ x11 → (i_obj? h x0 12 ∧ i_C i_MT i_AT L xs 251 [.ref x0, .int x3, .int (x11 - (8 : Int32))] h (fun v h1 => ∃ r2 : Int32, v = some (.int r2) ∧ i_P i_MT i_AT L xs 321 86 [some (.ref x0), some (.int x1), some (.int x2), some (.int x3), some (.long x4), none, some (.int x6), some (.int x7), some (.int x8), some (.long x9), none, some (.int x11), x12, x13, x14] [.int r2] h1 0 0 Q))) ∧ (¬ ((8 : Int32) ≤ x11) → i_P i_MT i_AT L xs 321 86 [some (.ref x0), some (.int x1), some (.int x2), some (.int x3), some (.long x4), none, some (.int x6), some (.int x7), some (.int x8), some (.long x9), none, some (.int x11), x12, x13, x14] [.int x3] h 0 0 Q))))) : i_P i_MT i_AT L xs 321 58 [some (.ref x0), some (.int x1), some (.int x2), some (.int x3), some (.long x4), none, some (.int x6), some (.int x7), some (.int x8), some (.long x9), none, some (.int x11), x12, x13, x14] [] h 0 0 Q := by
  have hk := i_k321
  refine g_s1 (pc2 := 60) hk rfl rfl rfl rfl rfl ?_
  refine g_s1 (pc2 := 62) (st2 := [.int (16 : Int32), .int x11]) hk rfl rfl rfl rfl rfl ?_
  refine g_icmp_ge hk rfl (fun hc => ?_) (fun hc => ?_)
  · have H := H.1 hc
    refine g_s1 (pc2 := 159) hk rfl rfl rfl rfl rfl ?_
    refine g_s1 (pc2 := 160) (lo2 := [some (.ref x0), some (.int x1), some (.int x2), some (.int x8), some (.long x4), none, some (.int x6), some (.int x7), some (.int x8), some (.long x9), none, some (.int x11), x12, x13, x14]) hk rfl rfl rfl rfl rfl ?_
    refine g_s1 (pc2 := 162) hk rfl rfl rfl rfl rfl ?_
    refine g_s1 (pc2 := 164) hk rfl rfl rfl rfl rfl ?_
    refine g_s1 (pc2 := 165) hk rfl rfl rfl rfl rfl ?_
    refine g_s1 (pc2 := 167) (lo2 := [some (.ref x0), some (.int x1), some (.int x2), some (.int x8), some (.long (x4 ||| x9)), none, some (.int x6), some (.int x7), some (.int x8), some (.long x9), none, some (.int x11), x12, x13, x14]) hk rfl rfl rfl rfl rfl ?_
    refine g_s1 (pc2 := 170) (lo2 := [some (.ref x0), some (.int x1), some (.int x2), some (.int x8), some (.long (x4 ||| x9)), none, some (.int (x6 + 1)), some (.int x7), some (.int x8), some (.long x9), none, some (.int x11), x12, x13, x14]) hk rfl rfl rfl rfl rfl ?_
    refine g_s1 (pc2 := 40) hk rfl rfl rfl rfl rfl ?_
    exact H
  · have H := H.2 hc
    refine g_s1 (pc2 := 67) hk rfl rfl rfl rfl rfl ?_
    refine g_s1 (pc2 := 69) (st2 := [.int (8 : Int32), .int x11]) hk rfl rfl rfl rfl rfl ?_
    refine g_icmp_ge hk rfl (fun hc => ?_) (fun hc => ?_)
    · have H := H.1 hc
      refine g_s1 (pc2 := 77) hk rfl rfl rfl rfl rfl ?_
      refine g_s1 (pc2 := 78) hk rfl rfl rfl rfl rfl ?_
      refine g_s1 (pc2 := 80) hk rfl rfl rfl rfl rfl ?_
      refine g_s1 (pc2 := 82) (st2 := [.int (8 : Int32), .int x11, .int x3, .ref x0]) hk rfl rfl rfl rfl rfl ?_
      refine g_s1 (pc2 := 83) hk rfl rfl rfl rfl rfl ?_
      obtain ⟨ho, H⟩ := H
      refine g_call hk rfl rfl i_k251.1 ⟨rfl, rfl⟩ rfl (i_rcv_v ho rfl (by decide)) rfl ?_
      exact H.mono (fun v h2 q => by obtain ⟨r, rfl, q⟩ := q; exact q)
    · have H := H.2 hc
      refine g_s1 (pc2 := 73) hk rfl rfl rfl rfl rfl ?_
      refine g_s1 (pc2 := 86) hk rfl rfl rfl rfl rfl ?_
      exact H
theorem b321_86 {x0 : Nat} {x1 : Int32} {x2 : Int32} {x3 : Int32} {x4 : Int64} {x6 : Int32} {x7 : Int32} {x8 : Int32} {x9 : Int64} {x11 : Int32} {x12 : Option Value} {x13 : Option Value} {x14 : Option Value} {s0 : Int32} {h : iH} {Q : Option Value → iH → Prop} (H : (i_obj? h x0 12 ∧ i_C i_MT i_AT L xs 250 [.ref x0, .int s0] h (fun v h1 => ∃ r2 : Int32, v = some (.int r2) ∧ i_P i_MT i_AT L xs 321 94 [some (.ref x0), some (.int x1), some (.int x2), some (.int x3), some (.long x4), none, some (.int x6), some (.int x7), some (.int x8), some (.long x9), none, some (.int x11), some (.int s0), x13, x14] [.int r2] h1 0 0 Q))) : i_P i_MT i_AT L xs 321 86 [some (.ref x0), some (.int x1), some (.int x2), some (.int x3), some (.long x4), none, some (.int x6), some (.int x7), some (.int x8), some (.long x9), none, some (.int x11), x12, x13, x14] [.int s0] h 0 0 Q := by
  have hk := i_k321
  refine g_s1 (pc2 := 88) (lo2 := [some (.ref x0), some (.int x1), some (.int x2), some (.int x3), some (.long x4), none, some (.int x6), some (.int x7), some (.int x8), some (.long x9), none, some (.int x11), some (.int s0), x13, x14]) hk rfl rfl rfl rfl rfl ?_
  refine g_s1 (pc2 := 89) hk rfl rfl rfl rfl rfl ?_
  refine g_s1 (pc2 := 91) hk rfl rfl rfl rfl rfl ?_
  obtain ⟨ho, H⟩ := H
  refine g_call hk rfl rfl i_k250.1 ⟨rfl, rfl⟩ rfl (i_rcv_v ho rfl (by decide)) rfl ?_
  exact H.mono (fun v h2 q => by obtain ⟨r, rfl, q⟩ := q; exact q)
theorem b321_94 {x0 : Nat} {x1 : Int32} {x2 : Int32} {x3 : Int32} {x4 : Int64} {x6 : Int32} {x7 : Int32} {x8 : Int32} {x9 : Int64} {x11 : Int32} {x12 : Int32} {x13 : Option Value} {x14 : Option Value} {s0 : Int32} {h : iH} {Q : Option Value → iH → Prop} (H : ((¬ s0 = 0 → (¬ (8 : Int32) = 0 ∧ (i_obj? h x0 12 ∧ i_C i_MT i_AT L xs 319 [.ref x0, .int x1, .int x12, .int (x11 - x11 / (8 : Int32) * (8 : Int32)), .int x6] h (fun v h1 => ∃ r2 : Int64, v = some (.long r2) ∧ i_P i_MT i_AT L xs 321 114 [some (.ref x0), some (.int x1), some (.int x2), some (.int x3), some (.long x4), none, some (.int x6), some (.int x7), some (.int x8), some (.long x9), none, some (.int x11), some (.int x12), x13, x14] [.long r2] h1 0 0 Q)))) ∧ (¬ (¬ s0 = 0) → i_P i_MT i_AT L xs 321 151 [some (.ref x0), some (.int x1), some (.int x2), some (.int x3), some (.long x4), none, some (.int x6), some (.int x7), some (.int x8), some (.long x9), none, some (.int x11), some (.int x12), x13, x14] [] h 0 0 Q))) : i_P i_MT i_AT L xs 321 94 [some (.ref x0), some (.int x1), some (.int x2), some (.int x3), some (.long x4), none, some (.int x6), some (.int x7), some (.int x8), some (.long x9), none, some (.int x11), some (.int x12), x13, x14] [.int s0] h 0 0 Q := by
  have hk := i_k321
  refine g_if_ne hk rfl (fun hc => ?_) (fun hc => ?_)
  · have H := H.1 hc
    refine g_s1 (pc2 := 101) hk rfl rfl rfl rfl rfl ?_
    refine g_s1 (pc2 := 102) hk rfl rfl rfl rfl rfl ?_
    refine g_s1 (pc2 := 104) hk rfl rfl rfl rfl rfl ?_
    refine g_s1 (pc2 := 106) hk rfl rfl rfl rfl rfl ?_
    refine g_s1 (pc2 := 108) (st2 := [.int (8 : Int32), .int x11, .int x12, .int x1, .ref x0]) hk rfl rfl rfl rfl rfl ?_
    obtain ⟨hz, H⟩ := H
    refine g_s1 (pc2 := 109) hk rfl rfl rfl rfl (s_if hz) ?_
    refine g_s1 (pc2 := 111) hk rfl rfl rfl rfl rfl ?_
    obtain ⟨ho, H⟩ := H
    refine g_call hk rfl rfl i_k319.1 ⟨rfl, rfl⟩ rfl (i_rcv_v ho rfl (by decide)) rfl ?_
    exact H.mono (fun v h2 q => by obtain ⟨r, rfl, q⟩ := q; exact q)
  · have H := H.2 hc
    refine g_s1 (pc2 := 151) hk rfl rfl rfl rfl rfl ?_
    exact H
theorem b321_114 {x0 : Nat} {x1 : Int32} {x2 : Int32} {x3 : Int32} {x4 : Int64} {x6 : Int32} {x7 : Int32} {x8 : Int32} {x9 : Int64} {x11 : Int32} {x12 : Int32} {x13 : Option Value} {x14 : Option Value} {s0 : Int64} {h : iH} {Q : Option Value → iH → Prop} (H : (i_C i_MT i_AT L xs 320 [.long (s0 &&& (x4 ^^^ (-1 : Int64)))] h (fun v h1 => ∃ r2 : Int32, v = some (.int r2) ∧ i_P i_MT i_AT L xs 321 128 [some (.ref x0), some (.int x1), some (.int x2), some (.int x3), some (.long x4), none, some (.int x6), some (.int x7), some (.int x8), some (.long x9), none, some (.int x11), some (.int x12), some (.long (s0 &&& (x4 ^^^ (-1 : Int64)))), none] [.int r2] h1 0 0 Q))) : i_P i_MT i_AT L xs 321 114 [some (.ref x0), some (.int x1), some (.int x2), some (.int x3), some (.long x4), none, some (.int x6), some (.int x7), some (.int x8), some (.long x9), none, some (.int x11), some (.int x12), x13, x14] [.long s0] h 0 0 Q := by
  have hk := i_k321
  refine g_s1 (pc2 := 116) hk rfl rfl rfl rfl rfl ?_
  refine g_step (pc2 := 119) (st2 := [.long (-1 : Int64), .long x4, .long s0]) hk rfl rfl rfl rfl ?_
  refine g_s1 (pc2 := 120) hk rfl rfl rfl rfl rfl ?_
  refine g_s1 (pc2 := 121) hk rfl rfl rfl rfl rfl ?_
  refine g_s1 (pc2 := 123) (lo2 := [some (.ref x0), some (.int x1), some (.int x2), some (.int x3), some (.long x4), none, some (.int x6), some (.int x7), some (.int x8), some (.long x9), none, some (.int x11), some (.int x12), some (.long (s0 &&& (x4 ^^^ (-1 : Int64)))), none]) hk rfl rfl rfl rfl rfl ?_
  refine g_s1 (pc2 := 125) hk rfl rfl rfl rfl rfl ?_
  refine g_call hk rfl rfl i_k320.1 ⟨rfl, rfl⟩ rfl (i_rcv_0 rfl) rfl ?_
  exact H.mono (fun v h2 q => by obtain ⟨r, rfl, q⟩ := q; exact q)
theorem b321_128 {x0 : Nat} {x1 : Int32} {x2 : Int32} {x3 : Int32} {x4 : Int64} {x6 : Int32} {x7 : Int32} {x8 : Int32} {x9 : Int64} {x11 : Int32} {x12 : Int32} {x13 : Int64} {s0 : Int32} {h : iH} {Q : Option Value → iH → Prop} (H : ((x7 < s0 → (i_C i_MT i_AT L xs 320 [.long x13] h (fun v h1 => ∃ r2 : Int32, v = some (.int r2) ∧ i_P i_MT i_AT L xs 321 141 [some (.ref x0), some (.int x1), some (.int x2), some (.int x3), some (.long x4), none, some (.int x6), some (.int x7), some (.int x8), some (.long x9), none, some (.int x11), some (.int x12), some (.long x13), none] [.int r2] h1 0 0 Q))) ∧ (¬ (x7 < s0) → i_P i_MT i_AT L xs 321 151 [some (.ref x0), some (.int x1), some (.int x2), some (.int x3), some (.long x4), none, some (.int x6), some (.int x7), some (.int x8), some (.long x9), none, some (.int x11), some (.int x12), some (.long x13), none] [] h 0 0 Q))) : i_P i_MT i_AT L xs 321 128 [some (.ref x0), some (.int x1), some (.int x2), some (.int x3), some (.long x4), none, some (.int x6), some (.int x7), some (.int x8), some (.long x9), none, some (.int x11), some (.int x12), some (.long x13), none] [.int s0] h 0 0 Q := by
  have hk := i_k321
  refine g_s1 (pc2 := 130) hk rfl rfl rfl rfl rfl ?_
  refine g_icmp_gt hk rfl (fun hc => ?_) (fun hc => ?_)
  · have H := H.1 hc
    refine g_s1 (pc2 := 138) hk rfl rfl rfl rfl rfl ?_
    refine g_call hk rfl rfl i_k320.1 ⟨rfl, rfl⟩ rfl (i_rcv_0 rfl) rfl ?_
    exact H.mono (fun v h2 q => by obtain ⟨r, rfl, q⟩ := q; exact q)
  · have H := H.2 hc
    refine g_s1 (pc2 := 151) hk rfl rfl rfl rfl rfl ?_
    exact H
theorem b321_141 {x0 : Nat} {x1 : Int32} {x2 : Int32} {x3 : Int32} {x4 : Int64} {x6 : Int32} {x7 : Int32} {x8 : Int32} {x9 : Int64} {x11 : Int32} {x12 : Int32} {x13 : Int64} {s0 : Int32} {h : iH} {Q : Option Value → iH → Prop} (H : i_P i_MT i_AT L xs 321 151 [some (.ref x0), some (.int x1), some (.int x2), some (.int x3), some (.long x4), none, some (.int x6), some (.int s0), some (.int x12), some (.long x13), none, some (.int x11), some (.int x12), some (.long x13), none] [] h 0 0 Q) : i_P i_MT i_AT L xs 321 141 [some (.ref x0), some (.int x1), some (.int x2), some (.int x3), some (.long x4), none, some (.int x6), some (.int x7), some (.int x8), some (.long x9), none, some (.int x11), some (.int x12), some (.long x13), none] [.int s0] h 0 0 Q := by
  have hk := i_k321
  refine g_s1 (pc2 := 143) (lo2 := [some (.ref x0), some (.int x1), some (.int x2), some (.int x3), some (.long x4), none, some (.int x6), some (.int s0), some (.int x8), some (.long x9), none, some (.int x11), some (.int x12), some (.long x13), none]) hk rfl rfl rfl rfl rfl ?_
  refine g_s1 (pc2 := 145) hk rfl rfl rfl rfl rfl ?_
  refine g_s1 (pc2 := 147) (lo2 := [some (.ref x0), some (.int x1), some (.int x2), some (.int x3), some (.long x4), none, some (.int x6), some (.int s0), some (.int x12), some (.long x9), none, some (.int x11), some (.int x12), some (.long x13), none]) hk rfl rfl rfl rfl rfl ?_
  refine g_s1 (pc2 := 149) hk rfl rfl rfl rfl rfl ?_
  refine g_s1 (pc2 := 151) (lo2 := [some (.ref x0), some (.int x1), some (.int x2), some (.int x3), some (.long x4), none, some (.int x6), some (.int s0), some (.int x12), some (.long x13), none, some (.int x11), some (.int x12), some (.long x13), none]) hk rfl rfl rfl rfl rfl ?_
  exact H
theorem b321_151 {x0 : Nat} {x1 : Int32} {x2 : Int32} {x3 : Int32} {x4 : Int64} {x6 : Int32} {x7 : Int32} {x8 : Int32} {x9 : Int64} {x11 : Int32} {x12 : Int32} {x13 : Option Value} {x14 : Option Value} {h : iH} {Q : Option Value → iH → Prop} (H : i_P i_MT i_AT L xs 321 58 [some (.ref x0), some (.int x1), some (.int x2), some (.int x3), some (.long x4), none, some (.int x6), some (.int x7), some (.int x8), some (.long x9), none, some (.int (x11 + 1)), some (.int x12), x13, x14] [] h 0 0 Q) : i_P i_MT i_AT L xs 321 151 [some (.ref x0), some (.int x1), some (.int x2), some (.int x3), some (.long x4), none, some (.int x6), some (.int x7), some (.int x8), some (.long x9), none, some (.int x11), some (.int x12), x13, x14] [] h 0 0 Q := by
  have hk := i_k321
  refine g_s1 (pc2 := 154) (lo2 := [some (.ref x0), some (.int x1), some (.int x2), some (.int x3), some (.long x4), none, some (.int x6), some (.int x7), some (.int x8), some (.long x9), none, some (.int (x11 + 1)), some (.int x12), x13, x14]) hk rfl rfl rfl rfl rfl ?_
  refine g_s1 (pc2 := 58) hk rfl rfl rfl rfl rfl ?_
  exact H
theorem b321_179 {x0 : Nat} {x1 : Int32} {x2 : Int32} {x3 : Int32} {x4 : Int64} {x6 : Int32} {x7 : Option Value} {x8 : Option Value} {x9 : Option Value} {x10 : Option Value} {x11 : Option Value} {x12 : Option Value} {x13 : Option Value} {x14 : Option Value} {s0 : Nat} {s1 : Int32} {h : iH} {Q : Option Value → iH → Prop} (H : (i_obj? h s0 12 ∧ i_C i_MT i_AT L xs 202 [.ref s0, .int s1] h (fun v h1 => ∃ r2 : Int32, v = some (.int r2) ∧ i_P i_MT i_AT L xs 321 182 [some (.ref x0), some (.int x1), some (.int x2), some (.int x3), some (.long x4), none, some (.int x6), x7, x8, x9, x10, x11, x12, x13, x14] [.int r2] h1 0 0 Q))) : i_P i_MT i_AT L xs 321 179 [some (.ref x0), some (.int x1), some (.int x2), some (.int x3), some (.long x4), none, some (.int x6), x7, x8, x9, x10, x11, x12, x13, x14] [.int s1, .ref s0] h 0 0 Q := by
  have hk := i_k321
  obtain ⟨ho, H⟩ := H
  refine g_call hk rfl rfl i_k202.1 ⟨rfl, rfl⟩ rfl (i_rcv_v ho rfl (by decide)) rfl ?_
  exact H.mono (fun v h2 q => by obtain ⟨r, rfl, q⟩ := q; exact q)
theorem b321_182 {x0 : Nat} {x1 : Int32} {x2 : Int32} {x3 : Int32} {x4 : Int64} {x6 : Int32} {x7 : Option Value} {x8 : Option Value} {x9 : Option Value} {x10 : Option Value} {x11 : Option Value} {x12 : Option Value} {x13 : Option Value} {x14 : Option Value} {s0 : Int32} {h : iH} {Q : Option Value → iH → Prop} (H : Q (some (.int s0)) h) : i_P i_MT i_AT L xs 321 182 [some (.ref x0), some (.int x1), some (.int x2), some (.int x3), some (.long x4), none, some (.int x6), x7, x8, x9, x10, x11, x12, x13, x14] [.int s0] h 0 0 Q := by
  have hk := i_k321
  exact g_ireturn hk rfl (by decide) (by decide) rfl H
/-! StillTownModel.isGuarded(II)Z -/
theorem e322 {x0 : Nat} {x1 : Int32} {x2 : Int32} {h : iH} {Q : Option Value → iH → Prop} (H : i_P i_MT i_AT L xs 322 0 [some (.ref x0), some (.int x1), some (.int x2), none, none, none] [] h 0 0 Q) : i_C i_MT i_AT L xs 322 [.ref x0, .int x1, .int x2] h Q := ⟨i_m322, i_k322.1, Nat.le_of_ble_eq_true rfl, H⟩
theorem b322_0 {x0 : Nat} {x1 : Int32} {x2 : Int32} {x3 : Option Value} {x4 : Option Value} {x5 : Option Value} {h : iH} {Q : Option Value → iH → Prop} (H : i_P i_MT i_AT L xs 322 2 [some (.ref x0), some (.int x1), some (.int x2), some (.int (0 : Int32)), x4, x5] [] h 0 0 Q) : i_P i_MT i_AT L xs 322 0 [some (.ref x0), some (.int x1), some (.int x2), x3, x4, x5] [] h 0 0 Q := by
  have hk := i_k322
  refine g_s1 (pc2 := 1) (st2 := [.int (0 : Int32)]) hk rfl rfl rfl rfl rfl ?_
  refine g_s1 (pc2 := 2) (lo2 := [some (.ref x0), some (.int x1), some (.int x2), some (.int (0 : Int32)), x4, x5]) hk rfl rfl rfl rfl rfl ?_
  exact H
theorem b322_2 {x0 : Nat} {x1 : Int32} {x2 : Int32} {x3 : Int32} {x4 : Option Value} {x5 : Option Value} {h : iH} {Q : Option Value → iH → Prop} (H : (i_obj? h x0 12 ∧ i_C i_MT i_AT L xs 248 [.ref x0] h (fun v h1 => ∃ r2 : Int32, v = some (.int r2) ∧ i_P i_MT i_AT L xs 322 7 [some (.ref x0), some (.int x1), some (.int x2), some (.int x3), x4, x5] [.int r2, .int x3] h1 0 0 Q))) : i_P i_MT i_AT L xs 322 2 [some (.ref x0), some (.int x1), some (.int x2), some (.int x3), x4, x5] [] h 0 0 Q := by
  have hk := i_k322
  refine g_s1 (pc2 := 3) hk rfl rfl rfl rfl rfl ?_
  refine g_s1 (pc2 := 4) hk rfl rfl rfl rfl rfl ?_
  obtain ⟨ho, H⟩ := H
  refine g_call hk rfl rfl i_k248.1 ⟨rfl, rfl⟩ rfl (i_rcv_v ho rfl (by decide)) rfl ?_
  exact H.mono (fun v h2 q => by obtain ⟨r, rfl, q⟩ := q; exact q)
theorem b322_7 {x0 : Nat} {x1 : Int32} {x2 : Int32} {x3 : Int32} {x4 : Option Value} {x5 : Option Value} {s0 : Int32} {s1 : Int32} {h : iH} {Q : Option Value → iH → Prop} (H : ((s1 ≤ s0 → Q (some (.int 1)) h) ∧ (¬ (s1 ≤ s0) → i_P i_MT i_AT L xs 322 16 [some (.ref x0), some (.int x1), some (.int x2), some (.int x3), some (.int (0 : Int32)), some (.int (0 : Int32))] [] h 0 0 Q))) : i_P i_MT i_AT L xs 322 7 [some (.ref x0), some (.int x1), some (.int x2), some (.int x3), x4, x5] [.int s1, .int s0] h 0 0 Q := by
  have hk := i_k322
  refine g_icmp_ge hk rfl (fun hc => ?_) (fun hc => ?_)
  · have H := H.1 hc
    refine g_s1 (pc2 := 101) (st2 := [.int (1 : Int32)]) hk rfl rfl rfl rfl rfl ?_
    exact g_ireturn hk rfl (by decide) (by decide) rfl H
  · have H := H.2 hc
    refine g_s1 (pc2 := 11) (st2 := [.int (0 : Int32)]) hk rfl rfl rfl rfl rfl ?_
    refine g_s1 (pc2 := 13) (lo2 := [some (.ref x0), some (.int x1), some (.int x2), some (.int x3), some (.int (0 : Int32)), x5]) hk rfl rfl rfl rfl rfl ?_
    refine g_s1 (pc2 := 14) (st2 := [.int (0 : Int32)]) hk rfl rfl rfl rfl rfl ?_
    refine g_s1 (pc2 := 16) (lo2 := [some (.ref x0), some (.int x1), some (.int x2), some (.int x3), some (.int (0 : Int32)), some (.int (0 : Int32))]) hk rfl rfl rfl rfl rfl ?_
    exact H
theorem b322_16 {x0 : Nat} {x1 : Int32} {x2 : Int32} {x3 : Int32} {x4 : Int32} {x5 : Int32} {h : iH} {Q : Option Value → iH → Prop} (H : (∃ v1 : Nat, i_fld h x0 12 0 = some (.ref v1) ∧ (∃ (n2 : Nat) (f3 : Nat → Int32), i_arI h 0 v1 = some (n2, f3) ∧ ¬ ((5 : Int32) < 0 ∨ n2 ≤ (5 : Int32).toNatClampNeg) ∧ (((f3 (5 : Int32).toNatClampNeg) ≤ x5 → (i_obj? h x0 12 ∧ i_C i_MT i_AT L xs 250 [.ref x0, .int x3] h (fun v h4 => ∃ r5 : Int32, v = some (.int r5) ∧ i_P i_MT i_AT L xs 322 83 [some (.ref x0), some (.int x1), some (.int x2), some (.int x3), some (.int x4), some (.int x5)] [.int r5] h4 0 0 Q))) ∧ (¬ ((f3 (5 : Int32).toNatClampNeg) ≤ x5) → ((¬ ((x1 >>> (x5 &&& 31)) &&& (1 : Int32)) = (1 : Int32) → i_P i_MT i_AT L xs 322 68 [some (.ref x0), some (.int x1), some (.int x2), some (.int x3), some (.int x4), some (.int x5)] [.int x4] h 0 0 Q) ∧ (¬ (¬ ((x1 >>> (x5 &&& 31)) &&& (1 : Int32)) = (1 : Int32)) → (∃ v6 : Nat, i_fld h x0 12 29 = some (.ref v6) ∧ (∃ (n7 : Nat) (f8 : Nat → Int32), i_arI h 0 v6 = some (n7, f8) ∧ ¬ (((61 : Int32) * x5) < 0 ∨ n7 ≤ ((61 : Int32) * x5).toNatClampNeg) ∧ (((f8 ((61 : Int32) * x5).toNatClampNeg) = x3 → i_P i_MT i_AT L xs 322 64 [some (.ref x0), some (.int x1), some (.int x2), some (.int x3), some (.int x4), some (.int x5)] [.int x4] h 0 0 Q) ∧ (¬ ((f8 ((61 : Int32) * x5).toNatClampNeg) = x3) → (i_obj? h x0 12 ∧ i_C i_MT i_AT L xs 272 [.ref x0, .int x5, .int x3, .int (0 : Int32)] h (fun v h9 => ∃ r10 : Int32, v = some (.int r10) ∧ i_P i_MT i_AT L xs 322 61 [some (.ref x0), some (.int x1), some (.int x2), some (.int x3), some (.int x4), some (.int x5)] [.int r10, .int x4] h9 0 0 Q))))))))))))) : i_P i_MT i_AT L xs 322 16 [some (.ref x0), some (.int x1), some (.int x2), some (.int x3), some (.int x4), some (.int x5)] [] h 0 0 Q := by
  have hk := i_k322
  refine g_s1 (pc2 := 18) hk rfl rfl rfl rfl rfl ?_
  refine g_s1 (pc2 := 19) hk rfl rfl rfl rfl rfl ?_
  obtain ⟨v1, ev1, H⟩ := H
  refine g_step (pc2 := 22) hk rfl rfl rfl (s_get ev1) ?_
  refine g_s1 (pc2 := 23) (st2 := [.int (5 : Int32), .ref v1, .int x5]) hk rfl rfl rfl rfl rfl ?_
  obtain ⟨n2, f3, ef3, hi, H⟩ := H
  refine g_step (pc2 := 24) hk rfl rfl rfl (s_aget (L := L) (xs := xs) ef3 hi) ?_
  refine g_icmp_ge hk rfl (fun hc => ?_) (fun hc => ?_)
  · have H := H.1 hc
    refine g_s1 (pc2 := 79) hk rfl rfl rfl rfl rfl ?_
    refine g_s1 (pc2 := 80) hk rfl rfl rfl rfl rfl ?_
    obtain ⟨ho, H⟩ := H
    refine g_call hk rfl rfl i_k250.1 ⟨rfl, rfl⟩ rfl (i_rcv_v ho rfl (by decide)) rfl ?_
    exact H.mono (fun v h2 q => by obtain ⟨r, rfl, q⟩ := q; exact q)
  · have H := H.2 hc
    refine g_s1 (pc2 := 29) hk rfl rfl rfl rfl rfl ?_
    refine g_s1 (pc2 := 30) hk rfl rfl rfl rfl rfl ?_
    refine g_s1 (pc2 := 32) hk rfl rfl rfl rfl rfl ?_
    refine g_s1 (pc2 := 33) hk rfl rfl rfl rfl rfl ?_
    refine g_s1 (pc2 := 34) (st2 := [.int (1 : Int32), .int (x1 >>> (x5 &&& 31)), .int x4]) hk rfl rfl rfl rfl rfl ?_
    refine g_s1 (pc2 := 35) hk rfl rfl rfl rfl rfl ?_
    refine g_s1 (pc2 := 36) (st2 := [.int (1 : Int32), .int ((x1 >>> (x5 &&& 31)) &&& (1 : Int32)), .int x4]) hk rfl rfl rfl rfl rfl ?_
    refine g_icmp_ne hk rfl (fun hc => ?_) (fun hc => ?_)
    · have H := H.1 hc
      exact H
    · have H := H.2 hc
      refine g_s1 (pc2 := 40) hk rfl rfl rfl rfl rfl ?_
      obtain ⟨v6, ev6, H⟩ := H
      refine g_step (pc2 := 43) hk rfl rfl rfl (s_get ev6) ?_
      refine g_s1 (pc2 := 45) (st2 := [.int (61 : Int32), .ref v6, .int x4]) hk rfl rfl rfl rfl rfl ?_
      refine g_s1 (pc2 := 47) hk rfl rfl rfl rfl rfl ?_
      refine g_s1 (pc2 := 48) hk rfl rfl rfl rfl rfl ?_
      obtain ⟨n7, f8, ef8, hi, H⟩ := H
      refine g_step (pc2 := 49) hk rfl rfl rfl (s_aget (L := L) (xs := xs) ef8 hi) ?_
      refine g_s1 (pc2 := 50) hk rfl rfl rfl rfl rfl ?_
      refine g_icmp_eq hk rfl (fun hc => ?_) (fun hc => ?_)
      · have H := H.1 hc
        exact H
      · have H := H.2 hc
        refine g_s1 (pc2 := 54) hk rfl rfl rfl rfl rfl ?_
        refine g_s1 (pc2 := 56) hk rfl rfl rfl rfl rfl ?_
        refine g_s1 (pc2 := 57) hk rfl rfl rfl rfl rfl ?_
        refine g_s1 (pc2 := 58) (st2 := [.int (0 : Int32), .int x3, .int x5, .ref x0, .int x4]) hk rfl rfl rfl rfl rfl ?_
        obtain ⟨ho, H⟩ := H
        refine g_call hk rfl rfl i_k272.1 ⟨rfl, rfl⟩ rfl (i_rcv_v ho rfl (by decide)) rfl ?_
        exact H.mono (fun v h2 q => by obtain ⟨r, rfl, q⟩ := q; exact q)
theorem b322_61 {x0 : Nat} {x1 : Int32} {x2 : Int32} {x3 : Int32} {x4 : Int32} {x5 : Int32} {s0 : Int32} {s1 : Int32} {h : iH} {Q : Option Value → iH → Prop} (H : ((s1 = 0 → i_P i_MT i_AT L xs 322 68 [some (.ref x0), some (.int x1), some (.int x2), some (.int x3), some (.int x4), some (.int x5)] [.int s0] h 0 0 Q) ∧ (¬ (s1 = 0) → i_P i_MT i_AT L xs 322 64 [some (.ref x0), some (.int x1), some (.int x2), some (.int x3), some (.int x4), some (.int x5)] [.int s0] h 0 0 Q))) : i_P i_MT i_AT L xs 322 61 [some (.ref x0), some (.int x1), some (.int x2), some (.int x3), some (.int x4), some (.int x5)] [.int s1, .int s0] h 0 0 Q := by
  have hk := i_k322
  refine g_if_eq hk rfl (fun hc => ?_) (fun hc => ?_)
  · have H := H.1 hc
    exact H
  · have H := H.2 hc
    exact H
theorem b322_64 {x0 : Nat} {x1 : Int32} {x2 : Int32} {x3 : Int32} {x4 : Int32} {x5 : Int32} {s0 : Int32} {h : iH} {Q : Option Value → iH → Prop} (H : i_P i_MT i_AT L xs 322 69 [some (.ref x0), some (.int x1), some (.int x2), some (.int x3), some (.int x4), some (.int x5)] [.int (1 : Int32), .int s0] h 0 0 Q) : i_P i_MT i_AT L xs 322 64 [some (.ref x0), some (.int x1), some (.int x2), some (.int x3), some (.int x4), some (.int x5)] [.int s0] h 0 0 Q := by
  have hk := i_k322
  refine g_s1 (pc2 := 65) (st2 := [.int (1 : Int32), .int s0]) hk rfl rfl rfl rfl rfl ?_
  refine g_s1 (pc2 := 69) hk rfl rfl rfl rfl rfl ?_
  exact H
theorem b322_68 {x0 : Nat} {x1 : Int32} {x2 : Int32} {x3 : Int32} {x4 : Int32} {x5 : Int32} {s0 : Int32} {h : iH} {Q : Option Value → iH → Prop} (H : i_P i_MT i_AT L xs 322 69 [some (.ref x0), some (.int x1), some (.int x2), some (.int x3), some (.int x4), some (.int x5)] [.int (0 : Int32), .int s0] h 0 0 Q) : i_P i_MT i_AT L xs 322 68 [some (.ref x0), some (.int x1), some (.int x2), some (.int x3), some (.int x4), some (.int x5)] [.int s0] h 0 0 Q := by
  have hk := i_k322
  refine g_s1 (pc2 := 69) (st2 := [.int (0 : Int32), .int s0]) hk rfl rfl rfl rfl rfl ?_
  exact H
theorem b322_69 {x0 : Nat} {x1 : Int32} {x2 : Int32} {x3 : Int32} {x4 : Int32} {x5 : Int32} {s0 : Int32} {s1 : Int32} {h : iH} {Q : Option Value → iH → Prop} (H : i_P i_MT i_AT L xs 322 16 [some (.ref x0), some (.int x1), some (.int x2), some (.int x3), some (.int (s0 + s1)), some (.int (x5 + 1))] [] h 0 0 Q) : i_P i_MT i_AT L xs 322 69 [some (.ref x0), some (.int x1), some (.int x2), some (.int x3), some (.int x4), some (.int x5)] [.int s1, .int s0] h 0 0 Q := by
  have hk := i_k322
  refine g_s1 (pc2 := 70) hk rfl rfl rfl rfl rfl ?_
  refine g_s1 (pc2 := 72) (lo2 := [some (.ref x0), some (.int x1), some (.int x2), some (.int x3), some (.int (s0 + s1)), some (.int x5)]) hk rfl rfl rfl rfl rfl ?_
  refine g_s1 (pc2 := 75) (lo2 := [some (.ref x0), some (.int x1), some (.int x2), some (.int x3), some (.int (s0 + s1)), some (.int (x5 + 1))]) hk rfl rfl rfl rfl rfl ?_
  refine g_s1 (pc2 := 16) hk rfl rfl rfl rfl rfl ?_
  exact H
theorem b322_83 {x0 : Nat} {x1 : Int32} {x2 : Int32} {x3 : Int32} {x4 : Int32} {x5 : Int32} {s0 : Int32} {h : iH} {Q : Option Value → iH → Prop} (H : ((s0 = 0 → i_P i_MT i_AT L xs 322 94 [some (.ref x0), some (.int x1), some (.int x2), some (.int x3), some (.int x4), some (.int x5)] [] h 0 0 Q) ∧ (¬ (s0 = 0) → ((x2 ≤ x4 → i_P i_MT i_AT L xs 322 94 [some (.ref x0), some (.int x1), some (.int x2), some (.int x3), some (.int x4), some (.int x5)] [] h 0 0 Q) ∧ (¬ (x2 ≤ x4) → Q (some (.int 0)) h))))) : i_P i_MT i_AT L xs 322 83 [some (.ref x0), some (.int x1), some (.int x2), some (.int x3), some (.int x4), some (.int x5)] [.int s0] h 0 0 Q := by
  have hk := i_k322
  refine g_if_eq hk rfl (fun hc => ?_) (fun hc => ?_)
  · have H := H.1 hc
    exact H
  · have H := H.2 hc
    refine g_s1 (pc2 := 88) hk rfl rfl rfl rfl rfl ?_
    refine g_s1 (pc2 := 89) hk rfl rfl rfl rfl rfl ?_
    refine g_icmp_ge hk rfl (fun hc => ?_) (fun hc => ?_)
    · have H := H.1 hc
      exact H
    · have H := H.2 hc
      refine g_s1 (pc2 := 93) (st2 := [.int (0 : Int32)]) hk rfl rfl rfl rfl rfl ?_
      exact g_ireturn hk rfl (by decide) (by decide) rfl H
theorem b322_94 {x0 : Nat} {x1 : Int32} {x2 : Int32} {x3 : Int32} {x4 : Int32} {x5 : Int32} {h : iH} {Q : Option Value → iH → Prop} (H : i_P i_MT i_AT L xs 322 2 [some (.ref x0), some (.int x1), some (.int x2), some (.int (x3 + 1)), some (.int x4), some (.int x5)] [] h 0 0 Q) : i_P i_MT i_AT L xs 322 94 [some (.ref x0), some (.int x1), some (.int x2), some (.int x3), some (.int x4), some (.int x5)] [] h 0 0 Q := by
  have hk := i_k322
  refine g_s1 (pc2 := 97) (lo2 := [some (.ref x0), some (.int x1), some (.int x2), some (.int (x3 + 1)), some (.int x4), some (.int x5)]) hk rfl rfl rfl rfl rfl ?_
  refine g_s1 (pc2 := 2) hk rfl rfl rfl rfl rfl ?_
  exact H
/-! StillTownModel.gallery(I)I -/
theorem e323 {x0 : Nat} {x1 : Int32} {h : iH} {Q : Option Value → iH → Prop} (H : i_P i_MT i_AT L xs 323 0 [some (.ref x0), some (.int x1), none, none] [] h 0 0 Q) : i_C i_MT i_AT L xs 323 [.ref x0, .int x1] h Q := ⟨i_m323, i_k323.1, Nat.le_of_ble_eq_true rfl, H⟩
theorem b323_0 {x0 : Nat} {x1 : Int32} {x2 : Option Value} {x3 : Option Value} {h : iH} {Q : Option Value → iH → Prop} (H : (i_C i_MT i_AT L xs 212 [.long (x1.toInt64), .long (0 : Int64), .long (8 : Int64)] h (fun v h1 => ∃ r2 : Int32, v = some (.int r2) ∧ i_P i_MT i_AT L xs 323 9 [some (.ref x0), some (.int x1), x2, x3] [.int r2] h1 0 0 Q))) : i_P i_MT i_AT L xs 323 0 [some (.ref x0), some (.int x1), x2, x3] [] h 0 0 Q := by
  have hk := i_k323
  refine g_s1 (pc2 := 1) hk rfl rfl rfl rfl rfl ?_
  refine g_s1 (pc2 := 2) hk rfl rfl rfl rfl rfl ?_
  refine g_s1 (pc2 := 3) (st2 := [.long (0 : Int64), .long (x1.toInt64)]) hk rfl rfl rfl rfl rfl ?_
  refine g_step (pc2 := 6) (st2 := [.long (8 : Int64), .long (0 : Int64), .long (x1.toInt64)]) hk rfl rfl rfl rfl ?_
  refine g_call hk rfl rfl i_k212.1 ⟨rfl, rfl⟩ rfl (i_rcv_0 rfl) rfl ?_
  exact H.mono (fun v h2 q => by obtain ⟨r, rfl, q⟩ := q; exact q)
theorem b323_9 {x0 : Nat} {x1 : Int32} {x2 : Option Value} {x3 : Option Value} {s0 : Int32} {h : iH} {Q : Option Value → iH → Prop} (H : ((¬ s0 = 0 → i_P i_MT i_AT L xs 323 22 [some (.ref x0), some (.int x1), some (.int (-1 : Int32)), some (.int (0 : Int32))] [] h 0 0 Q) ∧ (¬ (¬ s0 = 0) → (i_obj? h x0 12 ∧ i_C i_MT i_AT L xs 201 [.ref x0, .int (1 : Int32)] h (fun v h1 => ∃ r2 : Int32, v = some (.int r2) ∧ i_P i_MT i_AT L xs 323 17 [some (.ref x0), some (.int x1), x2, x3] [.int r2] h1 0 0 Q))))) : i_P i_MT i_AT L xs 323 9 [some (.ref x0), some (.int x1), x2, x3] [.int s0] h 0 0 Q := by
  have hk := i_k323
  refine g_if_ne hk rfl (fun hc => ?_) (fun hc => ?_)
  · have H := H.1 hc
    refine g_s1 (pc2 := 19) (st2 := [.int (-1 : Int32)]) hk rfl rfl rfl rfl rfl ?_
    refine g_s1 (pc2 := 20) (lo2 := [some (.ref x0), some (.int x1), some (.int (-1 : Int32)), x3]) hk rfl rfl rfl rfl rfl ?_
    refine g_s1 (pc2 := 21) (st2 := [.int (0 : Int32)]) hk rfl rfl rfl rfl rfl ?_
    refine g_s1 (pc2 := 22) (lo2 := [some (.ref x0), some (.int x1), some (.int (-1 : Int32)), some (.int (0 : Int32))]) hk rfl rfl rfl rfl rfl ?_
    exact H
  · have H := H.2 hc
    refine g_s1 (pc2 := 13) hk rfl rfl rfl rfl rfl ?_
    refine g_s1 (pc2 := 14) (st2 := [.int (1 : Int32), .ref x0]) hk rfl rfl rfl rfl rfl ?_
    obtain ⟨ho, H⟩ := H
    refine g_call hk rfl rfl i_k201.1 ⟨rfl, rfl⟩ rfl (i_rcv_v ho rfl (by decide)) rfl ?_
    exact H.mono (fun v h2 q => by obtain ⟨r, rfl, q⟩ := q; exact q)
theorem b323_17 {x0 : Nat} {x1 : Int32} {x2 : Option Value} {x3 : Option Value} {s0 : Int32} {h : iH} {Q : Option Value → iH → Prop} (H : Q (some (.int s0)) h) : i_P i_MT i_AT L xs 323 17 [some (.ref x0), some (.int x1), x2, x3] [.int s0] h 0 0 Q := by
  have hk := i_k323
  exact g_ireturn hk rfl (by decide) (by decide) rfl H
theorem b323_22 {x0 : Nat} {x1 : Int32} {x2 : Int32} {x3 : Int32} {h : iH} {Q : Option Value → iH → Prop} (H : (∃ v1 : Nat, i_fld h x0 12 0 = some (.ref v1) ∧ (∃ (n2 : Nat) (f3 : Nat → Int32), i_arI h 0 v1 = some (n2, f3) ∧ ¬ ((5 : Int32) < 0 ∨ n2 ≤ (5 : Int32).toNatClampNeg) ∧ ((((1 : Int32) <<< ((f3 (5 : Int32).toNatClampNeg) &&& 31)) ≤ x3 → ((¬ x2 = (-1 : Int32) → (i_obj? h x0 12 ∧ i_C i_MT i_AT L xs 202 [.ref x0, .int x2] h (fun v h4 => ∃ r5 : Int32, v = some (.int r5) ∧ i_P i_MT i_AT L xs 323 86 [some (.ref x0), some (.int x1), some (.int x2), some (.int x3)] [.int r5] h4 0 0 Q))) ∧ (¬ (¬ x2 = (-1 : Int32)) → (i_obj? h x0 12 ∧ i_C i_MT i_AT L xs 201 [.ref x0, .int (6 : Int32)] h (fun v h6 => ∃ r7 : Int32, v = some (.int r7) ∧ i_P i_MT i_AT L xs 323 78 [some (.ref x0), some (.int x1), some (.int x2), some (.int x3)] [.int r7] h6 0 0 Q))))) ∧ (¬ (((1 : Int32) <<< ((f3 (5 : Int32).toNatClampNeg) &&& 31)) ≤ x3) → (i_obj? h x0 12 ∧ i_C i_MT i_AT L xs 322 [.ref x0, .int x3, .int x1] h (fun v h8 => ∃ r9 : Int32, v = some (.int r9) ∧ i_P i_MT i_AT L xs 323 40 [some (.ref x0), some (.int x1), some (.int x2), some (.int x3)] [.int r9] h8 0 0 Q))))))) : i_P i_MT i_AT L xs 323 22 [some (.ref x0), some (.int x1), some (.int x2), some (.int x3)] [] h 0 0 Q := by
  have hk := i_k323
  refine g_s1 (pc2 := 23) hk rfl rfl rfl rfl rfl ?_
  refine g_s1 (pc2 := 24) (st2 := [.int (1 : Int32), .int x3]) hk rfl rfl rfl rfl rfl ?_
  refine g_s1 (pc2 := 25) hk rfl rfl rfl rfl rfl ?_
  obtain ⟨v1, ev1, H⟩ := H
  refine g_step (pc2 := 28) hk rfl rfl rfl (s_get ev1) ?_
  refine g_s1 (pc2 := 29) (st2 := [.int (5 : Int32), .ref v1, .int (1 : Int32), .int x3]) hk rfl rfl rfl rfl rfl ?_
  obtain ⟨n2, f3, ef3, hi, H⟩ := H
  refine g_step (pc2 := 30) hk rfl rfl rfl (s_aget (L := L) (xs := xs) ef3 hi) ?_
  refine g_s1 (pc2 := 31) hk rfl rfl rfl rfl rfl ?_
  refine g_icmp_ge hk rfl (fun hc => ?_) (fun hc => ?_)
  · have H := H.1 hc
    refine g_s1 (pc2 := 68) hk rfl rfl rfl rfl rfl ?_
    refine g_s1 (pc2 := 69) (st2 := [.int (-1 : Int32), .int x2]) hk rfl rfl rfl rfl rfl ?_
    refine g_icmp_ne hk rfl (fun hc => ?_) (fun hc => ?_)
    · have H := H.1 hc
      refine g_s1 (pc2 := 82) hk rfl rfl rfl rfl rfl ?_
      refine g_s1 (pc2 := 83) hk rfl rfl rfl rfl rfl ?_
      obtain ⟨ho, H⟩ := H
      refine g_call hk rfl rfl i_k202.1 ⟨rfl, rfl⟩ rfl (i_rcv_v ho rfl (by decide)) rfl ?_
      exact H.mono (fun v h2 q => by obtain ⟨r, rfl, q⟩ := q; exact q)
    · have H := H.2 hc
      refine g_s1 (pc2 := 73) hk rfl rfl rfl rfl rfl ?_
      refine g_s1 (pc2 := 75) (st2 := [.int (6 : Int32), .ref x0]) hk rfl rfl rfl rfl rfl ?_
      obtain ⟨ho, H⟩ := H
      refine g_call hk rfl rfl i_k201.1 ⟨rfl, rfl⟩ rfl (i_rcv_v ho rfl (by decide)) rfl ?_
      exact H.mono (fun v h2 q => by obtain ⟨r, rfl, q⟩ := q; exact q)
  · have H := H.2 hc
    refine g_s1 (pc2 := 35) hk rfl rfl rfl rfl rfl ?_
    refine g_s1 (pc2 := 36) hk rfl rfl rfl rfl rfl ?_
    refine g_s1 (pc2 := 37) hk rfl rfl rfl rfl rfl ?_
    obtain ⟨ho, H⟩ := H
    refine g_call hk rfl rfl i_k322.1 ⟨rfl, rfl⟩ rfl (i_rcv_v ho rfl (by decide)) rfl ?_
    exact H.mono (fun v h2 q => by obtain ⟨r, rfl, q⟩ := q; exact q)
theorem b323_40 {x0 : Nat} {x1 : Int32} {x2 : Int32} {x3 : Int32} {s0 : Int32} {h : iH} {Q : Option Value → iH → Prop} (H : ((s0 = 0 → i_P i_MT i_AT L xs 323 61 [some (.ref x0), some (.int x1), some (.int x2), some (.int x3)] [] h 0 0 Q) ∧ (¬ (s0 = 0) → ((x2 = (-1 : Int32) → i_P i_MT i_AT L xs 323 59 [some (.ref x0), some (.int x1), some (.int x2), some (.int x3)] [] h 0 0 Q) ∧ (¬ (x2 = (-1 : Int32)) → (i_C i_MT i_AT L xs 307 [.int x3] h (fun v h1 => ∃ r2 : Int32, v = some (.int r2) ∧ i_P i_MT i_AT L xs 323 52 [some (.ref x0), some (.int x1), some (.int x2), some (.int x3)] [.int r2] h1 0 0 Q))))))) : i_P i_MT i_AT L xs 323 40 [some (.ref x0), some (.int x1), some (.int x2), some (.int x3)] [.int s0] h 0 0 Q := by
  have hk := i_k323
  refine g_if_eq hk rfl (fun hc => ?_) (fun hc => ?_)
  · have H := H.1 hc
    exact H
  · have H := H.2 hc
    refine g_s1 (pc2 := 44) hk rfl rfl rfl rfl rfl ?_
    refine g_s1 (pc2 := 45) (st2 := [.int (-1 : Int32), .int x2]) hk rfl rfl rfl rfl rfl ?_
    refine g_icmp_eq hk rfl (fun hc => ?_) (fun hc => ?_)
    · have H := H.1 hc
      exact H
    · have H := H.2 hc
      refine g_s1 (pc2 := 49) hk rfl rfl rfl rfl rfl ?_
      refine g_call hk rfl rfl i_k307.1 ⟨rfl, rfl⟩ rfl (i_rcv_0 rfl) rfl ?_
      exact H.mono (fun v h2 q => by obtain ⟨r, rfl, q⟩ := q; exact q)
theorem b323_52 {x0 : Nat} {x1 : Int32} {x2 : Int32} {x3 : Int32} {s0 : Int32} {h : iH} {Q : Option Value → iH → Prop} (H : (i_C i_MT i_AT L xs 307 [.int x2] h (fun v h1 => ∃ r2 : Int32, v = some (.int r2) ∧ i_P i_MT i_AT L xs 323 56 [some (.ref x0), some (.int x1), some (.int x2), some (.int x3)] [.int r2, .int s0] h1 0 0 Q))) : i_P i_MT i_AT L xs 323 52 [some (.ref x0), some (.int x1), some (.int x2), some (.int x3)] [.int s0] h 0 0 Q := by
  have hk := i_k323
  refine g_s1 (pc2 := 53) hk rfl rfl rfl rfl rfl ?_
  refine g_call hk rfl rfl i_k307.1 ⟨rfl, rfl⟩ rfl (i_rcv_0 rfl) rfl ?_
  exact H.mono (fun v h2 q => by obtain ⟨r, rfl, q⟩ := q; exact q)
theorem b323_56 {x0 : Nat} {x1 : Int32} {x2 : Int32} {x3 : Int32} {s0 : Int32} {s1 : Int32} {h : iH} {Q : Option Value → iH → Prop} (H : ((s1 ≤ s0 → i_P i_MT i_AT L xs 323 61 [some (.ref x0), some (.int x1), some (.int x2), some (.int x3)] [] h 0 0 Q) ∧ (¬ (s1 ≤ s0) → i_P i_MT i_AT L xs 323 59 [some (.ref x0), some (.int x1), some (.int x2), some (.int x3)] [] h 0 0 Q))) : i_P i_MT i_AT L xs 323 56 [some (.ref x0), some (.int x1), some (.int x2), some (.int x3)] [.int s1, .int s0] h 0 0 Q := by
  have hk := i_k323
  refine g_icmp_ge hk rfl (fun hc => ?_) (fun hc => ?_)
  · have H := H.1 hc
    exact H
  · have H := H.2 hc
    exact H
theorem b323_59 {x0 : Nat} {x1 : Int32} {x2 : Int32} {x3 : Int32} {h : iH} {Q : Option Value → iH → Prop} (H : i_P i_MT i_AT L xs 323 61 [some (.ref x0), some (.int x1), some (.int x3), some (.int x3)] [] h 0 0 Q) : i_P i_MT i_AT L xs 323 59 [some (.ref x0), some (.int x1), some (.int x2), some (.int x3)] [] h 0 0 Q := by
  have hk := i_k323
  refine g_s1 (pc2 := 60) hk rfl rfl rfl rfl rfl ?_
  refine g_s1 (pc2 := 61) (lo2 := [some (.ref x0), some (.int x1), some (.int x3), some (.int x3)]) hk rfl rfl rfl rfl rfl ?_
  exact H
theorem b323_61 {x0 : Nat} {x1 : Int32} {x2 : Int32} {x3 : Int32} {h : iH} {Q : Option Value → iH → Prop} (H : i_P i_MT i_AT L xs 323 22 [some (.ref x0), some (.int x1), some (.int x2), some (.int (x3 + 1))] [] h 0 0 Q) : i_P i_MT i_AT L xs 323 61 [some (.ref x0), some (.int x1), some (.int x2), some (.int x3)] [] h 0 0 Q := by
  have hk := i_k323
  refine g_s1 (pc2 := 64) (lo2 := [some (.ref x0), some (.int x1), some (.int x2), some (.int (x3 + 1))]) hk rfl rfl rfl rfl rfl ?_
  refine g_s1 (pc2 := 22) hk rfl rfl rfl rfl rfl ?_
  exact H
theorem b323_78 {x0 : Nat} {x1 : Int32} {x2 : Int32} {x3 : Int32} {s0 : Int32} {h : iH} {Q : Option Value → iH → Prop} (H : i_P i_MT i_AT L xs 323 86 [some (.ref x0), some (.int x1), some (.int x2), some (.int x3)] [.int s0] h 0 0 Q) : i_P i_MT i_AT L xs 323 78 [some (.ref x0), some (.int x1), some (.int x2), some (.int x3)] [.int s0] h 0 0 Q := by
  have hk := i_k323
  refine g_s1 (pc2 := 86) hk rfl rfl rfl rfl rfl ?_
  exact H
theorem b323_86 {x0 : Nat} {x1 : Int32} {x2 : Int32} {x3 : Int32} {s0 : Int32} {h : iH} {Q : Option Value → iH → Prop} (H : Q (some (.int s0)) h) : i_P i_MT i_AT L xs 323 86 [some (.ref x0), some (.int x1), some (.int x2), some (.int x3)] [.int s0] h 0 0 Q := by
  have hk := i_k323
  exact g_ireturn hk rfl (by decide) (by decide) rfl H
/-! StillTownModel.draw()I -/
theorem e324 {x0 : Nat} {h : iH} {Q : Option Value → iH → Prop} (H : i_P i_MT i_AT L xs 324 0 [some (.ref x0)] [] h 0 0 Q) : i_C i_MT i_AT L xs 324 [.ref x0] h Q := ⟨i_m324, i_k324.1, Nat.le_of_ble_eq_true rfl, H⟩
theorem b324_0 {x0 : Nat} {h : iH} {Q : Option Value → iH → Prop} (H : (∃ v1 : Int32, i_fld h x0 12 50 = some (.int v1) ∧ (¬ (65536 : Int32) = 0 ∧ ((∃ o, i_fld h x0 12 50 = some o) ∧ i_P i_MT i_AT L xs 324 20 [some (.ref x0)] [] (i_sf h x0 50 (.int (((v1 * (2677 : Int32)) + (9029 : Int32)) - ((v1 * (2677 : Int32)) + (9029 : Int32)) / (65536 : Int32) * (65536 : Int32)))) 0 0 Q)))) : i_P i_MT i_AT L xs 324 0 [some (.ref x0)] [] h 0 0 Q := by
  have hk := i_k324
  refine g_s1 (pc2 := 1) hk rfl rfl rfl rfl rfl ?_
  refine g_s1 (pc2 := 2) hk rfl rfl rfl rfl rfl ?_
  obtain ⟨v1, ev1, H⟩ := H
  refine g_step (pc2 := 5) hk rfl rfl rfl (s_get ev1) ?_
  refine g_s1 (pc2 := 8) (st2 := [.int (2677 : Int32), .int v1, .ref x0]) hk rfl rfl rfl rfl rfl ?_
  refine g_s1 (pc2 := 9) hk rfl rfl rfl rfl rfl ?_
  refine g_s1 (pc2 := 12) (st2 := [.int (9029 : Int32), .int (v1 * (2677 : Int32)), .ref x0]) hk rfl rfl rfl rfl rfl ?_
  refine g_s1 (pc2 := 13) hk rfl rfl rfl rfl rfl ?_
  refine g_step (pc2 := 16) (st2 := [.int (65536 : Int32), .int ((v1 * (2677 : Int32)) + (9029 : Int32)), .ref x0]) hk rfl rfl rfl rfl ?_
  obtain ⟨hz, H⟩ := H
  refine g_s1 (pc2 := 17) hk rfl rfl rfl rfl (s_if hz) ?_
  obtain ⟨⟨o, ho⟩, H⟩ := H
  refine g_step (pc2 := 20) hk rfl rfl rfl (s_put ho rfl) ?_
  exact H
theorem b324_20 {x0 : Nat} {h : iH} {Q : Option Value → iH → Prop} (H : (∃ v1 : Int32, i_fld h x0 12 50 = some (.int v1) ∧ (¬ (8 : Int32) = 0 ∧ (¬ (16 : Int32) = 0 ∧ Q (some (.int ((v1 / (8 : Int32)) - (v1 / (8 : Int32)) / (16 : Int32) * (16 : Int32)))) h)))) : i_P i_MT i_AT L xs 324 20 [some (.ref x0)] [] h 0 0 Q := by
  have hk := i_k324
  refine g_s1 (pc2 := 21) hk rfl rfl rfl rfl rfl ?_
  obtain ⟨v1, ev1, H⟩ := H
  refine g_step (pc2 := 24) hk rfl rfl rfl (s_get ev1) ?_
  refine g_s1 (pc2 := 26) (st2 := [.int (8 : Int32), .int v1]) hk rfl rfl rfl rfl rfl ?_
  obtain ⟨hz, H⟩ := H
  refine g_s1 (pc2 := 27) hk rfl rfl rfl rfl (s_if hz) ?_
  refine g_s1 (pc2 := 29) (st2 := [.int (16 : Int32), .int (v1 / (8 : Int32))]) hk rfl rfl rfl rfl rfl ?_
  obtain ⟨hz, H⟩ := H
  refine g_s1 (pc2 := 30) hk rfl rfl rfl rfl (s_if hz) ?_
  exact g_ireturn hk rfl (by decide) (by decide) rfl H
/-! StillTownModel.goesBy(I)V -/
theorem e325 {x0 : Nat} {x1 : Int32} {h : iH} {Q : Option Value → iH → Prop} (H : i_P i_MT i_AT L xs 325 0 [some (.ref x0), some (.int x1), none, none, none, none] [] h 0 0 Q) : i_C i_MT i_AT L xs 325 [.ref x0, .int x1] h Q := ⟨i_m325, i_k325.1, Nat.le_of_ble_eq_true rfl, H⟩
theorem b325_0 {x0 : Nat} {x1 : Int32} {x2 : Option Value} {x3 : Option Value} {x4 : Option Value} {x5 : Option Value} {h : iH} {Q : Option Value → iH → Prop} (H : ((∃ o, i_fld h x0 12 50 = some o) ∧ i_P i_MT i_AT L xs 325 5 [some (.ref x0), some (.int x1), x2, x3, x4, x5] [] (i_sf h x0 50 (.int x1)) 0 0 Q)) : i_P i_MT i_AT L xs 325 0 [some (.ref x0), some (.int x1), x2, x3, x4, x5] [] h 0 0 Q := by
  have hk := i_k325
  refine g_s1 (pc2 := 1) hk rfl rfl rfl rfl rfl ?_
  refine g_s1 (pc2 := 2) hk rfl rfl rfl rfl rfl ?_
  obtain ⟨⟨o, ho⟩, H⟩ := H
  refine g_step (pc2 := 5) hk rfl rfl rfl (s_put ho rfl) ?_
  exact H
theorem b325_5 {x0 : Nat} {x1 : Int32} {x2 : Option Value} {x3 : Option Value} {x4 : Option Value} {x5 : Option Value} {h : iH} {Q : Option Value → iH → Prop} (H : ((∃ o, i_fld h x0 12 51 = some o) ∧ i_P i_MT i_AT L xs 325 10 [some (.ref x0), some (.int x1), x2, x3, x4, x5] [] (i_sf h x0 51 (.int (0 : Int32))) 0 0 Q)) : i_P i_MT i_AT L xs 325 5 [some (.ref x0), some (.int x1), x2, x3, x4, x5] [] h 0 0 Q := by
  have hk := i_k325
  refine g_s1 (pc2 := 6) hk rfl rfl rfl rfl rfl ?_
  refine g_s1 (pc2 := 7) (st2 := [.int (0 : Int32), .ref x0]) hk rfl rfl rfl rfl rfl ?_
  obtain ⟨⟨o, ho⟩, H⟩ := H
  refine g_step (pc2 := 10) hk rfl rfl rfl (s_put ho rfl) ?_
  exact H
theorem b325_10 {x0 : Nat} {x1 : Int32} {x2 : Option Value} {x3 : Option Value} {x4 : Option Value} {x5 : Option Value} {h : iH} {Q : Option Value → iH → Prop} (H : i_P i_MT i_AT L xs 325 12 [some (.ref x0), some (.int x1), some (.int (0 : Int32)), x3, x4, x5] [] h 0 0 Q) : i_P i_MT i_AT L xs 325 10 [some (.ref x0), some (.int x1), x2, x3, x4, x5] [] h 0 0 Q := by
  have hk := i_k325
  refine g_s1 (pc2 := 11) (st2 := [.int (0 : Int32)]) hk rfl rfl rfl rfl rfl ?_
  refine g_s1 (pc2 := 12) (lo2 := [some (.ref x0), some (.int x1), some (.int (0 : Int32)), x3, x4, x5]) hk rfl rfl rfl rfl rfl ?_
  exact H
theorem b325_12 {x0 : Nat} {x1 : Int32} {x2 : Int32} {x3 : Option Value} {x4 : Option Value} {x5 : Option Value} {h : iH} {Q : Option Value → iH → Prop} (H : (((8 : Int32) ≤ x2 → i_P i_MT i_AT L xs 325 33 [some (.ref x0), some (.int x1), some (.int (1 : Int32)), x3, x4, x5] [] h 0 0 Q) ∧ (¬ ((8 : Int32) ≤ x2) → (∃ v1 : Nat, i_fld h x0 12 53 = some (.ref v1) ∧ (∃ (n2 : Nat) (f3 : Nat → Int32), i_arI h 0 v1 = some (n2, f3) ∧ ¬ (x2 < 0 ∨ n2 ≤ x2.toNatClampNeg) ∧ i_P i_MT i_AT L xs 325 25 [some (.ref x0), some (.int x1), some (.int x2), x3, x4, x5] [] (i_siI h v1 x2.toNatClampNeg (0 : Int32)) 0 0 Q))))) : i_P i_MT i_AT L xs 325 12 [some (.ref x0), some (.int x1), some (.int x2), x3, x4, x5] [] h 0 0 Q := by
  have hk := i_k325
  refine g_s1 (pc2 := 13) hk rfl rfl rfl rfl rfl ?_
  refine g_s1 (pc2 := 15) (st2 := [.int (8 : Int32), .int x2]) hk rfl rfl rfl rfl rfl ?_
  refine g_icmp_ge hk rfl (fun hc => ?_) (fun hc => ?_)
  · have H := H.1 hc
    refine g_s1 (pc2 := 32) (st2 := [.int (1 : Int32)]) hk rfl rfl rfl rfl rfl ?_
    refine g_s1 (pc2 := 33) (lo2 := [some (.ref x0), some (.int x1), some (.int (1 : Int32)), x3, x4, x5]) hk rfl rfl rfl rfl rfl ?_
    exact H
  · have H := H.2 hc
    refine g_s1 (pc2 := 19) hk rfl rfl rfl rfl rfl ?_
    obtain ⟨v1, ev1, H⟩ := H
    refine g_step (pc2 := 22) hk rfl rfl rfl (s_get ev1) ?_
    refine g_s1 (pc2 := 23) hk rfl rfl rfl rfl rfl ?_
    refine g_s1 (pc2 := 24) (st2 := [.int (0 : Int32), .int x2, .ref v1]) hk rfl rfl rfl rfl rfl ?_
    obtain ⟨n2, f3, ef3, hi, H⟩ := H
    refine g_step (pc2 := 25) hk rfl rfl rfl (s_aput ef3 hi) ?_
    exact H
theorem b325_25 {x0 : Nat} {x1 : Int32} {x2 : Int32} {x3 : Option Value} {x4 : Option Value} {x5 : Option Value} {h : iH} {Q : Option Value → iH → Prop} (H : i_P i_MT i_AT L xs 325 12 [some (.ref x0), some (.int x1), some (.int (x2 + 1)), x3, x4, x5] [] h 0 0 Q) : i_P i_MT i_AT L xs 325 25 [some (.ref x0), some (.int x1), some (.int x2), x3, x4, x5] [] h 0 0 Q := by
  have hk := i_k325
  refine g_s1 (pc2 := 28) (lo2 := [some (.ref x0), some (.int x1), some (.int (x2 + 1)), x3, x4, x5]) hk rfl rfl rfl rfl rfl ?_
  refine g_s1 (pc2 := 12) hk rfl rfl rfl rfl rfl ?_
  exact H
theorem b325_33 {x0 : Nat} {x1 : Int32} {x2 : Int32} {x3 : Option Value} {x4 : Option Value} {x5 : Option Value} {h : iH} {Q : Option Value → iH → Prop} (H : (((60 : Int32) < x2 → ((∃ o, i_fld h x0 12 52 = some o) ∧ i_P i_MT i_AT L xs 325 148 [some (.ref x0), some (.int x1), some (.int x2), x3, x4, x5] [] (i_sf h x0 52 (.int (0 : Int32))) 0 0 Q)) ∧ (¬ ((60 : Int32) < x2) → i_P i_MT i_AT L xs 325 41 [some (.ref x0), some (.int x1), some (.int x2), some (.int (0 : Int32)), x4, x5] [] h 0 0 Q))) : i_P i_MT i_AT L xs 325 33 [some (.ref x0), some (.int x1), some (.int x2), x3, x4, x5] [] h 0 0 Q := by
  have hk := i_k325
  refine g_s1 (pc2 := 34) hk rfl rfl rfl rfl rfl ?_
  refine g_s1 (pc2 := 36) (st2 := [.int (60 : Int32), .int x2]) hk rfl rfl rfl rfl rfl ?_
  refine g_icmp_gt hk rfl (fun hc => ?_) (fun hc => ?_)
  · have H := H.1 hc
    refine g_s1 (pc2 := 144) hk rfl rfl rfl rfl rfl ?_
    refine g_s1 (pc2 := 145) (st2 := [.int (0 : Int32), .ref x0]) hk rfl rfl rfl rfl rfl ?_
    obtain ⟨⟨o, ho⟩, H⟩ := H
    refine g_step (pc2 := 148) hk rfl rfl rfl (s_put ho rfl) ?_
    exact H
  · have H := H.2 hc
    refine g_s1 (pc2 := 40) (st2 := [.int (0 : Int32)]) hk rfl rfl rfl rfl rfl ?_
    refine g_s1 (pc2 := 41) (lo2 := [some (.ref x0), some (.int x1), some (.int x2), some (.int (0 : Int32)), x4, x5]) hk rfl rfl rfl rfl rfl ?_
    exact H
theorem b325_41 {x0 : Nat} {x1 : Int32} {x2 : Int32} {x3 : Int32} {x4 : Option Value} {x5 : Option Value} {h : iH} {Q : Option Value → iH → Prop} (H : (∃ v1 : Nat, i_fld h x0 12 0 = some (.ref v1) ∧ (∃ (n2 : Nat) (f3 : Nat → Int32), i_arI h 0 v1 = some (n2, f3) ∧ ¬ ((5 : Int32) < 0 ∨ n2 ≤ (5 : Int32).toNatClampNeg) ∧ (((f3 (5 : Int32).toNatClampNeg) ≤ x3 → i_P i_MT i_AT L xs 325 33 [some (.ref x0), some (.int x1), some (.int (x2 + 1)), some (.int x3), x4, x5] [] h 0 0 Q) ∧ (¬ ((f3 (5 : Int32).toNatClampNeg) ≤ x3) → i_P i_MT i_AT L xs 325 54 [some (.ref x0), some (.int x1), some (.int x2), some (.int x3), some (.int (0 : Int32)), x5] [] h 0 0 Q))))) : i_P i_MT i_AT L xs 325 41 [some (.ref x0), some (.int x1), some (.int x2), some (.int x3), x4, x5] [] h 0 0 Q := by
  have hk := i_k325
  refine g_s1 (pc2 := 42) hk rfl rfl rfl rfl rfl ?_
  refine g_s1 (pc2 := 43) hk rfl rfl rfl rfl rfl ?_
  obtain ⟨v1, ev1, H⟩ := H
  refine g_step (pc2 := 46) hk rfl rfl rfl (s_get ev1) ?_
  refine g_s1 (pc2 := 47) (st2 := [.int (5 : Int32), .ref v1, .int x3]) hk rfl rfl rfl rfl rfl ?_
  obtain ⟨n2, f3, ef3, hi, H⟩ := H
  refine g_step (pc2 := 48) hk rfl rfl rfl (s_aget (L := L) (xs := xs) ef3 hi) ?_
  refine g_icmp_ge hk rfl (fun hc => ?_) (fun hc => ?_)
  · have H := H.1 hc
    refine g_s1 (pc2 := 140) (lo2 := [some (.ref x0), some (.int x1), some (.int (x2 + 1)), some (.int x3), x4, x5]) hk rfl rfl rfl rfl rfl ?_
    refine g_s1 (pc2 := 33) hk rfl rfl rfl rfl rfl ?_
    exact H
  · have H := H.2 hc
    refine g_s1 (pc2 := 52) (st2 := [.int (0 : Int32)]) hk rfl rfl rfl rfl rfl ?_
    refine g_s1 (pc2 := 54) (lo2 := [some (.ref x0), some (.int x1), some (.int x2), some (.int x3), some (.int (0 : Int32)), x5]) hk rfl rfl rfl rfl rfl ?_
    exact H
theorem b325_54 {x0 : Nat} {x1 : Int32} {x2 : Int32} {x3 : Int32} {x4 : Int32} {x5 : Option Value} {h : iH} {Q : Option Value → iH → Prop} (H : (∃ v1 : Nat, i_fld h x0 12 0 = some (.ref v1) ∧ (∃ (n2 : Nat) (f3 : Nat → Int32), i_arI h 0 v1 = some (n2, f3) ∧ ¬ ((5 : Int32) < 0 ∨ n2 ≤ (5 : Int32).toNatClampNeg) ∧ (((f3 (5 : Int32).toNatClampNeg) ≤ x4 → i_P i_MT i_AT L xs 325 41 [some (.ref x0), some (.int x1), some (.int x2), some (.int (x3 + 1)), some (.int x4), x5] [] h 0 0 Q) ∧ (¬ ((f3 (5 : Int32).toNatClampNeg) ≤ x4) → ((¬ x3 = x4 → (i_obj? h x0 12 ∧ i_C i_MT i_AT L xs 276 [.ref x0, .int x3, .int x4, .int x2] h (fun v h4 => ∃ r5 : Int32, v = some (.int r5) ∧ i_P i_MT i_AT L xs 325 83 [some (.ref x0), some (.int x1), some (.int x2), some (.int x3), some (.int x4), x5] [.int r5] h4 0 0 Q))) ∧ (¬ (¬ x3 = x4) → i_P i_MT i_AT L xs 325 83 [some (.ref x0), some (.int x1), some (.int x2), some (.int x3), some (.int x4), x5] [.int (0 : Int32)] h 0 0 Q))))))) : i_P i_MT i_AT L xs 325 54 [some (.ref x0), some (.int x1), some (.int x2), some (.int x3), some (.int x4), x5] [] h 0 0 Q := by
  have hk := i_k325
  refine g_s1 (pc2 := 56) hk rfl rfl rfl rfl rfl ?_
  refine g_s1 (pc2 := 57) hk rfl rfl rfl rfl rfl ?_
  obtain ⟨v1, ev1, H⟩ := H
  refine g_step (pc2 := 60) hk rfl rfl rfl (s_get ev1) ?_
  refine g_s1 (pc2 := 61) (st2 := [.int (5 : Int32), .ref v1, .int x4]) hk rfl rfl rfl rfl rfl ?_
  obtain ⟨n2, f3, ef3, hi, H⟩ := H
  refine g_step (pc2 := 62) hk rfl rfl rfl (s_aget (L := L) (xs := xs) ef3 hi) ?_
  refine g_icmp_ge hk rfl (fun hc => ?_) (fun hc => ?_)
  · have H := H.1 hc
    refine g_s1 (pc2 := 134) (lo2 := [some (.ref x0), some (.int x1), some (.int x2), some (.int (x3 + 1)), some (.int x4), x5]) hk rfl rfl rfl rfl rfl ?_
    refine g_s1 (pc2 := 41) hk rfl rfl rfl rfl rfl ?_
    exact H
  · have H := H.2 hc
    refine g_s1 (pc2 := 66) hk rfl rfl rfl rfl rfl ?_
    refine g_s1 (pc2 := 68) hk rfl rfl rfl rfl rfl ?_
    refine g_icmp_ne hk rfl (fun hc => ?_) (fun hc => ?_)
    · have H := H.1 hc
      refine g_s1 (pc2 := 76) hk rfl rfl rfl rfl rfl ?_
      refine g_s1 (pc2 := 77) hk rfl rfl rfl rfl rfl ?_
      refine g_s1 (pc2 := 79) hk rfl rfl rfl rfl rfl ?_
      refine g_s1 (pc2 := 80) hk rfl rfl rfl rfl rfl ?_
      obtain ⟨ho, H⟩ := H
      refine g_call hk rfl rfl i_k276.1 ⟨rfl, rfl⟩ rfl (i_rcv_v ho rfl (by decide)) rfl ?_
      exact H.mono (fun v h2 q => by obtain ⟨r, rfl, q⟩ := q; exact q)
    · have H := H.2 hc
      refine g_s1 (pc2 := 72) (st2 := [.int (0 : Int32)]) hk rfl rfl rfl rfl rfl ?_
      refine g_s1 (pc2 := 83) hk rfl rfl rfl rfl rfl ?_
      exact H
theorem b325_83 {x0 : Nat} {x1 : Int32} {x2 : Int32} {x3 : Int32} {x4 : Int32} {x5 : Option Value} {s0 : Int32} {h : iH} {Q : Option Value → iH → Prop} (H : ((s0 = 0 → i_P i_MT i_AT L xs 325 125 [some (.ref x0), some (.int x1), some (.int x2), some (.int x3), some (.int x4), some (.int s0)] [] h 0 0 Q) ∧ (¬ (s0 = 0) → (i_obj? h x0 12 ∧ i_C i_MT i_AT L xs 324 [.ref x0] h (fun v h1 => ∃ r2 : Int32, v = some (.int r2) ∧ i_P i_MT i_AT L xs 325 94 [some (.ref x0), some (.int x1), some (.int x2), some (.int x3), some (.int x4), some (.int s0)] [.int r2] h1 0 0 Q))))) : i_P i_MT i_AT L xs 325 83 [some (.ref x0), some (.int x1), some (.int x2), some (.int x3), some (.int x4), x5] [.int s0] h 0 0 Q := by
  have hk := i_k325
  refine g_s1 (pc2 := 85) (lo2 := [some (.ref x0), some (.int x1), some (.int x2), some (.int x3), some (.int x4), some (.int s0)]) hk rfl rfl rfl rfl rfl ?_
  refine g_s1 (pc2 := 87) hk rfl rfl rfl rfl rfl ?_
  refine g_if_eq hk rfl (fun hc => ?_) (fun hc => ?_)
  · have H := H.1 hc
    exact H
  · have H := H.2 hc
    refine g_s1 (pc2 := 91) hk rfl rfl rfl rfl rfl ?_
    obtain ⟨ho, H⟩ := H
    refine g_call hk rfl rfl i_k324.1 ⟨rfl, rfl⟩ rfl (i_rcv_v ho rfl (by decide)) rfl ?_
    exact H.mono (fun v h2 q => by obtain ⟨r, rfl, q⟩ := q; exact q)
theorem b325_94 {x0 : Nat} {x1 : Int32} {x2 : Int32} {x3 : Int32} {x4 : Int32} {x5 : Int32} {s0 : Int32} {h : iH} {Q : Option Value → iH → Prop} (H : ((s0 < x5 → (∃ v1 : Int32, i_fld h x0 12 51 = some (.int v1) ∧ ((∃ o, i_fld h x0 12 51 = some o) ∧ i_P i_MT i_AT L xs 325 112 [some (.ref x0), some (.int x1), some (.int x2), some (.int x3), some (.int x4), some (.int x5)] [] (i_sf h x0 51 (.int (v1 + (1 : Int32)))) 0 0 Q))) ∧ (¬ (s0 < x5) → i_P i_MT i_AT L xs 325 125 [some (.ref x0), some (.int x1), some (.int x2), some (.int x3), some (.int x4), some (.int x5)] [] h 0 0 Q))) : i_P i_MT i_AT L xs 325 94 [some (.ref x0), some (.int x1), some (.int x2), some (.int x3), some (.int x4), some (.int x5)] [.int s0] h 0 0 Q := by
  have hk := i_k325
  refine g_s1 (pc2 := 96) hk rfl rfl rfl rfl rfl ?_
  refine g_icmp_lt hk rfl (fun hc => ?_) (fun hc => ?_)
  · have H := H.1 hc
    refine g_s1 (pc2 := 103) hk rfl rfl rfl rfl rfl ?_
    refine g_s1 (pc2 := 104) hk rfl rfl rfl rfl rfl ?_
    obtain ⟨v1, ev1, H⟩ := H
    refine g_step (pc2 := 107) hk rfl rfl rfl (s_get ev1) ?_
    refine g_s1 (pc2 := 108) (st2 := [.int (1 : Int32), .int v1, .ref x0]) hk rfl rfl rfl rfl rfl ?_
    refine g_s1 (pc2 := 109) hk rfl rfl rfl rfl rfl ?_
    obtain ⟨⟨o, ho⟩, H⟩ := H
    refine g_step (pc2 := 112) hk rfl rfl rfl (s_put ho rfl) ?_
    exact H
  · have H := H.2 hc
    refine g_s1 (pc2 := 125) hk rfl rfl rfl rfl rfl ?_
    exact H
theorem b325_112 {x0 : Nat} {x1 : Int32} {x2 : Int32} {x3 : Int32} {x4 : Int32} {x5 : Int32} {h : iH} {Q : Option Value → iH → Prop} (H : (∃ v1 : Nat, i_fld h x0 12 53 = some (.ref v1) ∧ (∃ (n2 : Nat) (f3 : Nat → Int32), i_arI h 0 v1 = some (n2, f3) ∧ ¬ (x3 < 0 ∨ n2 ≤ x3.toNatClampNeg) ∧ (∃ (n4 : Nat) (f5 : Nat → Int32), i_arI h 0 v1 = some (n4, f5) ∧ ¬ (x3 < 0 ∨ n4 ≤ x3.toNatClampNeg) ∧ i_P i_MT i_AT L xs 325 125 [some (.ref x0), some (.int x1), some (.int x2), some (.int x3), some (.int x4), some (.int x5)] [] (i_siI h v1 x3.toNatClampNeg ((f3 x3.toNatClampNeg) ||| ((1 : Int32) <<< (x4 &&& 31)))) 0 0 Q)))) : i_P i_MT i_AT L xs 325 112 [some (.ref x0), some (.int x1), some (.int x2), some (.int x3), some (.int x4), some (.int x5)] [] h 0 0 Q := by
  have hk := i_k325
  refine g_s1 (pc2 := 113) hk rfl rfl rfl rfl rfl ?_
  obtain ⟨v1, ev1, H⟩ := H
  refine g_step (pc2 := 116) hk rfl rfl rfl (s_get ev1) ?_
  refine g_s1 (pc2 := 117) hk rfl rfl rfl rfl rfl ?_
  refine g_s1 (pc2 := 118) hk rfl rfl rfl rfl rfl ?_
  obtain ⟨n2, f3, ef3, hi, H⟩ := H
  refine g_step (pc2 := 119) hk rfl rfl rfl (s_aget (L := L) (xs := xs) ef3 hi) ?_
  refine g_s1 (pc2 := 120) (st2 := [.int (1 : Int32), .int (f3 x3.toNatClampNeg), .int x3, .ref v1]) hk rfl rfl rfl rfl rfl ?_
  refine g_s1 (pc2 := 122) hk rfl rfl rfl rfl rfl ?_
  refine g_s1 (pc2 := 123) hk rfl rfl rfl rfl rfl ?_
  refine g_s1 (pc2 := 124) hk rfl rfl rfl rfl rfl ?_
  obtain ⟨n4, f5, ef5, hi, H⟩ := H
  refine g_step (pc2 := 125) hk rfl rfl rfl (s_aput ef5 hi) ?_
  exact H
theorem b325_125 {x0 : Nat} {x1 : Int32} {x2 : Int32} {x3 : Int32} {x4 : Int32} {x5 : Int32} {h : iH} {Q : Option Value → iH → Prop} (H : i_P i_MT i_AT L xs 325 54 [some (.ref x0), some (.int x1), some (.int x2), some (.int x3), some (.int (x4 + 1)), some (.int x5)] [] h 0 0 Q) : i_P i_MT i_AT L xs 325 125 [some (.ref x0), some (.int x1), some (.int x2), some (.int x3), some (.int x4), some (.int x5)] [] h 0 0 Q := by
  have hk := i_k325
  refine g_s1 (pc2 := 128) (lo2 := [some (.ref x0), some (.int x1), some (.int x2), some (.int x3), some (.int (x4 + 1)), some (.int x5)]) hk rfl rfl rfl rfl rfl ?_
  refine g_s1 (pc2 := 54) hk rfl rfl rfl rfl rfl ?_
  exact H
theorem b325_148 {x0 : Nat} {x1 : Int32} {x2 : Int32} {x3 : Option Value} {x4 : Option Value} {x5 : Option Value} {h : iH} {Q : Option Value → iH → Prop} (H : i_P i_MT i_AT L xs 325 150 [some (.ref x0), some (.int x1), some (.int (0 : Int32)), x3, x4, x5] [] h 0 0 Q) : i_P i_MT i_AT L xs 325 148 [some (.ref x0), some (.int x1), some (.int x2), x3, x4, x5] [] h 0 0 Q := by
  have hk := i_k325
  refine g_s1 (pc2 := 149) (st2 := [.int (0 : Int32)]) hk rfl rfl rfl rfl rfl ?_
  refine g_s1 (pc2 := 150) (lo2 := [some (.ref x0), some (.int x1), some (.int (0 : Int32)), x3, x4, x5]) hk rfl rfl rfl rfl rfl ?_
  exact H
theorem b325_150 {x0 : Nat} {x1 : Int32} {x2 : Int32} {x3 : Option Value} {x4 : Option Value} {x5 : Option Value} {h : iH} {Q : Option Value → iH → Prop} (H : (∃ v1 : Nat, i_fld h x0 12 0 = some (.ref v1) ∧ (∃ (n2 : Nat) (f3 : Nat → Int32), i_arI h 0 v1 = some (n2, f3) ∧ ¬ ((5 : Int32) < 0 ∨ n2 ≤ (5 : Int32).toNatClampNeg) ∧ (((f3 (5 : Int32).toNatClampNeg) ≤ x2 → Q none h) ∧ (¬ ((f3 (5 : Int32).toNatClampNeg) ≤ x2) → i_P i_MT i_AT L xs 325 165 [some (.ref x0), some (.int x1), some (.int x2), some (.int (0 : Int32)), some (.int (0 : Int32)), x5] [] h 0 0 Q))))) : i_P i_MT i_AT L xs 325 150 [some (.ref x0), some (.int x1), some (.int x2), x3, x4, x5] [] h 0 0 Q := by
  have hk := i_k325
  refine g_s1 (pc2 := 151) hk rfl rfl rfl rfl rfl ?_
  refine g_s1 (pc2 := 152) hk rfl rfl rfl rfl rfl ?_
  obtain ⟨v1, ev1, H⟩ := H
  refine g_step (pc2 := 155) hk rfl rfl rfl (s_get ev1) ?_
  refine g_s1 (pc2 := 156) (st2 := [.int (5 : Int32), .ref v1, .int x2]) hk rfl rfl rfl rfl rfl ?_
  obtain ⟨n2, f3, ef3, hi, H⟩ := H
  refine g_step (pc2 := 157) hk rfl rfl rfl (s_aget (L := L) (xs := xs) ef3 hi) ?_
  refine g_icmp_ge hk rfl (fun hc => ?_) (fun hc => ?_)
  · have H := H.1 hc
    exact g_return hk rfl (by decide) (by decide) rfl H
  · have H := H.2 hc
    refine g_s1 (pc2 := 161) (st2 := [.int (0 : Int32)]) hk rfl rfl rfl rfl rfl ?_
    refine g_s1 (pc2 := 162) (lo2 := [some (.ref x0), some (.int x1), some (.int x2), some (.int (0 : Int32)), x4, x5]) hk rfl rfl rfl rfl rfl ?_
    refine g_s1 (pc2 := 163) (st2 := [.int (0 : Int32)]) hk rfl rfl rfl rfl rfl ?_
    refine g_s1 (pc2 := 165) (lo2 := [some (.ref x0), some (.int x1), some (.int x2), some (.int (0 : Int32)), some (.int (0 : Int32)), x5]) hk rfl rfl rfl rfl rfl ?_
    exact H
theorem b325_165 {x0 : Nat} {x1 : Int32} {x2 : Int32} {x3 : Int32} {x4 : Int32} {x5 : Option Value} {h : iH} {Q : Option Value → iH → Prop} (H : (∃ v1 : Nat, i_fld h x0 12 0 = some (.ref v1) ∧ (∃ (n2 : Nat) (f3 : Nat → Int32), i_arI h 0 v1 = some (n2, f3) ∧ ¬ ((5 : Int32) < 0 ∨ n2 ≤ (5 : Int32).toNatClampNeg) ∧ (((f3 (5 : Int32).toNatClampNeg) ≤ x4 → (∃ v4 : Int32, i_fld h x0 12 52 = some (.int v4) ∧ ((x3 = 0 → i_P i_MT i_AT L xs 325 231 [some (.ref x0), some (.int x1), some (.int x2), some (.int x3), some (.int x4), x5] [.int (0 : Int32), .int v4, .ref x0] h 0 0 Q) ∧ (¬ (x3 = 0) → i_P i_MT i_AT L xs 325 231 [some (.ref x0), some (.int x1), some (.int x2), some (.int x3), some (.int x4), x5] [.int (1 : Int32), .int v4, .ref x0] h 0 0 Q)))) ∧ (¬ ((f3 (5 : Int32).toNatClampNeg) ≤ x4) → ((¬ x3 = 0 → i_P i_MT i_AT L xs 325 205 [some (.ref x0), some (.int x1), some (.int x2), some (.int x3), some (.int x4), x5] [] h 0 0 Q) ∧ (¬ (¬ x3 = 0) → (i_obj? h x0 12 ∧ i_C i_MT i_AT L xs 282 [.ref x0, .int x4, .int x2] h (fun v h5 => ∃ r6 : Int32, v = some (.int r6) ∧ i_P i_MT i_AT L xs 325 187 [some (.ref x0), some (.int x1), some (.int x2), some (.int x3), some (.int x4), x5] [.int r6] h5 0 0 Q))))))))) : i_P i_MT i_AT L xs 325 165 [some (.ref x0), some (.int x1), some (.int x2), some (.int x3), some (.int x4), x5] [] h 0 0 Q := by
  have hk := i_k325
  refine g_s1 (pc2 := 167) hk rfl rfl rfl rfl rfl ?_
  refine g_s1 (pc2 := 168) hk rfl rfl rfl rfl rfl ?_
  obtain ⟨v1, ev1, H⟩ := H
  refine g_step (pc2 := 171) hk rfl rfl rfl (s_get ev1) ?_
  refine g_s1 (pc2 := 172) (st2 := [.int (5 : Int32), .ref v1, .int x4]) hk rfl rfl rfl rfl rfl ?_
  obtain ⟨n2, f3, ef3, hi, H⟩ := H
  refine g_step (pc2 := 173) hk rfl rfl rfl (s_aget (L := L) (xs := xs) ef3 hi) ?_
  refine g_icmp_ge hk rfl (fun hc => ?_) (fun hc => ?_)
  · have H := H.1 hc
    refine g_s1 (pc2 := 218) hk rfl rfl rfl rfl rfl ?_
    refine g_s1 (pc2 := 219) hk rfl rfl rfl rfl rfl ?_
    obtain ⟨v4, ev4, H⟩ := H
    refine g_step (pc2 := 222) hk rfl rfl rfl (s_get ev4) ?_
    refine g_s1 (pc2 := 223) hk rfl rfl rfl rfl rfl ?_
    refine g_if_eq hk rfl (fun hc => ?_) (fun hc => ?_)
    · have H := H.1 hc
      refine g_s1 (pc2 := 231) (st2 := [.int (0 : Int32), .int v4, .ref x0]) hk rfl rfl rfl rfl rfl ?_
      exact H
    · have H := H.2 hc
      refine g_s1 (pc2 := 227) (st2 := [.int (1 : Int32), .int v4, .ref x0]) hk rfl rfl rfl rfl rfl ?_
      refine g_s1 (pc2 := 231) hk rfl rfl rfl rfl rfl ?_
      exact H
  · have H := H.2 hc
    refine g_s1 (pc2 := 177) hk rfl rfl rfl rfl rfl ?_
    refine g_if_ne hk rfl (fun hc => ?_) (fun hc => ?_)
    · have H := H.1 hc
      exact H
    · have H := H.2 hc
      refine g_s1 (pc2 := 181) hk rfl rfl rfl rfl rfl ?_
      refine g_s1 (pc2 := 183) hk rfl rfl rfl rfl rfl ?_
      refine g_s1 (pc2 := 184) hk rfl rfl rfl rfl rfl ?_
      obtain ⟨ho, H⟩ := H
      refine g_call hk rfl rfl i_k282.1 ⟨rfl, rfl⟩ rfl (i_rcv_v ho rfl (by decide)) rfl ?_
      exact H.mono (fun v h2 q => by obtain ⟨r, rfl, q⟩ := q; exact q)
theorem b325_187 {x0 : Nat} {x1 : Int32} {x2 : Int32} {x3 : Int32} {x4 : Int32} {x5 : Option Value} {s0 : Int32} {h : iH} {Q : Option Value → iH → Prop} (H : ((s0 = 0 → i_P i_MT i_AT L xs 325 209 [some (.ref x0), some (.int x1), some (.int x2), some (.int x3), some (.int x4), x5] [] h 0 0 Q) ∧ (¬ (s0 = 0) → (∃ v1 : Nat, i_fld h x0 12 53 = some (.ref v1) ∧ (∃ (n2 : Nat) (f3 : Nat → Int32), i_arI h 0 v1 = some (n2, f3) ∧ ¬ (x4 < 0 ∨ n2 ≤ x4.toNatClampNeg) ∧ ((¬ (((f3 x4.toNatClampNeg) >>> (x2 &&& 31)) &&& (1 : Int32)) = (1 : Int32) → i_P i_MT i_AT L xs 325 209 [some (.ref x0), some (.int x1), some (.int x2), some (.int x3), some (.int x4), x5] [] h 0 0 Q) ∧ (¬ (¬ (((f3 x4.toNatClampNeg) >>> (x2 &&& 31)) &&& (1 : Int32)) = (1 : Int32)) → i_P i_MT i_AT L xs 325 205 [some (.ref x0), some (.int x1), some (.int x2), some (.int x3), some (.int x4), x5] [] h 0 0 Q))))))) : i_P i_MT i_AT L xs 325 187 [some (.ref x0), some (.int x1), some (.int x2), some (.int x3), some (.int x4), x5] [.int s0] h 0 0 Q := by
  have hk := i_k325
  refine g_if_eq hk rfl (fun hc => ?_) (fun hc => ?_)
  · have H := H.1 hc
    exact H
  · have H := H.2 hc
    refine g_s1 (pc2 := 191) hk rfl rfl rfl rfl rfl ?_
    obtain ⟨v1, ev1, H⟩ := H
    refine g_step (pc2 := 194) hk rfl rfl rfl (s_get ev1) ?_
    refine g_s1 (pc2 := 196) hk rfl rfl rfl rfl rfl ?_
    obtain ⟨n2, f3, ef3, hi, H⟩ := H
    refine g_step (pc2 := 197) hk rfl rfl rfl (s_aget (L := L) (xs := xs) ef3 hi) ?_
    refine g_s1 (pc2 := 198) hk rfl rfl rfl rfl rfl ?_
    refine g_s1 (pc2 := 199) hk rfl rfl rfl rfl rfl ?_
    refine g_s1 (pc2 := 200) (st2 := [.int (1 : Int32), .int ((f3 x4.toNatClampNeg) >>> (x2 &&& 31))]) hk rfl rfl rfl rfl rfl ?_
    refine g_s1 (pc2 := 201) hk rfl rfl rfl rfl rfl ?_
    refine g_s1 (pc2 := 202) (st2 := [.int (1 : Int32), .int (((f3 x4.toNatClampNeg) >>> (x2 &&& 31)) &&& (1 : Int32))]) hk rfl rfl rfl rfl rfl ?_
    refine g_icmp_ne hk rfl (fun hc => ?_) (fun hc => ?_)
    · have H := H.1 hc
      exact H
    · have H := H.2 hc
      exact H
theorem b325_205 {x0 : Nat} {x1 : Int32} {x2 : Int32} {x3 : Int32} {x4 : Int32} {x5 : Option Value} {h : iH} {Q : Option Value → iH → Prop} (H : i_P i_MT i_AT L xs 325 210 [some (.ref x0), some (.int x1), some (.int x2), some (.int x3), some (.int x4), x5] [.int (1 : Int32)] h 0 0 Q) : i_P i_MT i_AT L xs 325 205 [some (.ref x0), some (.int x1), some (.int x2), some (.int x3), some (.int x4), x5] [] h 0 0 Q := by
  have hk := i_k325
  refine g_s1 (pc2 := 206) (st2 := [.int (1 : Int32)]) hk rfl rfl rfl rfl rfl ?_
  refine g_s1 (pc2 := 210) hk rfl rfl rfl rfl rfl ?_
  exact H
theorem b325_209 {x0 : Nat} {x1 : Int32} {x2 : Int32} {x3 : Int32} {x4 : Int32} {x5 : Option Value} {h : iH} {Q : Option Value → iH → Prop} (H : i_P i_MT i_AT L xs 325 210 [some (.ref x0), some (.int x1), some (.int x2), some (.int x3), some (.int x4), x5] [.int (0 : Int32)] h 0 0 Q) : i_P i_MT i_AT L xs 325 209 [some (.ref x0), some (.int x1), some (.int x2), some (.int x3), some (.int x4), x5] [] h 0 0 Q := by
  have hk := i_k325
  refine g_s1 (pc2 := 210) (st2 := [.int (0 : Int32)]) hk rfl rfl rfl rfl rfl ?_
  exact H
theorem b325_210 {x0 : Nat} {x1 : Int32} {x2 : Int32} {x3 : Int32} {x4 : Int32} {x5 : Option Value} {s0 : Int32} {h : iH} {Q : Option Value → iH → Prop} (H : i_P i_MT i_AT L xs 325 165 [some (.ref x0), some (.int x1), some (.int x2), some (.int s0), some (.int (x4 + 1)), x5] [] h 0 0 Q) : i_P i_MT i_AT L xs 325 210 [some (.ref x0), some (.int x1), some (.int x2), some (.int x3), some (.int x4), x5] [.int s0] h 0 0 Q := by
  have hk := i_k325
  refine g_s1 (pc2 := 211) (lo2 := [some (.ref x0), some (.int x1), some (.int x2), some (.int s0), some (.int x4), x5]) hk rfl rfl rfl rfl rfl ?_
  refine g_s1 (pc2 := 214) (lo2 := [some (.ref x0), some (.int x1), some (.int x2), some (.int s0), some (.int (x4 + 1)), x5]) hk rfl rfl rfl rfl rfl ?_
  refine g_s1 (pc2 := 165) hk rfl rfl rfl rfl rfl ?_
  exact H
theorem b325_231 {x0 : Nat} {x1 : Int32} {x2 : Int32} {x3 : Int32} {x4 : Int32} {x5 : Option Value} {s0 : Nat} {s1 : Int32} {s2 : Int32} {h : iH} {Q : Option Value → iH → Prop} (H : ((∃ o, i_fld h s0 12 52 = some o) ∧ i_P i_MT i_AT L xs 325 235 [some (.ref x0), some (.int x1), some (.int x2), some (.int x3), some (.int x4), x5] [] (i_sf h s0 52 (.int (s1 + s2))) 0 0 Q)) : i_P i_MT i_AT L xs 325 231 [some (.ref x0), some (.int x1), some (.int x2), some (.int x3), some (.int x4), x5] [.int s2, .int s1, .ref s0] h 0 0 Q := by
  have hk := i_k325
  refine g_s1 (pc2 := 232) hk rfl rfl rfl rfl rfl ?_
  obtain ⟨⟨o, ho⟩, H⟩ := H
  refine g_step (pc2 := 235) hk rfl rfl rfl (s_put ho rfl) ?_
  exact H
theorem b325_235 {x0 : Nat} {x1 : Int32} {x2 : Int32} {x3 : Int32} {x4 : Int32} {x5 : Option Value} {h : iH} {Q : Option Value → iH → Prop} (H : i_P i_MT i_AT L xs 325 150 [some (.ref x0), some (.int x1), some (.int (x2 + 1)), some (.int x3), some (.int x4), x5] [] h 0 0 Q) : i_P i_MT i_AT L xs 325 235 [some (.ref x0), some (.int x1), some (.int x2), some (.int x3), some (.int x4), x5] [] h 0 0 Q := by
  have hk := i_k325
  refine g_s1 (pc2 := 238) (lo2 := [some (.ref x0), some (.int x1), some (.int (x2 + 1)), some (.int x3), some (.int x4), x5]) hk rfl rfl rfl rfl rfl ?_
  refine g_s1 (pc2 := 150) hk rfl rfl rfl rfl rfl ?_
  exact H
/-! StillTownModel.day(I)I -/
theorem e326 {x0 : Nat} {x1 : Int32} {h : iH} {Q : Option Value → iH → Prop} (H : i_P i_MT i_AT L xs 326 0 [some (.ref x0), some (.int x1), none] [] h 0 0 Q) : i_C i_MT i_AT L xs 326 [.ref x0, .int x1] h Q := ⟨i_m326, i_k326.1, Nat.le_of_ble_eq_true rfl, H⟩
theorem b326_0 {x0 : Nat} {x1 : Int32} {x2 : Option Value} {h : iH} {Q : Option Value → iH → Prop} (H : (i_C i_MT i_AT L xs 212 [.long (x1.toInt64), .long (0 : Int64), .long (9999 : Int64)] h (fun v h1 => ∃ r2 : Int32, v = some (.int r2) ∧ i_P i_MT i_AT L xs 326 9 [some (.ref x0), some (.int x1), x2] [.int r2] h1 0 0 Q))) : i_P i_MT i_AT L xs 326 0 [some (.ref x0), some (.int x1), x2] [] h 0 0 Q := by
  have hk := i_k326
  refine g_s1 (pc2 := 1) hk rfl rfl rfl rfl rfl ?_
  refine g_s1 (pc2 := 2) hk rfl rfl rfl rfl rfl ?_
  refine g_s1 (pc2 := 3) (st2 := [.long (0 : Int64), .long (x1.toInt64)]) hk rfl rfl rfl rfl rfl ?_
  refine g_step (pc2 := 6) (st2 := [.long (9999 : Int64), .long (0 : Int64), .long (x1.toInt64)]) hk rfl rfl rfl rfl ?_
  refine g_call hk rfl rfl i_k212.1 ⟨rfl, rfl⟩ rfl (i_rcv_0 rfl) rfl ?_
  exact H.mono (fun v h2 q => by obtain ⟨r, rfl, q⟩ := q; exact q)
theorem b326_9 {x0 : Nat} {x1 : Int32} {x2 : Option Value} {s0 : Int32} {h : iH} {Q : Option Value → iH → Prop} (H : ((¬ s0 = 0 → (i_obj? h x0 12 ∧ i_C i_MT i_AT L xs 325 [.ref x0, .int x1] h (fun v h1 => v = none ∧ i_P i_MT i_AT L xs 326 23 [some (.ref x0), some (.int x1), x2] [] h1 0 0 Q))) ∧ (¬ (¬ s0 = 0) → (i_obj? h x0 12 ∧ i_C i_MT i_AT L xs 201 [.ref x0, .int (1 : Int32)] h (fun v h3 => ∃ r4 : Int32, v = some (.int r4) ∧ i_P i_MT i_AT L xs 326 17 [some (.ref x0), some (.int x1), x2] [.int r4] h3 0 0 Q))))) : i_P i_MT i_AT L xs 326 9 [some (.ref x0), some (.int x1), x2] [.int s0] h 0 0 Q := by
  have hk := i_k326
  refine g_if_ne hk rfl (fun hc => ?_) (fun hc => ?_)
  · have H := H.1 hc
    refine g_s1 (pc2 := 19) hk rfl rfl rfl rfl rfl ?_
    refine g_s1 (pc2 := 20) hk rfl rfl rfl rfl rfl ?_
    obtain ⟨ho, H⟩ := H
    refine g_call hk rfl rfl i_k325.1 ⟨rfl, rfl⟩ rfl (i_rcv_v ho rfl (by decide)) rfl ?_
    exact H.mono (fun v h2 q => by obtain ⟨rfl, q⟩ := q; exact q)
  · have H := H.2 hc
    refine g_s1 (pc2 := 13) hk rfl rfl rfl rfl rfl ?_
    refine g_s1 (pc2 := 14) (st2 := [.int (1 : Int32), .ref x0]) hk rfl rfl rfl rfl rfl ?_
    obtain ⟨ho, H⟩ := H
    refine g_call hk rfl rfl i_k201.1 ⟨rfl, rfl⟩ rfl (i_rcv_v ho rfl (by decide)) rfl ?_
    exact H.mono (fun v h2 q => by obtain ⟨r, rfl, q⟩ := q; exact q)
theorem b326_17 {x0 : Nat} {x1 : Int32} {x2 : Option Value} {s0 : Int32} {h : iH} {Q : Option Value → iH → Prop} (H : Q (some (.int s0)) h) : i_P i_MT i_AT L xs 326 17 [some (.ref x0), some (.int x1), x2] [.int s0] h 0 0 Q := by
  have hk := i_k326
  exact g_ireturn hk rfl (by decide) (by decide) rfl H
theorem b326_23 {x0 : Nat} {x1 : Int32} {x2 : Option Value} {h : iH} {Q : Option Value → iH → Prop} (H : i_P i_MT i_AT L xs 326 25 [some (.ref x0), some (.int x1), some (.int (0 : Int32))] [] h 0 0 Q) : i_P i_MT i_AT L xs 326 23 [some (.ref x0), some (.int x1), x2] [] h 0 0 Q := by
  have hk := i_k326
  refine g_s1 (pc2 := 24) (st2 := [.int (0 : Int32)]) hk rfl rfl rfl rfl rfl ?_
  refine g_s1 (pc2 := 25) (lo2 := [some (.ref x0), some (.int x1), some (.int (0 : Int32))]) hk rfl rfl rfl rfl rfl ?_
  exact H
theorem b326_25 {x0 : Nat} {x1 : Int32} {x2 : Int32} {h : iH} {Q : Option Value → iH → Prop} (H : (((8 : Int32) ≤ x2 → (∃ v1 : Nat, i_fld h x0 12 0 = some (.ref v1) ∧ (∃ (n2 : Nat) (f3 : Nat → Int32), i_arI h 0 v1 = some (n2, f3) ∧ ¬ ((5 : Int32) < 0 ∨ n2 ≤ (5 : Int32).toNatClampNeg) ∧ ((∃ o, i_fld h x0 12 55 = some o) ∧ i_P i_MT i_AT L xs 326 59 [some (.ref x0), some (.int x1), some (.int x2)] [] (i_sf h x0 55 (.int (f3 (5 : Int32).toNatClampNeg))) 0 0 Q)))) ∧ (¬ ((8 : Int32) ≤ x2) → (∃ v4 : Nat, i_fld h x0 12 54 = some (.ref v4) ∧ (∃ v5 : Nat, i_fld h x0 12 53 = some (.ref v5) ∧ (∃ (n6 : Nat) (f7 : Nat → Int32), i_arI h 0 v5 = some (n6, f7) ∧ ¬ (x2 < 0 ∨ n6 ≤ x2.toNatClampNeg) ∧ (∃ (n8 : Nat) (f9 : Nat → Int32), i_arI h 0 v4 = some (n8, f9) ∧ ¬ (x2 < 0 ∨ n8 ≤ x2.toNatClampNeg) ∧ i_P i_MT i_AT L xs 326 43 [some (.ref x0), some (.int x1), some (.int x2)] [] (i_siI h v4 x2.toNatClampNeg (f7 x2.toNatClampNeg)) 0 0 Q))))))) : i_P i_MT i_AT L xs 326 25 [some (.ref x0), some (.int x1), some (.int x2)] [] h 0 0 Q := by
  have hk := i_k326
  refine g_s1 (pc2 := 26) hk rfl rfl rfl rfl rfl ?_
  refine g_s1 (pc2 := 28) (st2 := [.int (8 : Int32), .int x2]) hk rfl rfl rfl rfl rfl ?_
  refine g_icmp_ge hk rfl (fun hc => ?_) (fun hc => ?_)
  · have H := H.1 hc
    refine g_s1 (pc2 := 50) hk rfl rfl rfl rfl rfl ?_
    refine g_s1 (pc2 := 51) hk rfl rfl rfl rfl rfl ?_
    obtain ⟨v1, ev1, H⟩ := H
    refine g_step (pc2 := 54) hk rfl rfl rfl (s_get ev1) ?_
    refine g_s1 (pc2 := 55) (st2 := [.int (5 : Int32), .ref v1, .ref x0]) hk rfl rfl rfl rfl rfl ?_
    obtain ⟨n2, f3, ef3, hi, H⟩ := H
    refine g_step (pc2 := 56) hk rfl rfl rfl (s_aget (L := L) (xs := xs) ef3 hi) ?_
    obtain ⟨⟨o, ho⟩, H⟩ := H
    refine g_step (pc2 := 59) hk rfl rfl rfl (s_put ho rfl) ?_
    exact H
  · have H := H.2 hc
    refine g_s1 (pc2 := 32) hk rfl rfl rfl rfl rfl ?_
    obtain ⟨v4, ev4, H⟩ := H
    refine g_step (pc2 := 35) hk rfl rfl rfl (s_get ev4) ?_
    refine g_s1 (pc2 := 36) hk rfl rfl rfl rfl rfl ?_
    refine g_s1 (pc2 := 37) hk rfl rfl rfl rfl rfl ?_
    obtain ⟨v5, ev5, H⟩ := H
    refine g_step (pc2 := 40) hk rfl rfl rfl (s_get ev5) ?_
    refine g_s1 (pc2 := 41) hk rfl rfl rfl rfl rfl ?_
    obtain ⟨n6, f7, ef7, hi, H⟩ := H
    refine g_step (pc2 := 42) hk rfl rfl rfl (s_aget (L := L) (xs := xs) ef7 hi) ?_
    obtain ⟨n8, f9, ef9, hi, H⟩ := H
    refine g_step (pc2 := 43) hk rfl rfl rfl (s_aput ef9 hi) ?_
    exact H
theorem b326_43 {x0 : Nat} {x1 : Int32} {x2 : Int32} {h : iH} {Q : Option Value → iH → Prop} (H : i_P i_MT i_AT L xs 326 25 [some (.ref x0), some (.int x1), some (.int (x2 + 1))] [] h 0 0 Q) : i_P i_MT i_AT L xs 326 43 [some (.ref x0), some (.int x1), some (.int x2)] [] h 0 0 Q := by
  have hk := i_k326
  refine g_s1 (pc2 := 46) (lo2 := [some (.ref x0), some (.int x1), some (.int (x2 + 1))]) hk rfl rfl rfl rfl rfl ?_
  refine g_s1 (pc2 := 25) hk rfl rfl rfl rfl rfl ?_
  exact H
theorem b326_59 {x0 : Nat} {x1 : Int32} {x2 : Int32} {h : iH} {Q : Option Value → iH → Prop} (H : (∃ v1 : Int32, i_fld h x0 12 52 = some (.int v1) ∧ ((∃ o, i_fld h x0 12 56 = some o) ∧ i_P i_MT i_AT L xs 326 67 [some (.ref x0), some (.int x1), some (.int x2)] [] (i_sf h x0 56 (.int v1)) 0 0 Q))) : i_P i_MT i_AT L xs 326 59 [some (.ref x0), some (.int x1), some (.int x2)] [] h 0 0 Q := by
  have hk := i_k326
  refine g_s1 (pc2 := 60) hk rfl rfl rfl rfl rfl ?_
  refine g_s1 (pc2 := 61) hk rfl rfl rfl rfl rfl ?_
  obtain ⟨v1, ev1, H⟩ := H
  refine g_step (pc2 := 64) hk rfl rfl rfl (s_get ev1) ?_
  obtain ⟨⟨o, ho⟩, H⟩ := H
  refine g_step (pc2 := 67) hk rfl rfl rfl (s_put ho rfl) ?_
  exact H
theorem b326_67 {x0 : Nat} {x1 : Int32} {x2 : Int32} {h : iH} {Q : Option Value → iH → Prop} (H : (∃ v1 : Int32, i_fld h x0 12 51 = some (.int v1) ∧ (i_obj? h x0 12 ∧ i_C i_MT i_AT L xs 202 [.ref x0, .int v1] h (fun v h2 => ∃ r3 : Int32, v = some (.int r3) ∧ i_P i_MT i_AT L xs 326 75 [some (.ref x0), some (.int x1), some (.int x2)] [.int r3] h2 0 0 Q)))) : i_P i_MT i_AT L xs 326 67 [some (.ref x0), some (.int x1), some (.int x2)] [] h 0 0 Q := by
  have hk := i_k326
  refine g_s1 (pc2 := 68) hk rfl rfl rfl rfl rfl ?_
  refine g_s1 (pc2 := 69) hk rfl rfl rfl rfl rfl ?_
  obtain ⟨v1, ev1, H⟩ := H
  refine g_step (pc2 := 72) hk rfl rfl rfl (s_get ev1) ?_
  obtain ⟨ho, H⟩ := H
  refine g_call hk rfl rfl i_k202.1 ⟨rfl, rfl⟩ rfl (i_rcv_v ho rfl (by decide)) rfl ?_
  exact H.mono (fun v h2 q => by obtain ⟨r, rfl, q⟩ := q; exact q)
theorem b326_75 {x0 : Nat} {x1 : Int32} {x2 : Int32} {s0 : Int32} {h : iH} {Q : Option Value → iH → Prop} (H : Q (some (.int s0)) h) : i_P i_MT i_AT L xs 326 75 [some (.ref x0), some (.int x1), some (.int x2)] [.int s0] h 0 0 Q := by
  have hk := i_k326
  exact g_ireturn hk rfl (by decide) (by decide) rfl H
/-! StillTownModel.saw(I)I -/
theorem e327 {x0 : Nat} {x1 : Int32} {h : iH} {Q : Option Value → iH → Prop} (H : i_P i_MT i_AT L xs 327 0 [some (.ref x0), some (.int x1)] [] h 0 0 Q) : i_C i_MT i_AT L xs 327 [.ref x0, .int x1] h Q := ⟨i_m327, i_k327.1, Nat.le_of_ble_eq_true rfl, H⟩
theorem b327_0 {x0 : Nat} {x1 : Int32} {h : iH} {Q : Option Value → iH → Prop} (H : ((x1 < 0 → i_P i_MT i_AT L xs 327 10 [some (.ref x0), some (.int x1)] [] h 0 0 Q) ∧ (¬ (x1 < 0) → ((x1 < (8 : Int32) → (∃ v1 : Int32, i_fld h x0 12 55 = some (.int v1) ∧ ((x1 < v1 → (∃ v2 : Nat, i_fld h x0 12 54 = some (.ref v2) ∧ (∃ (n3 : Nat) (f4 : Nat → Int32), i_arI h 0 v2 = some (n3, f4) ∧ ¬ (x1 < 0 ∨ n3 ≤ x1.toNatClampNeg) ∧ (i_obj? h x0 12 ∧ i_C i_MT i_AT L xs 202 [.ref x0, .int (f4 x1.toNatClampNeg)] h (fun v h5 => ∃ r6 : Int32, v = some (.int r6) ∧ i_P i_MT i_AT L xs 327 45 [some (.ref x0), some (.int x1)] [.int r6] h5 0 0 Q))))) ∧ (¬ (x1 < v1) → (i_obj? h x0 12 ∧ i_C i_MT i_AT L xs 201 [.ref x0, .int (6 : Int32)] h (fun v h7 => ∃ r8 : Int32, v = some (.int r8) ∧ i_P i_MT i_AT L xs 327 32 [some (.ref x0), some (.int x1)] [.int r8] h7 0 0 Q)))))) ∧ (¬ (x1 < (8 : Int32)) → i_P i_MT i_AT L xs 327 10 [some (.ref x0), some (.int x1)] [] h 0 0 Q))))) : i_P i_MT i_AT L xs 327 0 [some (.ref x0), some (.int x1)] [] h 0 0 Q := by
  have hk := i_k327
  refine g_s1 (pc2 := 1) hk rfl rfl rfl rfl rfl ?_
  refine g_if_lt hk rfl (fun hc => ?_) (fun hc => ?_)
  · have H := H.1 hc
    exact H
  · have H := H.2 hc
    refine g_s1 (pc2 := 5) hk rfl rfl rfl rfl rfl ?_
    refine g_s1 (pc2 := 7) (st2 := [.int (8 : Int32), .int x1]) hk rfl rfl rfl rfl rfl ?_
    refine g_icmp_lt hk rfl (fun hc => ?_) (fun hc => ?_)
    · have H := H.1 hc
      refine g_s1 (pc2 := 19) hk rfl rfl rfl rfl rfl ?_
      refine g_s1 (pc2 := 20) hk rfl rfl rfl rfl rfl ?_
      obtain ⟨v1, ev1, H⟩ := H
      refine g_step (pc2 := 23) hk rfl rfl rfl (s_get ev1) ?_
      refine g_icmp_lt hk rfl (fun hc => ?_) (fun hc => ?_)
      · have H := H.1 hc
        refine g_s1 (pc2 := 36) hk rfl rfl rfl rfl rfl ?_
        refine g_s1 (pc2 := 37) hk rfl rfl rfl rfl rfl ?_
        obtain ⟨v2, ev2, H⟩ := H
        refine g_step (pc2 := 40) hk rfl rfl rfl (s_get ev2) ?_
        refine g_s1 (pc2 := 41) hk rfl rfl rfl rfl rfl ?_
        obtain ⟨n3, f4, ef4, hi, H⟩ := H
        refine g_step (pc2 := 42) hk rfl rfl rfl (s_aget (L := L) (xs := xs) ef4 hi) ?_
        obtain ⟨ho, H⟩ := H
        refine g_call hk rfl rfl i_k202.1 ⟨rfl, rfl⟩ rfl (i_rcv_v ho rfl (by decide)) rfl ?_
        exact H.mono (fun v h2 q => by obtain ⟨r, rfl, q⟩ := q; exact q)
      · have H := H.2 hc
        refine g_s1 (pc2 := 27) hk rfl rfl rfl rfl rfl ?_
        refine g_s1 (pc2 := 29) (st2 := [.int (6 : Int32), .ref x0]) hk rfl rfl rfl rfl rfl ?_
        obtain ⟨ho, H⟩ := H
        refine g_call hk rfl rfl i_k201.1 ⟨rfl, rfl⟩ rfl (i_rcv_v ho rfl (by decide)) rfl ?_
        exact H.mono (fun v h2 q => by obtain ⟨r, rfl, q⟩ := q; exact q)
    · have H := H.2 hc
      exact H
theorem b327_10 {x0 : Nat} {x1 : Int32} {h : iH} {Q : Option Value → iH → Prop} (H : (i_obj? h x0 12 ∧ i_C i_MT i_AT L xs 201 [.ref x0, .int (1 : Int32)] h (fun v h1 => ∃ r2 : Int32, v = some (.int r2) ∧ i_P i_MT i_AT L xs 327 15 [some (.ref x0), some (.int x1)] [.int r2] h1 0 0 Q))) : i_P i_MT i_AT L xs 327 10 [some (.ref x0), some (.int x1)] [] h 0 0 Q := by
  have hk := i_k327
  refine g_s1 (pc2 := 11) hk rfl rfl rfl rfl rfl ?_
  refine g_s1 (pc2 := 12) (st2 := [.int (1 : Int32), .ref x0]) hk rfl rfl rfl rfl rfl ?_
  obtain ⟨ho, H⟩ := H
  refine g_call hk rfl rfl i_k201.1 ⟨rfl, rfl⟩ rfl (i_rcv_v ho rfl (by decide)) rfl ?_
  exact H.mono (fun v h2 q => by obtain ⟨r, rfl, q⟩ := q; exact q)
theorem b327_15 {x0 : Nat} {x1 : Int32} {s0 : Int32} {h : iH} {Q : Option Value → iH → Prop} (H : i_P i_MT i_AT L xs 327 45 [some (.ref x0), some (.int x1)] [.int s0] h 0 0 Q) : i_P i_MT i_AT L xs 327 15 [some (.ref x0), some (.int x1)] [.int s0] h 0 0 Q := by
  have hk := i_k327
  refine g_s1 (pc2 := 45) hk rfl rfl rfl rfl rfl ?_
  exact H
theorem b327_32 {x0 : Nat} {x1 : Int32} {s0 : Int32} {h : iH} {Q : Option Value → iH → Prop} (H : i_P i_MT i_AT L xs 327 45 [some (.ref x0), some (.int x1)] [.int s0] h 0 0 Q) : i_P i_MT i_AT L xs 327 32 [some (.ref x0), some (.int x1)] [.int s0] h 0 0 Q := by
  have hk := i_k327
  refine g_s1 (pc2 := 45) hk rfl rfl rfl rfl rfl ?_
  exact H
theorem b327_45 {x0 : Nat} {x1 : Int32} {s0 : Int32} {h : iH} {Q : Option Value → iH → Prop} (H : Q (some (.int s0)) h) : i_P i_MT i_AT L xs 327 45 [some (.ref x0), some (.int x1)] [.int s0] h 0 0 Q := by
  have hk := i_k327
  exact g_ireturn hk rfl (by decide) (by decide) rfl H
/-! StillTownModel.caught()I -/
theorem e328 {x0 : Nat} {h : iH} {Q : Option Value → iH → Prop} (H : i_P i_MT i_AT L xs 328 0 [some (.ref x0)] [] h 0 0 Q) : i_C i_MT i_AT L xs 328 [.ref x0] h Q := ⟨i_m328, i_k328.1, Nat.le_of_ble_eq_true rfl, H⟩
theorem b328_0 {x0 : Nat} {h : iH} {Q : Option Value → iH → Prop} (H : (∃ v1 : Int32, i_fld h x0 12 55 = some (.int v1) ∧ ((¬ v1 = (-1 : Int32) → (∃ v2 : Int32, i_fld h x0 12 56 = some (.int v2) ∧ (i_obj? h x0 12 ∧ i_C i_MT i_AT L xs 202 [.ref x0, .int v2] h (fun v h3 => ∃ r4 : Int32, v = some (.int r4) ∧ i_P i_MT i_AT L xs 328 25 [some (.ref x0)] [.int r4] h3 0 0 Q)))) ∧ (¬ (¬ v1 = (-1 : Int32)) → (i_obj? h x0 12 ∧ i_C i_MT i_AT L xs 201 [.ref x0, .int (6 : Int32)] h (fun v h5 => ∃ r6 : Int32, v = some (.int r6) ∧ i_P i_MT i_AT L xs 328 14 [some (.ref x0)] [.int r6] h5 0 0 Q)))))) : i_P i_MT i_AT L xs 328 0 [some (.ref x0)] [] h 0 0 Q := by
  have hk := i_k328
  refine g_s1 (pc2 := 1) hk rfl rfl rfl rfl rfl ?_
  obtain ⟨v1, ev1, H⟩ := H
  refine g_step (pc2 := 4) hk rfl rfl rfl (s_get ev1) ?_
  refine g_s1 (pc2 := 5) (st2 := [.int (-1 : Int32), .int v1]) hk rfl rfl rfl rfl rfl ?_
  refine g_icmp_ne hk rfl (fun hc => ?_) (fun hc => ?_)
  · have H := H.1 hc
    refine g_s1 (pc2 := 18) hk rfl rfl rfl rfl rfl ?_
    refine g_s1 (pc2 := 19) hk rfl rfl rfl rfl rfl ?_
    obtain ⟨v2, ev2, H⟩ := H
    refine g_step (pc2 := 22) hk rfl rfl rfl (s_get ev2) ?_
    obtain ⟨ho, H⟩ := H
    refine g_call hk rfl rfl i_k202.1 ⟨rfl, rfl⟩ rfl (i_rcv_v ho rfl (by decide)) rfl ?_
    exact H.mono (fun v h2 q => by obtain ⟨r, rfl, q⟩ := q; exact q)
  · have H := H.2 hc
    refine g_s1 (pc2 := 9) hk rfl rfl rfl rfl rfl ?_
    refine g_s1 (pc2 := 11) (st2 := [.int (6 : Int32), .ref x0]) hk rfl rfl rfl rfl rfl ?_
    obtain ⟨ho, H⟩ := H
    refine g_call hk rfl rfl i_k201.1 ⟨rfl, rfl⟩ rfl (i_rcv_v ho rfl (by decide)) rfl ?_
    exact H.mono (fun v h2 q => by obtain ⟨r, rfl, q⟩ := q; exact q)
theorem b328_14 {x0 : Nat} {s0 : Int32} {h : iH} {Q : Option Value → iH → Prop} (H : i_P i_MT i_AT L xs 328 25 [some (.ref x0)] [.int s0] h 0 0 Q) : i_P i_MT i_AT L xs 328 14 [some (.ref x0)] [.int s0] h 0 0 Q := by
  have hk := i_k328
  refine g_s1 (pc2 := 25) hk rfl rfl rfl rfl rfl ?_
  exact H
theorem b328_25 {x0 : Nat} {s0 : Int32} {h : iH} {Q : Option Value → iH → Prop} (H : Q (some (.int s0)) h) : i_P i_MT i_AT L xs 328 25 [some (.ref x0)] [.int s0] h 0 0 Q := by
  have hk := i_k328
  exact g_ireturn hk rfl (by decide) (by decide) rfl H
end
