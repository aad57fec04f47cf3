/-! BLOCKS, 1: what it takes to go on from a label; by program -/
section
variable {L : Nat} {xs : Nat → Int32}
set_option maxRecDepth 20000
set_option maxHeartbeats 1000000
/-! StillTown$Search.whereabouts(III)J -/
theorem e55 {x0 : Nat} {x1 : Int32} {x2 : Int32} {x3 : Int32} {h : iH} {Q : Option Value → iH → Prop} (H : i_P i_MT i_AT L xs 55 0 [some (.ref x0), some (.int x1), some (.int x2), some (.int x3), none, none, none, none, none, none, none, none] [] h 0 0 Q) : i_C i_MT i_AT L xs 55 [.ref x0, .int x1, .int x2, .int x3] h Q := ⟨i_m55, i_k55.1, Nat.le_of_ble_eq_true rfl, H⟩
theorem b55_0 {x0 : Nat} {x1 : Int32} {x2 : Int32} {x3 : Int32} {x4 : Option Value} {x5 : Option Value} {x6 : Option Value} {x7 : Option Value} {x8 : Option Value} {x9 : Option Value} {x10 : Option Value} {x11 : Option Value} {h : iH} {Q : Option Value → iH → Prop} (H : (∃ v1 : Nat, i_fld h x0 5 0 = some (.ref v1) ∧ (∃ v2 : Nat, i_fld h v1 0 1 = some (.ref v2) ∧ (∃ v3 : Nat, i_fld h v2 8 11 = some (.ref v3) ∧ (∃ (n4 : Nat) (f5 : Nat → Int32), i_arI h 0 v3 = some (n4, f5) ∧ ¬ ((3 : Int32) < 0 ∨ n4 ≤ (3 : Int32).toNatClampNeg) ∧ (((f5 (3 : Int32).toNatClampNeg) ≤ 0 → i_P i_MT i_AT L xs 55 20 [some (.ref x0), some (.int x1), some (.int x2), some (.int x3), x4, x5, x6, x7, x8, x9, x10, x11] [.int (0 : Int32)] h 0 0 Q) ∧ (¬ ((f5 (3 : Int32).toNatClampNeg) ≤ 0) → i_P i_MT i_AT L xs 55 20 [some (.ref x0), some (.int x1), some (.int x2), some (.int x3), x4, x5, x6, x7, x8, x9, x10, x11] [.int (1 : Int32)] h 0 0 Q))))))) : i_P i_MT i_AT L xs 55 0 [some (.ref x0), some (.int x1), some (.int x2), some (.int x3), x4, x5, x6, x7, x8, x9, x10, x11] [] h 0 0 Q := by
  have hk := i_k55
  refine g_s1 (pc2 := 1) hk rfl rfl rfl rfl rfl ?_
  obtain ⟨v1, ev1, H⟩ := H
  refine g_step (pc2 := 4) hk rfl rfl rfl (s_get ev1) ?_
  obtain ⟨v2, ev2, H⟩ := H
  refine g_step (pc2 := 7) hk rfl rfl rfl (s_get ev2) ?_
  obtain ⟨v3, ev3, H⟩ := H
  refine g_step (pc2 := 10) hk rfl rfl rfl (s_get ev3) ?_
  refine g_s1 (pc2 := 11) (st2 := [.int (3 : Int32), .ref v3]) hk rfl rfl rfl rfl rfl ?_
  obtain ⟨n4, f5, ef5, hi, H⟩ := H
  refine g_step (pc2 := 12) hk rfl rfl rfl (s_aget (L := L) (xs := xs) ef5 hi) ?_
  refine g_if_le hk rfl (fun hc => ?_) (fun hc => ?_)
  · have H := H.1 hc
    refine g_s1 (pc2 := 20) (st2 := [.int (0 : Int32)]) hk rfl rfl rfl rfl rfl ?_
    exact H
  · have H := H.2 hc
    refine g_s1 (pc2 := 16) (st2 := [.int (1 : Int32)]) hk rfl rfl rfl rfl rfl ?_
    refine g_s1 (pc2 := 20) hk rfl rfl rfl rfl rfl ?_
    exact H
theorem b55_20 {x0 : Nat} {x1 : Int32} {x2 : Int32} {x3 : Int32} {x4 : Option Value} {x5 : Option Value} {x6 : Option Value} {x7 : Option Value} {x8 : Option Value} {x9 : Option Value} {x10 : Option Value} {x11 : Option Value} {s0 : Int32} {h : iH} {Q : Option Value → iH → Prop} (H : i_P i_MT i_AT L xs 55 30 [some (.ref x0), some (.int x1), some (.int x2), some (.int x3), some (.int s0), some (.long ((1 : Int64) <<< (x2.toInt64 &&& 63))), none, some (.int (1 : Int32)), x8, x9, x10, x11] [] h 0 0 Q) : i_P i_MT i_AT L xs 55 20 [some (.ref x0), some (.int x1), some (.int x2), some (.int x3), x4, x5, x6, x7, x8, x9, x10, x11] [.int s0] h 0 0 Q := by
  have hk := i_k55
  refine g_s1 (pc2 := 22) (lo2 := [some (.ref x0), some (.int x1), some (.int x2), some (.int x3), some (.int s0), x5, x6, x7, x8, x9, x10, x11]) hk rfl rfl rfl rfl rfl ?_
  refine g_s1 (pc2 := 23) (st2 := [.long (1 : Int64)]) hk rfl rfl rfl rfl rfl ?_
  refine g_s1 (pc2 := 24) hk rfl rfl rfl rfl rfl ?_
  refine g_s1 (pc2 := 25) hk rfl rfl rfl rfl rfl ?_
  refine g_s1 (pc2 := 27) (lo2 := [some (.ref x0), some (.int x1), some (.int x2), some (.int x3), some (.int s0), some (.long ((1 : Int64) <<< (x2.toInt64 &&& 63))), none, x7, x8, x9, x10, x11]) hk rfl rfl rfl rfl rfl ?_
  refine g_s1 (pc2 := 28) (st2 := [.int (1 : Int32)]) hk rfl rfl rfl rfl rfl ?_
  refine g_s1 (pc2 := 30) (lo2 := [some (.ref x0), some (.int x1), some (.int x2), some (.int x3), some (.int s0), some (.long ((1 : Int64) <<< (x2.toInt64 &&& 63))), none, some (.int (1 : Int32)), x8, x9, x10, x11]) hk rfl rfl rfl rfl rfl ?_
  exact H
theorem b55_30 {x0 : Nat} {x1 : Int32} {x2 : Int32} {x3 : Int32} {x4 : Int32} {x5 : Int64} {x7 : Int32} {x8 : Option Value} {x9 : Option Value} {x10 : Option Value} {x11 : Option Value} {h : iH} {Q : Option Value → iH → Prop} (H : ((x3 < x7 → Q (some (.long x5)) h) ∧ (¬ (x3 < x7) → (∃ v1 : Nat, i_fld h x0 5 0 = some (.ref v1) ∧ (i_obj? h v1 0 ∧ i_C i_MT i_AT L xs 10 [.ref v1, .int x1, .int x7] h (fun v h2 => ∃ r3 : Int64, v = some (.long r3) ∧ i_P i_MT i_AT L xs 55 46 [some (.ref x0), some (.int x1), some (.int x2), some (.int x3), some (.int x4), some (.long x5), none, some (.int x7), x8, x9, x10, x11] [.long r3] h2 0 0 Q)))))) : i_P i_MT i_AT L xs 55 30 [some (.ref x0), some (.int x1), some (.int x2), some (.int x3), some (.int x4), some (.long x5), none, some (.int x7), x8, x9, x10, x11] [] h 0 0 Q := by
  have hk := i_k55
  refine g_s1 (pc2 := 32) hk rfl rfl rfl rfl rfl ?_
  refine g_s1 (pc2 := 33) hk rfl rfl rfl rfl rfl ?_
  refine g_icmp_gt hk rfl (fun hc => ?_) (fun hc => ?_)
  · have H := H.1 hc
    refine g_s1 (pc2 := 110) hk rfl rfl rfl rfl rfl ?_
    exact g_lreturn hk rfl (by decide) (by decide) rfl H
  · have H := H.2 hc
    refine g_s1 (pc2 := 37) hk rfl rfl rfl rfl rfl ?_
    obtain ⟨v1, ev1, H⟩ := H
    refine g_step (pc2 := 40) hk rfl rfl rfl (s_get ev1) ?_
    refine g_s1 (pc2 := 41) hk rfl rfl rfl rfl rfl ?_
    refine g_s1 (pc2 := 43) hk rfl rfl rfl rfl rfl ?_
    obtain ⟨ho, H⟩ := H
    refine g_call hk rfl rfl i_k10.1 ⟨rfl, rfl⟩ rfl (i_rcv_v ho rfl (by decide)) rfl ?_
    exact H.mono (fun v h2 q => by obtain ⟨r, rfl, q⟩ := q; exact q)
theorem b55_46 {x0 : Nat} {x1 : Int32} {x2 : Int32} {x3 : Int32} {x4 : Int32} {x5 : Int64} {x7 : Int32} {x8 : Option Value} {x9 : Option Value} {x10 : Option Value} {x11 : Option Value} {s0 : Int64} {h : iH} {Q : Option Value → iH → Prop} (H : ((x4 = 0 → i_P i_MT i_AT L xs 55 78 [some (.ref x0), some (.int x1), some (.int x2), some (.int x3), some (.int x4), some (.long x5), none, some (.int x7), some (.long (s0 ^^^ (-1 : Int64))), none, x10, x11] [] h 0 0 Q) ∧ (¬ (x4 = 0) → (∃ v1 : Nat, i_fld h x0 5 0 = some (.ref v1) ∧ (i_obj? h v1 0 ∧ i_C i_MT i_AT L xs 9 [.ref v1, .int x1, .int x7] h (fun v h2 => ∃ r3 : Int32, v = some (.int r3) ∧ i_P i_MT i_AT L xs 55 67 [some (.ref x0), some (.int x1), some (.int x2), some (.int x3), some (.int x4), some (.long x5), none, some (.int x7), some (.long (s0 ^^^ (-1 : Int64))), none, x10, x11] [.int r3] h2 0 0 Q)))))) : i_P i_MT i_AT L xs 55 46 [some (.ref x0), some (.int x1), some (.int x2), some (.int x3), some (.int x4), some (.long x5), none, some (.int x7), x8, x9, x10, x11] [.long s0] h 0 0 Q := by
  have hk := i_k55
  refine g_step (pc2 := 49) (st2 := [.long (-1 : Int64), .long s0]) hk rfl rfl rfl rfl ?_
  refine g_s1 (pc2 := 50) hk rfl rfl rfl rfl rfl ?_
  refine g_s1 (pc2 := 52) (lo2 := [some (.ref x0), some (.int x1), some (.int x2), some (.int x3), some (.int x4), some (.long x5), none, some (.int x7), some (.long (s0 ^^^ (-1 : Int64))), none, x10, x11]) hk rfl rfl rfl rfl rfl ?_
  refine g_s1 (pc2 := 54) hk rfl rfl rfl rfl rfl ?_
  refine g_if_eq hk rfl (fun hc => ?_) (fun hc => ?_)
  · have H := H.1 hc
    exact H
  · have H := H.2 hc
    refine g_s1 (pc2 := 58) hk rfl rfl rfl rfl rfl ?_
    obtain ⟨v1, ev1, H⟩ := H
    refine g_step (pc2 := 61) hk rfl rfl rfl (s_get ev1) ?_
    refine g_s1 (pc2 := 62) hk rfl rfl rfl rfl rfl ?_
    refine g_s1 (pc2 := 64) hk rfl rfl rfl rfl rfl ?_
    obtain ⟨ho, H⟩ := H
    refine g_call hk rfl rfl i_k9.1 ⟨rfl, rfl⟩ rfl (i_rcv_v ho rfl (by decide)) rfl ?_
    exact H.mono (fun v h2 q => by obtain ⟨r, rfl, q⟩ := q; exact q)
theorem b55_67 {x0 : Nat} {x1 : Int32} {x2 : Int32} {x3 : Int32} {x4 : Int32} {x5 : Int64} {x7 : Int32} {x8 : Int64} {x10 : Option Value} {x11 : Option Value} {s0 : Int32} {h : iH} {Q : Option Value → iH → Prop} (H : ((s0 = 0 → i_P i_MT i_AT L xs 55 78 [some (.ref x0), some (.int x1), some (.int x2), some (.int x3), some (.int x4), some (.long x5), none, some (.int x7), some (.long x8), none, x10, x11] [] h 0 0 Q) ∧ (¬ (s0 = 0) → i_P i_MT i_AT L xs 55 80 [some (.ref x0), some (.int x1), some (.int x2), some (.int x3), some (.int x4), some (.long x5), none, some (.int x7), some (.long x8), none, x10, x11] [.long (x5 &&& x8)] h 0 0 Q))) : i_P i_MT i_AT L xs 55 67 [some (.ref x0), some (.int x1), some (.int x2), some (.int x3), some (.int x4), some (.long x5), none, some (.int x7), some (.long x8), none, x10, x11] [.int s0] h 0 0 Q := by
  have hk := i_k55
  refine g_if_eq hk rfl (fun hc => ?_) (fun hc => ?_)
  · have H := H.1 hc
    exact H
  · have H := H.2 hc
    refine g_s1 (pc2 := 72) hk rfl rfl rfl rfl rfl ?_
    refine g_s1 (pc2 := 74) hk rfl rfl rfl rfl rfl ?_
    refine g_s1 (pc2 := 75) hk rfl rfl rfl rfl rfl ?_
    refine g_s1 (pc2 := 80) hk rfl rfl rfl rfl rfl ?_
    exact H
theorem b55_78 {x0 : Nat} {x1 : Int32} {x2 : Int32} {x3 : Int32} {x4 : Int32} {x5 : Int64} {x7 : Int32} {x8 : Int64} {x10 : Option Value} {x11 : Option Value} {h : iH} {Q : Option Value → iH → Prop} (H : i_P i_MT i_AT L xs 55 80 [some (.ref x0), some (.int x1), some (.int x2), some (.int x3), some (.int x4), some (.long x5), none, some (.int x7), some (.long x8), none, x10, x11] [.long x5] h 0 0 Q) : i_P i_MT i_AT L xs 55 78 [some (.ref x0), some (.int x1), some (.int x2), some (.int x3), some (.int x4), some (.long x5), none, some (.int x7), some (.long x8), none, x10, x11] [] h 0 0 Q := by
  have hk := i_k55
  refine g_s1 (pc2 := 80) hk rfl rfl rfl rfl rfl ?_
  exact H
theorem b55_80 {x0 : Nat} {x1 : Int32} {x2 : Int32} {x3 : Int32} {x4 : Int32} {x5 : Int64} {x7 : Int32} {x8 : Int64} {x10 : Option Value} {x11 : Option Value} {s0 : Int64} {h : iH} {Q : Option Value → iH → Prop} (H : (∃ v1 : Nat, i_fld h x0 5 0 = some (.ref v1) ∧ (∃ v2 : Nat, i_fld h v1 0 0 = some (.ref v2) ∧ (i_obj? h v2 2 ∧ i_C i_MT i_AT L xs 23 [.ref v2, .long x5] h (fun v h3 => ∃ r4 : Int64, v = some (.long r4) ∧ i_P i_MT i_AT L xs 55 96 [some (.ref x0), some (.int x1), some (.int x2), some (.int x3), some (.int x4), some (.long x5), none, some (.int x7), some (.long x8), none, some (.long s0), none] [.long r4, .long s0] h3 0 0 Q))))) : i_P i_MT i_AT L xs 55 80 [some (.ref x0), some (.int x1), some (.int x2), some (.int x3), some (.int x4), some (.long x5), none, some (.int x7), some (.long x8), none, x10, x11] [.long s0] h 0 0 Q := by
  have hk := i_k55
  refine g_s1 (pc2 := 82) (lo2 := [some (.ref x0), some (.int x1), some (.int x2), some (.int x3), some (.int x4), some (.long x5), none, some (.int x7), some (.long x8), none, some (.long s0), none]) hk rfl rfl rfl rfl rfl ?_
  refine g_s1 (pc2 := 84) hk rfl rfl rfl rfl rfl ?_
  refine g_s1 (pc2 := 85) hk rfl rfl rfl rfl rfl ?_
  obtain ⟨v1, ev1, H⟩ := H
  refine g_step (pc2 := 88) hk rfl rfl rfl (s_get ev1) ?_
  obtain ⟨v2, ev2, H⟩ := H
  refine g_step (pc2 := 91) hk rfl rfl rfl (s_get ev2) ?_
  refine g_s1 (pc2 := 93) hk rfl rfl rfl rfl rfl ?_
  obtain ⟨ho, H⟩ := H
  refine g_call hk rfl rfl i_k23.1 ⟨rfl, rfl⟩ rfl (i_rcv_v ho rfl (by decide)) rfl ?_
  exact H.mono (fun v h2 q => by obtain ⟨r, rfl, q⟩ := q; exact q)
theorem b55_96 {x0 : Nat} {x1 : Int32} {x2 : Int32} {x3 : Int32} {x4 : Int32} {x5 : Int64} {x7 : Int32} {x8 : Int64} {x10 : Int64} {s0 : Int64} {s1 : Int64} {h : iH} {Q : Option Value → iH → Prop} (H : i_P i_MT i_AT L xs 55 30 [some (.ref x0), some (.int x1), some (.int x2), some (.int x3), some (.int x4), some (.long (s0 ||| (s1 &&& x8))), none, some (.int (x7 + 1)), some (.long x8), none, some (.long x10), none] [] h 0 0 Q) : i_P i_MT i_AT L xs 55 96 [some (.ref x0), some (.int x1), some (.int x2), some (.int x3), some (.int x4), some (.long x5), none, some (.int x7), some (.long x8), none, some (.long x10), none] [.long s1, .long s0] h 0 0 Q := by
  have hk := i_k55
  refine g_s1 (pc2 := 98) hk rfl rfl rfl rfl rfl ?_
  refine g_s1 (pc2 := 99) hk rfl rfl rfl rfl rfl ?_
  refine g_s1 (pc2 := 100) hk rfl rfl rfl rfl rfl ?_
  refine g_s1 (pc2 := 102) (lo2 := [some (.ref x0), some (.int x1), some (.int x2), some (.int x3), some (.int x4), some (.long (s0 ||| (s1 &&& x8))), none, some (.int x7), some (.long x8), none, some (.long x10), none]) hk rfl rfl rfl rfl rfl ?_
  refine g_s1 (pc2 := 105) (lo2 := [some (.ref x0), some (.int x1), some (.int x2), some (.int x3), some (.int x4), some (.long (s0 ||| (s1 &&& x8))), none, some (.int (x7 + 1)), some (.long x8), none, some (.long x10), none]) hk rfl rfl rfl rfl rfl ?_
  refine g_s1 (pc2 := 30) hk rfl rfl rfl rfl rfl ?_
  exact H
/-! StillTown$Search.soonestMeeting(II)I -/
theorem e56 {x0 : Nat} {x1 : Int32} {x2 : Int32} {h : iH} {Q : Option Value → iH → Prop} (H : i_P i_MT i_AT L xs 56 0 [some (.ref x0), some (.int x1), some (.int x2), none, none, none, none] [] h 0 0 Q) : i_C i_MT i_AT L xs 56 [.ref x0, .int x1, .int x2] h Q := ⟨i_m56, i_k56.1, Nat.le_of_ble_eq_true rfl, H⟩
theorem b56_0 {x0 : Nat} {x1 : Int32} {x2 : Int32} {x3 : Option Value} {x4 : Option Value} {x5 : Option Value} {x6 : Option Value} {h : iH} {Q : Option Value → iH → Prop} (H : (∃ v1 : Nat, i_fld h x0 5 0 = some (.ref v1) ∧ (∃ v2 : Nat, i_fld h v1 0 1 = some (.ref v2) ∧ (∃ v3 : Nat, i_fld h v2 8 12 = some (.ref v3) ∧ (∃ v4 : Nat, i_fld h x0 5 6 = some (.ref v4) ∧ (i_C i_MT i_AT L xs 348 [.ref v4, .long (0 : Int64)] h (fun v h5 => v = none ∧ i_P i_MT i_AT L xs 56 19 [some (.ref x0), some (.int x1), some (.int x2), some (.ref v3), x4, x5, x6] [] h5 0 0 Q))))))) : i_P i_MT i_AT L xs 56 0 [some (.ref x0), some (.int x1), some (.int x2), x3, x4, x5, x6] [] h 0 0 Q := by
  have hk := i_k56
  refine g_s1 (pc2 := 1) hk rfl rfl rfl rfl rfl ?_
  obtain ⟨v1, ev1, H⟩ := H
  refine g_step (pc2 := 4) hk rfl rfl rfl (s_get ev1) ?_
  obtain ⟨v2, ev2, H⟩ := H
  refine g_step (pc2 := 7) hk rfl rfl rfl (s_get ev2) ?_
  obtain ⟨v3, ev3, H⟩ := H
  refine g_step (pc2 := 10) hk rfl rfl rfl (s_get ev3) ?_
  refine g_s1 (pc2 := 11) (lo2 := [some (.ref x0), some (.int x1), some (.int x2), some (.ref v3), x4, x5, x6]) hk rfl rfl rfl rfl rfl ?_
  refine g_s1 (pc2 := 12) hk rfl rfl rfl rfl rfl ?_
  obtain ⟨v4, ev4, H⟩ := H
  refine g_step (pc2 := 15) hk rfl rfl rfl (s_get ev4) ?_
  refine g_s1 (pc2 := 16) (st2 := [.long (0 : Int64), .ref v4]) hk rfl rfl rfl rfl rfl ?_
  refine g_call hk rfl rfl i_k348.1 ⟨rfl, rfl⟩ rfl (i_rcv_0 rfl) rfl ?_
  exact H.mono (fun v h2 q => by obtain ⟨rfl, q⟩ := q; exact q)
theorem b56_19 {x0 : Nat} {x1 : Int32} {x2 : Int32} {x3 : Nat} {x4 : Option Value} {x5 : Option Value} {x6 : Option Value} {h : iH} {Q : Option Value → iH → Prop} (H : (∃ v1 : Nat, i_fld h x0 5 6 = some (.ref v1) ∧ (∃ v2 : Nat, i_fld h x3 3 2 = some (.ref v2) ∧ (∃ (n3 : Nat) (f4 : Nat → Int32), i_arI h 0 v2 = some (n3, f4) ∧ ¬ (x1 < 0 ∨ n3 ≤ x1.toNatClampNeg) ∧ (∃ v5 : Nat, i_fld h x3 3 2 = some (.ref v5) ∧ (∃ (n6 : Nat) (f7 : Nat → Int32), i_arI h 0 v5 = some (n6, f7) ∧ ¬ (x2 < 0 ∨ n6 ≤ x2.toNatClampNeg) ∧ (∃ (n8 : Nat) (f9 : Nat → Int64), i_arJ h v1 = some (n8, f9) ∧ ¬ ((f4 x1.toNatClampNeg) < 0 ∨ n8 ≤ (f4 x1.toNatClampNeg).toNatClampNeg) ∧ i_P i_MT i_AT L xs 56 38 [some (.ref x0), some (.int x1), some (.int x2), some (.ref x3), x4, x5, x6] [] (i_siJ h v1 (f4 x1.toNatClampNeg).toNatClampNeg ((1 : Int64) <<< ((f7 x2.toNatClampNeg).toInt64 &&& 63))) 0 0 Q))))))) : i_P i_MT i_AT L xs 56 19 [some (.ref x0), some (.int x1), some (.int x2), some (.ref x3), x4, x5, x6] [] h 0 0 Q := by
  have hk := i_k56
  refine g_s1 (pc2 := 20) hk rfl rfl rfl rfl rfl ?_
  obtain ⟨v1, ev1, H⟩ := H
  refine g_step (pc2 := 23) hk rfl rfl rfl (s_get ev1) ?_
  refine g_s1 (pc2 := 24) hk rfl rfl rfl rfl rfl ?_
  obtain ⟨v2, ev2, H⟩ := H
  refine g_step (pc2 := 27) hk rfl rfl rfl (s_get ev2) ?_
  refine g_s1 (pc2 := 28) hk rfl rfl rfl rfl rfl ?_
  obtain ⟨n3, f4, ef4, hi, H⟩ := H
  refine g_step (pc2 := 29) hk rfl rfl rfl (s_aget (L := L) (xs := xs) ef4 hi) ?_
  refine g_s1 (pc2 := 30) (st2 := [.long (1 : Int64), .int (f4 x1.toNatClampNeg), .ref v1]) hk rfl rfl rfl rfl rfl ?_
  refine g_s1 (pc2 := 31) hk rfl rfl rfl rfl rfl ?_
  obtain ⟨v5, ev5, H⟩ := H
  refine g_step (pc2 := 34) hk rfl rfl rfl (s_get ev5) ?_
  refine g_s1 (pc2 := 35) hk rfl rfl rfl rfl rfl ?_
  obtain ⟨n6, f7, ef7, hi, H⟩ := H
  refine g_step (pc2 := 36) hk rfl rfl rfl (s_aget (L := L) (xs := xs) ef7 hi) ?_
  refine g_s1 (pc2 := 37) hk rfl rfl rfl rfl rfl ?_
  obtain ⟨n8, f9, ef9, hi, H⟩ := H
  refine g_step (pc2 := 38) hk rfl rfl rfl (s_lput ef9 hi) ?_
  exact H
theorem b56_38 {x0 : Nat} {x1 : Int32} {x2 : Int32} {x3 : Nat} {x4 : Option Value} {x5 : Option Value} {x6 : Option Value} {h : iH} {Q : Option Value → iH → Prop} (H : i_P i_MT i_AT L xs 56 41 [some (.ref x0), some (.int x1), some (.int x2), some (.ref x3), some (.int (1 : Int32)), x5, x6] [] h 0 0 Q) : i_P i_MT i_AT L xs 56 38 [some (.ref x0), some (.int x1), some (.int x2), some (.ref x3), x4, x5, x6] [] h 0 0 Q := by
  have hk := i_k56
  refine g_s1 (pc2 := 39) (st2 := [.int (1 : Int32)]) hk rfl rfl rfl rfl rfl ?_
  refine g_s1 (pc2 := 41) (lo2 := [some (.ref x0), some (.int x1), some (.int x2), some (.ref x3), some (.int (1 : Int32)), x5, x6]) hk rfl rfl rfl rfl rfl ?_
  exact H
theorem b56_41 {x0 : Nat} {x1 : Int32} {x2 : Int32} {x3 : Nat} {x4 : Int32} {x5 : Option Value} {x6 : Option Value} {h : iH} {Q : Option Value → iH → Prop} (H : (((30 : Int32) < x4 → Q (some (.int (-1 : Int32))) h) ∧ (¬ ((30 : Int32) < x4) → ((x4 = (1 : Int32) → i_P i_MT i_AT L xs 56 67 [some (.ref x0), some (.int x1), some (.int x2), some (.ref x3), some (.int x4), x5, x6] [] h 0 0 Q) ∧ (¬ (x4 = (1 : Int32)) → (∃ v1 : Nat, i_fld h x0 5 0 = some (.ref v1) ∧ (∃ v2 : Nat, i_fld h v1 0 1 = some (.ref v2) ∧ (∃ v3 : Int32, i_fld h v2 8 5 = some (.int v3) ∧ ((v3 ≤ 0 → i_P i_MT i_AT L xs 56 93 [some (.ref x0), some (.int x1), some (.int x2), some (.ref x3), some (.int x4), x5, x6] [] h 0 0 Q) ∧ (¬ (v3 ≤ 0) → i_P i_MT i_AT L xs 56 67 [some (.ref x0), some (.int x1), some (.int x2), some (.ref x3), some (.int x4), x5, x6] [] h 0 0 Q)))))))))) : i_P i_MT i_AT L xs 56 41 [some (.ref x0), some (.int x1), some (.int x2), some (.ref x3), some (.int x4), x5, x6] [] h 0 0 Q := by
  have hk := i_k56
  refine g_s1 (pc2 := 43) hk rfl rfl rfl rfl rfl ?_
  refine g_s1 (pc2 := 45) (st2 := [.int (30 : Int32), .int x4]) hk rfl rfl rfl rfl rfl ?_
  refine g_icmp_gt hk rfl (fun hc => ?_) (fun hc => ?_)
  · have H := H.1 hc
    refine g_s1 (pc2 := 218) (st2 := [.int (-1 : Int32)]) hk rfl rfl rfl rfl rfl ?_
    exact g_ireturn hk rfl (by decide) (by decide) rfl H
  · have H := H.2 hc
    refine g_s1 (pc2 := 50) hk rfl rfl rfl rfl rfl ?_
    refine g_s1 (pc2 := 51) (st2 := [.int (1 : Int32), .int x4]) hk rfl rfl rfl rfl rfl ?_
    refine g_icmp_eq hk rfl (fun hc => ?_) (fun hc => ?_)
    · have H := H.1 hc
      exact H
    · have H := H.2 hc
      refine g_s1 (pc2 := 55) hk rfl rfl rfl rfl rfl ?_
      obtain ⟨v1, ev1, H⟩ := H
      refine g_step (pc2 := 58) hk rfl rfl rfl (s_get ev1) ?_
      obtain ⟨v2, ev2, H⟩ := H
      refine g_step (pc2 := 61) hk rfl rfl rfl (s_get ev2) ?_
      obtain ⟨v3, ev3, H⟩ := H
      refine g_step (pc2 := 64) hk rfl rfl rfl (s_get ev3) ?_
      refine g_if_le hk rfl (fun hc => ?_) (fun hc => ?_)
      · have H := H.1 hc
        exact H
      · have H := H.2 hc
        exact H
theorem b56_67 {x0 : Nat} {x1 : Int32} {x2 : Int32} {x3 : Nat} {x4 : Int32} {x5 : Option Value} {x6 : Option Value} {h : iH} {Q : Option Value → iH → Prop} (H : (∃ v1 : Nat, i_fld h x3 3 4 = some (.ref v1) ∧ (∃ (n2 : Nat) (f3 : Nat → Int32), i_arI h 0 v1 = some (n2, f3) ∧ ¬ (x1 < 0 ∨ n2 ≤ x1.toNatClampNeg) ∧ (∃ v4 : Nat, i_fld h x3 3 4 = some (.ref v4) ∧ (∃ (n5 : Nat) (f6 : Nat → Int32), i_arI h 0 v4 = some (n5, f6) ∧ ¬ (x2 < 0 ∨ n5 ≤ x2.toNatClampNeg) ∧ (∃ v7 : Nat, i_fld h x0 5 0 = some (.ref v7) ∧ (∃ v8 : Nat, i_fld h v7 0 2 = some (.ref v8) ∧ (∃ (n9 : Nat) (f10 : Nat → Int64), i_arJ h v8 = some (n9, f10) ∧ ¬ (x4 < 0 ∨ n9 ≤ x4.toNatClampNeg) ∧ (i_obj? h x0 5 ∧ i_C i_MT i_AT L xs 57 [.ref x0, .int (f3 x1.toNatClampNeg), .int (f6 x2.toNatClampNeg), .long (f10 x4.toNatClampNeg)] h (fun v h11 => v = none ∧ i_P i_MT i_AT L xs 56 93 [some (.ref x0), some (.int x1), some (.int x2), some (.ref x3), some (.int x4), x5, x6] [] h11 0 0 Q)))))))))) : i_P i_MT i_AT L xs 56 67 [some (.ref x0), some (.int x1), some (.int x2), some (.ref x3), some (.int x4), x5, x6] [] h 0 0 Q := by
  have hk := i_k56
  refine g_s1 (pc2 := 68) hk rfl rfl rfl rfl rfl ?_
  refine g_s1 (pc2 := 69) hk rfl rfl rfl rfl rfl ?_
  obtain ⟨v1, ev1, H⟩ := H
  refine g_step (pc2 := 72) hk rfl rfl rfl (s_get ev1) ?_
  refine g_s1 (pc2 := 73) hk rfl rfl rfl rfl rfl ?_
  obtain ⟨n2, f3, ef3, hi, H⟩ := H
  refine g_step (pc2 := 74) hk rfl rfl rfl (s_aget (L := L) (xs := xs) ef3 hi) ?_
  refine g_s1 (pc2 := 75) hk rfl rfl rfl rfl rfl ?_
  obtain ⟨v4, ev4, H⟩ := H
  refine g_step (pc2 := 78) hk rfl rfl rfl (s_get ev4) ?_
  refine g_s1 (pc2 := 79) hk rfl rfl rfl rfl rfl ?_
  obtain ⟨n5, f6, ef6, hi, H⟩ := H
  refine g_step (pc2 := 80) hk rfl rfl rfl (s_aget (L := L) (xs := xs) ef6 hi) ?_
  refine g_s1 (pc2 := 81) hk rfl rfl rfl rfl rfl ?_
  obtain ⟨v7, ev7, H⟩ := H
  refine g_step (pc2 := 84) hk rfl rfl rfl (s_get ev7) ?_
  obtain ⟨v8, ev8, H⟩ := H
  refine g_step (pc2 := 87) hk rfl rfl rfl (s_get ev8) ?_
  refine g_s1 (pc2 := 89) hk rfl rfl rfl rfl rfl ?_
  obtain ⟨n9, f10, ef10, hi, H⟩ := H
  refine g_step (pc2 := 90) hk rfl rfl rfl (s_lget ef10 hi) ?_
  obtain ⟨ho, H⟩ := H
  refine g_call hk rfl rfl i_k57.1 ⟨rfl, rfl⟩ rfl (i_rcv_v ho rfl (by decide)) rfl ?_
  exact H.mono (fun v h2 q => by obtain ⟨rfl, q⟩ := q; exact q)
theorem b56_93 {x0 : Nat} {x1 : Int32} {x2 : Int32} {x3 : Nat} {x4 : Int32} {x5 : Option Value} {x6 : Option Value} {h : iH} {Q : Option Value → iH → Prop} (H : (∃ v1 : Nat, i_fld h x0 5 7 = some (.ref v1) ∧ (i_C i_MT i_AT L xs 348 [.ref v1, .long (0 : Int64)] h (fun v h2 => v = none ∧ i_P i_MT i_AT L xs 56 101 [some (.ref x0), some (.int x1), some (.int x2), some (.ref x3), some (.int x4), x5, x6] [] h2 0 0 Q)))) : i_P i_MT i_AT L xs 56 93 [some (.ref x0), some (.int x1), some (.int x2), some (.ref x3), some (.int x4), x5, x6] [] h 0 0 Q := by
  have hk := i_k56
  refine g_s1 (pc2 := 94) hk rfl rfl rfl rfl rfl ?_
  obtain ⟨v1, ev1, H⟩ := H
  refine g_step (pc2 := 97) hk rfl rfl rfl (s_get ev1) ?_
  refine g_s1 (pc2 := 98) (st2 := [.long (0 : Int64), .ref v1]) hk rfl rfl rfl rfl rfl ?_
  refine g_call hk rfl rfl i_k348.1 ⟨rfl, rfl⟩ rfl (i_rcv_0 rfl) rfl ?_
  exact H.mono (fun v h2 q => by obtain ⟨rfl, q⟩ := q; exact q)
theorem b56_101 {x0 : Nat} {x1 : Int32} {x2 : Int32} {x3 : Nat} {x4 : Int32} {x5 : Option Value} {x6 : Option Value} {h : iH} {Q : Option Value → iH → Prop} (H : i_P i_MT i_AT L xs 56 104 [some (.ref x0), some (.int x1), some (.int x2), some (.ref x3), some (.int x4), some (.int (0 : Int32)), x6] [] h 0 0 Q) : i_P i_MT i_AT L xs 56 101 [some (.ref x0), some (.int x1), some (.int x2), some (.ref x3), some (.int x4), x5, x6] [] h 0 0 Q := by
  have hk := i_k56
  refine g_s1 (pc2 := 102) (st2 := [.int (0 : Int32)]) hk rfl rfl rfl rfl rfl ?_
  refine g_s1 (pc2 := 104) (lo2 := [some (.ref x0), some (.int x1), some (.int x2), some (.ref x3), some (.int x4), some (.int (0 : Int32)), x6]) hk rfl rfl rfl rfl rfl ?_
  exact H
theorem b56_104 {x0 : Nat} {x1 : Int32} {x2 : Int32} {x3 : Nat} {x4 : Int32} {x5 : Int32} {x6 : Option Value} {h : iH} {Q : Option Value → iH → Prop} (H : (((3 : Int32) ≤ x5 → i_P i_MT i_AT L xs 56 151 [some (.ref x0), some (.int x1), some (.int x2), some (.ref x3), some (.int x4), some (.int (0 : Int32)), x6] [] h 0 0 Q) ∧ (¬ ((3 : Int32) ≤ x5) → i_P i_MT i_AT L xs 56 113 [some (.ref x0), some (.int x1), some (.int x2), some (.ref x3), some (.int x4), some (.int x5), some (.int (0 : Int32))] [] h 0 0 Q))) : i_P i_MT i_AT L xs 56 104 [some (.ref x0), some (.int x1), some (.int x2), some (.ref x3), some (.int x4), some (.int x5), x6] [] h 0 0 Q := by
  have hk := i_k56
  refine g_s1 (pc2 := 106) hk rfl rfl rfl rfl rfl ?_
  refine g_s1 (pc2 := 107) (st2 := [.int (3 : Int32), .int x5]) hk rfl rfl rfl rfl rfl ?_
  refine g_icmp_ge hk rfl (fun hc => ?_) (fun hc => ?_)
  · have H := H.1 hc
    refine g_s1 (pc2 := 149) (st2 := [.int (0 : Int32)]) hk rfl rfl rfl rfl rfl ?_
    refine g_s1 (pc2 := 151) (lo2 := [some (.ref x0), some (.int x1), some (.int x2), some (.ref x3), some (.int x4), some (.int (0 : Int32)), x6]) hk rfl rfl rfl rfl rfl ?_
    exact H
  · have H := H.2 hc
    refine g_s1 (pc2 := 111) (st2 := [.int (0 : Int32)]) hk rfl rfl rfl rfl rfl ?_
    refine g_s1 (pc2 := 113) (lo2 := [some (.ref x0), some (.int x1), some (.int x2), some (.ref x3), some (.int x4), some (.int x5), some (.int (0 : Int32))]) hk rfl rfl rfl rfl rfl ?_
    exact H
theorem b56_113 {x0 : Nat} {x1 : Int32} {x2 : Int32} {x3 : Nat} {x4 : Int32} {x5 : Int32} {x6 : Int32} {h : iH} {Q : Option Value → iH → Prop} (H : (∃ v1 : Nat, i_fld h x0 5 0 = some (.ref v1) ∧ (∃ v2 : Nat, i_fld h v1 0 0 = some (.ref v2) ∧ (∃ v3 : Int32, i_fld h v2 2 2 = some (.int v3) ∧ ((v3 ≤ x6 → i_P i_MT i_AT L xs 56 104 [some (.ref x0), some (.int x1), some (.int x2), some (.ref x3), some (.int x4), some (.int (x5 + 1)), some (.int x6)] [] h 0 0 Q) ∧ (¬ (v3 ≤ x6) → (i_obj? h x0 5 ∧ i_C i_MT i_AT L xs 58 [.ref x0, .int x5, .int x6] h (fun v h4 => v = none ∧ i_P i_MT i_AT L xs 56 136 [some (.ref x0), some (.int x1), some (.int x2), some (.ref x3), some (.int x4), some (.int x5), some (.int x6)] [] h4 0 0 Q)))))))) : i_P i_MT i_AT L xs 56 113 [some (.ref x0), some (.int x1), some (.int x2), some (.ref x3), some (.int x4), some (.int x5), some (.int x6)] [] h 0 0 Q := by
  have hk := i_k56
  refine g_s1 (pc2 := 115) hk rfl rfl rfl rfl rfl ?_
  refine g_s1 (pc2 := 116) hk rfl rfl rfl rfl rfl ?_
  obtain ⟨v1, ev1, H⟩ := H
  refine g_step (pc2 := 119) hk rfl rfl rfl (s_get ev1) ?_
  obtain ⟨v2, ev2, H⟩ := H
  refine g_step (pc2 := 122) hk rfl rfl rfl (s_get ev2) ?_
  obtain ⟨v3, ev3, H⟩ := H
  refine g_step (pc2 := 125) hk rfl rfl rfl (s_get ev3) ?_
  refine g_icmp_ge hk rfl (fun hc => ?_) (fun hc => ?_)
  · have H := H.1 hc
    refine g_s1 (pc2 := 145) (lo2 := [some (.ref x0), some (.int x1), some (.int x2), some (.ref x3), some (.int x4), some (.int (x5 + 1)), some (.int x6)]) hk rfl rfl rfl rfl rfl ?_
    refine g_s1 (pc2 := 104) hk rfl rfl rfl rfl rfl ?_
    exact H
  · have H := H.2 hc
    refine g_s1 (pc2 := 129) hk rfl rfl rfl rfl rfl ?_
    refine g_s1 (pc2 := 131) hk rfl rfl rfl rfl rfl ?_
    refine g_s1 (pc2 := 133) hk rfl rfl rfl rfl rfl ?_
    obtain ⟨ho, H⟩ := H
    refine g_call hk rfl rfl i_k58.1 ⟨rfl, rfl⟩ rfl (i_rcv_v ho rfl (by decide)) rfl ?_
    exact H.mono (fun v h2 q => by obtain ⟨rfl, q⟩ := q; exact q)
theorem b56_136 {x0 : Nat} {x1 : Int32} {x2 : Int32} {x3 : Nat} {x4 : Int32} {x5 : Int32} {x6 : Int32} {h : iH} {Q : Option Value → iH → Prop} (H : i_P i_MT i_AT L xs 56 113 [some (.ref x0), some (.int x1), some (.int x2), some (.ref x3), some (.int x4), some (.int x5), some (.int (x6 + 1))] [] h 0 0 Q) : i_P i_MT i_AT L xs 56 136 [some (.ref x0), some (.int x1), some (.int x2), some (.ref x3), some (.int x4), some (.int x5), some (.int x6)] [] h 0 0 Q := by
  have hk := i_k56
  refine g_s1 (pc2 := 139) (lo2 := [some (.ref x0), some (.int x1), some (.int x2), some (.ref x3), some (.int x4), some (.int x5), some (.int (x6 + 1))]) hk rfl rfl rfl rfl rfl ?_
  refine g_s1 (pc2 := 113) hk rfl rfl rfl rfl rfl ?_
  exact H
theorem b56_151 {x0 : Nat} {x1 : Int32} {x2 : Int32} {x3 : Nat} {x4 : Int32} {x5 : Int32} {x6 : Option Value} {h : iH} {Q : Option Value → iH → Prop} (H : (∃ v1 : Nat, i_fld h x0 5 0 = some (.ref v1) ∧ (∃ v2 : Nat, i_fld h v1 0 0 = some (.ref v2) ∧ (∃ v3 : Int32, i_fld h v2 2 2 = some (.int v3) ∧ ((v3 ≤ x5 → (∃ v4 : Nat, i_fld h x0 5 6 = some (.ref v4) ∧ (∃ v5 : Nat, i_fld h x0 5 7 = some (.ref v5) ∧ ((∃ o, i_fld h x0 5 6 = some o) ∧ i_P i_MT i_AT L xs 56 205 [some (.ref x0), some (.int x1), some (.int x2), some (.ref x3), some (.int x4), some (.ref v4), x6] [] (i_sf h x0 6 (.ref v5)) 0 0 Q)))) ∧ (¬ (v3 ≤ x5) → (∃ v6 : Nat, i_fld h x0 5 7 = some (.ref v6) ∧ (∃ (n7 : Nat) (f8 : Nat → Int64), i_arJ h v6 = some (n7, f8) ∧ ¬ (((144 : Int32) + x5) < 0 ∨ n7 ≤ ((144 : Int32) + x5).toNatClampNeg) ∧ (((lg_cmp (f8 ((144 : Int32) + x5).toNatClampNeg) (0 : Int64)) = 0 → i_P i_MT i_AT L xs 56 151 [some (.ref x0), some (.int x1), some (.int x2), some (.ref x3), some (.int x4), some (.int (x5 + 1)), x6] [] h 0 0 Q) ∧ (¬ ((lg_cmp (f8 ((144 : Int32) + x5).toNatClampNeg) (0 : Int64)) = 0) → Q (some (.int x4)) h)))))))))) : i_P i_MT i_AT L xs 56 151 [some (.ref x0), some (.int x1), some (.int x2), some (.ref x3), some (.int x4), some (.int x5), x6] [] h 0 0 Q := by
  have hk := i_k56
  refine g_s1 (pc2 := 153) hk rfl rfl rfl rfl rfl ?_
  refine g_s1 (pc2 := 154) hk rfl rfl rfl rfl rfl ?_
  obtain ⟨v1, ev1, H⟩ := H
  refine g_step (pc2 := 157) hk rfl rfl rfl (s_get ev1) ?_
  obtain ⟨v2, ev2, H⟩ := H
  refine g_step (pc2 := 160) hk rfl rfl rfl (s_get ev2) ?_
  obtain ⟨v3, ev3, H⟩ := H
  refine g_step (pc2 := 163) hk rfl rfl rfl (s_get ev3) ?_
  refine g_icmp_ge hk rfl (fun hc => ?_) (fun hc => ?_)
  · have H := H.1 hc
    refine g_s1 (pc2 := 192) hk rfl rfl rfl rfl rfl ?_
    obtain ⟨v4, ev4, H⟩ := H
    refine g_step (pc2 := 195) hk rfl rfl rfl (s_get ev4) ?_
    refine g_s1 (pc2 := 197) (lo2 := [some (.ref x0), some (.int x1), some (.int x2), some (.ref x3), some (.int x4), some (.ref v4), x6]) hk rfl rfl rfl rfl rfl ?_
    refine g_s1 (pc2 := 198) hk rfl rfl rfl rfl rfl ?_
    refine g_s1 (pc2 := 199) hk rfl rfl rfl rfl rfl ?_
    obtain ⟨v5, ev5, H⟩ := H
    refine g_step (pc2 := 202) hk rfl rfl rfl (s_get ev5) ?_
    obtain ⟨⟨o, ho⟩, H⟩ := H
    refine g_step (pc2 := 205) hk rfl rfl rfl (s_put ho rfl) ?_
    exact H
  · have H := H.2 hc
    refine g_s1 (pc2 := 167) hk rfl rfl rfl rfl rfl ?_
    obtain ⟨v6, ev6, H⟩ := H
    refine g_step (pc2 := 170) hk rfl rfl rfl (s_get ev6) ?_
    refine g_s1 (pc2 := 173) (st2 := [.int (144 : Int32), .ref v6]) hk rfl rfl rfl rfl rfl ?_
    refine g_s1 (pc2 := 175) hk rfl rfl rfl rfl rfl ?_
    refine g_s1 (pc2 := 176) hk rfl rfl rfl rfl rfl ?_
    obtain ⟨n7, f8, ef8, hi, H⟩ := H
    refine g_step (pc2 := 177) hk rfl rfl rfl (s_lget ef8 hi) ?_
    refine g_s1 (pc2 := 178) (st2 := [.long (0 : Int64), .long (f8 ((144 : Int32) + x5).toNatClampNeg)]) hk rfl rfl rfl rfl rfl ?_
    refine g_s1 (pc2 := 179) hk rfl rfl rfl rfl rfl ?_
    refine g_if_eq hk rfl (fun hc => ?_) (fun hc => ?_)
    · have H := H.1 hc
      refine g_s1 (pc2 := 188) (lo2 := [some (.ref x0), some (.int x1), some (.int x2), some (.ref x3), some (.int x4), some (.int (x5 + 1)), x6]) hk rfl rfl rfl rfl rfl ?_
      refine g_s1 (pc2 := 151) hk rfl rfl rfl rfl rfl ?_
      exact H
    · have H := H.2 hc
      refine g_s1 (pc2 := 184) hk rfl rfl rfl rfl rfl ?_
      exact g_ireturn hk rfl (by decide) (by decide) rfl H
theorem b56_205 {x0 : Nat} {x1 : Int32} {x2 : Int32} {x3 : Nat} {x4 : Int32} {x5 : Nat} {x6 : Option Value} {h : iH} {Q : Option Value → iH → Prop} (H : ((∃ o, i_fld h x0 5 7 = some o) ∧ i_P i_MT i_AT L xs 56 211 [some (.ref x0), some (.int x1), some (.int x2), some (.ref x3), some (.int x4), some (.ref x5), x6] [] (i_sf h x0 7 (.ref x5)) 0 0 Q)) : i_P i_MT i_AT L xs 56 205 [some (.ref x0), some (.int x1), some (.int x2), some (.ref x3), some (.int x4), some (.ref x5), x6] [] h 0 0 Q := by
  have hk := i_k56
  refine g_s1 (pc2 := 206) hk rfl rfl rfl rfl rfl ?_
  refine g_s1 (pc2 := 208) hk rfl rfl rfl rfl rfl ?_
  obtain ⟨⟨o, ho⟩, H⟩ := H
  refine g_step (pc2 := 211) hk rfl rfl rfl (s_put ho rfl) ?_
  exact H
theorem b56_211 {x0 : Nat} {x1 : Int32} {x2 : Int32} {x3 : Nat} {x4 : Int32} {x5 : Nat} {x6 : Option Value} {h : iH} {Q : Option Value → iH → Prop} (H : i_P i_MT i_AT L xs 56 41 [some (.ref x0), some (.int x1), some (.int x2), some (.ref x3), some (.int (x4 + 1)), some (.ref x5), x6] [] h 0 0 Q) : i_P i_MT i_AT L xs 56 211 [some (.ref x0), some (.int x1), some (.int x2), some (.ref x3), some (.int x4), some (.ref x5), x6] [] h 0 0 Q := by
  have hk := i_k56
  refine g_s1 (pc2 := 214) (lo2 := [some (.ref x0), some (.int x1), some (.int x2), some (.ref x3), some (.int (x4 + 1)), some (.ref x5), x6]) hk rfl rfl rfl rfl rfl ?_
  refine g_s1 (pc2 := 41) hk rfl rfl rfl rfl rfl ?_
  exact H
/-! StillTown$Search.lookAround(IIJ)V -/
theorem e57 {x0 : Nat} {x1 : Int32} {x2 : Int32} {x3 : Int64} {h : iH} {Q : Option Value → iH → Prop} (H : i_P i_MT i_AT L xs 57 0 [some (.ref x0), some (.int x1), some (.int x2), some (.long x3), none, none, none, none] [] h 0 0 Q) : i_C i_MT i_AT L xs 57 [.ref x0, .int x1, .int x2, .long x3] h Q := ⟨i_m57, i_k57.1, Nat.le_of_ble_eq_true rfl, H⟩
theorem b57_0 {x0 : Nat} {x1 : Int32} {x2 : Int32} {x3 : Int64} {x5 : Option Value} {x6 : Option Value} {x7 : Option Value} {h : iH} {Q : Option Value → iH → Prop} (H : (∃ v1 : Nat, i_fld h x0 5 8 = some (.ref v1) ∧ (i_C i_MT i_AT L xs 348 [.ref v1, .long (0 : Int64)] h (fun v h2 => v = none ∧ i_P i_MT i_AT L xs 57 8 [some (.ref x0), some (.int x1), some (.int x2), some (.long x3), none, x5, x6, x7] [] h2 0 0 Q)))) : i_P i_MT i_AT L xs 57 0 [some (.ref x0), some (.int x1), some (.int x2), some (.long x3), none, x5, x6, x7] [] h 0 0 Q := by
  have hk := i_k57
  refine g_s1 (pc2 := 1) hk rfl rfl rfl rfl rfl ?_
  obtain ⟨v1, ev1, H⟩ := H
  refine g_step (pc2 := 4) hk rfl rfl rfl (s_get ev1) ?_
  refine g_s1 (pc2 := 5) (st2 := [.long (0 : Int64), .ref v1]) hk rfl rfl rfl rfl rfl ?_
  refine g_call hk rfl rfl i_k348.1 ⟨rfl, rfl⟩ rfl (i_rcv_0 rfl) rfl ?_
  exact H.mono (fun v h2 q => by obtain ⟨rfl, q⟩ := q; exact q)
theorem b57_8 {x0 : Nat} {x1 : Int32} {x2 : Int32} {x3 : Int64} {x5 : Option Value} {x6 : Option Value} {x7 : Option Value} {h : iH} {Q : Option Value → iH → Prop} (H : (∃ v1 : Nat, i_fld h x0 5 9 = some (.ref v1) ∧ (i_C i_MT i_AT L xs 348 [.ref v1, .long (0 : Int64)] h (fun v h2 => v = none ∧ i_P i_MT i_AT L xs 57 16 [some (.ref x0), some (.int x1), some (.int x2), some (.long x3), none, x5, x6, x7] [] h2 0 0 Q)))) : i_P i_MT i_AT L xs 57 8 [some (.ref x0), some (.int x1), some (.int x2), some (.long x3), none, x5, x6, x7] [] h 0 0 Q := by
  have hk := i_k57
  refine g_s1 (pc2 := 9) hk rfl rfl rfl rfl rfl ?_
  obtain ⟨v1, ev1, H⟩ := H
  refine g_step (pc2 := 12) hk rfl rfl rfl (s_get ev1) ?_
  refine g_s1 (pc2 := 13) (st2 := [.long (0 : Int64), .ref v1]) hk rfl rfl rfl rfl rfl ?_
  refine g_call hk rfl rfl i_k348.1 ⟨rfl, rfl⟩ rfl (i_rcv_0 rfl) rfl ?_
  exact H.mono (fun v h2 q => by obtain ⟨rfl, q⟩ := q; exact q)
theorem b57_16 {x0 : Nat} {x1 : Int32} {x2 : Int32} {x3 : Int64} {x5 : Option Value} {x6 : Option Value} {x7 : Option Value} {h : iH} {Q : Option Value → iH → Prop} (H : i_P i_MT i_AT L xs 57 19 [some (.ref x0), some (.int x1), some (.int x2), some (.long x3), none, some (.int (0 : Int32)), x6, x7] [] h 0 0 Q) : i_P i_MT i_AT L xs 57 16 [some (.ref x0), some (.int x1), some (.int x2), some (.long x3), none, x5, x6, x7] [] h 0 0 Q := by
  have hk := i_k57
  refine g_s1 (pc2 := 17) (st2 := [.int (0 : Int32)]) hk rfl rfl rfl rfl rfl ?_
  refine g_s1 (pc2 := 19) (lo2 := [some (.ref x0), some (.int x1), some (.int x2), some (.long x3), none, some (.int (0 : Int32)), x6, x7]) hk rfl rfl rfl rfl rfl ?_
  exact H
theorem b57_19 {x0 : Nat} {x1 : Int32} {x2 : Int32} {x3 : Int64} {x5 : Int32} {x6 : Option Value} {x7 : Option Value} {h : iH} {Q : Option Value → iH → Prop} (H : (∃ v1 : Nat, i_fld h x0 5 0 = some (.ref v1) ∧ (∃ v2 : Nat, i_fld h v1 0 0 = some (.ref v2) ∧ (∃ v3 : Int32, i_fld h v2 2 2 = some (.int v3) ∧ ((v3 ≤ x5 → Q none h) ∧ (¬ (v3 ≤ x5) → i_P i_MT i_AT L xs 57 37 [some (.ref x0), some (.int x1), some (.int x2), some (.long x3), none, some (.int x5), some (.int (0 : Int32)), x7] [] h 0 0 Q)))))) : i_P i_MT i_AT L xs 57 19 [some (.ref x0), some (.int x1), some (.int x2), some (.long x3), none, some (.int x5), x6, x7] [] h 0 0 Q := by
  have hk := i_k57
  refine g_s1 (pc2 := 21) hk rfl rfl rfl rfl rfl ?_
  refine g_s1 (pc2 := 22) hk rfl rfl rfl rfl rfl ?_
  obtain ⟨v1, ev1, H⟩ := H
  refine g_step (pc2 := 25) hk rfl rfl rfl (s_get ev1) ?_
  obtain ⟨v2, ev2, H⟩ := H
  refine g_step (pc2 := 28) hk rfl rfl rfl (s_get ev2) ?_
  obtain ⟨v3, ev3, H⟩ := H
  refine g_step (pc2 := 31) hk rfl rfl rfl (s_get ev3) ?_
  refine g_icmp_ge hk rfl (fun hc => ?_) (fun hc => ?_)
  · have H := H.1 hc
    exact g_return hk rfl (by decide) (by decide) rfl H
  · have H := H.2 hc
    refine g_s1 (pc2 := 35) (st2 := [.int (0 : Int32)]) hk rfl rfl rfl rfl rfl ?_
    refine g_s1 (pc2 := 37) (lo2 := [some (.ref x0), some (.int x1), some (.int x2), some (.long x3), none, some (.int x5), some (.int (0 : Int32)), x7]) hk rfl rfl rfl rfl rfl ?_
    exact H
theorem b57_37 {x0 : Nat} {x1 : Int32} {x2 : Int32} {x3 : Int64} {x5 : Int32} {x6 : Int32} {x7 : Option Value} {h : iH} {Q : Option Value → iH → Prop} (H : (∃ v1 : Nat, i_fld h x0 5 0 = some (.ref v1) ∧ (∃ v2 : Nat, i_fld h v1 0 0 = some (.ref v2) ∧ (∃ v3 : Int32, i_fld h v2 2 2 = some (.int v3) ∧ ((v3 ≤ x6 → i_P i_MT i_AT L xs 57 19 [some (.ref x0), some (.int x1), some (.int x2), some (.long x3), none, some (.int (x5 + 1)), some (.int x6), x7] [] h 0 0 Q) ∧ (¬ (v3 ≤ x6) → (∃ v4 : Nat, i_fld h x0 5 0 = some (.ref v4) ∧ (∃ v5 : Nat, i_fld h v4 0 0 = some (.ref v5) ∧ (i_obj? h v5 2 ∧ i_C i_MT i_AT L xs 27 [.ref v5, .int x5, .int x6] h (fun v h6 => ∃ r7 : Int32, v = some (.int r7) ∧ i_P i_MT i_AT L xs 57 66 [some (.ref x0), some (.int x1), some (.int x2), some (.long x3), none, some (.int x5), some (.int x6), x7] [.int r7] h6 0 0 Q)))))))))) : i_P i_MT i_AT L xs 57 37 [some (.ref x0), some (.int x1), some (.int x2), some (.long x3), none, some (.int x5), some (.int x6), x7] [] h 0 0 Q := by
  have hk := i_k57
  refine g_s1 (pc2 := 39) hk rfl rfl rfl rfl rfl ?_
  refine g_s1 (pc2 := 40) hk rfl rfl rfl rfl rfl ?_
  obtain ⟨v1, ev1, H⟩ := H
  refine g_step (pc2 := 43) hk rfl rfl rfl (s_get ev1) ?_
  obtain ⟨v2, ev2, H⟩ := H
  refine g_step (pc2 := 46) hk rfl rfl rfl (s_get ev2) ?_
  obtain ⟨v3, ev3, H⟩ := H
  refine g_step (pc2 := 49) hk rfl rfl rfl (s_get ev3) ?_
  refine g_icmp_ge hk rfl (fun hc => ?_) (fun hc => ?_)
  · have H := H.1 hc
    refine g_s1 (pc2 := 155) (lo2 := [some (.ref x0), some (.int x1), some (.int x2), some (.long x3), none, some (.int (x5 + 1)), some (.int x6), x7]) hk rfl rfl rfl rfl rfl ?_
    refine g_s1 (pc2 := 19) hk rfl rfl rfl rfl rfl ?_
    exact H
  · have H := H.2 hc
    refine g_s1 (pc2 := 53) hk rfl rfl rfl rfl rfl ?_
    obtain ⟨v4, ev4, H⟩ := H
    refine g_step (pc2 := 56) hk rfl rfl rfl (s_get ev4) ?_
    obtain ⟨v5, ev5, H⟩ := H
    refine g_step (pc2 := 59) hk rfl rfl rfl (s_get ev5) ?_
    refine g_s1 (pc2 := 61) hk rfl rfl rfl rfl rfl ?_
    refine g_s1 (pc2 := 63) hk rfl rfl rfl rfl rfl ?_
    obtain ⟨ho, H⟩ := H
    refine g_call hk rfl rfl i_k27.1 ⟨rfl, rfl⟩ rfl (i_rcv_v ho rfl (by decide)) rfl ?_
    exact H.mono (fun v h2 q => by obtain ⟨r, rfl, q⟩ := q; exact q)
theorem b57_66 {x0 : Nat} {x1 : Int32} {x2 : Int32} {x3 : Int64} {x5 : Int32} {x6 : Int32} {x7 : Option Value} {s0 : Int32} {h : iH} {Q : Option Value → iH → Prop} (H : ((x6 = x5 → i_P i_MT i_AT L xs 57 146 [some (.ref x0), some (.int x1), some (.int x2), some (.long x3), none, some (.int x5), some (.int x6), some (.int s0)] [] h 0 0 Q) ∧ (¬ (x6 = x5) → (∃ v1 : Nat, i_fld h x0 5 0 = some (.ref v1) ∧ (∃ v2 : Nat, i_fld h v1 0 0 = some (.ref v2) ∧ (i_obj? h v2 2 ∧ i_C i_MT i_AT L xs 29 [.ref v2, .int x5, .int x6, .int s0] h (fun v h3 => ∃ r4 : Int64, v = some (.long r4) ∧ i_P i_MT i_AT L xs 57 91 [some (.ref x0), some (.int x1), some (.int x2), some (.long x3), none, some (.int x5), some (.int x6), some (.int s0)] [.long r4] h3 0 0 Q))))))) : i_P i_MT i_AT L xs 57 66 [some (.ref x0), some (.int x1), some (.int x2), some (.long x3), none, some (.int x5), some (.int x6), x7] [.int s0] h 0 0 Q := by
  have hk := i_k57
  refine g_s1 (pc2 := 68) (lo2 := [some (.ref x0), some (.int x1), some (.int x2), some (.long x3), none, some (.int x5), some (.int x6), some (.int s0)]) hk rfl rfl rfl rfl rfl ?_
  refine g_s1 (pc2 := 70) hk rfl rfl rfl rfl rfl ?_
  refine g_s1 (pc2 := 72) hk rfl rfl rfl rfl rfl ?_
  refine g_icmp_eq hk rfl (fun hc => ?_) (fun hc => ?_)
  · have H := H.1 hc
    exact H
  · have H := H.2 hc
    refine g_s1 (pc2 := 76) hk rfl rfl rfl rfl rfl ?_
    obtain ⟨v1, ev1, H⟩ := H
    refine g_step (pc2 := 79) hk rfl rfl rfl (s_get ev1) ?_
    obtain ⟨v2, ev2, H⟩ := H
    refine g_step (pc2 := 82) hk rfl rfl rfl (s_get ev2) ?_
    refine g_s1 (pc2 := 84) hk rfl rfl rfl rfl rfl ?_
    refine g_s1 (pc2 := 86) hk rfl rfl rfl rfl rfl ?_
    refine g_s1 (pc2 := 88) hk rfl rfl rfl rfl rfl ?_
    obtain ⟨ho, H⟩ := H
    refine g_call hk rfl rfl i_k29.1 ⟨rfl, rfl⟩ rfl (i_rcv_v ho rfl (by decide)) rfl ?_
    exact H.mono (fun v h2 q => by obtain ⟨r, rfl, q⟩ := q; exact q)
theorem b57_91 {x0 : Nat} {x1 : Int32} {x2 : Int32} {x3 : Int64} {x5 : Int32} {x6 : Int32} {x7 : Int32} {s0 : Int64} {h : iH} {Q : Option Value → iH → Prop} (H : ((¬ (lg_cmp (s0 &&& x3) (0 : Int64)) = 0 → i_P i_MT i_AT L xs 57 146 [some (.ref x0), some (.int x1), some (.int x2), some (.long x3), none, some (.int x5), some (.int x6), some (.int x7)] [] h 0 0 Q) ∧ (¬ (¬ (lg_cmp (s0 &&& x3) (0 : Int64)) = 0) → (∃ v1 : Nat, i_fld h x0 5 8 = some (.ref v1) ∧ (∃ (n2 : Nat) (f3 : Nat → Int64), i_arJ h v1 = some (n2, f3) ∧ ¬ (x5 < 0 ∨ n2 ≤ x5.toNatClampNeg) ∧ ((x1 < x7 → i_P i_MT i_AT L xs 57 120 [some (.ref x0), some (.int x1), some (.int x2), some (.long x3), none, some (.int x5), some (.int x6), some (.int x7)] [.long (0 : Int64), .long (f3 x5.toNatClampNeg), .int x5, .ref v1] h 0 0 Q) ∧ (¬ (x1 < x7) → i_P i_MT i_AT L xs 57 120 [some (.ref x0), some (.int x1), some (.int x2), some (.long x3), none, some (.int x5), some (.int x6), some (.int x7)] [.long ((1 : Int64) <<< (x6.toInt64 &&& 63)), .long (f3 x5.toNatClampNeg), .int x5, .ref v1] h 0 0 Q))))))) : i_P i_MT i_AT L xs 57 91 [some (.ref x0), some (.int x1), some (.int x2), some (.long x3), none, some (.int x5), some (.int x6), some (.int x7)] [.long s0] h 0 0 Q := by
  have hk := i_k57
  refine g_s1 (pc2 := 92) hk rfl rfl rfl rfl rfl ?_
  refine g_s1 (pc2 := 93) hk rfl rfl rfl rfl rfl ?_
  refine g_s1 (pc2 := 94) (st2 := [.long (0 : Int64), .long (s0 &&& x3)]) hk rfl rfl rfl rfl rfl ?_
  refine g_s1 (pc2 := 95) hk rfl rfl rfl rfl rfl ?_
  refine g_if_ne hk rfl (fun hc => ?_) (fun hc => ?_)
  · have H := H.1 hc
    exact H
  · have H := H.2 hc
    refine g_s1 (pc2 := 99) hk rfl rfl rfl rfl rfl ?_
    obtain ⟨v1, ev1, H⟩ := H
    refine g_step (pc2 := 102) hk rfl rfl rfl (s_get ev1) ?_
    refine g_s1 (pc2 := 104) hk rfl rfl rfl rfl rfl ?_
    refine g_s1 (pc2 := 105) hk rfl rfl rfl rfl rfl ?_
    obtain ⟨n2, f3, ef3, hi, H⟩ := H
    refine g_step (pc2 := 106) hk rfl rfl rfl (s_lget ef3 hi) ?_
    refine g_s1 (pc2 := 108) hk rfl rfl rfl rfl rfl ?_
    refine g_s1 (pc2 := 109) hk rfl rfl rfl rfl rfl ?_
    refine g_icmp_gt hk rfl (fun hc => ?_) (fun hc => ?_)
    · have H := H.1 hc
      refine g_s1 (pc2 := 120) (st2 := [.long (0 : Int64), .long (f3 x5.toNatClampNeg), .int x5, .ref v1]) hk rfl rfl rfl rfl rfl ?_
      exact H
    · have H := H.2 hc
      refine g_s1 (pc2 := 113) (st2 := [.long (1 : Int64), .long (f3 x5.toNatClampNeg), .int x5, .ref v1]) hk rfl rfl rfl rfl rfl ?_
      refine g_s1 (pc2 := 115) hk rfl rfl rfl rfl rfl ?_
      refine g_s1 (pc2 := 116) hk rfl rfl rfl rfl rfl ?_
      refine g_s1 (pc2 := 120) hk rfl rfl rfl rfl rfl ?_
      exact H
theorem b57_120 {x0 : Nat} {x1 : Int32} {x2 : Int32} {x3 : Int64} {x5 : Int32} {x6 : Int32} {x7 : Int32} {s0 : Nat} {s1 : Int32} {s2 : Int64} {s3 : Int64} {h : iH} {Q : Option Value → iH → Prop} (H : (∃ (n1 : Nat) (f2 : Nat → Int64), i_arJ h s0 = some (n1, f2) ∧ ¬ (s1 < 0 ∨ n1 ≤ s1.toNatClampNeg) ∧ i_P i_MT i_AT L xs 57 122 [some (.ref x0), some (.int x1), some (.int x2), some (.long x3), none, some (.int x5), some (.int x6), some (.int x7)] [] (i_siJ h s0 s1.toNatClampNeg (s2 ||| s3)) 0 0 Q)) : i_P i_MT i_AT L xs 57 120 [some (.ref x0), some (.int x1), some (.int x2), some (.long x3), none, some (.int x5), some (.int x6), some (.int x7)] [.long s3, .long s2, .int s1, .ref s0] h 0 0 Q := by
  have hk := i_k57
  refine g_s1 (pc2 := 121) hk rfl rfl rfl rfl rfl ?_
  obtain ⟨n1, f2, ef2, hi, H⟩ := H
  refine g_step (pc2 := 122) hk rfl rfl rfl (s_lput ef2 hi) ?_
  exact H
theorem b57_122 {x0 : Nat} {x1 : Int32} {x2 : Int32} {x3 : Int64} {x5 : Int32} {x6 : Int32} {x7 : Int32} {h : iH} {Q : Option Value → iH → Prop} (H : (∃ v1 : Nat, i_fld h x0 5 9 = some (.ref v1) ∧ (∃ (n2 : Nat) (f3 : Nat → Int64), i_arJ h v1 = some (n2, f3) ∧ ¬ (x6 < 0 ∨ n2 ≤ x6.toNatClampNeg) ∧ ((x2 < x7 → i_P i_MT i_AT L xs 57 144 [some (.ref x0), some (.int x1), some (.int x2), some (.long x3), none, some (.int x5), some (.int x6), some (.int x7)] [.long (0 : Int64), .long (f3 x6.toNatClampNeg), .int x6, .ref v1] h 0 0 Q) ∧ (¬ (x2 < x7) → i_P i_MT i_AT L xs 57 144 [some (.ref x0), some (.int x1), some (.int x2), some (.long x3), none, some (.int x5), some (.int x6), some (.int x7)] [.long ((1 : Int64) <<< (x5.toInt64 &&& 63)), .long (f3 x6.toNatClampNeg), .int x6, .ref v1] h 0 0 Q))))) : i_P i_MT i_AT L xs 57 122 [some (.ref x0), some (.int x1), some (.int x2), some (.long x3), none, some (.int x5), some (.int x6), some (.int x7)] [] h 0 0 Q := by
  have hk := i_k57
  refine g_s1 (pc2 := 123) hk rfl rfl rfl rfl rfl ?_
  obtain ⟨v1, ev1, H⟩ := H
  refine g_step (pc2 := 126) hk rfl rfl rfl (s_get ev1) ?_
  refine g_s1 (pc2 := 128) hk rfl rfl rfl rfl rfl ?_
  refine g_s1 (pc2 := 129) hk rfl rfl rfl rfl rfl ?_
  obtain ⟨n2, f3, ef3, hi, H⟩ := H
  refine g_step (pc2 := 130) hk rfl rfl rfl (s_lget ef3 hi) ?_
  refine g_s1 (pc2 := 132) hk rfl rfl rfl rfl rfl ?_
  refine g_s1 (pc2 := 133) hk rfl rfl rfl rfl rfl ?_
  refine g_icmp_gt hk rfl (fun hc => ?_) (fun hc => ?_)
  · have H := H.1 hc
    refine g_s1 (pc2 := 144) (st2 := [.long (0 : Int64), .long (f3 x6.toNatClampNeg), .int x6, .ref v1]) hk rfl rfl rfl rfl rfl ?_
    exact H
  · have H := H.2 hc
    refine g_s1 (pc2 := 137) (st2 := [.long (1 : Int64), .long (f3 x6.toNatClampNeg), .int x6, .ref v1]) hk rfl rfl rfl rfl rfl ?_
    refine g_s1 (pc2 := 139) hk rfl rfl rfl rfl rfl ?_
    refine g_s1 (pc2 := 140) hk rfl rfl rfl rfl rfl ?_
    refine g_s1 (pc2 := 144) hk rfl rfl rfl rfl rfl ?_
    exact H
theorem b57_144 {x0 : Nat} {x1 : Int32} {x2 : Int32} {x3 : Int64} {x5 : Int32} {x6 : Int32} {x7 : Int32} {s0 : Nat} {s1 : Int32} {s2 : Int64} {s3 : Int64} {h : iH} {Q : Option Value → iH → Prop} (H : (∃ (n1 : Nat) (f2 : Nat → Int64), i_arJ h s0 = some (n1, f2) ∧ ¬ (s1 < 0 ∨ n1 ≤ s1.toNatClampNeg) ∧ i_P i_MT i_AT L xs 57 146 [some (.ref x0), some (.int x1), some (.int x2), some (.long x3), none, some (.int x5), some (.int x6), some (.int x7)] [] (i_siJ h s0 s1.toNatClampNeg (s2 ||| s3)) 0 0 Q)) : i_P i_MT i_AT L xs 57 144 [some (.ref x0), some (.int x1), some (.int x2), some (.long x3), none, some (.int x5), some (.int x6), some (.int x7)] [.long s3, .long s2, .int s1, .ref s0] h 0 0 Q := by
  have hk := i_k57
  refine g_s1 (pc2 := 145) hk rfl rfl rfl rfl rfl ?_
  obtain ⟨n1, f2, ef2, hi, H⟩ := H
  refine g_step (pc2 := 146) hk rfl rfl rfl (s_lput ef2 hi) ?_
  exact H
theorem b57_146 {x0 : Nat} {x1 : Int32} {x2 : Int32} {x3 : Int64} {x5 : Int32} {x6 : Int32} {x7 : Int32} {h : iH} {Q : Option Value → iH → Prop} (H : i_P i_MT i_AT L xs 57 37 [some (.ref x0), some (.int x1), some (.int x2), some (.long x3), none, some (.int x5), some (.int (x6 + 1)), some (.int x7)] [] h 0 0 Q) : i_P i_MT i_AT L xs 57 146 [some (.ref x0), some (.int x1), some (.int x2), some (.long x3), none, some (.int x5), some (.int x6), some (.int x7)] [] h 0 0 Q := by
  have hk := i_k57
  refine g_s1 (pc2 := 149) (lo2 := [some (.ref x0), some (.int x1), some (.int x2), some (.long x3), none, some (.int x5), some (.int (x6 + 1)), some (.int x7)]) hk rfl rfl rfl rfl rfl ?_
  refine g_s1 (pc2 := 37) hk rfl rfl rfl rfl rfl ?_
  exact H
/-! StillTown$Search.meetAt(II)V -/
theorem e58 {x0 : Nat} {x1 : Int32} {x2 : Int32} {h : iH} {Q : Option Value → iH → Prop} (H : i_P i_MT i_AT L xs 58 0 [some (.ref x0), some (.int x1), some (.int x2), none, none, none, none, none, none, none, none, none, none, none, none] [] h 0 0 Q) : i_C i_MT i_AT L xs 58 [.ref x0, .int x1, .int x2] h Q := ⟨i_m58, i_k58.1, Nat.le_of_ble_eq_true rfl, H⟩
theorem b58_0 {x0 : Nat} {x1 : Int32} {x2 : Int32} {x3 : Option Value} {x4 : Option Value} {x5 : Option Value} {x6 : Option Value} {x7 : Option Value} {x8 : Option Value} {x9 : Option Value} {x10 : Option Value} {x11 : Option Value} {x12 : Option Value} {x13 : Option Value} {x14 : Option Value} {h : iH} {Q : Option Value → iH → Prop} (H : (∃ v1 : Nat, i_fld h x0 5 6 = some (.ref v1) ∧ (∃ (n2 : Nat) (f3 : Nat → Int64), i_arJ h v1 = some (n2, f3) ∧ ¬ (((x1 * (48 : Int32)) + x2) < 0 ∨ n2 ≤ ((x1 * (48 : Int32)) + x2).toNatClampNeg) ∧ (∃ v4 : Nat, i_fld h x0 5 0 = some (.ref v4) ∧ (∃ v5 : Nat, i_fld h v4 0 0 = some (.ref v5) ∧ (∃ v6 : Int64, i_fld h v5 2 4 = some (.long v6) ∧ (i_C i_MT i_AT L xs 193 [.long v6, .int x2] h (fun v h7 => ∃ r8 : Int32, v = some (.int r8) ∧ i_P i_MT i_AT L xs 58 29 [some (.ref x0), some (.int x1), some (.int x2), some (.long (f3 ((x1 * (48 : Int32)) + x2).toNatClampNeg)), none, some (.long (0 : Int64)), none, x7, x8, x9, x10, x11, x12, x13, x14] [.int r8] h7 0 0 Q)))))))) : i_P i_MT i_AT L xs 58 0 [some (.ref x0), some (.int x1), some (.int x2), x3, x4, x5, x6, x7, x8, x9, x10, x11, x12, x13, x14] [] h 0 0 Q := by
  have hk := i_k58
  refine g_s1 (pc2 := 1) hk rfl rfl rfl rfl rfl ?_
  obtain ⟨v1, ev1, H⟩ := H
  refine g_step (pc2 := 4) hk rfl rfl rfl (s_get ev1) ?_
  refine g_s1 (pc2 := 5) hk rfl rfl rfl rfl rfl ?_
  refine g_s1 (pc2 := 7) (st2 := [.int (48 : Int32), .int x1, .ref v1]) hk rfl rfl rfl rfl rfl ?_
  refine g_s1 (pc2 := 8) hk rfl rfl rfl rfl rfl ?_
  refine g_s1 (pc2 := 9) hk rfl rfl rfl rfl rfl ?_
  refine g_s1 (pc2 := 10) hk rfl rfl rfl rfl rfl ?_
  obtain ⟨n2, f3, ef3, hi, H⟩ := H
  refine g_step (pc2 := 11) hk rfl rfl rfl (s_lget ef3 hi) ?_
  refine g_s1 (pc2 := 12) (lo2 := [some (.ref x0), some (.int x1), some (.int x2), some (.long (f3 ((x1 * (48 : Int32)) + x2).toNatClampNeg)), none, x5, x6, x7, x8, x9, x10, x11, x12, x13, x14]) hk rfl rfl rfl rfl rfl ?_
  refine g_s1 (pc2 := 13) (st2 := [.long (0 : Int64)]) hk rfl rfl rfl rfl rfl ?_
  refine g_s1 (pc2 := 15) (lo2 := [some (.ref x0), some (.int x1), some (.int x2), some (.long (f3 ((x1 * (48 : Int32)) + x2).toNatClampNeg)), none, some (.long (0 : Int64)), none, x7, x8, x9, x10, x11, x12, x13, x14]) hk rfl rfl rfl rfl rfl ?_
  refine g_s1 (pc2 := 16) hk rfl rfl rfl rfl rfl ?_
  obtain ⟨v4, ev4, H⟩ := H
  refine g_step (pc2 := 19) hk rfl rfl rfl (s_get ev4) ?_
  obtain ⟨v5, ev5, H⟩ := H
  refine g_step (pc2 := 22) hk rfl rfl rfl (s_get ev5) ?_
  obtain ⟨v6, ev6, H⟩ := H
  refine g_step (pc2 := 25) hk rfl rfl rfl (s_get ev6) ?_
  refine g_s1 (pc2 := 26) hk rfl rfl rfl rfl rfl ?_
  refine g_call hk rfl rfl i_k193.1 ⟨rfl, rfl⟩ rfl (i_rcv_0 rfl) rfl ?_
  exact H.mono (fun v h2 q => by obtain ⟨r, rfl, q⟩ := q; exact q)
theorem b58_29 {x0 : Nat} {x1 : Int32} {x2 : Int32} {x3 : Int64} {x5 : Int64} {x7 : Option Value} {x8 : Option Value} {x9 : Option Value} {x10 : Option Value} {x11 : Option Value} {x12 : Option Value} {x13 : Option Value} {x14 : Option Value} {s0 : Int32} {h : iH} {Q : Option Value → iH → Prop} (H : ((s0 = 0 → i_P i_MT i_AT L xs 58 90 [some (.ref x0), some (.int x1), some (.int x2), some (.long x3), none, some (.long x5), none, x7, x8, x9, x10, x11, x12, x13, x14] [] h 0 0 Q) ∧ (¬ (s0 = 0) → i_P i_MT i_AT L xs 58 35 [some (.ref x0), some (.int x1), some (.int x2), some (.long x3), none, some (.long x5), none, some (.int (0 : Int32)), x8, x9, x10, x11, x12, x13, x14] [] h 0 0 Q))) : i_P i_MT i_AT L xs 58 29 [some (.ref x0), some (.int x1), some (.int x2), some (.long x3), none, some (.long x5), none, x7, x8, x9, x10, x11, x12, x13, x14] [.int s0] h 0 0 Q := by
  have hk := i_k58
  refine g_if_eq hk rfl (fun hc => ?_) (fun hc => ?_)
  · have H := H.1 hc
    exact H
  · have H := H.2 hc
    refine g_s1 (pc2 := 33) (st2 := [.int (0 : Int32)]) hk rfl rfl rfl rfl rfl ?_
    refine g_s1 (pc2 := 35) (lo2 := [some (.ref x0), some (.int x1), some (.int x2), some (.long x3), none, some (.long x5), none, some (.int (0 : Int32)), x8, x9, x10, x11, x12, x13, x14]) hk rfl rfl rfl rfl rfl ?_
    exact H
theorem b58_35 {x0 : Nat} {x1 : Int32} {x2 : Int32} {x3 : Int64} {x5 : Int64} {x7 : Int32} {x8 : Option Value} {x9 : Option Value} {x10 : Option Value} {x11 : Option Value} {x12 : Option Value} {x13 : Option Value} {x14 : Option Value} {h : iH} {Q : Option Value → iH → Prop} (H : (((8 : Int32) ≤ x7 → i_P i_MT i_AT L xs 58 90 [some (.ref x0), some (.int x1), some (.int x2), some (.long x3), none, some (.long x5), none, some (.int x7), x8, x9, x10, x11, x12, x13, x14] [] h 0 0 Q) ∧ (¬ ((8 : Int32) ≤ x7) → (∃ v1 : Nat, i_fld h x0 5 0 = some (.ref v1) ∧ (∃ v2 : Nat, i_fld h v1 0 0 = some (.ref v2) ∧ (i_obj? h v2 2 ∧ i_C i_MT i_AT L xs 25 [.ref v2, .int x2, .int x7] h (fun v h3 => ∃ r4 : Int32, v = some (.int r4) ∧ i_P i_MT i_AT L xs 58 55 [some (.ref x0), some (.int x1), some (.int x2), some (.long x3), none, some (.long x5), none, some (.int x7), x8, x9, x10, x11, x12, x13, x14] [.int r4] h3 0 0 Q))))))) : i_P i_MT i_AT L xs 58 35 [some (.ref x0), some (.int x1), some (.int x2), some (.long x3), none, some (.long x5), none, some (.int x7), x8, x9, x10, x11, x12, x13, x14] [] h 0 0 Q := by
  have hk := i_k58
  refine g_s1 (pc2 := 37) hk rfl rfl rfl rfl rfl ?_
  refine g_s1 (pc2 := 39) (st2 := [.int (8 : Int32), .int x7]) hk rfl rfl rfl rfl rfl ?_
  refine g_icmp_ge hk rfl (fun hc => ?_) (fun hc => ?_)
  · have H := H.1 hc
    exact H
  · have H := H.2 hc
    refine g_s1 (pc2 := 43) hk rfl rfl rfl rfl rfl ?_
    obtain ⟨v1, ev1, H⟩ := H
    refine g_step (pc2 := 46) hk rfl rfl rfl (s_get ev1) ?_
    obtain ⟨v2, ev2, H⟩ := H
    refine g_step (pc2 := 49) hk rfl rfl rfl (s_get ev2) ?_
    refine g_s1 (pc2 := 50) hk rfl rfl rfl rfl rfl ?_
    refine g_s1 (pc2 := 52) hk rfl rfl rfl rfl rfl ?_
    obtain ⟨ho, H⟩ := H
    refine g_call hk rfl rfl i_k25.1 ⟨rfl, rfl⟩ rfl (i_rcv_v ho rfl (by decide)) rfl ?_
    exact H.mono (fun v h2 q => by obtain ⟨r, rfl, q⟩ := q; exact q)
theorem b58_55 {x0 : Nat} {x1 : Int32} {x2 : Int32} {x3 : Int64} {x5 : Int64} {x7 : Int32} {x8 : Option Value} {x9 : Option Value} {x10 : Option Value} {x11 : Option Value} {x12 : Option Value} {x13 : Option Value} {x14 : Option Value} {s0 : Int32} {h : iH} {Q : Option Value → iH → Prop} (H : ((¬ s0 = (-1 : Int32) → (∃ v1 : Nat, i_fld h x0 5 6 = some (.ref v1) ∧ (∃ (n2 : Nat) (f3 : Nat → Int64), i_arJ h v1 = some (n2, f3) ∧ ¬ (((x1 * (48 : Int32)) + s0) < 0 ∨ n2 ≤ ((x1 * (48 : Int32)) + s0).toNatClampNeg) ∧ i_P i_MT i_AT L xs 58 81 [some (.ref x0), some (.int x1), some (.int x2), some (.long x3), none, some (.long x5), none, some (.int x7), some (.int s0), x9, x10, x11, x12, x13, x14] [.long (f3 ((x1 * (48 : Int32)) + s0).toNatClampNeg), .long x5] h 0 0 Q))) ∧ (¬ (¬ s0 = (-1 : Int32)) → i_P i_MT i_AT L xs 58 81 [some (.ref x0), some (.int x1), some (.int x2), some (.long x3), none, some (.long x5), none, some (.int x7), some (.int s0), x9, x10, x11, x12, x13, x14] [.long (0 : Int64), .long x5] h 0 0 Q))) : i_P i_MT i_AT L xs 58 55 [some (.ref x0), some (.int x1), some (.int x2), some (.long x3), none, some (.long x5), none, some (.int x7), x8, x9, x10, x11, x12, x13, x14] [.int s0] h 0 0 Q := by
  have hk := i_k58
  refine g_s1 (pc2 := 57) (lo2 := [some (.ref x0), some (.int x1), some (.int x2), some (.long x3), none, some (.long x5), none, some (.int x7), some (.int s0), x9, x10, x11, x12, x13, x14]) hk rfl rfl rfl rfl rfl ?_
  refine g_s1 (pc2 := 59) hk rfl rfl rfl rfl rfl ?_
  refine g_s1 (pc2 := 61) hk rfl rfl rfl rfl rfl ?_
  refine g_s1 (pc2 := 62) (st2 := [.int (-1 : Int32), .int s0, .long x5]) hk rfl rfl rfl rfl rfl ?_
  refine g_icmp_ne hk rfl (fun hc => ?_) (fun hc => ?_)
  · have H := H.1 hc
    refine g_s1 (pc2 := 70) hk rfl rfl rfl rfl rfl ?_
    obtain ⟨v1, ev1, H⟩ := H
    refine g_step (pc2 := 73) hk rfl rfl rfl (s_get ev1) ?_
    refine g_s1 (pc2 := 74) hk rfl rfl rfl rfl rfl ?_
    refine g_s1 (pc2 := 76) (st2 := [.int (48 : Int32), .int x1, .ref v1, .long x5]) hk rfl rfl rfl rfl rfl ?_
    refine g_s1 (pc2 := 77) hk rfl rfl rfl rfl rfl ?_
    refine g_s1 (pc2 := 79) hk rfl rfl rfl rfl rfl ?_
    refine g_s1 (pc2 := 80) hk rfl rfl rfl rfl rfl ?_
    obtain ⟨n2, f3, ef3, hi, H⟩ := H
    refine g_step (pc2 := 81) hk rfl rfl rfl (s_lget ef3 hi) ?_
    exact H
  · have H := H.2 hc
    refine g_s1 (pc2 := 66) (st2 := [.long (0 : Int64), .long x5]) hk rfl rfl rfl rfl rfl ?_
    refine g_s1 (pc2 := 81) hk rfl rfl rfl rfl rfl ?_
    exact H
theorem b58_81 {x0 : Nat} {x1 : Int32} {x2 : Int32} {x3 : Int64} {x5 : Int64} {x7 : Int32} {x8 : Int32} {x9 : Option Value} {x10 : Option Value} {x11 : Option Value} {x12 : Option Value} {x13 : Option Value} {x14 : Option Value} {s0 : Int64} {s1 : Int64} {h : iH} {Q : Option Value → iH → Prop} (H : i_P i_MT i_AT L xs 58 35 [some (.ref x0), some (.int x1), some (.int x2), some (.long x3), none, some (.long (s0 ||| s1)), none, some (.int (x7 + 1)), some (.int x8), x9, x10, x11, x12, x13, x14] [] h 0 0 Q) : i_P i_MT i_AT L xs 58 81 [some (.ref x0), some (.int x1), some (.int x2), some (.long x3), none, some (.long x5), none, some (.int x7), some (.int x8), x9, x10, x11, x12, x13, x14] [.long s1, .long s0] h 0 0 Q := by
  have hk := i_k58
  refine g_s1 (pc2 := 82) hk rfl rfl rfl rfl rfl ?_
  refine g_s1 (pc2 := 84) (lo2 := [some (.ref x0), some (.int x1), some (.int x2), some (.long x3), none, some (.long (s0 ||| s1)), none, some (.int x7), some (.int x8), x9, x10, x11, x12, x13, x14]) hk rfl rfl rfl rfl rfl ?_
  refine g_s1 (pc2 := 87) (lo2 := [some (.ref x0), some (.int x1), some (.int x2), some (.long x3), none, some (.long (s0 ||| s1)), none, some (.int (x7 + 1)), some (.int x8), x9, x10, x11, x12, x13, x14]) hk rfl rfl rfl rfl rfl ?_
  refine g_s1 (pc2 := 35) hk rfl rfl rfl rfl rfl ?_
  exact H
theorem b58_90 {x0 : Nat} {x1 : Int32} {x2 : Int32} {x3 : Int64} {x5 : Int64} {x7 : Option Value} {x8 : Option Value} {x9 : Option Value} {x10 : Option Value} {x11 : Option Value} {x12 : Option Value} {x13 : Option Value} {x14 : Option Value} {h : iH} {Q : Option Value → iH → Prop} (H : (∃ v1 : Nat, i_fld h x0 5 8 = some (.ref v1) ∧ (∃ (n2 : Nat) (f3 : Nat → Int64), i_arJ h v1 = some (n2, f3) ∧ ¬ (x2 < 0 ∨ n2 ≤ x2.toNatClampNeg) ∧ (∃ v4 : Nat, i_fld h x0 5 9 = some (.ref v4) ∧ (∃ (n5 : Nat) (f6 : Nat → Int64), i_arJ h v4 = some (n5, f6) ∧ ¬ (x2 < 0 ∨ n5 ≤ x2.toNatClampNeg) ∧ (∃ v7 : Nat, i_fld h x0 5 0 = some (.ref v7) ∧ (∃ v8 : Nat, i_fld h v7 0 0 = some (.ref v8) ∧ (i_obj? h v8 2 ∧ i_C i_MT i_AT L xs 23 [.ref v8, .long x3] h (fun v h9 => ∃ r10 : Int64, v = some (.long r10) ∧ i_P i_MT i_AT L xs 58 117 [some (.ref x0), some (.int x1), some (.int x2), some (.long x3), none, some (.long x5), none, some (.long (f3 x2.toNatClampNeg)), none, some (.long (f6 x2.toNatClampNeg)), none, x11, x12, x13, x14] [.long r10] h9 0 0 Q))))))))) : i_P i_MT i_AT L xs 58 90 [some (.ref x0), some (.int x1), some (.int x2), some (.long x3), none, some (.long x5), none, x7, x8, x9, x10, x11, x12, x13, x14] [] h 0 0 Q := by
  have hk := i_k58
  refine g_s1 (pc2 := 91) hk rfl rfl rfl rfl rfl ?_
  obtain ⟨v1, ev1, H⟩ := H
  refine g_step (pc2 := 94) hk rfl rfl rfl (s_get ev1) ?_
  refine g_s1 (pc2 := 95) hk rfl rfl rfl rfl rfl ?_
  obtain ⟨n2, f3, ef3, hi, H⟩ := H
  refine g_step (pc2 := 96) hk rfl rfl rfl (s_lget ef3 hi) ?_
  refine g_s1 (pc2 := 98) (lo2 := [some (.ref x0), some (.int x1), some (.int x2), some (.long x3), none, some (.long x5), none, some (.long (f3 x2.toNatClampNeg)), none, x9, x10, x11, x12, x13, x14]) hk rfl rfl rfl rfl rfl ?_
  refine g_s1 (pc2 := 99) hk rfl rfl rfl rfl rfl ?_
  obtain ⟨v4, ev4, H⟩ := H
  refine g_step (pc2 := 102) hk rfl rfl rfl (s_get ev4) ?_
  refine g_s1 (pc2 := 103) hk rfl rfl rfl rfl rfl ?_
  obtain ⟨n5, f6, ef6, hi, H⟩ := H
  refine g_step (pc2 := 104) hk rfl rfl rfl (s_lget ef6 hi) ?_
  refine g_s1 (pc2 := 106) (lo2 := [some (.ref x0), some (.int x1), some (.int x2), some (.long x3), none, some (.long x5), none, some (.long (f3 x2.toNatClampNeg)), none, some (.long (f6 x2.toNatClampNeg)), none, x11, x12, x13, x14]) hk rfl rfl rfl rfl rfl ?_
  refine g_s1 (pc2 := 107) hk rfl rfl rfl rfl rfl ?_
  obtain ⟨v7, ev7, H⟩ := H
  refine g_step (pc2 := 110) hk rfl rfl rfl (s_get ev7) ?_
  obtain ⟨v8, ev8, H⟩ := H
  refine g_step (pc2 := 113) hk rfl rfl rfl (s_get ev8) ?_
  refine g_s1 (pc2 := 114) hk rfl rfl rfl rfl rfl ?_
  obtain ⟨ho, H⟩ := H
  refine g_call hk rfl rfl i_k23.1 ⟨rfl, rfl⟩ rfl (i_rcv_v ho rfl (by decide)) rfl ?_
  exact H.mono (fun v h2 q => by obtain ⟨r, rfl, q⟩ := q; exact q)
theorem b58_117 {x0 : Nat} {x1 : Int32} {x2 : Int32} {x3 : Int64} {x5 : Int64} {x7 : Int64} {x9 : Int64} {x11 : Option Value} {x12 : Option Value} {x13 : Option Value} {x14 : Option Value} {s0 : Int64} {h : iH} {Q : Option Value → iH → Prop} (H : (∃ v1 : Nat, i_fld h x0 5 0 = some (.ref v1) ∧ (∃ v2 : Nat, i_fld h v1 0 0 = some (.ref v2) ∧ (i_obj? h v2 2 ∧ i_C i_MT i_AT L xs 23 [.ref v2, .long x5] h (fun v h3 => ∃ r4 : Int64, v = some (.long r4) ∧ i_P i_MT i_AT L xs 58 131 [some (.ref x0), some (.int x1), some (.int x2), some (.long x3), none, some (.long x5), none, some (.long x7), none, some (.long x9), none, some (.long s0), none, x13, x14] [.long r4] h3 0 0 Q))))) : i_P i_MT i_AT L xs 58 117 [some (.ref x0), some (.int x1), some (.int x2), some (.long x3), none, some (.long x5), none, some (.long x7), none, some (.long x9), none, x11, x12, x13, x14] [.long s0] h 0 0 Q := by
  have hk := i_k58
  refine g_s1 (pc2 := 119) (lo2 := [some (.ref x0), some (.int x1), some (.int x2), some (.long x3), none, some (.long x5), none, some (.long x7), none, some (.long x9), none, some (.long s0), none, x13, x14]) hk rfl rfl rfl rfl rfl ?_
  refine g_s1 (pc2 := 120) hk rfl rfl rfl rfl rfl ?_
  obtain ⟨v1, ev1, H⟩ := H
  refine g_step (pc2 := 123) hk rfl rfl rfl (s_get ev1) ?_
  obtain ⟨v2, ev2, H⟩ := H
  refine g_step (pc2 := 126) hk rfl rfl rfl (s_get ev2) ?_
  refine g_s1 (pc2 := 128) hk rfl rfl rfl rfl rfl ?_
  obtain ⟨ho, H⟩ := H
  refine g_call hk rfl rfl i_k23.1 ⟨rfl, rfl⟩ rfl (i_rcv_v ho rfl (by decide)) rfl ?_
  exact H.mono (fun v h2 q => by obtain ⟨r, rfl, q⟩ := q; exact q)
theorem b58_131 {x0 : Nat} {x1 : Int32} {x2 : Int32} {x3 : Int64} {x5 : Int64} {x7 : Int64} {x9 : Int64} {x11 : Int64} {x13 : Option Value} {x14 : Option Value} {s0 : Int64} {h : iH} {Q : Option Value → iH → Prop} (H : (i_obj? h x0 5 ∧ i_C i_MT i_AT L xs 59 [.ref x0, .int x1, .int x2, .long (((x3 ||| (x11 &&& (x7 ^^^ (-1 : Int64)))) ||| (x5 &&& (x9 ^^^ (-1 : Int64)))) ||| ((s0 &&& (x7 ^^^ (-1 : Int64))) &&& (x9 ^^^ (-1 : Int64))))] h (fun v h1 => v = none ∧ i_P i_MT i_AT L xs 58 177 [some (.ref x0), some (.int x1), some (.int x2), some (.long x3), none, some (.long x5), none, some (.long x7), none, some (.long x9), none, some (.long x11), none, some (.long s0), none] [] h1 0 0 Q))) : i_P i_MT i_AT L xs 58 131 [some (.ref x0), some (.int x1), some (.int x2), some (.long x3), none, some (.long x5), none, some (.long x7), none, some (.long x9), none, some (.long x11), none, x13, x14] [.long s0] h 0 0 Q := by
  have hk := i_k58
  refine g_s1 (pc2 := 133) (lo2 := [some (.ref x0), some (.int x1), some (.int x2), some (.long x3), none, some (.long x5), none, some (.long x7), none, some (.long x9), none, some (.long x11), none, some (.long s0), none]) hk rfl rfl rfl rfl rfl ?_
  refine g_s1 (pc2 := 134) hk rfl rfl rfl rfl rfl ?_
  refine g_s1 (pc2 := 135) hk rfl rfl rfl rfl rfl ?_
  refine g_s1 (pc2 := 136) hk rfl rfl rfl rfl rfl ?_
  refine g_s1 (pc2 := 137) hk rfl rfl rfl rfl rfl ?_
  refine g_s1 (pc2 := 139) hk rfl rfl rfl rfl rfl ?_
  refine g_s1 (pc2 := 141) hk rfl rfl rfl rfl rfl ?_
  refine g_step (pc2 := 144) (st2 := [.long (-1 : Int64), .long x7, .long x11, .long x3, .int x2, .int x1, .ref x0]) hk rfl rfl rfl rfl ?_
  refine g_s1 (pc2 := 145) hk rfl rfl rfl rfl rfl ?_
  refine g_s1 (pc2 := 146) hk rfl rfl rfl rfl rfl ?_
  refine g_s1 (pc2 := 147) hk rfl rfl rfl rfl rfl ?_
  refine g_s1 (pc2 := 149) hk rfl rfl rfl rfl rfl ?_
  refine g_s1 (pc2 := 151) hk rfl rfl rfl rfl rfl ?_
  refine g_step (pc2 := 154) (st2 := [.long (-1 : Int64), .long x9, .long x5, .long (x3 ||| (x11 &&& (x7 ^^^ (-1 : Int64)))), .int x2, .int x1, .ref x0]) hk rfl rfl rfl rfl ?_
  refine g_s1 (pc2 := 155) hk rfl rfl rfl rfl rfl ?_
  refine g_s1 (pc2 := 156) hk rfl rfl rfl rfl rfl ?_
  refine g_s1 (pc2 := 157) hk rfl rfl rfl rfl rfl ?_
  refine g_s1 (pc2 := 159) hk rfl rfl rfl rfl rfl ?_
  refine g_s1 (pc2 := 161) hk rfl rfl rfl rfl rfl ?_
  refine g_step (pc2 := 164) (st2 := [.long (-1 : Int64), .long x7, .long s0, .long ((x3 ||| (x11 &&& (x7 ^^^ (-1 : Int64)))) ||| (x5 &&& (x9 ^^^ (-1 : Int64)))), .int x2, .int x1, .ref x0]) hk rfl rfl rfl rfl ?_
  refine g_s1 (pc2 := 165) hk rfl rfl rfl rfl rfl ?_
  refine g_s1 (pc2 := 166) hk rfl rfl rfl rfl rfl ?_
  refine g_s1 (pc2 := 168) hk rfl rfl rfl rfl rfl ?_
  refine g_step (pc2 := 171) (st2 := [.long (-1 : Int64), .long x9, .long (s0 &&& (x7 ^^^ (-1 : Int64))), .long ((x3 ||| (x11 &&& (x7 ^^^ (-1 : Int64)))) ||| (x5 &&& (x9 ^^^ (-1 : Int64)))), .int x2, .int x1, .ref x0]) hk rfl rfl rfl rfl ?_
  refine g_s1 (pc2 := 172) hk rfl rfl rfl rfl rfl ?_
  refine g_s1 (pc2 := 173) hk rfl rfl rfl rfl rfl ?_
  refine g_s1 (pc2 := 174) hk rfl rfl rfl rfl rfl ?_
  obtain ⟨ho, H⟩ := H
  refine g_call hk rfl rfl i_k59.1 ⟨rfl, rfl⟩ rfl (i_rcv_v ho rfl (by decide)) rfl ?_
  exact H.mono (fun v h2 q => by obtain ⟨rfl, q⟩ := q; exact q)
theorem b58_177 {x0 : Nat} {x1 : Int32} {x2 : Int32} {x3 : Int64} {x5 : Int64} {x7 : Int64} {x9 : Int64} {x11 : Int64} {x13 : Int64} {h : iH} {Q : Option Value → iH → Prop} (H : (i_obj? h x0 5 ∧ i_C i_MT i_AT L xs 59 [.ref x0, .int (x1 ||| (1 : Int32)), .int x2, .long ((x11 &&& x7) ||| ((x13 &&& x7) &&& (x9 ^^^ (-1 : Int64))))] h (fun v h1 => v = none ∧ i_P i_MT i_AT L xs 58 203 [some (.ref x0), some (.int x1), some (.int x2), some (.long x3), none, some (.long x5), none, some (.long x7), none, some (.long x9), none, some (.long x11), none, some (.long x13), none] [] h1 0 0 Q))) : i_P i_MT i_AT L xs 58 177 [some (.ref x0), some (.int x1), some (.int x2), some (.long x3), none, some (.long x5), none, some (.long x7), none, some (.long x9), none, some (.long x11), none, some (.long x13), none] [] h 0 0 Q := by
  have hk := i_k58
  refine g_s1 (pc2 := 178) hk rfl rfl rfl rfl rfl ?_
  refine g_s1 (pc2 := 179) hk rfl rfl rfl rfl rfl ?_
  refine g_s1 (pc2 := 180) (st2 := [.int (1 : Int32), .int x1, .ref x0]) hk rfl rfl rfl rfl rfl ?_
  refine g_s1 (pc2 := 181) hk rfl rfl rfl rfl rfl ?_
  refine g_s1 (pc2 := 182) hk rfl rfl rfl rfl rfl ?_
  refine g_s1 (pc2 := 184) hk rfl rfl rfl rfl rfl ?_
  refine g_s1 (pc2 := 186) hk rfl rfl rfl rfl rfl ?_
  refine g_s1 (pc2 := 187) hk rfl rfl rfl rfl rfl ?_
  refine g_s1 (pc2 := 189) hk rfl rfl rfl rfl rfl ?_
  refine g_s1 (pc2 := 191) hk rfl rfl rfl rfl rfl ?_
  refine g_s1 (pc2 := 192) hk rfl rfl rfl rfl rfl ?_
  refine g_s1 (pc2 := 194) hk rfl rfl rfl rfl rfl ?_
  refine g_step (pc2 := 197) (st2 := [.long (-1 : Int64), .long x9, .long (x13 &&& x7), .long (x11 &&& x7), .int x2, .int (x1 ||| (1 : Int32)), .ref x0]) hk rfl rfl rfl rfl ?_
  refine g_s1 (pc2 := 198) hk rfl rfl rfl rfl rfl ?_
  refine g_s1 (pc2 := 199) hk rfl rfl rfl rfl rfl ?_
  refine g_s1 (pc2 := 200) hk rfl rfl rfl rfl rfl ?_
  obtain ⟨ho, H⟩ := H
  refine g_call hk rfl rfl i_k59.1 ⟨rfl, rfl⟩ rfl (i_rcv_v ho rfl (by decide)) rfl ?_
  exact H.mono (fun v h2 q => by obtain ⟨rfl, q⟩ := q; exact q)
theorem b58_203 {x0 : Nat} {x1 : Int32} {x2 : Int32} {x3 : Int64} {x5 : Int64} {x7 : Int64} {x9 : Int64} {x11 : Int64} {x13 : Int64} {h : iH} {Q : Option Value → iH → Prop} (H : (i_obj? h x0 5 ∧ i_C i_MT i_AT L xs 59 [.ref x0, .int (x1 ||| (2 : Int32)), .int x2, .long ((x5 &&& x9) ||| ((x13 &&& (x7 ^^^ (-1 : Int64))) &&& x9))] h (fun v h1 => v = none ∧ i_P i_MT i_AT L xs 58 229 [some (.ref x0), some (.int x1), some (.int x2), some (.long x3), none, some (.long x5), none, some (.long x7), none, some (.long x9), none, some (.long x11), none, some (.long x13), none] [] h1 0 0 Q))) : i_P i_MT i_AT L xs 58 203 [some (.ref x0), some (.int x1), some (.int x2), some (.long x3), none, some (.long x5), none, some (.long x7), none, some (.long x9), none, some (.long x11), none, some (.long x13), none] [] h 0 0 Q := by
  have hk := i_k58
  refine g_s1 (pc2 := 204) hk rfl rfl rfl rfl rfl ?_
  refine g_s1 (pc2 := 205) hk rfl rfl rfl rfl rfl ?_
  refine g_s1 (pc2 := 206) (st2 := [.int (2 : Int32), .int x1, .ref x0]) hk rfl rfl rfl rfl rfl ?_
  refine g_s1 (pc2 := 207) hk rfl rfl rfl rfl rfl ?_
  refine g_s1 (pc2 := 208) hk rfl rfl rfl rfl rfl ?_
  refine g_s1 (pc2 := 210) hk rfl rfl rfl rfl rfl ?_
  refine g_s1 (pc2 := 212) hk rfl rfl rfl rfl rfl ?_
  refine g_s1 (pc2 := 213) hk rfl rfl rfl rfl rfl ?_
  refine g_s1 (pc2 := 215) hk rfl rfl rfl rfl rfl ?_
  refine g_s1 (pc2 := 217) hk rfl rfl rfl rfl rfl ?_
  refine g_step (pc2 := 220) (st2 := [.long (-1 : Int64), .long x7, .long x13, .long (x5 &&& x9), .int x2, .int (x1 ||| (2 : Int32)), .ref x0]) hk rfl rfl rfl rfl ?_
  refine g_s1 (pc2 := 221) hk rfl rfl rfl rfl rfl ?_
  refine g_s1 (pc2 := 222) hk rfl rfl rfl rfl rfl ?_
  refine g_s1 (pc2 := 224) hk rfl rfl rfl rfl rfl ?_
  refine g_s1 (pc2 := 225) hk rfl rfl rfl rfl rfl ?_
  refine g_s1 (pc2 := 226) hk rfl rfl rfl rfl rfl ?_
  obtain ⟨ho, H⟩ := H
  refine g_call hk rfl rfl i_k59.1 ⟨rfl, rfl⟩ rfl (i_rcv_v ho rfl (by decide)) rfl ?_
  exact H.mono (fun v h2 q => by obtain ⟨rfl, q⟩ := q; exact q)
theorem b58_229 {x0 : Nat} {x1 : Int32} {x2 : Int32} {x3 : Int64} {x5 : Int64} {x7 : Int64} {x9 : Int64} {x11 : Int64} {x13 : Int64} {h : iH} {Q : Option Value → iH → Prop} (H : (i_obj? h x0 5 ∧ i_C i_MT i_AT L xs 59 [.ref x0, .int (3 : Int32), .int x2, .long ((x13 &&& x7) &&& x9)] h (fun v h1 => v = none ∧ i_P i_MT i_AT L xs 58 243 [some (.ref x0), some (.int x1), some (.int x2), some (.long x3), none, some (.long x5), none, some (.long x7), none, some (.long x9), none, some (.long x11), none, some (.long x13), none] [] h1 0 0 Q))) : i_P i_MT i_AT L xs 58 229 [some (.ref x0), some (.int x1), some (.int x2), some (.long x3), none, some (.long x5), none, some (.long x7), none, some (.long x9), none, some (.long x11), none, some (.long x13), none] [] h 0 0 Q := by
  have hk := i_k58
  refine g_s1 (pc2 := 230) hk rfl rfl rfl rfl rfl ?_
  refine g_s1 (pc2 := 231) (st2 := [.int (3 : Int32), .ref x0]) hk rfl rfl rfl rfl rfl ?_
  refine g_s1 (pc2 := 232) hk rfl rfl rfl rfl rfl ?_
  refine g_s1 (pc2 := 234) hk rfl rfl rfl rfl rfl ?_
  refine g_s1 (pc2 := 236) hk rfl rfl rfl rfl rfl ?_
  refine g_s1 (pc2 := 237) hk rfl rfl rfl rfl rfl ?_
  refine g_s1 (pc2 := 239) hk rfl rfl rfl rfl rfl ?_
  refine g_s1 (pc2 := 240) hk rfl rfl rfl rfl rfl ?_
  obtain ⟨ho, H⟩ := H
  refine g_call hk rfl rfl i_k59.1 ⟨rfl, rfl⟩ rfl (i_rcv_v ho rfl (by decide)) rfl ?_
  exact H.mono (fun v h2 q => by obtain ⟨rfl, q⟩ := q; exact q)
theorem b58_243 {x0 : Nat} {x1 : Int32} {x2 : Int32} {x3 : Int64} {x5 : Int64} {x7 : Int64} {x9 : Int64} {x11 : Int64} {x13 : Int64} {h : iH} {Q : Option Value → iH → Prop} (H : Q none h) : i_P i_MT i_AT L xs 58 243 [some (.ref x0), some (.int x1), some (.int x2), some (.long x3), none, some (.long x5), none, some (.long x7), none, some (.long x9), none, some (.long x11), none, some (.long x13), none] [] h 0 0 Q := by
  have hk := i_k58
  exact g_return hk rfl (by decide) (by decide) rfl H
/-! StillTown$Search.notePairs(IIJ)V -/
theorem e59 {x0 : Nat} {x1 : Int32} {x2 : Int32} {x3 : Int64} {h : iH} {Q : Option Value → iH → Prop} (H : i_P i_MT i_AT L xs 59 0 [some (.ref x0), some (.int x1), some (.int x2), some (.long x3), none] [] h 0 0 Q) : i_C i_MT i_AT L xs 59 [.ref x0, .int x1, .int x2, .long x3] h Q := ⟨i_m59, i_k59.1, Nat.le_of_ble_eq_true rfl, H⟩
theorem b59_0 {x0 : Nat} {x1 : Int32} {x2 : Int32} {x3 : Int64} {h : iH} {Q : Option Value → iH → Prop} (H : (∃ v1 : Nat, i_fld h x0 5 7 = some (.ref v1) ∧ (∃ (n2 : Nat) (f3 : Nat → Int64), i_arJ h v1 = some (n2, f3) ∧ ¬ (((x1 * (48 : Int32)) + x2) < 0 ∨ n2 ≤ ((x1 * (48 : Int32)) + x2).toNatClampNeg) ∧ (∃ (n4 : Nat) (f5 : Nat → Int64), i_arJ h v1 = some (n4, f5) ∧ ¬ (((x1 * (48 : Int32)) + x2) < 0 ∨ n4 ≤ ((x1 * (48 : Int32)) + x2).toNatClampNeg) ∧ i_P i_MT i_AT L xs 59 15 [some (.ref x0), some (.int x1), some (.int x2), some (.long x3), none] [] (i_siJ h v1 ((x1 * (48 : Int32)) + x2).toNatClampNeg ((f3 ((x1 * (48 : Int32)) + x2).toNatClampNeg) ||| x3)) 0 0 Q)))) : i_P i_MT i_AT L xs 59 0 [some (.ref x0), some (.int x1), some (.int x2), some (.long x3), none] [] h 0 0 Q := by
  have hk := i_k59
  refine g_s1 (pc2 := 1) hk rfl rfl rfl rfl rfl ?_
  obtain ⟨v1, ev1, H⟩ := H
  refine g_step (pc2 := 4) hk rfl rfl rfl (s_get ev1) ?_
  refine g_s1 (pc2 := 5) hk rfl rfl rfl rfl rfl ?_
  refine g_s1 (pc2 := 7) (st2 := [.int (48 : Int32), .int x1, .ref v1]) hk rfl rfl rfl rfl rfl ?_
  refine g_s1 (pc2 := 8) hk rfl rfl rfl rfl rfl ?_
  refine g_s1 (pc2 := 9) hk rfl rfl rfl rfl rfl ?_
  refine g_s1 (pc2 := 10) hk rfl rfl rfl rfl rfl ?_
  refine g_s1 (pc2 := 11) hk rfl rfl rfl rfl rfl ?_
  obtain ⟨n2, f3, ef3, hi, H⟩ := H
  refine g_step (pc2 := 12) hk rfl rfl rfl (s_lget ef3 hi) ?_
  refine g_s1 (pc2 := 13) hk rfl rfl rfl rfl rfl ?_
  refine g_s1 (pc2 := 14) hk rfl rfl rfl rfl rfl ?_
  obtain ⟨n4, f5, ef5, hi, H⟩ := H
  refine g_step (pc2 := 15) hk rfl rfl rfl (s_lput ef5 hi) ?_
  exact H
theorem b59_15 {x0 : Nat} {x1 : Int32} {x2 : Int32} {x3 : Int64} {h : iH} {Q : Option Value → iH → Prop} (H : Q none h) : i_P i_MT i_AT L xs 59 15 [some (.ref x0), some (.int x1), some (.int x2), some (.long x3), none] [] h 0 0 Q := by
  have hk := i_k59
  exact g_return hk rfl (by decide) (by decide) rfl H
/-! StillTown$Search.soonestHad(II)I -/
theorem e60 {x0 : Nat} {x1 : Int32} {x2 : Int32} {h : iH} {Q : Option Value → iH → Prop} (H : i_P i_MT i_AT L xs 60 0 [some (.ref x0), some (.int x1), some (.int x2), none, none, none] [] h 0 0 Q) : i_C i_MT i_AT L xs 60 [.ref x0, .int x1, .int x2] h Q := ⟨i_m60, i_k60.1, Nat.le_of_ble_eq_true rfl, H⟩
theorem b60_0 {x0 : Nat} {x1 : Int32} {x2 : Int32} {x3 : Option Value} {x4 : Option Value} {x5 : Option Value} {h : iH} {Q : Option Value → iH → Prop} (H : i_P i_MT i_AT L xs 60 2 [some (.ref x0), some (.int x1), some (.int x2), some (.int (0 : Int32)), x4, x5] [] h 0 0 Q) : i_P i_MT i_AT L xs 60 0 [some (.ref x0), some (.int x1), some (.int x2), x3, x4, x5] [] h 0 0 Q := by
  have hk := i_k60
  refine g_s1 (pc2 := 1) (st2 := [.int (0 : Int32)]) hk rfl rfl rfl rfl rfl ?_
  refine g_s1 (pc2 := 2) (lo2 := [some (.ref x0), some (.int x1), some (.int x2), some (.int (0 : Int32)), x4, x5]) hk rfl rfl rfl rfl rfl ?_
  exact H
theorem b60_2 {x0 : Nat} {x1 : Int32} {x2 : Int32} {x3 : Int32} {x4 : Option Value} {x5 : Option Value} {h : iH} {Q : Option Value → iH → Prop} (H : (∃ v1 : Nat, i_fld h x0 5 0 = some (.ref v1) ∧ (∃ v2 : Nat, i_fld h v1 0 0 = some (.ref v2) ∧ (∃ v3 : Int32, i_fld h v2 2 2 = some (.int v3) ∧ ((v3 ≤ x3 → i_P i_MT i_AT L xs 60 39 [some (.ref x0), some (.int x1), some (.int x2), some (.int (0 : Int32)), some (.int (1 : Int32)), some (.int (0 : Int32))] [] h 0 0 Q) ∧ (¬ (v3 ≤ x3) → (∃ v4 : Nat, i_fld h x0 5 10 = some (.ref v4) ∧ (∃ (n5 : Nat) (f6 : Nat → Int64), i_arJ h v4 = some (n5, f6) ∧ ¬ (x3 < 0 ∨ n5 ≤ x3.toNatClampNeg) ∧ i_P i_MT i_AT L xs 60 25 [some (.ref x0), some (.int x1), some (.int x2), some (.int x3), x4, x5] [] (i_siJ h v4 x3.toNatClampNeg ((1 : Int64) <<< (x3.toInt64 &&& 63))) 0 0 Q)))))))) : i_P i_MT i_AT L xs 60 2 [some (.ref x0), some (.int x1), some (.int x2), some (.int x3), x4, x5] [] h 0 0 Q := by
  have hk := i_k60
  refine g_s1 (pc2 := 3) hk rfl rfl rfl rfl rfl ?_
  refine g_s1 (pc2 := 4) hk rfl rfl rfl rfl rfl ?_
  obtain ⟨v1, ev1, H⟩ := H
  refine g_step (pc2 := 7) hk rfl rfl rfl (s_get ev1) ?_
  obtain ⟨v2, ev2, H⟩ := H
  refine g_step (pc2 := 10) hk rfl rfl rfl (s_get ev2) ?_
  obtain ⟨v3, ev3, H⟩ := H
  refine g_step (pc2 := 13) hk rfl rfl rfl (s_get ev3) ?_
  refine g_icmp_ge hk rfl (fun hc => ?_) (fun hc => ?_)
  · have H := H.1 hc
    refine g_s1 (pc2 := 32) (st2 := [.int (0 : Int32)]) hk rfl rfl rfl rfl rfl ?_
    refine g_s1 (pc2 := 33) (lo2 := [some (.ref x0), some (.int x1), some (.int x2), some (.int (0 : Int32)), x4, x5]) hk rfl rfl rfl rfl rfl ?_
    refine g_s1 (pc2 := 34) (st2 := [.int (1 : Int32)]) hk rfl rfl rfl rfl rfl ?_
    refine g_s1 (pc2 := 36) (lo2 := [some (.ref x0), some (.int x1), some (.int x2), some (.int (0 : Int32)), some (.int (1 : Int32)), x5]) hk rfl rfl rfl rfl rfl ?_
    refine g_s1 (pc2 := 37) (st2 := [.int (0 : Int32)]) hk rfl rfl rfl rfl rfl ?_
    refine g_s1 (pc2 := 39) (lo2 := [some (.ref x0), some (.int x1), some (.int x2), some (.int (0 : Int32)), some (.int (1 : Int32)), some (.int (0 : Int32))]) hk rfl rfl rfl rfl rfl ?_
    exact H
  · have H := H.2 hc
    refine g_s1 (pc2 := 17) hk rfl rfl rfl rfl rfl ?_
    obtain ⟨v4, ev4, H⟩ := H
    refine g_step (pc2 := 20) hk rfl rfl rfl (s_get ev4) ?_
    refine g_s1 (pc2 := 21) hk rfl rfl rfl rfl rfl ?_
    refine g_s1 (pc2 := 22) (st2 := [.long (1 : Int64), .int x3, .ref v4]) hk rfl rfl rfl rfl rfl ?_
    refine g_s1 (pc2 := 23) hk rfl rfl rfl rfl rfl ?_
    refine g_s1 (pc2 := 24) hk rfl rfl rfl rfl rfl ?_
    obtain ⟨n5, f6, ef6, hi, H⟩ := H
    refine g_step (pc2 := 25) hk rfl rfl rfl (s_lput ef6 hi) ?_
    exact H
theorem b60_25 {x0 : Nat} {x1 : Int32} {x2 : Int32} {x3 : Int32} {x4 : Option Value} {x5 : Option Value} {h : iH} {Q : Option Value → iH → Prop} (H : i_P i_MT i_AT L xs 60 2 [some (.ref x0), some (.int x1), some (.int x2), some (.int (x3 + 1)), x4, x5] [] h 0 0 Q) : i_P i_MT i_AT L xs 60 25 [some (.ref x0), some (.int x1), some (.int x2), some (.int x3), x4, x5] [] h 0 0 Q := by
  have hk := i_k60
  refine g_s1 (pc2 := 28) (lo2 := [some (.ref x0), some (.int x1), some (.int x2), some (.int (x3 + 1)), x4, x5]) hk rfl rfl rfl rfl rfl ?_
  refine g_s1 (pc2 := 2) hk rfl rfl rfl rfl rfl ?_
  exact H
theorem b60_39 {x0 : Nat} {x1 : Int32} {x2 : Int32} {x3 : Int32} {x4 : Int32} {x5 : Int32} {h : iH} {Q : Option Value → iH → Prop} (H : (((2304 : Int32) ≤ x5 → i_P i_MT i_AT L xs 60 80 [some (.ref x0), some (.int x1), some (.int x2), some (.int x3), some (.int x4), some (.int x5)] [] h 0 0 Q) ∧ (¬ ((2304 : Int32) ≤ x5) → ((x4 = 0 → i_P i_MT i_AT L xs 60 80 [some (.ref x0), some (.int x1), some (.int x2), some (.int x3), some (.int x4), some (.int x5)] [] h 0 0 Q) ∧ (¬ (x4 = 0) → (∃ v1 : Nat, i_fld h x0 5 10 = some (.ref v1) ∧ (∃ (n2 : Nat) (f3 : Nat → Int64), i_arJ h v1 = some (n2, f3) ∧ ¬ (x1 < 0 ∨ n2 ≤ x1.toNatClampNeg) ∧ (i_C i_MT i_AT L xs 193 [.long (f3 x1.toNatClampNeg), .int x2] h (fun v h4 => ∃ r5 : Int32, v = some (.int r5) ∧ i_P i_MT i_AT L xs 60 62 [some (.ref x0), some (.int x1), some (.int x2), some (.int x3), some (.int x4), some (.int x5)] [.int r5] h4 0 0 Q))))))))) : i_P i_MT i_AT L xs 60 39 [some (.ref x0), some (.int x1), some (.int x2), some (.int x3), some (.int x4), some (.int x5)] [] h 0 0 Q := by
  have hk := i_k60
  refine g_s1 (pc2 := 41) hk rfl rfl rfl rfl rfl ?_
  refine g_s1 (pc2 := 44) (st2 := [.int (2304 : Int32), .int x5]) hk rfl rfl rfl rfl rfl ?_
  refine g_icmp_ge hk rfl (fun hc => ?_) (fun hc => ?_)
  · have H := H.1 hc
    exact H
  · have H := H.2 hc
    refine g_s1 (pc2 := 49) hk rfl rfl rfl rfl rfl ?_
    refine g_if_eq hk rfl (fun hc => ?_) (fun hc => ?_)
    · have H := H.1 hc
      exact H
    · have H := H.2 hc
      refine g_s1 (pc2 := 53) hk rfl rfl rfl rfl rfl ?_
      obtain ⟨v1, ev1, H⟩ := H
      refine g_step (pc2 := 56) hk rfl rfl rfl (s_get ev1) ?_
      refine g_s1 (pc2 := 57) hk rfl rfl rfl rfl rfl ?_
      obtain ⟨n2, f3, ef3, hi, H⟩ := H
      refine g_step (pc2 := 58) hk rfl rfl rfl (s_lget ef3 hi) ?_
      refine g_s1 (pc2 := 59) hk rfl rfl rfl rfl rfl ?_
      refine g_call hk rfl rfl i_k193.1 ⟨rfl, rfl⟩ rfl (i_rcv_0 rfl) rfl ?_
      exact H.mono (fun v h2 q => by obtain ⟨r, rfl, q⟩ := q; exact q)
theorem b60_62 {x0 : Nat} {x1 : Int32} {x2 : Int32} {x3 : Int32} {x4 : Int32} {x5 : Int32} {s0 : Int32} {h : iH} {Q : Option Value → iH → Prop} (H : ((¬ s0 = 0 → i_P i_MT i_AT L xs 60 80 [some (.ref x0), some (.int x1), some (.int x2), some (.int x3), some (.int x4), some (.int x5)] [] h 0 0 Q) ∧ (¬ (¬ s0 = 0) → (i_obj? h x0 5 ∧ i_C i_MT i_AT L xs 61 [.ref x0] h (fun v h1 => ∃ r2 : Int32, v = some (.int r2) ∧ i_P i_MT i_AT L xs 60 69 [some (.ref x0), some (.int x1), some (.int x2), some (.int x3), some (.int x4), some (.int x5)] [.int r2] h1 0 0 Q))))) : i_P i_MT i_AT L xs 60 62 [some (.ref x0), some (.int x1), some (.int x2), some (.int x3), some (.int x4), some (.int x5)] [.int s0] h 0 0 Q := by
  have hk := i_k60
  refine g_if_ne hk rfl (fun hc => ?_) (fun hc => ?_)
  · have H := H.1 hc
    exact H
  · have H := H.2 hc
    refine g_s1 (pc2 := 66) hk rfl rfl rfl rfl rfl ?_
    obtain ⟨ho, H⟩ := H
    refine g_call hk rfl rfl i_k61.1 ⟨rfl, rfl⟩ rfl (i_rcv_v ho rfl (by decide)) rfl ?_
    exact H.mono (fun v h2 q => by obtain ⟨r, rfl, q⟩ := q; exact q)
theorem b60_69 {x0 : Nat} {x1 : Int32} {x2 : Int32} {x3 : Int32} {x4 : Int32} {x5 : Int32} {s0 : Int32} {h : iH} {Q : Option Value → iH → Prop} (H : i_P i_MT i_AT L xs 60 39 [some (.ref x0), some (.int x1), some (.int x2), some (.int (x3 + 1)), some (.int s0), some (.int (x5 + 1))] [] h 0 0 Q) : i_P i_MT i_AT L xs 60 69 [some (.ref x0), some (.int x1), some (.int x2), some (.int x3), some (.int x4), some (.int x5)] [.int s0] h 0 0 Q := by
  have hk := i_k60
  refine g_s1 (pc2 := 71) (lo2 := [some (.ref x0), some (.int x1), some (.int x2), some (.int x3), some (.int s0), some (.int x5)]) hk rfl rfl rfl rfl rfl ?_
  refine g_s1 (pc2 := 74) (lo2 := [some (.ref x0), some (.int x1), some (.int x2), some (.int (x3 + 1)), some (.int s0), some (.int x5)]) hk rfl rfl rfl rfl rfl ?_
  refine g_s1 (pc2 := 77) (lo2 := [some (.ref x0), some (.int x1), some (.int x2), some (.int (x3 + 1)), some (.int s0), some (.int (x5 + 1))]) hk rfl rfl rfl rfl rfl ?_
  refine g_s1 (pc2 := 39) hk rfl rfl rfl rfl rfl ?_
  exact H
theorem b60_80 {x0 : Nat} {x1 : Int32} {x2 : Int32} {x3 : Int32} {x4 : Int32} {x5 : Int32} {h : iH} {Q : Option Value → iH → Prop} (H : (∃ v1 : Nat, i_fld h x0 5 10 = some (.ref v1) ∧ (∃ (n2 : Nat) (f3 : Nat → Int64), i_arJ h v1 = some (n2, f3) ∧ ¬ (x1 < 0 ∨ n2 ≤ x1.toNatClampNeg) ∧ (i_C i_MT i_AT L xs 193 [.long (f3 x1.toNatClampNeg), .int x2] h (fun v h4 => ∃ r5 : Int32, v = some (.int r5) ∧ i_P i_MT i_AT L xs 60 90 [some (.ref x0), some (.int x1), some (.int x2), some (.int x3), some (.int x4), some (.int x5)] [.int r5] h4 0 0 Q))))) : i_P i_MT i_AT L xs 60 80 [some (.ref x0), some (.int x1), some (.int x2), some (.int x3), some (.int x4), some (.int x5)] [] h 0 0 Q := by
  have hk := i_k60
  refine g_s1 (pc2 := 81) hk rfl rfl rfl rfl rfl ?_
  obtain ⟨v1, ev1, H⟩ := H
  refine g_step (pc2 := 84) hk rfl rfl rfl (s_get ev1) ?_
  refine g_s1 (pc2 := 85) hk rfl rfl rfl rfl rfl ?_
  obtain ⟨n2, f3, ef3, hi, H⟩ := H
  refine g_step (pc2 := 86) hk rfl rfl rfl (s_lget ef3 hi) ?_
  refine g_s1 (pc2 := 87) hk rfl rfl rfl rfl rfl ?_
  refine g_call hk rfl rfl i_k193.1 ⟨rfl, rfl⟩ rfl (i_rcv_0 rfl) rfl ?_
  exact H.mono (fun v h2 q => by obtain ⟨r, rfl, q⟩ := q; exact q)
theorem b60_90 {x0 : Nat} {x1 : Int32} {x2 : Int32} {x3 : Int32} {x4 : Int32} {x5 : Int32} {s0 : Int32} {h : iH} {Q : Option Value → iH → Prop} (H : ((s0 = 0 → i_P i_MT i_AT L xs 60 98 [some (.ref x0), some (.int x1), some (.int x2), some (.int x3), some (.int x4), some (.int x5)] [.int (-1 : Int32)] h 0 0 Q) ∧ (¬ (s0 = 0) → i_P i_MT i_AT L xs 60 98 [some (.ref x0), some (.int x1), some (.int x2), some (.int x3), some (.int x4), some (.int x5)] [.int x3] h 0 0 Q))) : i_P i_MT i_AT L xs 60 90 [some (.ref x0), some (.int x1), some (.int x2), some (.int x3), some (.int x4), some (.int x5)] [.int s0] h 0 0 Q := by
  have hk := i_k60
  refine g_if_eq hk rfl (fun hc => ?_) (fun hc => ?_)
  · have H := H.1 hc
    refine g_s1 (pc2 := 98) (st2 := [.int (-1 : Int32)]) hk rfl rfl rfl rfl rfl ?_
    exact H
  · have H := H.2 hc
    refine g_s1 (pc2 := 94) hk rfl rfl rfl rfl rfl ?_
    refine g_s1 (pc2 := 98) hk rfl rfl rfl rfl rfl ?_
    exact H
theorem b60_98 {x0 : Nat} {x1 : Int32} {x2 : Int32} {x3 : Int32} {x4 : Int32} {x5 : Int32} {s0 : Int32} {h : iH} {Q : Option Value → iH → Prop} (H : Q (some (.int s0)) h) : i_P i_MT i_AT L xs 60 98 [some (.ref x0), some (.int x1), some (.int x2), some (.int x3), some (.int x4), some (.int x5)] [.int s0] h 0 0 Q := by
  have hk := i_k60
  exact g_ireturn hk rfl (by decide) (by decide) rfl H
/-! StillTown$Search.widen()Z -/
theorem e61 {x0 : Nat} {h : iH} {Q : Option Value → iH → Prop} (H : i_P i_MT i_AT L xs 61 0 [some (.ref x0), none, none, none, none, none, none] [] h 0 0 Q) : i_C i_MT i_AT L xs 61 [.ref x0] h Q := ⟨i_m61, i_k61.1, Nat.le_of_ble_eq_true rfl, H⟩
theorem b61_0 {x0 : Nat} {x1 : Option Value} {x2 : Option Value} {x3 : Option Value} {x4 : Option Value} {x5 : Option Value} {x6 : Option Value} {h : iH} {Q : Option Value → iH → Prop} (H : (∃ v1 : Nat, i_fld h x0 5 0 = some (.ref v1) ∧ (∃ v2 : Nat, i_fld h v1 0 0 = some (.ref v2) ∧ i_P i_MT i_AT L xs 61 10 [some (.ref x0), some (.ref v2), some (.int (0 : Int32)), x3, x4, x5, x6] [] h 0 0 Q))) : i_P i_MT i_AT L xs 61 0 [some (.ref x0), x1, x2, x3, x4, x5, x6] [] h 0 0 Q := by
  have hk := i_k61
  refine g_s1 (pc2 := 1) hk rfl rfl rfl rfl rfl ?_
  obtain ⟨v1, ev1, H⟩ := H
  refine g_step (pc2 := 4) hk rfl rfl rfl (s_get ev1) ?_
  obtain ⟨v2, ev2, H⟩ := H
  refine g_step (pc2 := 7) hk rfl rfl rfl (s_get ev2) ?_
  refine g_s1 (pc2 := 8) (lo2 := [some (.ref x0), some (.ref v2), x2, x3, x4, x5, x6]) hk rfl rfl rfl rfl rfl ?_
  refine g_s1 (pc2 := 9) (st2 := [.int (0 : Int32)]) hk rfl rfl rfl rfl rfl ?_
  refine g_s1 (pc2 := 10) (lo2 := [some (.ref x0), some (.ref v2), some (.int (0 : Int32)), x3, x4, x5, x6]) hk rfl rfl rfl rfl rfl ?_
  exact H
theorem b61_10 {x0 : Nat} {x1 : Nat} {x2 : Int32} {x3 : Option Value} {x4 : Option Value} {x5 : Option Value} {x6 : Option Value} {h : iH} {Q : Option Value → iH → Prop} (H : (∃ v1 : Int32, i_fld h x1 2 2 = some (.int v1) ∧ ((v1 ≤ x2 → i_P i_MT i_AT L xs 61 74 [some (.ref x0), some (.ref x1), some (.int (0 : Int32)), some (.int (0 : Int32)), x4, x5, x6] [] h 0 0 Q) ∧ (¬ (v1 ≤ x2) → (∃ v2 : Int64, i_fld h x1 2 4 = some (.long v2) ∧ (∃ v3 : Nat, i_fld h x0 5 10 = some (.ref v3) ∧ (∃ (n4 : Nat) (f5 : Nat → Int64), i_arJ h v3 = some (n4, f5) ∧ ¬ (x2 < 0 ∨ n4 ≤ x2.toNatClampNeg) ∧ (∃ v6 : Nat, i_fld h x0 5 11 = some (.ref v6) ∧ (∃ v7 : Int64, i_fld h x1 2 4 = some (.long v7) ∧ (i_obj? h x1 2 ∧ i_C i_MT i_AT L xs 23 [.ref x1, .long (v2 &&& ((f5 x2.toNatClampNeg) ^^^ (-1 : Int64)))] h (fun v h8 => ∃ r9 : Int64, v = some (.long r9) ∧ i_P i_MT i_AT L xs 61 54 [some (.ref x0), some (.ref x1), some (.int x2), some (.long (v2 &&& ((f5 x2.toNatClampNeg) ^^^ (-1 : Int64)))), none, x5, x6] [.long r9, .long (v7 &&& ((v2 &&& ((f5 x2.toNatClampNeg) ^^^ (-1 : Int64))) ^^^ (-1 : Int64))), .int x2, .ref v6] h8 0 0 Q))))))))))) : i_P i_MT i_AT L xs 61 10 [some (.ref x0), some (.ref x1), some (.int x2), x3, x4, x5, x6] [] h 0 0 Q := by
  have hk := i_k61
  refine g_s1 (pc2 := 11) hk rfl rfl rfl rfl rfl ?_
  refine g_s1 (pc2 := 12) hk rfl rfl rfl rfl rfl ?_
  obtain ⟨v1, ev1, H⟩ := H
  refine g_step (pc2 := 15) hk rfl rfl rfl (s_get ev1) ?_
  refine g_icmp_ge hk rfl (fun hc => ?_) (fun hc => ?_)
  · have H := H.1 hc
    refine g_s1 (pc2 := 71) (st2 := [.int (0 : Int32)]) hk rfl rfl rfl rfl rfl ?_
    refine g_s1 (pc2 := 72) (lo2 := [some (.ref x0), some (.ref x1), some (.int (0 : Int32)), x3, x4, x5, x6]) hk rfl rfl rfl rfl rfl ?_
    refine g_s1 (pc2 := 73) (st2 := [.int (0 : Int32)]) hk rfl rfl rfl rfl rfl ?_
    refine g_s1 (pc2 := 74) (lo2 := [some (.ref x0), some (.ref x1), some (.int (0 : Int32)), some (.int (0 : Int32)), x4, x5, x6]) hk rfl rfl rfl rfl rfl ?_
    exact H
  · have H := H.2 hc
    refine g_s1 (pc2 := 19) hk rfl rfl rfl rfl rfl ?_
    obtain ⟨v2, ev2, H⟩ := H
    refine g_step (pc2 := 22) hk rfl rfl rfl (s_get ev2) ?_
    refine g_s1 (pc2 := 23) hk rfl rfl rfl rfl rfl ?_
    obtain ⟨v3, ev3, H⟩ := H
    refine g_step (pc2 := 26) hk rfl rfl rfl (s_get ev3) ?_
    refine g_s1 (pc2 := 27) hk rfl rfl rfl rfl rfl ?_
    obtain ⟨n4, f5, ef5, hi, H⟩ := H
    refine g_step (pc2 := 28) hk rfl rfl rfl (s_lget ef5 hi) ?_
    refine g_step (pc2 := 31) (st2 := [.long (-1 : Int64), .long (f5 x2.toNatClampNeg), .long v2]) hk rfl rfl rfl rfl ?_
    refine g_s1 (pc2 := 32) hk rfl rfl rfl rfl rfl ?_
    refine g_s1 (pc2 := 33) hk rfl rfl rfl rfl rfl ?_
    refine g_s1 (pc2 := 34) (lo2 := [some (.ref x0), some (.ref x1), some (.int x2), some (.long (v2 &&& ((f5 x2.toNatClampNeg) ^^^ (-1 : Int64)))), none, x5, x6]) hk rfl rfl rfl rfl rfl ?_
    refine g_s1 (pc2 := 35) hk rfl rfl rfl rfl rfl ?_
    obtain ⟨v6, ev6, H⟩ := H
    refine g_step (pc2 := 38) hk rfl rfl rfl (s_get ev6) ?_
    refine g_s1 (pc2 := 39) hk rfl rfl rfl rfl rfl ?_
    refine g_s1 (pc2 := 40) hk rfl rfl rfl rfl rfl ?_
    obtain ⟨v7, ev7, H⟩ := H
    refine g_step (pc2 := 43) hk rfl rfl rfl (s_get ev7) ?_
    refine g_s1 (pc2 := 44) hk rfl rfl rfl rfl rfl ?_
    refine g_step (pc2 := 47) (st2 := [.long (-1 : Int64), .long (v2 &&& ((f5 x2.toNatClampNeg) ^^^ (-1 : Int64))), .long v7, .int x2, .ref v6]) hk rfl rfl rfl rfl ?_
    refine g_s1 (pc2 := 48) hk rfl rfl rfl rfl rfl ?_
    refine g_s1 (pc2 := 49) hk rfl rfl rfl rfl rfl ?_
    refine g_s1 (pc2 := 50) hk rfl rfl rfl rfl rfl ?_
    refine g_s1 (pc2 := 51) hk rfl rfl rfl rfl rfl ?_
    obtain ⟨ho, H⟩ := H
    refine g_call hk rfl rfl i_k23.1 ⟨rfl, rfl⟩ rfl (i_rcv_v ho rfl (by decide)) rfl ?_
    exact H.mono (fun v h2 q => by obtain ⟨r, rfl, q⟩ := q; exact q)
theorem b61_54 {x0 : Nat} {x1 : Nat} {x2 : Int32} {x3 : Int64} {x5 : Option Value} {x6 : Option Value} {s0 : Nat} {s1 : Int32} {s2 : Int64} {s3 : Int64} {h : iH} {Q : Option Value → iH → Prop} (H : (∃ (n1 : Nat) (f2 : Nat → Int64), i_arJ h s0 = some (n1, f2) ∧ ¬ (s1 < 0 ∨ n1 ≤ s1.toNatClampNeg) ∧ i_P i_MT i_AT L xs 61 64 [some (.ref x0), some (.ref x1), some (.int x2), some (.long x3), none, x5, x6] [] (i_siJ h s0 s1.toNatClampNeg ((s2 &&& (s3 ^^^ (-1 : Int64))) ||| ((1 : Int64) <<< (x2.toInt64 &&& 63)))) 0 0 Q)) : i_P i_MT i_AT L xs 61 54 [some (.ref x0), some (.ref x1), some (.int x2), some (.long x3), none, x5, x6] [.long s3, .long s2, .int s1, .ref s0] h 0 0 Q := by
  have hk := i_k61
  refine g_step (pc2 := 57) (st2 := [.long (-1 : Int64), .long s3, .long s2, .int s1, .ref s0]) hk rfl rfl rfl rfl ?_
  refine g_s1 (pc2 := 58) hk rfl rfl rfl rfl rfl ?_
  refine g_s1 (pc2 := 59) hk rfl rfl rfl rfl rfl ?_
  refine g_s1 (pc2 := 60) (st2 := [.long (1 : Int64), .long (s2 &&& (s3 ^^^ (-1 : Int64))), .int s1, .ref s0]) hk rfl rfl rfl rfl rfl ?_
  refine g_s1 (pc2 := 61) hk rfl rfl rfl rfl rfl ?_
  refine g_s1 (pc2 := 62) hk rfl rfl rfl rfl rfl ?_
  refine g_s1 (pc2 := 63) hk rfl rfl rfl rfl rfl ?_
  obtain ⟨n1, f2, ef2, hi, H⟩ := H
  refine g_step (pc2 := 64) hk rfl rfl rfl (s_lput ef2 hi) ?_
  exact H
theorem b61_64 {x0 : Nat} {x1 : Nat} {x2 : Int32} {x3 : Int64} {x5 : Option Value} {x6 : Option Value} {h : iH} {Q : Option Value → iH → Prop} (H : i_P i_MT i_AT L xs 61 10 [some (.ref x0), some (.ref x1), some (.int (x2 + 1)), some (.long x3), none, x5, x6] [] h 0 0 Q) : i_P i_MT i_AT L xs 61 64 [some (.ref x0), some (.ref x1), some (.int x2), some (.long x3), none, x5, x6] [] h 0 0 Q := by
  have hk := i_k61
  refine g_s1 (pc2 := 67) (lo2 := [some (.ref x0), some (.ref x1), some (.int (x2 + 1)), some (.long x3), none, x5, x6]) hk rfl rfl rfl rfl rfl ?_
  refine g_s1 (pc2 := 10) hk rfl rfl rfl rfl rfl ?_
  exact H
theorem b61_74 {x0 : Nat} {x1 : Nat} {x2 : Int32} {x3 : Int32} {x4 : Option Value} {x5 : Option Value} {x6 : Option Value} {h : iH} {Q : Option Value → iH → Prop} (H : (∃ v1 : Int32, i_fld h x1 2 2 = some (.int v1) ∧ ((v1 ≤ x3 → (i_ret (some .boolean) x2 = true ∧ Q (some (.int x2)) h)) ∧ (¬ (v1 ≤ x3) → (∃ v2 : Nat, i_fld h x0 5 10 = some (.ref v2) ∧ (∃ (n3 : Nat) (f4 : Nat → Int64), i_arJ h v2 = some (n3, f4) ∧ ¬ (x3 < 0 ∨ n3 ≤ x3.toNatClampNeg) ∧ (∃ v5 : Nat, i_fld h x0 5 11 = some (.ref v5) ∧ (∃ (n6 : Nat) (f7 : Nat → Int64), i_arJ h v5 = some (n6, f7) ∧ ¬ (x3 < 0 ∨ n6 ≤ x3.toNatClampNeg) ∧ i_P i_MT i_AT L xs 61 100 [some (.ref x0), some (.ref x1), some (.int x2), some (.int x3), some (.long ((f4 x3.toNatClampNeg) ||| (f7 x3.toNatClampNeg))), none, some (.int (0 : Int32))] [] h 0 0 Q)))))))) : i_P i_MT i_AT L xs 61 74 [some (.ref x0), some (.ref x1), some (.int x2), some (.int x3), x4, x5, x6] [] h 0 0 Q := by
  have hk := i_k61
  refine g_s1 (pc2 := 75) hk rfl rfl rfl rfl rfl ?_
  refine g_s1 (pc2 := 76) hk rfl rfl rfl rfl rfl ?_
  obtain ⟨v1, ev1, H⟩ := H
  refine g_step (pc2 := 79) hk rfl rfl rfl (s_get ev1) ?_
  refine g_icmp_ge hk rfl (fun hc => ?_) (fun hc => ?_)
  · have H := H.1 hc
    refine g_s1 (pc2 := 170) hk rfl rfl rfl rfl rfl ?_
    exact g_ireturn hk rfl (by decide) (by decide) H.1 H.2
  · have H := H.2 hc
    refine g_s1 (pc2 := 83) hk rfl rfl rfl rfl rfl ?_
    obtain ⟨v2, ev2, H⟩ := H
    refine g_step (pc2 := 86) hk rfl rfl rfl (s_get ev2) ?_
    refine g_s1 (pc2 := 87) hk rfl rfl rfl rfl rfl ?_
    obtain ⟨n3, f4, ef4, hi, H⟩ := H
    refine g_step (pc2 := 88) hk rfl rfl rfl (s_lget ef4 hi) ?_
    refine g_s1 (pc2 := 89) hk rfl rfl rfl rfl rfl ?_
    obtain ⟨v5, ev5, H⟩ := H
    refine g_step (pc2 := 92) hk rfl rfl rfl (s_get ev5) ?_
    refine g_s1 (pc2 := 93) hk rfl rfl rfl rfl rfl ?_
    obtain ⟨n6, f7, ef7, hi, H⟩ := H
    refine g_step (pc2 := 94) hk rfl rfl rfl (s_lget ef7 hi) ?_
    refine g_s1 (pc2 := 95) hk rfl rfl rfl rfl rfl ?_
    refine g_s1 (pc2 := 97) (lo2 := [some (.ref x0), some (.ref x1), some (.int x2), some (.int x3), some (.long ((f4 x3.toNatClampNeg) ||| (f7 x3.toNatClampNeg))), none, x6]) hk rfl rfl rfl rfl rfl ?_
    refine g_s1 (pc2 := 98) (st2 := [.int (0 : Int32)]) hk rfl rfl rfl rfl rfl ?_
    refine g_s1 (pc2 := 100) (lo2 := [some (.ref x0), some (.ref x1), some (.int x2), some (.int x3), some (.long ((f4 x3.toNatClampNeg) ||| (f7 x3.toNatClampNeg))), none, some (.int (0 : Int32))]) hk rfl rfl rfl rfl rfl ?_
    exact H
theorem b61_100 {x0 : Nat} {x1 : Nat} {x2 : Int32} {x3 : Int32} {x4 : Int64} {x6 : Int32} {h : iH} {Q : Option Value → iH → Prop} (H : (((8 : Int32) ≤ x6 → (∃ v1 : Int64, i_fld h x1 2 4 = some (.long v1) ∧ (i_C i_MT i_AT L xs 193 [.long v1, .int x3] h (fun v h2 => ∃ r3 : Int32, v = some (.int r3) ∧ i_P i_MT i_AT L xs 61 138 [some (.ref x0), some (.ref x1), some (.int x2), some (.int x3), some (.long x4), none, some (.int x6)] [.int r3] h2 0 0 Q)))) ∧ (¬ ((8 : Int32) ≤ x6) → (∃ v4 : Nat, i_fld h x0 5 11 = some (.ref v4) ∧ (i_obj? h x1 2 ∧ i_C i_MT i_AT L xs 26 [.ref x1, .int x3, .int x6] h (fun v h5 => ∃ r6 : Int32, v = some (.int r6) ∧ i_P i_MT i_AT L xs 61 120 [some (.ref x0), some (.ref x1), some (.int x2), some (.int x3), some (.long x4), none, some (.int x6)] [.int r6, .ref v4, .long x4] h5 0 0 Q)))))) : i_P i_MT i_AT L xs 61 100 [some (.ref x0), some (.ref x1), some (.int x2), some (.int x3), some (.long x4), none, some (.int x6)] [] h 0 0 Q := by
  have hk := i_k61
  refine g_s1 (pc2 := 102) hk rfl rfl rfl rfl rfl ?_
  refine g_s1 (pc2 := 104) (st2 := [.int (8 : Int32), .int x6]) hk rfl rfl rfl rfl rfl ?_
  refine g_icmp_ge hk rfl (fun hc => ?_) (fun hc => ?_)
  · have H := H.1 hc
    refine g_s1 (pc2 := 131) hk rfl rfl rfl rfl rfl ?_
    obtain ⟨v1, ev1, H⟩ := H
    refine g_step (pc2 := 134) hk rfl rfl rfl (s_get ev1) ?_
    refine g_s1 (pc2 := 135) hk rfl rfl rfl rfl rfl ?_
    refine g_call hk rfl rfl i_k193.1 ⟨rfl, rfl⟩ rfl (i_rcv_0 rfl) rfl ?_
    exact H.mono (fun v h2 q => by obtain ⟨r, rfl, q⟩ := q; exact q)
  · have H := H.2 hc
    refine g_s1 (pc2 := 109) hk rfl rfl rfl rfl rfl ?_
    refine g_s1 (pc2 := 110) hk rfl rfl rfl rfl rfl ?_
    obtain ⟨v4, ev4, H⟩ := H
    refine g_step (pc2 := 113) hk rfl rfl rfl (s_get ev4) ?_
    refine g_s1 (pc2 := 114) hk rfl rfl rfl rfl rfl ?_
    refine g_s1 (pc2 := 115) hk rfl rfl rfl rfl rfl ?_
    refine g_s1 (pc2 := 117) hk rfl rfl rfl rfl rfl ?_
    obtain ⟨ho, H⟩ := H
    refine g_call hk rfl rfl i_k26.1 ⟨rfl, rfl⟩ rfl (i_rcv_v ho rfl (by decide)) rfl ?_
    exact H.mono (fun v h2 q => by obtain ⟨r, rfl, q⟩ := q; exact q)
theorem b61_120 {x0 : Nat} {x1 : Nat} {x2 : Int32} {x3 : Int32} {x4 : Int64} {x6 : Int32} {s0 : Int64} {s1 : Nat} {s2 : Int32} {h : iH} {Q : Option Value → iH → Prop} (H : (∃ (n1 : Nat) (f2 : Nat → Int64), i_arJ h s1 = some (n1, f2) ∧ ¬ (s2 < 0 ∨ n1 ≤ s2.toNatClampNeg) ∧ i_P i_MT i_AT L xs 61 100 [some (.ref x0), some (.ref x1), some (.int x2), some (.int x3), some (.long (s0 ||| (f2 s2.toNatClampNeg))), none, some (.int (x6 + 1))] [] h 0 0 Q)) : i_P i_MT i_AT L xs 61 120 [some (.ref x0), some (.ref x1), some (.int x2), some (.int x3), some (.long x4), none, some (.int x6)] [.int s2, .ref s1, .long s0] h 0 0 Q := by
  have hk := i_k61
  obtain ⟨n1, f2, ef2, hi, H⟩ := H
  refine g_step (pc2 := 121) hk rfl rfl rfl (s_lget ef2 hi) ?_
  refine g_s1 (pc2 := 122) hk rfl rfl rfl rfl rfl ?_
  refine g_s1 (pc2 := 124) (lo2 := [some (.ref x0), some (.ref x1), some (.int x2), some (.int x3), some (.long (s0 ||| (f2 s2.toNatClampNeg))), none, some (.int x6)]) hk rfl rfl rfl rfl rfl ?_
  refine g_s1 (pc2 := 127) (lo2 := [some (.ref x0), some (.ref x1), some (.int x2), some (.int x3), some (.long (s0 ||| (f2 s2.toNatClampNeg))), none, some (.int (x6 + 1))]) hk rfl rfl rfl rfl rfl ?_
  refine g_s1 (pc2 := 100) hk rfl rfl rfl rfl rfl ?_
  exact H
theorem b61_138 {x0 : Nat} {x1 : Nat} {x2 : Int32} {x3 : Int32} {x4 : Int64} {x6 : Int32} {s0 : Int32} {h : iH} {Q : Option Value → iH → Prop} (H : ((s0 = 0 → i_P i_MT i_AT L xs 61 155 [some (.ref x0), some (.ref x1), some (.int x2), some (.int x3), some (.long x4), none, some (.int x6)] [] h 0 0 Q) ∧ (¬ (s0 = 0) → (∃ v1 : Nat, i_fld h x0 5 10 = some (.ref v1) ∧ (∃ (n2 : Nat) (f3 : Nat → Int64), i_arJ h v1 = some (n2, f3) ∧ ¬ (x3 < 0 ∨ n2 ≤ x3.toNatClampNeg) ∧ (((lg_cmp x4 (f3 x3.toNatClampNeg)) = 0 → i_P i_MT i_AT L xs 61 155 [some (.ref x0), some (.ref x1), some (.int x2), some (.int x3), some (.long x4), none, some (.int x6)] [] h 0 0 Q) ∧ (¬ ((lg_cmp x4 (f3 x3.toNatClampNeg)) = 0) → i_P i_MT i_AT L xs 61 155 [some (.ref x0), some (.ref x1), some (.int (1 : Int32)), some (.int x3), some (.long x4), none, some (.int x6)] [] h 0 0 Q))))))) : i_P i_MT i_AT L xs 61 138 [some (.ref x0), some (.ref x1), some (.int x2), some (.int x3), some (.long x4), none, some (.int x6)] [.int s0] h 0 0 Q := by
  have hk := i_k61
  refine g_if_eq hk rfl (fun hc => ?_) (fun hc => ?_)
  · have H := H.1 hc
    exact H
  · have H := H.2 hc
    refine g_s1 (pc2 := 143) hk rfl rfl rfl rfl rfl ?_
    refine g_s1 (pc2 := 144) hk rfl rfl rfl rfl rfl ?_
    obtain ⟨v1, ev1, H⟩ := H
    refine g_step (pc2 := 147) hk rfl rfl rfl (s_get ev1) ?_
    refine g_s1 (pc2 := 148) hk rfl rfl rfl rfl rfl ?_
    obtain ⟨n2, f3, ef3, hi, H⟩ := H
    refine g_step (pc2 := 149) hk rfl rfl rfl (s_lget ef3 hi) ?_
    refine g_s1 (pc2 := 150) hk rfl rfl rfl rfl rfl ?_
    refine g_if_eq hk rfl (fun hc => ?_) (fun hc => ?_)
    · have H := H.1 hc
      exact H
    · have H := H.2 hc
      refine g_s1 (pc2 := 154) (st2 := [.int (1 : Int32)]) hk rfl rfl rfl rfl rfl ?_
      refine g_s1 (pc2 := 155) (lo2 := [some (.ref x0), some (.ref x1), some (.int (1 : Int32)), some (.int x3), some (.long x4), none, some (.int x6)]) hk rfl rfl rfl rfl rfl ?_
      exact H
theorem b61_155 {x0 : Nat} {x1 : Nat} {x2 : Int32} {x3 : Int32} {x4 : Int64} {x6 : Int32} {h : iH} {Q : Option Value → iH → Prop} (H : (∃ v1 : Nat, i_fld h x0 5 10 = some (.ref v1) ∧ (∃ (n2 : Nat) (f3 : Nat → Int64), i_arJ h v1 = some (n2, f3) ∧ ¬ (x3 < 0 ∨ n2 ≤ x3.toNatClampNeg) ∧ i_P i_MT i_AT L xs 61 163 [some (.ref x0), some (.ref x1), some (.int x2), some (.int x3), some (.long x4), none, some (.int x6)] [] (i_siJ h v1 x3.toNatClampNeg x4) 0 0 Q))) : i_P i_MT i_AT L xs 61 155 [some (.ref x0), some (.ref x1), some (.int x2), some (.int x3), some (.long x4), none, some (.int x6)] [] h 0 0 Q := by
  have hk := i_k61
  refine g_s1 (pc2 := 156) hk rfl rfl rfl rfl rfl ?_
  obtain ⟨v1, ev1, H⟩ := H
  refine g_step (pc2 := 159) hk rfl rfl rfl (s_get ev1) ?_
  refine g_s1 (pc2 := 160) hk rfl rfl rfl rfl rfl ?_
  refine g_s1 (pc2 := 162) hk rfl rfl rfl rfl rfl ?_
  obtain ⟨n2, f3, ef3, hi, H⟩ := H
  refine g_step (pc2 := 163) hk rfl rfl rfl (s_lput ef3 hi) ?_
  exact H
theorem b61_163 {x0 : Nat} {x1 : Nat} {x2 : Int32} {x3 : Int32} {x4 : Int64} {x6 : Int32} {h : iH} {Q : Option Value → iH → Prop} (H : i_P i_MT i_AT L xs 61 74 [some (.ref x0), some (.ref x1), some (.int x2), some (.int (x3 + 1)), some (.long x4), none, some (.int x6)] [] h 0 0 Q) : i_P i_MT i_AT L xs 61 163 [some (.ref x0), some (.ref x1), some (.int x2), some (.int x3), some (.long x4), none, some (.int x6)] [] h 0 0 Q := by
  have hk := i_k61
  refine g_s1 (pc2 := 166) (lo2 := [some (.ref x0), some (.ref x1), some (.int x2), some (.int (x3 + 1)), some (.long x4), none, some (.int x6)]) hk rfl rfl rfl rfl rfl ?_
  refine g_s1 (pc2 := 74) hk rfl rfl rfl rfl rfl ?_
  exact H
/-! StillTown$Search.leastLamps(I)I -/
theorem e62 {x0 : Nat} {x1 : Int32} {h : iH} {Q : Option Value → iH → Prop} (H : i_P i_MT i_AT L xs 62 0 [some (.ref x0), some (.int x1), none, none, none] [] h 0 0 Q) : i_C i_MT i_AT L xs 62 [.ref x0, .int x1] h Q := ⟨i_m62, i_k62.1, Nat.le_of_ble_eq_true rfl, H⟩
theorem b62_0 {x0 : Nat} {x1 : Int32} {x2 : Option Value} {x3 : Option Value} {x4 : Option Value} {h : iH} {Q : Option Value → iH → Prop} (H : (∃ v1 : Nat, i_fld h x0 5 0 = some (.ref v1) ∧ (∃ v2 : Nat, i_fld h v1 0 1 = some (.ref v2) ∧ i_P i_MT i_AT L xs 62 10 [some (.ref x0), some (.int x1), some (.ref v2), some (.int (0 : Int32)), x4] [] h 0 0 Q))) : i_P i_MT i_AT L xs 62 0 [some (.ref x0), some (.int x1), x2, x3, x4] [] h 0 0 Q := by
  have hk := i_k62
  refine g_s1 (pc2 := 1) hk rfl rfl rfl rfl rfl ?_
  obtain ⟨v1, ev1, H⟩ := H
  refine g_step (pc2 := 4) hk rfl rfl rfl (s_get ev1) ?_
  obtain ⟨v2, ev2, H⟩ := H
  refine g_step (pc2 := 7) hk rfl rfl rfl (s_get ev2) ?_
  refine g_s1 (pc2 := 8) (lo2 := [some (.ref x0), some (.int x1), some (.ref v2), x3, x4]) hk rfl rfl rfl rfl rfl ?_
  refine g_s1 (pc2 := 9) (st2 := [.int (0 : Int32)]) hk rfl rfl rfl rfl rfl ?_
  refine g_s1 (pc2 := 10) (lo2 := [some (.ref x0), some (.int x1), some (.ref v2), some (.int (0 : Int32)), x4]) hk rfl rfl rfl rfl rfl ?_
  exact H
theorem b62_10 {x0 : Nat} {x1 : Int32} {x2 : Nat} {x3 : Int32} {x4 : Option Value} {h : iH} {Q : Option Value → iH → Prop} (H : (∃ v1 : Nat, i_fld h x2 8 12 = some (.ref v1) ∧ (∃ v2 : Int32, i_fld h v1 3 0 = some (.int v2) ∧ ((v2 ≤ x3 → (∃ v3 : Nat, i_fld h x2 8 12 = some (.ref v3) ∧ (∃ v4 : Int32, i_fld h v3 3 0 = some (.int v4) ∧ (∃ v5 : Int32, i_fld h x2 8 9 = some (.int v5) ∧ (i_obj? h x0 5 ∧ i_C i_MT i_AT L xs 64 [.ref x0, .int v4, .int v5, .int x1] h (fun v h6 => ∃ r7 : Int32, v = some (.int r7) ∧ i_P i_MT i_AT L xs 62 103 [some (.ref x0), some (.int x1), some (.ref x2), some (.int x3), x4] [.int r7] h6 0 0 Q)))))) ∧ (¬ (v2 ≤ x3) → (∃ v8 : Nat, i_fld h x0 5 12 = some (.ref v8) ∧ (∃ (n9 : Nat) (f10 : Nat → Int32), i_arI h 0 v8 = some (n9, f10) ∧ ¬ (x3 < 0 ∨ n9 ≤ x3.toNatClampNeg) ∧ i_P i_MT i_AT L xs 62 28 [some (.ref x0), some (.int x1), some (.ref x2), some (.int x3), x4] [] (i_siI h v8 x3.toNatClampNeg (0 : Int32)) 0 0 Q))))))) : i_P i_MT i_AT L xs 62 10 [some (.ref x0), some (.int x1), some (.ref x2), some (.int x3), x4] [] h 0 0 Q := by
  have hk := i_k62
  refine g_s1 (pc2 := 11) hk rfl rfl rfl rfl rfl ?_
  refine g_s1 (pc2 := 12) hk rfl rfl rfl rfl rfl ?_
  obtain ⟨v1, ev1, H⟩ := H
  refine g_step (pc2 := 15) hk rfl rfl rfl (s_get ev1) ?_
  obtain ⟨v2, ev2, H⟩ := H
  refine g_step (pc2 := 18) hk rfl rfl rfl (s_get ev2) ?_
  refine g_icmp_ge hk rfl (fun hc => ?_) (fun hc => ?_)
  · have H := H.1 hc
    refine g_s1 (pc2 := 88) hk rfl rfl rfl rfl rfl ?_
    refine g_s1 (pc2 := 89) hk rfl rfl rfl rfl rfl ?_
    obtain ⟨v3, ev3, H⟩ := H
    refine g_step (pc2 := 92) hk rfl rfl rfl (s_get ev3) ?_
    obtain ⟨v4, ev4, H⟩ := H
    refine g_step (pc2 := 95) hk rfl rfl rfl (s_get ev4) ?_
    refine g_s1 (pc2 := 96) hk rfl rfl rfl rfl rfl ?_
    obtain ⟨v5, ev5, H⟩ := H
    refine g_step (pc2 := 99) hk rfl rfl rfl (s_get ev5) ?_
    refine g_s1 (pc2 := 100) hk rfl rfl rfl rfl rfl ?_
    obtain ⟨ho, H⟩ := H
    refine g_call hk rfl rfl i_k64.1 ⟨rfl, rfl⟩ rfl (i_rcv_v ho rfl (by decide)) rfl ?_
    exact H.mono (fun v h2 q => by obtain ⟨r, rfl, q⟩ := q; exact q)
  · have H := H.2 hc
    refine g_s1 (pc2 := 22) hk rfl rfl rfl rfl rfl ?_
    obtain ⟨v8, ev8, H⟩ := H
    refine g_step (pc2 := 25) hk rfl rfl rfl (s_get ev8) ?_
    refine g_s1 (pc2 := 26) hk rfl rfl rfl rfl rfl ?_
    refine g_s1 (pc2 := 27) (st2 := [.int (0 : Int32), .int x3, .ref v8]) hk rfl rfl rfl rfl rfl ?_
    obtain ⟨n9, f10, ef10, hi, H⟩ := H
    refine g_step (pc2 := 28) hk rfl rfl rfl (s_aput ef10 hi) ?_
    exact H
theorem b62_28 {x0 : Nat} {x1 : Int32} {x2 : Nat} {x3 : Int32} {x4 : Option Value} {h : iH} {Q : Option Value → iH → Prop} (H : i_P i_MT i_AT L xs 62 31 [some (.ref x0), some (.int x1), some (.ref x2), some (.int x3), some (.int (0 : Int32))] [] h 0 0 Q) : i_P i_MT i_AT L xs 62 28 [some (.ref x0), some (.int x1), some (.ref x2), some (.int x3), x4] [] h 0 0 Q := by
  have hk := i_k62
  refine g_s1 (pc2 := 29) (st2 := [.int (0 : Int32)]) hk rfl rfl rfl rfl rfl ?_
  refine g_s1 (pc2 := 31) (lo2 := [some (.ref x0), some (.int x1), some (.ref x2), some (.int x3), some (.int (0 : Int32))]) hk rfl rfl rfl rfl rfl ?_
  exact H
theorem b62_31 {x0 : Nat} {x1 : Int32} {x2 : Nat} {x3 : Int32} {x4 : Int32} {h : iH} {Q : Option Value → iH → Prop} (H : (∃ v1 : Int32, i_fld h x2 8 9 = some (.int v1) ∧ ((v1 ≤ x4 → i_P i_MT i_AT L xs 62 10 [some (.ref x0), some (.int x1), some (.ref x2), some (.int (x3 + 1)), some (.int x4)] [] h 0 0 Q) ∧ (¬ (v1 ≤ x4) → (∃ v2 : Nat, i_fld h x0 5 0 = some (.ref v2) ∧ (i_obj? h v2 0 ∧ i_C i_MT i_AT L xs 10 [.ref v2, .int x3, .int (0 : Int32)] h (fun v h3 => ∃ r4 : Int64, v = some (.long r4) ∧ i_P i_MT i_AT L xs 62 49 [some (.ref x0), some (.int x1), some (.ref x2), some (.int x3), some (.int x4)] [.long r4] h3 0 0 Q))))))) : i_P i_MT i_AT L xs 62 31 [some (.ref x0), some (.int x1), some (.ref x2), some (.int x3), some (.int x4)] [] h 0 0 Q := by
  have hk := i_k62
  refine g_s1 (pc2 := 33) hk rfl rfl rfl rfl rfl ?_
  refine g_s1 (pc2 := 34) hk rfl rfl rfl rfl rfl ?_
  obtain ⟨v1, ev1, H⟩ := H
  refine g_step (pc2 := 37) hk rfl rfl rfl (s_get ev1) ?_
  refine g_icmp_ge hk rfl (fun hc => ?_) (fun hc => ?_)
  · have H := H.1 hc
    refine g_s1 (pc2 := 84) (lo2 := [some (.ref x0), some (.int x1), some (.ref x2), some (.int (x3 + 1)), some (.int x4)]) hk rfl rfl rfl rfl rfl ?_
    refine g_s1 (pc2 := 10) hk rfl rfl rfl rfl rfl ?_
    exact H
  · have H := H.2 hc
    refine g_s1 (pc2 := 41) hk rfl rfl rfl rfl rfl ?_
    obtain ⟨v2, ev2, H⟩ := H
    refine g_step (pc2 := 44) hk rfl rfl rfl (s_get ev2) ?_
    refine g_s1 (pc2 := 45) hk rfl rfl rfl rfl rfl ?_
    refine g_s1 (pc2 := 46) (st2 := [.int (0 : Int32), .int x3, .ref v2]) hk rfl rfl rfl rfl rfl ?_
    obtain ⟨ho, H⟩ := H
    refine g_call hk rfl rfl i_k10.1 ⟨rfl, rfl⟩ rfl (i_rcv_v ho rfl (by decide)) rfl ?_
    exact H.mono (fun v h2 q => by obtain ⟨r, rfl, q⟩ := q; exact q)
theorem b62_49 {x0 : Nat} {x1 : Int32} {x2 : Nat} {x3 : Int32} {x4 : Int32} {s0 : Int64} {h : iH} {Q : Option Value → iH → Prop} (H : (∃ v1 : Nat, i_fld h x2 8 10 = some (.ref v1) ∧ (∃ (n2 : Nat) (f3 : Nat → Int32), i_arI h 0 v1 = some (n2, f3) ∧ ¬ (x4 < 0 ∨ n2 ≤ x4.toNatClampNeg) ∧ (i_C i_MT i_AT L xs 193 [.long s0, .int (f3 x4.toNatClampNeg)] h (fun v h4 => ∃ r5 : Int32, v = some (.int r5) ∧ i_P i_MT i_AT L xs 62 59 [some (.ref x0), some (.int x1), some (.ref x2), some (.int x3), some (.int x4)] [.int r5] h4 0 0 Q))))) : i_P i_MT i_AT L xs 62 49 [some (.ref x0), some (.int x1), some (.ref x2), some (.int x3), some (.int x4)] [.long s0] h 0 0 Q := by
  have hk := i_k62
  refine g_s1 (pc2 := 50) hk rfl rfl rfl rfl rfl ?_
  obtain ⟨v1, ev1, H⟩ := H
  refine g_step (pc2 := 53) hk rfl rfl rfl (s_get ev1) ?_
  refine g_s1 (pc2 := 55) hk rfl rfl rfl rfl rfl ?_
  obtain ⟨n2, f3, ef3, hi, H⟩ := H
  refine g_step (pc2 := 56) hk rfl rfl rfl (s_aget (L := L) (xs := xs) ef3 hi) ?_
  refine g_call hk rfl rfl i_k193.1 ⟨rfl, rfl⟩ rfl (i_rcv_0 rfl) rfl ?_
  exact H.mono (fun v h2 q => by obtain ⟨r, rfl, q⟩ := q; exact q)
theorem b62_59 {x0 : Nat} {x1 : Int32} {x2 : Nat} {x3 : Int32} {x4 : Int32} {s0 : Int32} {h : iH} {Q : Option Value → iH → Prop} (H : ((s0 = 0 → i_P i_MT i_AT L xs 62 75 [some (.ref x0), some (.int x1), some (.ref x2), some (.int x3), some (.int x4)] [] h 0 0 Q) ∧ (¬ (s0 = 0) → (∃ v1 : Nat, i_fld h x0 5 12 = some (.ref v1) ∧ (∃ (n2 : Nat) (f3 : Nat → Int32), i_arI h 0 v1 = some (n2, f3) ∧ ¬ (x3 < 0 ∨ n2 ≤ x3.toNatClampNeg) ∧ (∃ (n4 : Nat) (f5 : Nat → Int32), i_arI h 0 v1 = some (n4, f5) ∧ ¬ (x3 < 0 ∨ n4 ≤ x3.toNatClampNeg) ∧ i_P i_MT i_AT L xs 62 75 [some (.ref x0), some (.int x1), some (.ref x2), some (.int x3), some (.int x4)] [] (i_siI h v1 x3.toNatClampNeg ((f3 x3.toNatClampNeg) ||| ((1 : Int32) <<< (x4 &&& 31)))) 0 0 Q)))))) : i_P i_MT i_AT L xs 62 59 [some (.ref x0), some (.int x1), some (.ref x2), some (.int x3), some (.int x4)] [.int s0] h 0 0 Q := by
  have hk := i_k62
  refine g_if_eq hk rfl (fun hc => ?_) (fun hc => ?_)
  · have H := H.1 hc
    exact H
  · have H := H.2 hc
    refine g_s1 (pc2 := 63) hk rfl rfl rfl rfl rfl ?_
    obtain ⟨v1, ev1, H⟩ := H
    refine g_step (pc2 := 66) hk rfl rfl rfl (s_get ev1) ?_
    refine g_s1 (pc2 := 67) hk rfl rfl rfl rfl rfl ?_
    refine g_s1 (pc2 := 68) hk rfl rfl rfl rfl rfl ?_
    obtain ⟨n2, f3, ef3, hi, H⟩ := H
    refine g_step (pc2 := 69) hk rfl rfl rfl (s_aget (L := L) (xs := xs) ef3 hi) ?_
    refine g_s1 (pc2 := 70) (st2 := [.int (1 : Int32), .int (f3 x3.toNatClampNeg), .int x3, .ref v1]) hk rfl rfl rfl rfl rfl ?_
    refine g_s1 (pc2 := 72) hk rfl rfl rfl rfl rfl ?_
    refine g_s1 (pc2 := 73) hk rfl rfl rfl rfl rfl ?_
    refine g_s1 (pc2 := 74) hk rfl rfl rfl rfl rfl ?_
    obtain ⟨n4, f5, ef5, hi, H⟩ := H
    refine g_step (pc2 := 75) hk rfl rfl rfl (s_aput ef5 hi) ?_
    exact H
theorem b62_75 {x0 : Nat} {x1 : Int32} {x2 : Nat} {x3 : Int32} {x4 : Int32} {h : iH} {Q : Option Value → iH → Prop} (H : i_P i_MT i_AT L xs 62 31 [some (.ref x0), some (.int x1), some (.ref x2), some (.int x3), some (.int (x4 + 1))] [] h 0 0 Q) : i_P i_MT i_AT L xs 62 75 [some (.ref x0), some (.int x1), some (.ref x2), some (.int x3), some (.int x4)] [] h 0 0 Q := by
  have hk := i_k62
  refine g_s1 (pc2 := 78) (lo2 := [some (.ref x0), some (.int x1), some (.ref x2), some (.int x3), some (.int (x4 + 1))]) hk rfl rfl rfl rfl rfl ?_
  refine g_s1 (pc2 := 31) hk rfl rfl rfl rfl rfl ?_
  exact H
theorem b62_103 {x0 : Nat} {x1 : Int32} {x2 : Nat} {x3 : Int32} {x4 : Option Value} {s0 : Int32} {h : iH} {Q : Option Value → iH → Prop} (H : Q (some (.int s0)) h) : i_P i_MT i_AT L xs 62 103 [some (.ref x0), some (.int x1), some (.ref x2), some (.int x3), x4] [.int s0] h 0 0 Q := by
  have hk := i_k62
  exact g_ireturn hk rfl (by decide) (by decide) rfl H
/-! StillTown$Search.leastGallery(I)I -/
theorem e63 {x0 : Nat} {x1 : Int32} {h : iH} {Q : Option Value → iH → Prop} (H : i_P i_MT i_AT L xs 63 0 [some (.ref x0), some (.int x1), none, none, none, none] [] h 0 0 Q) : i_C i_MT i_AT L xs 63 [.ref x0, .int x1] h Q := ⟨i_m63, i_k63.1, Nat.le_of_ble_eq_true rfl, H⟩
theorem b63_0 {x0 : Nat} {x1 : Int32} {x2 : Option Value} {x3 : Option Value} {x4 : Option Value} {x5 : Option Value} {h : iH} {Q : Option Value → iH → Prop} (H : (∃ v1 : Nat, i_fld h x0 5 0 = some (.ref v1) ∧ (∃ v2 : Nat, i_fld h v1 0 1 = some (.ref v2) ∧ (∃ v3 : Nat, i_fld h v2 8 12 = some (.ref v3) ∧ i_P i_MT i_AT L xs 63 16 [some (.ref x0), some (.int x1), some (.ref v3), some (.int (0 : Int32)), some (.int (0 : Int32)), x5] [] h 0 0 Q)))) : i_P i_MT i_AT L xs 63 0 [some (.ref x0), some (.int x1), x2, x3, x4, x5] [] h 0 0 Q := by
  have hk := i_k63
  refine g_s1 (pc2 := 1) hk rfl rfl rfl rfl rfl ?_
  obtain ⟨v1, ev1, H⟩ := H
  refine g_step (pc2 := 4) hk rfl rfl rfl (s_get ev1) ?_
  obtain ⟨v2, ev2, H⟩ := H
  refine g_step (pc2 := 7) hk rfl rfl rfl (s_get ev2) ?_
  obtain ⟨v3, ev3, H⟩ := H
  refine g_step (pc2 := 10) hk rfl rfl rfl (s_get ev3) ?_
  refine g_s1 (pc2 := 11) (lo2 := [some (.ref x0), some (.int x1), some (.ref v3), x3, x4, x5]) hk rfl rfl rfl rfl rfl ?_
  refine g_s1 (pc2 := 12) (st2 := [.int (0 : Int32)]) hk rfl rfl rfl rfl rfl ?_
  refine g_s1 (pc2 := 13) (lo2 := [some (.ref x0), some (.int x1), some (.ref v3), some (.int (0 : Int32)), x4, x5]) hk rfl rfl rfl rfl rfl ?_
  refine g_s1 (pc2 := 14) (st2 := [.int (0 : Int32)]) hk rfl rfl rfl rfl rfl ?_
  refine g_s1 (pc2 := 16) (lo2 := [some (.ref x0), some (.int x1), some (.ref v3), some (.int (0 : Int32)), some (.int (0 : Int32)), x5]) hk rfl rfl rfl rfl rfl ?_
  exact H
theorem b63_16 {x0 : Nat} {x1 : Int32} {x2 : Nat} {x3 : Int32} {x4 : Int32} {x5 : Option Value} {h : iH} {Q : Option Value → iH → Prop} (H : (∃ v1 : Nat, i_fld h x0 5 0 = some (.ref v1) ∧ (∃ v2 : Nat, i_fld h v1 0 0 = some (.ref v2) ∧ (∃ v3 : Int32, i_fld h v2 2 2 = some (.int v3) ∧ ((v3 ≤ x4 → (∃ v4 : Int32, i_fld h x2 3 0 = some (.int v4) ∧ (i_obj? h x0 5 ∧ i_C i_MT i_AT L xs 64 [.ref x0, .int x3, .int v4, .int x1] h (fun v h5 => ∃ r6 : Int32, v = some (.int r6) ∧ i_P i_MT i_AT L xs 63 136 [some (.ref x0), some (.int x1), some (.ref x2), some (.int x3), some (.int x4), x5] [.int r6] h5 0 0 Q)))) ∧ (¬ (v3 ≤ x4) → (∃ v7 : Nat, i_fld h x0 5 0 = some (.ref v7) ∧ (∃ v8 : Nat, i_fld h v7 0 0 = some (.ref v8) ∧ (∃ v9 : Int64, i_fld h v8 2 4 = some (.long v9) ∧ (i_C i_MT i_AT L xs 193 [.long v9, .int x4] h (fun v h10 => ∃ r11 : Int32, v = some (.int r11) ∧ i_P i_MT i_AT L xs 63 46 [some (.ref x0), some (.int x1), some (.ref x2), some (.int x3), some (.int x4), x5] [.int r11] h10 0 0 Q))))))))))) : i_P i_MT i_AT L xs 63 16 [some (.ref x0), some (.int x1), some (.ref x2), some (.int x3), some (.int x4), x5] [] h 0 0 Q := by
  have hk := i_k63
  refine g_s1 (pc2 := 18) hk rfl rfl rfl rfl rfl ?_
  refine g_s1 (pc2 := 19) hk rfl rfl rfl rfl rfl ?_
  obtain ⟨v1, ev1, H⟩ := H
  refine g_step (pc2 := 22) hk rfl rfl rfl (s_get ev1) ?_
  obtain ⟨v2, ev2, H⟩ := H
  refine g_step (pc2 := 25) hk rfl rfl rfl (s_get ev2) ?_
  obtain ⟨v3, ev3, H⟩ := H
  refine g_step (pc2 := 28) hk rfl rfl rfl (s_get ev3) ?_
  refine g_icmp_ge hk rfl (fun hc => ?_) (fun hc => ?_)
  · have H := H.1 hc
    refine g_s1 (pc2 := 127) hk rfl rfl rfl rfl rfl ?_
    refine g_s1 (pc2 := 128) hk rfl rfl rfl rfl rfl ?_
    refine g_s1 (pc2 := 129) hk rfl rfl rfl rfl rfl ?_
    obtain ⟨v4, ev4, H⟩ := H
    refine g_step (pc2 := 132) hk rfl rfl rfl (s_get ev4) ?_
    refine g_s1 (pc2 := 133) hk rfl rfl rfl rfl rfl ?_
    obtain ⟨ho, H⟩ := H
    refine g_call hk rfl rfl i_k64.1 ⟨rfl, rfl⟩ rfl (i_rcv_v ho rfl (by decide)) rfl ?_
    exact H.mono (fun v h2 q => by obtain ⟨r, rfl, q⟩ := q; exact q)
  · have H := H.2 hc
    refine g_s1 (pc2 := 32) hk rfl rfl rfl rfl rfl ?_
    obtain ⟨v7, ev7, H⟩ := H
    refine g_step (pc2 := 35) hk rfl rfl rfl (s_get ev7) ?_
    obtain ⟨v8, ev8, H⟩ := H
    refine g_step (pc2 := 38) hk rfl rfl rfl (s_get ev8) ?_
    obtain ⟨v9, ev9, H⟩ := H
    refine g_step (pc2 := 41) hk rfl rfl rfl (s_get ev9) ?_
    refine g_s1 (pc2 := 43) hk rfl rfl rfl rfl rfl ?_
    refine g_call hk rfl rfl i_k193.1 ⟨rfl, rfl⟩ rfl (i_rcv_0 rfl) rfl ?_
    exact H.mono (fun v h2 q => by obtain ⟨r, rfl, q⟩ := q; exact q)
theorem b63_46 {x0 : Nat} {x1 : Int32} {x2 : Nat} {x3 : Int32} {x4 : Int32} {x5 : Option Value} {s0 : Int32} {h : iH} {Q : Option Value → iH → Prop} (H : ((s0 = 0 → i_P i_MT i_AT L xs 63 120 [some (.ref x0), some (.int x1), some (.ref x2), some (.int x3), some (.int x4), x5] [] h 0 0 Q) ∧ (¬ (s0 = 0) → (∃ v1 : Nat, i_fld h x0 5 12 = some (.ref v1) ∧ (∃ (n2 : Nat) (f3 : Nat → Int32), i_arI h 0 v1 = some (n2, f3) ∧ ¬ (x3 < 0 ∨ n2 ≤ x3.toNatClampNeg) ∧ i_P i_MT i_AT L xs 63 56 [some (.ref x0), some (.int x1), some (.ref x2), some (.int x3), some (.int x4), x5] [] (i_siI h v1 x3.toNatClampNeg (0 : Int32)) 0 0 Q))))) : i_P i_MT i_AT L xs 63 46 [some (.ref x0), some (.int x1), some (.ref x2), some (.int x3), some (.int x4), x5] [.int s0] h 0 0 Q := by
  have hk := i_k63
  refine g_if_eq hk rfl (fun hc => ?_) (fun hc => ?_)
  · have H := H.1 hc
    exact H
  · have H := H.2 hc
    refine g_s1 (pc2 := 50) hk rfl rfl rfl rfl rfl ?_
    obtain ⟨v1, ev1, H⟩ := H
    refine g_step (pc2 := 53) hk rfl rfl rfl (s_get ev1) ?_
    refine g_s1 (pc2 := 54) hk rfl rfl rfl rfl rfl ?_
    refine g_s1 (pc2 := 55) (st2 := [.int (0 : Int32), .int x3, .ref v1]) hk rfl rfl rfl rfl rfl ?_
    obtain ⟨n2, f3, ef3, hi, H⟩ := H
    refine g_step (pc2 := 56) hk rfl rfl rfl (s_aput ef3 hi) ?_
    exact H
theorem b63_56 {x0 : Nat} {x1 : Int32} {x2 : Nat} {x3 : Int32} {x4 : Int32} {x5 : Option Value} {h : iH} {Q : Option Value → iH → Prop} (H : i_P i_MT i_AT L xs 63 59 [some (.ref x0), some (.int x1), some (.ref x2), some (.int x3), some (.int x4), some (.int (0 : Int32))] [] h 0 0 Q) : i_P i_MT i_AT L xs 63 56 [some (.ref x0), some (.int x1), some (.ref x2), some (.int x3), some (.int x4), x5] [] h 0 0 Q := by
  have hk := i_k63
  refine g_s1 (pc2 := 57) (st2 := [.int (0 : Int32)]) hk rfl rfl rfl rfl rfl ?_
  refine g_s1 (pc2 := 59) (lo2 := [some (.ref x0), some (.int x1), some (.ref x2), some (.int x3), some (.int x4), some (.int (0 : Int32))]) hk rfl rfl rfl rfl rfl ?_
  exact H
theorem b63_59 {x0 : Nat} {x1 : Int32} {x2 : Nat} {x3 : Int32} {x4 : Int32} {x5 : Int32} {h : iH} {Q : Option Value → iH → Prop} (H : (∃ v1 : Int32, i_fld h x2 3 0 = some (.int v1) ∧ ((v1 ≤ x5 → i_P i_MT i_AT L xs 63 120 [some (.ref x0), some (.int x1), some (.ref x2), some (.int (x3 + 1)), some (.int x4), some (.int x5)] [] h 0 0 Q) ∧ (¬ (v1 ≤ x5) → (∃ v2 : Nat, i_fld h x2 3 2 = some (.ref v2) ∧ (∃ (n3 : Nat) (f4 : Nat → Int32), i_arI h 0 v2 = some (n3, f4) ∧ ¬ (x5 < 0 ∨ n3 ≤ x5.toNatClampNeg) ∧ (((f4 x5.toNatClampNeg) = x4 → i_P i_MT i_AT L xs 63 98 [some (.ref x0), some (.int x1), some (.ref x2), some (.int x3), some (.int x4), some (.int x5)] [] h 0 0 Q) ∧ (¬ ((f4 x5.toNatClampNeg) = x4) → (∃ v5 : Nat, i_fld h x0 5 0 = some (.ref v5) ∧ (i_obj? h v5 0 ∧ i_C i_MT i_AT L xs 10 [.ref v5, .int x5, .int (0 : Int32)] h (fun v h6 => ∃ r7 : Int64, v = some (.long r7) ∧ i_P i_MT i_AT L xs 63 90 [some (.ref x0), some (.int x1), some (.ref x2), some (.int x3), some (.int x4), some (.int x5)] [.long r7] h6 0 0 Q))))))))))) : i_P i_MT i_AT L xs 63 59 [some (.ref x0), some (.int x1), some (.ref x2), some (.int x3), some (.int x4), some (.int x5)] [] h 0 0 Q := by
  have hk := i_k63
  refine g_s1 (pc2 := 61) hk rfl rfl rfl rfl rfl ?_
  refine g_s1 (pc2 := 62) hk rfl rfl rfl rfl rfl ?_
  obtain ⟨v1, ev1, H⟩ := H
  refine g_step (pc2 := 65) hk rfl rfl rfl (s_get ev1) ?_
  refine g_icmp_ge hk rfl (fun hc => ?_) (fun hc => ?_)
  · have H := H.1 hc
    refine g_s1 (pc2 := 120) (lo2 := [some (.ref x0), some (.int x1), some (.ref x2), some (.int (x3 + 1)), some (.int x4), some (.int x5)]) hk rfl rfl rfl rfl rfl ?_
    exact H
  · have H := H.2 hc
    refine g_s1 (pc2 := 69) hk rfl rfl rfl rfl rfl ?_
    obtain ⟨v2, ev2, H⟩ := H
    refine g_step (pc2 := 72) hk rfl rfl rfl (s_get ev2) ?_
    refine g_s1 (pc2 := 74) hk rfl rfl rfl rfl rfl ?_
    obtain ⟨n3, f4, ef4, hi, H⟩ := H
    refine g_step (pc2 := 75) hk rfl rfl rfl (s_aget (L := L) (xs := xs) ef4 hi) ?_
    refine g_s1 (pc2 := 77) hk rfl rfl rfl rfl rfl ?_
    refine g_icmp_eq hk rfl (fun hc => ?_) (fun hc => ?_)
    · have H := H.1 hc
      exact H
    · have H := H.2 hc
      refine g_s1 (pc2 := 81) hk rfl rfl rfl rfl rfl ?_
      obtain ⟨v5, ev5, H⟩ := H
      refine g_step (pc2 := 84) hk rfl rfl rfl (s_get ev5) ?_
      refine g_s1 (pc2 := 86) hk rfl rfl rfl rfl rfl ?_
      refine g_s1 (pc2 := 87) (st2 := [.int (0 : Int32), .int x5, .ref v5]) hk rfl rfl rfl rfl rfl ?_
      obtain ⟨ho, H⟩ := H
      refine g_call hk rfl rfl i_k10.1 ⟨rfl, rfl⟩ rfl (i_rcv_v ho rfl (by decide)) rfl ?_
      exact H.mono (fun v h2 q => by obtain ⟨r, rfl, q⟩ := q; exact q)
theorem b63_90 {x0 : Nat} {x1 : Int32} {x2 : Nat} {x3 : Int32} {x4 : Int32} {x5 : Int32} {s0 : Int64} {h : iH} {Q : Option Value → iH → Prop} (H : (i_C i_MT i_AT L xs 193 [.long s0, .int x4] h (fun v h1 => ∃ r2 : Int32, v = some (.int r2) ∧ i_P i_MT i_AT L xs 63 95 [some (.ref x0), some (.int x1), some (.ref x2), some (.int x3), some (.int x4), some (.int x5)] [.int r2] h1 0 0 Q))) : i_P i_MT i_AT L xs 63 90 [some (.ref x0), some (.int x1), some (.ref x2), some (.int x3), some (.int x4), some (.int x5)] [.long s0] h 0 0 Q := by
  have hk := i_k63
  refine g_s1 (pc2 := 92) hk rfl rfl rfl rfl rfl ?_
  refine g_call hk rfl rfl i_k193.1 ⟨rfl, rfl⟩ rfl (i_rcv_0 rfl) rfl ?_
  exact H.mono (fun v h2 q => by obtain ⟨r, rfl, q⟩ := q; exact q)
theorem b63_95 {x0 : Nat} {x1 : Int32} {x2 : Nat} {x3 : Int32} {x4 : Int32} {x5 : Int32} {s0 : Int32} {h : iH} {Q : Option Value → iH → Prop} (H : ((s0 = 0 → i_P i_MT i_AT L xs 63 111 [some (.ref x0), some (.int x1), some (.ref x2), some (.int x3), some (.int x4), some (.int x5)] [] h 0 0 Q) ∧ (¬ (s0 = 0) → i_P i_MT i_AT L xs 63 98 [some (.ref x0), some (.int x1), some (.ref x2), some (.int x3), some (.int x4), some (.int x5)] [] h 0 0 Q))) : i_P i_MT i_AT L xs 63 95 [some (.ref x0), some (.int x1), some (.ref x2), some (.int x3), some (.int x4), some (.int x5)] [.int s0] h 0 0 Q := by
  have hk := i_k63
  refine g_if_eq hk rfl (fun hc => ?_) (fun hc => ?_)
  · have H := H.1 hc
    exact H
  · have H := H.2 hc
    exact H
theorem b63_98 {x0 : Nat} {x1 : Int32} {x2 : Nat} {x3 : Int32} {x4 : Int32} {x5 : Int32} {h : iH} {Q : Option Value → iH → Prop} (H : (∃ v1 : Nat, i_fld h x0 5 12 = some (.ref v1) ∧ (∃ (n2 : Nat) (f3 : Nat → Int32), i_arI h 0 v1 = some (n2, f3) ∧ ¬ (x3 < 0 ∨ n2 ≤ x3.toNatClampNeg) ∧ (∃ (n4 : Nat) (f5 : Nat → Int32), i_arI h 0 v1 = some (n4, f5) ∧ ¬ (x3 < 0 ∨ n4 ≤ x3.toNatClampNeg) ∧ i_P i_MT i_AT L xs 63 111 [some (.ref x0), some (.int x1), some (.ref x2), some (.int x3), some (.int x4), some (.int x5)] [] (i_siI h v1 x3.toNatClampNeg ((f3 x3.toNatClampNeg) ||| ((1 : Int32) <<< (x5 &&& 31)))) 0 0 Q)))) : i_P i_MT i_AT L xs 63 98 [some (.ref x0), some (.int x1), some (.ref x2), some (.int x3), some (.int x4), some (.int x5)] [] h 0 0 Q := by
  have hk := i_k63
  refine g_s1 (pc2 := 99) hk rfl rfl rfl rfl rfl ?_
  obtain ⟨v1, ev1, H⟩ := H
  refine g_step (pc2 := 102) hk rfl rfl rfl (s_get ev1) ?_
  refine g_s1 (pc2 := 103) hk rfl rfl rfl rfl rfl ?_
  refine g_s1 (pc2 := 104) hk rfl rfl rfl rfl rfl ?_
  obtain ⟨n2, f3, ef3, hi, H⟩ := H
  refine g_step (pc2 := 105) hk rfl rfl rfl (s_aget (L := L) (xs := xs) ef3 hi) ?_
  refine g_s1 (pc2 := 106) (st2 := [.int (1 : Int32), .int (f3 x3.toNatClampNeg), .int x3, .ref v1]) hk rfl rfl rfl rfl rfl ?_
  refine g_s1 (pc2 := 108) hk rfl rfl rfl rfl rfl ?_
  refine g_s1 (pc2 := 109) hk rfl rfl rfl rfl rfl ?_
  refine g_s1 (pc2 := 110) hk rfl rfl rfl rfl rfl ?_
  obtain ⟨n4, f5, ef5, hi, H⟩ := H
  refine g_step (pc2 := 111) hk rfl rfl rfl (s_aput ef5 hi) ?_
  exact H
theorem b63_111 {x0 : Nat} {x1 : Int32} {x2 : Nat} {x3 : Int32} {x4 : Int32} {x5 : Int32} {h : iH} {Q : Option Value → iH → Prop} (H : i_P i_MT i_AT L xs 63 59 [some (.ref x0), some (.int x1), some (.ref x2), some (.int x3), some (.int x4), some (.int (x5 + 1))] [] h 0 0 Q) : i_P i_MT i_AT L xs 63 111 [some (.ref x0), some (.int x1), some (.ref x2), some (.int x3), some (.int x4), some (.int x5)] [] h 0 0 Q := by
  have hk := i_k63
  refine g_s1 (pc2 := 114) (lo2 := [some (.ref x0), some (.int x1), some (.ref x2), some (.int x3), some (.int x4), some (.int (x5 + 1))]) hk rfl rfl rfl rfl rfl ?_
  refine g_s1 (pc2 := 59) hk rfl rfl rfl rfl rfl ?_
  exact H
theorem b63_120 {x0 : Nat} {x1 : Int32} {x2 : Nat} {x3 : Int32} {x4 : Int32} {x5 : Option Value} {h : iH} {Q : Option Value → iH → Prop} (H : i_P i_MT i_AT L xs 63 16 [some (.ref x0), some (.int x1), some (.ref x2), some (.int x3), some (.int (x4 + 1)), x5] [] h 0 0 Q) : i_P i_MT i_AT L xs 63 120 [some (.ref x0), some (.int x1), some (.ref x2), some (.int x3), some (.int x4), x5] [] h 0 0 Q := by
  have hk := i_k63
  refine g_s1 (pc2 := 123) (lo2 := [some (.ref x0), some (.int x1), some (.ref x2), some (.int x3), some (.int (x4 + 1)), x5]) hk rfl rfl rfl rfl rfl ?_
  refine g_s1 (pc2 := 16) hk rfl rfl rfl rfl rfl ?_
  exact H
theorem b63_136 {x0 : Nat} {x1 : Int32} {x2 : Nat} {x3 : Int32} {x4 : Int32} {x5 : Option Value} {s0 : Int32} {h : iH} {Q : Option Value → iH → Prop} (H : Q (some (.int s0)) h) : i_P i_MT i_AT L xs 63 136 [some (.ref x0), some (.int x1), some (.ref x2), some (.int x3), some (.int x4), x5] [.int s0] h 0 0 Q := by
  have hk := i_k63
  exact g_ireturn hk rfl (by decide) (by decide) rfl H
/-! StillTown$Search.leastSet(III)I -/
theorem e64 {x0 : Nat} {x1 : Int32} {x2 : Int32} {x3 : Int32} {h : iH} {Q : Option Value → iH → Prop} (H : i_P i_MT i_AT L xs 64 0 [some (.ref x0), some (.int x1), some (.int x2), some (.int x3), none, none, none, none] [] h 0 0 Q) : i_C i_MT i_AT L xs 64 [.ref x0, .int x1, .int x2, .int x3] h Q := ⟨i_m64, i_k64.1, Nat.le_of_ble_eq_true rfl, H⟩
theorem b64_0 {x0 : Nat} {x1 : Int32} {x2 : Int32} {x3 : Int32} {x4 : Option Value} {x5 : Option Value} {x6 : Option Value} {x7 : Option Value} {h : iH} {Q : Option Value → iH → Prop} (H : i_P i_MT i_AT L xs 64 11 [some (.ref x0), some (.int x1), some (.int x2), some (.int x3), some (.int (-1 : Int32)), some (.int (x2 + (1 : Int32))), some (.int (0 : Int32)), x7] [] h 0 0 Q) : i_P i_MT i_AT L xs 64 0 [some (.ref x0), some (.int x1), some (.int x2), some (.int x3), x4, x5, x6, x7] [] h 0 0 Q := by
  have hk := i_k64
  refine g_s1 (pc2 := 1) (st2 := [.int (-1 : Int32)]) hk rfl rfl rfl rfl rfl ?_
  refine g_s1 (pc2 := 3) (lo2 := [some (.ref x0), some (.int x1), some (.int x2), some (.int x3), some (.int (-1 : Int32)), x5, x6, x7]) hk rfl rfl rfl rfl rfl ?_
  refine g_s1 (pc2 := 4) hk rfl rfl rfl rfl rfl ?_
  refine g_s1 (pc2 := 5) (st2 := [.int (1 : Int32), .int x2]) hk rfl rfl rfl rfl rfl ?_
  refine g_s1 (pc2 := 6) hk rfl rfl rfl rfl rfl ?_
  refine g_s1 (pc2 := 8) (lo2 := [some (.ref x0), some (.int x1), some (.int x2), some (.int x3), some (.int (-1 : Int32)), some (.int (x2 + (1 : Int32))), x6, x7]) hk rfl rfl rfl rfl rfl ?_
  refine g_s1 (pc2 := 9) (st2 := [.int (0 : Int32)]) hk rfl rfl rfl rfl rfl ?_
  refine g_s1 (pc2 := 11) (lo2 := [some (.ref x0), some (.int x1), some (.int x2), some (.int x3), some (.int (-1 : Int32)), some (.int (x2 + (1 : Int32))), some (.int (0 : Int32)), x7]) hk rfl rfl rfl rfl rfl ?_
  exact H
theorem b64_11 {x0 : Nat} {x1 : Int32} {x2 : Int32} {x3 : Int32} {x4 : Int32} {x5 : Int32} {x6 : Int32} {x7 : Option Value} {h : iH} {Q : Option Value → iH → Prop} (H : ((((1 : Int32) <<< (x2 &&& 31)) ≤ x6 → Q (some (.int x4)) h) ∧ (¬ (((1 : Int32) <<< (x2 &&& 31)) ≤ x6) → (i_C i_MT i_AT L xs 333 [.int x6] h (fun v h1 => ∃ r2 : Int32, v = some (.int r2) ∧ i_P i_MT i_AT L xs 64 24 [some (.ref x0), some (.int x1), some (.int x2), some (.int x3), some (.int x4), some (.int x5), some (.int x6), x7] [.int r2] h1 0 0 Q))))) : i_P i_MT i_AT L xs 64 11 [some (.ref x0), some (.int x1), some (.int x2), some (.int x3), some (.int x4), some (.int x5), some (.int x6), x7] [] h 0 0 Q := by
  have hk := i_k64
  refine g_s1 (pc2 := 13) hk rfl rfl rfl rfl rfl ?_
  refine g_s1 (pc2 := 14) (st2 := [.int (1 : Int32), .int x6]) hk rfl rfl rfl rfl rfl ?_
  refine g_s1 (pc2 := 15) hk rfl rfl rfl rfl rfl ?_
  refine g_s1 (pc2 := 16) hk rfl rfl rfl rfl rfl ?_
  refine g_icmp_ge hk rfl (fun hc => ?_) (fun hc => ?_)
  · have H := H.1 hc
    refine g_s1 (pc2 := 60) hk rfl rfl rfl rfl rfl ?_
    exact g_ireturn hk rfl (by decide) (by decide) rfl H
  · have H := H.2 hc
    refine g_s1 (pc2 := 21) hk rfl rfl rfl rfl rfl ?_
    refine g_call hk rfl rfl i_k333.1 ⟨rfl, rfl⟩ rfl (i_rcv_0 rfl) rfl ?_
    exact H.mono (fun v h2 q => by obtain ⟨r, rfl, q⟩ := q; exact q)
theorem b64_24 {x0 : Nat} {x1 : Int32} {x2 : Int32} {x3 : Int32} {x4 : Int32} {x5 : Int32} {x6 : Int32} {x7 : Option Value} {s0 : Int32} {h : iH} {Q : Option Value → iH → Prop} (H : ((x5 ≤ s0 → i_P i_MT i_AT L xs 64 52 [some (.ref x0), some (.int x1), some (.int x2), some (.int x3), some (.int x4), some (.int x5), some (.int x6), some (.int s0)] [] h 0 0 Q) ∧ (¬ (x5 ≤ s0) → (i_obj? h x0 5 ∧ i_C i_MT i_AT L xs 65 [.ref x0, .int x6, .int x1, .int x3] h (fun v h1 => ∃ r2 : Int32, v = some (.int r2) ∧ i_P i_MT i_AT L xs 64 41 [some (.ref x0), some (.int x1), some (.int x2), some (.int x3), some (.int x4), some (.int x5), some (.int x6), some (.int s0)] [.int r2] h1 0 0 Q))))) : i_P i_MT i_AT L xs 64 24 [some (.ref x0), some (.int x1), some (.int x2), some (.int x3), some (.int x4), some (.int x5), some (.int x6), x7] [.int s0] h 0 0 Q := by
  have hk := i_k64
  refine g_s1 (pc2 := 26) (lo2 := [some (.ref x0), some (.int x1), some (.int x2), some (.int x3), some (.int x4), some (.int x5), some (.int x6), some (.int s0)]) hk rfl rfl rfl rfl rfl ?_
  refine g_s1 (pc2 := 28) hk rfl rfl rfl rfl rfl ?_
  refine g_s1 (pc2 := 30) hk rfl rfl rfl rfl rfl ?_
  refine g_icmp_ge hk rfl (fun hc => ?_) (fun hc => ?_)
  · have H := H.1 hc
    exact H
  · have H := H.2 hc
    refine g_s1 (pc2 := 34) hk rfl rfl rfl rfl rfl ?_
    refine g_s1 (pc2 := 36) hk rfl rfl rfl rfl rfl ?_
    refine g_s1 (pc2 := 37) hk rfl rfl rfl rfl rfl ?_
    refine g_s1 (pc2 := 38) hk rfl rfl rfl rfl rfl ?_
    obtain ⟨ho, H⟩ := H
    refine g_call hk rfl rfl i_k65.1 ⟨rfl, rfl⟩ rfl (i_rcv_v ho rfl (by decide)) rfl ?_
    exact H.mono (fun v h2 q => by obtain ⟨r, rfl, q⟩ := q; exact q)
theorem b64_41 {x0 : Nat} {x1 : Int32} {x2 : Int32} {x3 : Int32} {x4 : Int32} {x5 : Int32} {x6 : Int32} {x7 : Int32} {s0 : Int32} {h : iH} {Q : Option Value → iH → Prop} (H : ((s0 = 0 → i_P i_MT i_AT L xs 64 52 [some (.ref x0), some (.int x1), some (.int x2), some (.int x3), some (.int x4), some (.int x5), some (.int x6), some (.int x7)] [] h 0 0 Q) ∧ (¬ (s0 = 0) → i_P i_MT i_AT L xs 64 52 [some (.ref x0), some (.int x1), some (.int x2), some (.int x3), some (.int x6), some (.int x7), some (.int x6), some (.int x7)] [] h 0 0 Q))) : i_P i_MT i_AT L xs 64 41 [some (.ref x0), some (.int x1), some (.int x2), some (.int x3), some (.int x4), some (.int x5), some (.int x6), some (.int x7)] [.int s0] h 0 0 Q := by
  have hk := i_k64
  refine g_if_eq hk rfl (fun hc => ?_) (fun hc => ?_)
  · have H := H.1 hc
    exact H
  · have H := H.2 hc
    refine g_s1 (pc2 := 46) hk rfl rfl rfl rfl rfl ?_
    refine g_s1 (pc2 := 48) (lo2 := [some (.ref x0), some (.int x1), some (.int x2), some (.int x3), some (.int x6), some (.int x5), some (.int x6), some (.int x7)]) hk rfl rfl rfl rfl rfl ?_
    refine g_s1 (pc2 := 50) hk rfl rfl rfl rfl rfl ?_
    refine g_s1 (pc2 := 52) (lo2 := [some (.ref x0), some (.int x1), some (.int x2), some (.int x3), some (.int x6), some (.int x7), some (.int x6), some (.int x7)]) hk rfl rfl rfl rfl rfl ?_
    exact H
theorem b64_52 {x0 : Nat} {x1 : Int32} {x2 : Int32} {x3 : Int32} {x4 : Int32} {x5 : Int32} {x6 : Int32} {x7 : Int32} {h : iH} {Q : Option Value → iH → Prop} (H : i_P i_MT i_AT L xs 64 11 [some (.ref x0), some (.int x1), some (.int x2), some (.int x3), some (.int x4), some (.int x5), some (.int (x6 + 1)), some (.int x7)] [] h 0 0 Q) : i_P i_MT i_AT L xs 64 52 [some (.ref x0), some (.int x1), some (.int x2), some (.int x3), some (.int x4), some (.int x5), some (.int x6), some (.int x7)] [] h 0 0 Q := by
  have hk := i_k64
  refine g_s1 (pc2 := 55) (lo2 := [some (.ref x0), some (.int x1), some (.int x2), some (.int x3), some (.int x4), some (.int x5), some (.int (x6 + 1)), some (.int x7)]) hk rfl rfl rfl rfl rfl ?_
  refine g_s1 (pc2 := 11) hk rfl rfl rfl rfl rfl ?_
  exact H
/-! StillTown$Search.isEnough(III)Z -/
theorem e65 {x0 : Nat} {x1 : Int32} {x2 : Int32} {x3 : Int32} {h : iH} {Q : Option Value → iH → Prop} (H : i_P i_MT i_AT L xs 65 0 [some (.ref x0), some (.int x1), some (.int x2), some (.int x3), none] [] h 0 0 Q) : i_C i_MT i_AT L xs 65 [.ref x0, .int x1, .int x2, .int x3] h Q := ⟨i_m65, i_k65.1, Nat.le_of_ble_eq_true rfl, H⟩
theorem b65_0 {x0 : Nat} {x1 : Int32} {x2 : Int32} {x3 : Int32} {x4 : Option Value} {h : iH} {Q : Option Value → iH → Prop} (H : i_P i_MT i_AT L xs 65 3 [some (.ref x0), some (.int x1), some (.int x2), some (.int x3), some (.int (0 : Int32))] [] h 0 0 Q) : i_P i_MT i_AT L xs 65 0 [some (.ref x0), some (.int x1), some (.int x2), some (.int x3), x4] [] h 0 0 Q := by
  have hk := i_k65
  refine g_s1 (pc2 := 1) (st2 := [.int (0 : Int32)]) hk rfl rfl rfl rfl rfl ?_
  refine g_s1 (pc2 := 3) (lo2 := [some (.ref x0), some (.int x1), some (.int x2), some (.int x3), some (.int (0 : Int32))]) hk rfl rfl rfl rfl rfl ?_
  exact H
theorem b65_3 {x0 : Nat} {x1 : Int32} {x2 : Int32} {x3 : Int32} {x4 : Int32} {h : iH} {Q : Option Value → iH → Prop} (H : ((x2 ≤ x4 → Q (some (.int 1)) h) ∧ (¬ (x2 ≤ x4) → (∃ v1 : Nat, i_fld h x0 5 12 = some (.ref v1) ∧ (∃ (n2 : Nat) (f3 : Nat → Int32), i_arI h 0 v1 = some (n2, f3) ∧ ¬ (x4 < 0 ∨ n2 ≤ x4.toNatClampNeg) ∧ (i_C i_MT i_AT L xs 333 [.int (x1 &&& (f3 x4.toNatClampNeg))] h (fun v h4 => ∃ r5 : Int32, v = some (.int r5) ∧ i_P i_MT i_AT L xs 65 21 [some (.ref x0), some (.int x1), some (.int x2), some (.int x3), some (.int x4)] [.int r5] h4 0 0 Q))))))) : i_P i_MT i_AT L xs 65 3 [some (.ref x0), some (.int x1), some (.int x2), some (.int x3), some (.int x4)] [] h 0 0 Q := by
  have hk := i_k65
  refine g_s1 (pc2 := 5) hk rfl rfl rfl rfl rfl ?_
  refine g_s1 (pc2 := 6) hk rfl rfl rfl rfl rfl ?_
  refine g_icmp_ge hk rfl (fun hc => ?_) (fun hc => ?_)
  · have H := H.1 hc
    refine g_s1 (pc2 := 34) (st2 := [.int (1 : Int32)]) hk rfl rfl rfl rfl rfl ?_
    exact g_ireturn hk rfl (by decide) (by decide) rfl H
  · have H := H.2 hc
    refine g_s1 (pc2 := 10) hk rfl rfl rfl rfl rfl ?_
    refine g_s1 (pc2 := 11) hk rfl rfl rfl rfl rfl ?_
    obtain ⟨v1, ev1, H⟩ := H
    refine g_step (pc2 := 14) hk rfl rfl rfl (s_get ev1) ?_
    refine g_s1 (pc2 := 16) hk rfl rfl rfl rfl rfl ?_
    obtain ⟨n2, f3, ef3, hi, H⟩ := H
    refine g_step (pc2 := 17) hk rfl rfl rfl (s_aget (L := L) (xs := xs) ef3 hi) ?_
    refine g_s1 (pc2 := 18) hk rfl rfl rfl rfl rfl ?_
    refine g_call hk rfl rfl i_k333.1 ⟨rfl, rfl⟩ rfl (i_rcv_0 rfl) rfl ?_
    exact H.mono (fun v h2 q => by obtain ⟨r, rfl, q⟩ := q; exact q)
theorem b65_21 {x0 : Nat} {x1 : Int32} {x2 : Int32} {x3 : Int32} {x4 : Int32} {s0 : Int32} {h : iH} {Q : Option Value → iH → Prop} (H : ((x3 ≤ s0 → i_P i_MT i_AT L xs 65 3 [some (.ref x0), some (.int x1), some (.int x2), some (.int x3), some (.int (x4 + 1))] [] h 0 0 Q) ∧ (¬ (x3 ≤ s0) → Q (some (.int 0)) h))) : i_P i_MT i_AT L xs 65 21 [some (.ref x0), some (.int x1), some (.int x2), some (.int x3), some (.int x4)] [.int s0] h 0 0 Q := by
  have hk := i_k65
  refine g_s1 (pc2 := 22) hk rfl rfl rfl rfl rfl ?_
  refine g_icmp_ge hk rfl (fun hc => ?_) (fun hc => ?_)
  · have H := H.1 hc
    refine g_s1 (pc2 := 30) (lo2 := [some (.ref x0), some (.int x1), some (.int x2), some (.int x3), some (.int (x4 + 1))]) hk rfl rfl rfl rfl rfl ?_
    refine g_s1 (pc2 := 3) hk rfl rfl rfl rfl rfl ?_
    exact H
  · have H := H.2 hc
    refine g_s1 (pc2 := 26) (st2 := [.int (0 : Int32)]) hk rfl rfl rfl rfl rfl ?_
    exact g_ireturn hk rfl (by decide) (by decide) rfl H
/-! StillTown$Stealth.weigh()V -/
theorem e67 {x0 : Nat} {h : iH} {Q : Option Value → iH → Prop} (H : i_P i_MT i_AT L xs 67 0 [some (.ref x0), none, none, none] [] h 0 0 Q) : i_C i_MT i_AT L xs 67 [.ref x0] h Q := ⟨i_m67, i_k67.1, Nat.le_of_ble_eq_true rfl, H⟩
theorem b67_0 {x0 : Nat} {x1 : Option Value} {x2 : Option Value} {x3 : Option Value} {h : iH} {Q : Option Value → iH → Prop} (H : i_P i_MT i_AT L xs 67 2 [some (.ref x0), some (.int (0 : Int32)), x2, x3] [] h 0 0 Q) : i_P i_MT i_AT L xs 67 0 [some (.ref x0), x1, x2, x3] [] h 0 0 Q := by
  have hk := i_k67
  refine g_s1 (pc2 := 1) (st2 := [.int (0 : Int32)]) hk rfl rfl rfl rfl rfl ?_
  refine g_s1 (pc2 := 2) (lo2 := [some (.ref x0), some (.int (0 : Int32)), x2, x3]) hk rfl rfl rfl rfl rfl ?_
  exact H
theorem b67_2 {x0 : Nat} {x1 : Int32} {x2 : Option Value} {x3 : Option Value} {h : iH} {Q : Option Value → iH → Prop} (H : (((4 : Int32) < x1 → Q none h) ∧ (¬ ((4 : Int32) < x1) → (∃ v1 : Nat, i_fld h x0 6 3 = some (.ref v1) ∧ (∃ (n2 : Nat) (f3 : Nat → Int64), i_arJ h v1 = some (n2, f3) ∧ ¬ (x1 < 0 ∨ n2 ≤ x1.toNatClampNeg) ∧ i_P i_MT i_AT L xs 67 14 [some (.ref x0), some (.int x1), x2, x3] [] (i_siJ h v1 x1.toNatClampNeg (0 : Int64)) 0 0 Q))))) : i_P i_MT i_AT L xs 67 2 [some (.ref x0), some (.int x1), x2, x3] [] h 0 0 Q := by
  have hk := i_k67
  refine g_s1 (pc2 := 3) hk rfl rfl rfl rfl rfl ?_
  refine g_s1 (pc2 := 4) (st2 := [.int (4 : Int32), .int x1]) hk rfl rfl rfl rfl rfl ?_
  refine g_icmp_gt hk rfl (fun hc => ?_) (fun hc => ?_)
  · have H := H.1 hc
    exact g_return hk rfl (by decide) (by decide) rfl H
  · have H := H.2 hc
    refine g_s1 (pc2 := 8) hk rfl rfl rfl rfl rfl ?_
    obtain ⟨v1, ev1, H⟩ := H
    refine g_step (pc2 := 11) hk rfl rfl rfl (s_get ev1) ?_
    refine g_s1 (pc2 := 12) hk rfl rfl rfl rfl rfl ?_
    refine g_s1 (pc2 := 13) (st2 := [.long (0 : Int64), .int x1, .ref v1]) hk rfl rfl rfl rfl rfl ?_
    obtain ⟨n2, f3, ef3, hi, H⟩ := H
    refine g_step (pc2 := 14) hk rfl rfl rfl (s_lput ef3 hi) ?_
    exact H
theorem b67_14 {x0 : Nat} {x1 : Int32} {x2 : Option Value} {x3 : Option Value} {h : iH} {Q : Option Value → iH → Prop} (H : (∃ v1 : Nat, i_fld h x0 6 4 = some (.ref v1) ∧ (∃ (n2 : Nat) (f3 : Nat → Int64), i_arJ h v1 = some (n2, f3) ∧ ¬ (x1 < 0 ∨ n2 ≤ x1.toNatClampNeg) ∧ i_P i_MT i_AT L xs 67 21 [some (.ref x0), some (.int x1), x2, x3] [] (i_siJ h v1 x1.toNatClampNeg (0 : Int64)) 0 0 Q))) : i_P i_MT i_AT L xs 67 14 [some (.ref x0), some (.int x1), x2, x3] [] h 0 0 Q := by
  have hk := i_k67
  refine g_s1 (pc2 := 15) hk rfl rfl rfl rfl rfl ?_
  obtain ⟨v1, ev1, H⟩ := H
  refine g_step (pc2 := 18) hk rfl rfl rfl (s_get ev1) ?_
  refine g_s1 (pc2 := 19) hk rfl rfl rfl rfl rfl ?_
  refine g_s1 (pc2 := 20) (st2 := [.long (0 : Int64), .int x1, .ref v1]) hk rfl rfl rfl rfl rfl ?_
  obtain ⟨n2, f3, ef3, hi, H⟩ := H
  refine g_step (pc2 := 21) hk rfl rfl rfl (s_lput ef3 hi) ?_
  exact H
theorem b67_21 {x0 : Nat} {x1 : Int32} {x2 : Option Value} {x3 : Option Value} {h : iH} {Q : Option Value → iH → Prop} (H : i_P i_MT i_AT L xs 67 23 [some (.ref x0), some (.int x1), some (.int (0 : Int32)), x3] [] h 0 0 Q) : i_P i_MT i_AT L xs 67 21 [some (.ref x0), some (.int x1), x2, x3] [] h 0 0 Q := by
  have hk := i_k67
  refine g_s1 (pc2 := 22) (st2 := [.int (0 : Int32)]) hk rfl rfl rfl rfl rfl ?_
  refine g_s1 (pc2 := 23) (lo2 := [some (.ref x0), some (.int x1), some (.int (0 : Int32)), x3]) hk rfl rfl rfl rfl rfl ?_
  exact H
theorem b67_23 {x0 : Nat} {x1 : Int32} {x2 : Int32} {x3 : Option Value} {h : iH} {Q : Option Value → iH → Prop} (H : (∃ v1 : Nat, i_fld h x0 6 0 = some (.ref v1) ∧ (∃ v2 : Nat, i_fld h v1 0 0 = some (.ref v2) ∧ (∃ v3 : Int32, i_fld h v2 2 2 = some (.int v3) ∧ ((v3 ≤ x2 → i_P i_MT i_AT L xs 67 2 [some (.ref x0), some (.int (x1 + 1)), some (.int x2), x3] [] h 0 0 Q) ∧ (¬ (v3 ≤ x2) → (∃ v4 : Nat, i_fld h x0 6 0 = some (.ref v4) ∧ (∃ v5 : Nat, i_fld h v4 0 1 = some (.ref v5) ∧ (i_obj? h v5 8 ∧ i_C i_MT i_AT L xs 101 [.ref v5, .int x2, .int x1] h (fun v h6 => ∃ r7 : Int32, v = some (.int r7) ∧ i_P i_MT i_AT L xs 67 49 [some (.ref x0), some (.int x1), some (.int x2), x3] [.int r7] h6 0 0 Q)))))))))) : i_P i_MT i_AT L xs 67 23 [some (.ref x0), some (.int x1), some (.int x2), x3] [] h 0 0 Q := by
  have hk := i_k67
  refine g_s1 (pc2 := 24) hk rfl rfl rfl rfl rfl ?_
  refine g_s1 (pc2 := 25) hk rfl rfl rfl rfl rfl ?_
  obtain ⟨v1, ev1, H⟩ := H
  refine g_step (pc2 := 28) hk rfl rfl rfl (s_get ev1) ?_
  obtain ⟨v2, ev2, H⟩ := H
  refine g_step (pc2 := 31) hk rfl rfl rfl (s_get ev2) ?_
  obtain ⟨v3, ev3, H⟩ := H
  refine g_step (pc2 := 34) hk rfl rfl rfl (s_get ev3) ?_
  refine g_icmp_ge hk rfl (fun hc => ?_) (fun hc => ?_)
  · have H := H.1 hc
    refine g_s1 (pc2 := 101) (lo2 := [some (.ref x0), some (.int (x1 + 1)), some (.int x2), x3]) hk rfl rfl rfl rfl rfl ?_
    refine g_s1 (pc2 := 2) hk rfl rfl rfl rfl rfl ?_
    exact H
  · have H := H.2 hc
    refine g_s1 (pc2 := 38) hk rfl rfl rfl rfl rfl ?_
    obtain ⟨v4, ev4, H⟩ := H
    refine g_step (pc2 := 41) hk rfl rfl rfl (s_get ev4) ?_
    obtain ⟨v5, ev5, H⟩ := H
    refine g_step (pc2 := 44) hk rfl rfl rfl (s_get ev5) ?_
    refine g_s1 (pc2 := 45) hk rfl rfl rfl rfl rfl ?_
    refine g_s1 (pc2 := 46) hk rfl rfl rfl rfl rfl ?_
    obtain ⟨ho, H⟩ := H
    refine g_call hk rfl rfl i_k101.1 ⟨rfl, rfl⟩ rfl (i_rcv_v ho rfl (by decide)) rfl ?_
    exact H.mono (fun v h2 q => by obtain ⟨r, rfl, q⟩ := q; exact q)
theorem b67_49 {x0 : Nat} {x1 : Int32} {x2 : Int32} {x3 : Option Value} {s0 : Int32} {h : iH} {Q : Option Value → iH → Prop} (H : (∃ v1 : Nat, i_fld h x0 6 3 = some (.ref v1) ∧ (∃ (n2 : Nat) (f3 : Nat → Int64), i_arJ h v1 = some (n2, f3) ∧ ¬ (x1 < 0 ∨ n2 ≤ x1.toNatClampNeg) ∧ ((s0 ≤ 0 → i_P i_MT i_AT L xs 67 68 [some (.ref x0), some (.int x1), some (.int x2), some (.int s0)] [.long (0 : Int64), .long (f3 x1.toNatClampNeg), .int x1, .ref v1] h 0 0 Q) ∧ (¬ (s0 ≤ 0) → i_P i_MT i_AT L xs 67 68 [some (.ref x0), some (.int x1), some (.int x2), some (.int s0)] [.long ((1 : Int64) <<< (x2.toInt64 &&& 63)), .long (f3 x1.toNatClampNeg), .int x1, .ref v1] h 0 0 Q))))) : i_P i_MT i_AT L xs 67 49 [some (.ref x0), some (.int x1), some (.int x2), x3] [.int s0] h 0 0 Q := by
  have hk := i_k67
  refine g_s1 (pc2 := 50) (lo2 := [some (.ref x0), some (.int x1), some (.int x2), some (.int s0)]) hk rfl rfl rfl rfl rfl ?_
  refine g_s1 (pc2 := 51) hk rfl rfl rfl rfl rfl ?_
  obtain ⟨v1, ev1, H⟩ := H
  refine g_step (pc2 := 54) hk rfl rfl rfl (s_get ev1) ?_
  refine g_s1 (pc2 := 55) hk rfl rfl rfl rfl rfl ?_
  refine g_s1 (pc2 := 56) hk rfl rfl rfl rfl rfl ?_
  obtain ⟨n2, f3, ef3, hi, H⟩ := H
  refine g_step (pc2 := 57) hk rfl rfl rfl (s_lget ef3 hi) ?_
  refine g_s1 (pc2 := 58) hk rfl rfl rfl rfl rfl ?_
  refine g_if_le hk rfl (fun hc => ?_) (fun hc => ?_)
  · have H := H.1 hc
    refine g_s1 (pc2 := 68) (st2 := [.long (0 : Int64), .long (f3 x1.toNatClampNeg), .int x1, .ref v1]) hk rfl rfl rfl rfl rfl ?_
    exact H
  · have H := H.2 hc
    refine g_s1 (pc2 := 62) (st2 := [.long (1 : Int64), .long (f3 x1.toNatClampNeg), .int x1, .ref v1]) hk rfl rfl rfl rfl rfl ?_
    refine g_s1 (pc2 := 63) hk rfl rfl rfl rfl rfl ?_
    refine g_s1 (pc2 := 64) hk rfl rfl rfl rfl rfl ?_
    refine g_s1 (pc2 := 68) hk rfl rfl rfl rfl rfl ?_
    exact H
theorem b67_68 {x0 : Nat} {x1 : Int32} {x2 : Int32} {x3 : Int32} {s0 : Nat} {s1 : Int32} {s2 : Int64} {s3 : Int64} {h : iH} {Q : Option Value → iH → Prop} (H : (∃ (n1 : Nat) (f2 : Nat → Int64), i_arJ h s0 = some (n1, f2) ∧ ¬ (s1 < 0 ∨ n1 ≤ s1.toNatClampNeg) ∧ i_P i_MT i_AT L xs 67 70 [some (.ref x0), some (.int x1), some (.int x2), some (.int x3)] [] (i_siJ h s0 s1.toNatClampNeg (s2 ||| s3)) 0 0 Q)) : i_P i_MT i_AT L xs 67 68 [some (.ref x0), some (.int x1), some (.int x2), some (.int x3)] [.long s3, .long s2, .int s1, .ref s0] h 0 0 Q := by
  have hk := i_k67
  refine g_s1 (pc2 := 69) hk rfl rfl rfl rfl rfl ?_
  obtain ⟨n1, f2, ef2, hi, H⟩ := H
  refine g_step (pc2 := 70) hk rfl rfl rfl (s_lput ef2 hi) ?_
  exact H
theorem b67_70 {x0 : Nat} {x1 : Int32} {x2 : Int32} {x3 : Int32} {h : iH} {Q : Option Value → iH → Prop} (H : (∃ v1 : Nat, i_fld h x0 6 4 = some (.ref v1) ∧ (∃ (n2 : Nat) (f3 : Nat → Int64), i_arJ h v1 = some (n2, f3) ∧ ¬ (x1 < 0 ∨ n2 ≤ x1.toNatClampNeg) ∧ ((x3 < (16 : Int32) → i_P i_MT i_AT L xs 67 90 [some (.ref x0), some (.int x1), some (.int x2), some (.int x3)] [.long (0 : Int64), .long (f3 x1.toNatClampNeg), .int x1, .ref v1] h 0 0 Q) ∧ (¬ (x3 < (16 : Int32)) → i_P i_MT i_AT L xs 67 90 [some (.ref x0), some (.int x1), some (.int x2), some (.int x3)] [.long ((1 : Int64) <<< (x2.toInt64 &&& 63)), .long (f3 x1.toNatClampNeg), .int x1, .ref v1] h 0 0 Q))))) : i_P i_MT i_AT L xs 67 70 [some (.ref x0), some (.int x1), some (.int x2), some (.int x3)] [] h 0 0 Q := by
  have hk := i_k67
  refine g_s1 (pc2 := 71) hk rfl rfl rfl rfl rfl ?_
  obtain ⟨v1, ev1, H⟩ := H
  refine g_step (pc2 := 74) hk rfl rfl rfl (s_get ev1) ?_
  refine g_s1 (pc2 := 75) hk rfl rfl rfl rfl rfl ?_
  refine g_s1 (pc2 := 76) hk rfl rfl rfl rfl rfl ?_
  obtain ⟨n2, f3, ef3, hi, H⟩ := H
  refine g_step (pc2 := 77) hk rfl rfl rfl (s_lget ef3 hi) ?_
  refine g_s1 (pc2 := 78) hk rfl rfl rfl rfl rfl ?_
  refine g_s1 (pc2 := 80) (st2 := [.int (16 : Int32), .int x3, .long (f3 x1.toNatClampNeg), .int x1, .ref v1]) hk rfl rfl rfl rfl rfl ?_
  refine g_icmp_lt hk rfl (fun hc => ?_) (fun hc => ?_)
  · have H := H.1 hc
    refine g_s1 (pc2 := 90) (st2 := [.long (0 : Int64), .long (f3 x1.toNatClampNeg), .int x1, .ref v1]) hk rfl rfl rfl rfl rfl ?_
    exact H
  · have H := H.2 hc
    refine g_s1 (pc2 := 84) (st2 := [.long (1 : Int64), .long (f3 x1.toNatClampNeg), .int x1, .ref v1]) hk rfl rfl rfl rfl rfl ?_
    refine g_s1 (pc2 := 85) hk rfl rfl rfl rfl rfl ?_
    refine g_s1 (pc2 := 86) hk rfl rfl rfl rfl rfl ?_
    refine g_s1 (pc2 := 90) hk rfl rfl rfl rfl rfl ?_
    exact H
theorem b67_90 {x0 : Nat} {x1 : Int32} {x2 : Int32} {x3 : Int32} {s0 : Nat} {s1 : Int32} {s2 : Int64} {s3 : Int64} {h : iH} {Q : Option Value → iH → Prop} (H : (∃ (n1 : Nat) (f2 : Nat → Int64), i_arJ h s0 = some (n1, f2) ∧ ¬ (s1 < 0 ∨ n1 ≤ s1.toNatClampNeg) ∧ i_P i_MT i_AT L xs 67 92 [some (.ref x0), some (.int x1), some (.int x2), some (.int x3)] [] (i_siJ h s0 s1.toNatClampNeg (s2 ||| s3)) 0 0 Q)) : i_P i_MT i_AT L xs 67 90 [some (.ref x0), some (.int x1), some (.int x2), some (.int x3)] [.long s3, .long s2, .int s1, .ref s0] h 0 0 Q := by
  have hk := i_k67
  refine g_s1 (pc2 := 91) hk rfl rfl rfl rfl rfl ?_
  obtain ⟨n1, f2, ef2, hi, H⟩ := H
  refine g_step (pc2 := 92) hk rfl rfl rfl (s_lput ef2 hi) ?_
  exact H
theorem b67_92 {x0 : Nat} {x1 : Int32} {x2 : Int32} {x3 : Int32} {h : iH} {Q : Option Value → iH → Prop} (H : i_P i_MT i_AT L xs 67 23 [some (.ref x0), some (.int x1), some (.int (x2 + 1)), some (.int x3)] [] h 0 0 Q) : i_P i_MT i_AT L xs 67 92 [some (.ref x0), some (.int x1), some (.int x2), some (.int x3)] [] h 0 0 Q := by
  have hk := i_k67
  refine g_s1 (pc2 := 95) (lo2 := [some (.ref x0), some (.int x1), some (.int (x2 + 1)), some (.int x3)]) hk rfl rfl rfl rfl rfl ?_
  refine g_s1 (pc2 := 23) hk rfl rfl rfl rfl rfl ?_
  exact H
/-! StillTown$Stealth.seenOn(JIII)J -/
theorem e68 {x0 : Nat} {x1 : Int64} {x3 : Int32} {x4 : Int32} {x5 : Int32} {h : iH} {Q : Option Value → iH → Prop} (H : i_P i_MT i_AT L xs 68 0 [some (.ref x0), some (.long x1), none, some (.int x3), some (.int x4), some (.int x5)] [] h 0 0 Q) : i_C i_MT i_AT L xs 68 [.ref x0, .long x1, .int x3, .int x4, .int x5] h Q := ⟨i_m68, i_k68.1, Nat.le_of_ble_eq_true rfl, H⟩
theorem b68_0 {x0 : Nat} {x1 : Int64} {x3 : Int32} {x4 : Int32} {x5 : Int32} {h : iH} {Q : Option Value → iH → Prop} (H : ((¬ x4 = 0 → i_P i_MT i_AT L xs 68 20 [some (.ref x0), some (.long x1), none, some (.int x3), some (.int x4), some (.int x5)] [] h 0 0 Q) ∧ (¬ (¬ x4 = 0) → (∃ v1 : Nat, i_fld h x0 6 0 = some (.ref v1) ∧ (i_obj? h v1 0 ∧ i_C i_MT i_AT L xs 9 [.ref v1, .int x3, .int x5] h (fun v h2 => ∃ r3 : Int32, v = some (.int r3) ∧ i_P i_MT i_AT L xs 68 15 [some (.ref x0), some (.long x1), none, some (.int x3), some (.int x4), some (.int x5)] [.int r3] h2 0 0 Q)))))) : i_P i_MT i_AT L xs 68 0 [some (.ref x0), some (.long x1), none, some (.int x3), some (.int x4), some (.int x5)] [] h 0 0 Q := by
  have hk := i_k68
  refine g_s1 (pc2 := 2) hk rfl rfl rfl rfl rfl ?_
  refine g_if_ne hk rfl (fun hc => ?_) (fun hc => ?_)
  · have H := H.1 hc
    exact H
  · have H := H.2 hc
    refine g_s1 (pc2 := 6) hk rfl rfl rfl rfl rfl ?_
    obtain ⟨v1, ev1, H⟩ := H
    refine g_step (pc2 := 9) hk rfl rfl rfl (s_get ev1) ?_
    refine g_s1 (pc2 := 10) hk rfl rfl rfl rfl rfl ?_
    refine g_s1 (pc2 := 12) hk rfl rfl rfl rfl rfl ?_
    obtain ⟨ho, H⟩ := H
    refine g_call hk rfl rfl i_k9.1 ⟨rfl, rfl⟩ rfl (i_rcv_v ho rfl (by decide)) rfl ?_
    exact H.mono (fun v h2 q => by obtain ⟨r, rfl, q⟩ := q; exact q)
theorem b68_15 {x0 : Nat} {x1 : Int64} {x3 : Int32} {x4 : Int32} {x5 : Int32} {s0 : Int32} {h : iH} {Q : Option Value → iH → Prop} (H : ((¬ s0 = 0 → i_P i_MT i_AT L xs 68 20 [some (.ref x0), some (.long x1), none, some (.int x3), some (.int x4), some (.int x5)] [] h 0 0 Q) ∧ (¬ (¬ s0 = 0) → Q (some (.long (0 : Int64))) h))) : i_P i_MT i_AT L xs 68 15 [some (.ref x0), some (.long x1), none, some (.int x3), some (.int x4), some (.int x5)] [.int s0] h 0 0 Q := by
  have hk := i_k68
  refine g_if_ne hk rfl (fun hc => ?_) (fun hc => ?_)
  · have H := H.1 hc
    exact H
  · have H := H.2 hc
    refine g_s1 (pc2 := 19) (st2 := [.long (0 : Int64)]) hk rfl rfl rfl rfl rfl ?_
    exact g_lreturn hk rfl (by decide) (by decide) rfl H
theorem b68_20 {x0 : Nat} {x1 : Int64} {x3 : Int32} {x4 : Int32} {x5 : Int32} {h : iH} {Q : Option Value → iH → Prop} (H : (∃ v1 : Nat, i_fld h x0 6 0 = some (.ref v1) ∧ (i_obj? h v1 0 ∧ i_C i_MT i_AT L xs 10 [.ref v1, .int x3, .int x5] h (fun v h2 => ∃ r3 : Int64, v = some (.long r3) ∧ i_P i_MT i_AT L xs 68 31 [some (.ref x0), some (.long x1), none, some (.int x3), some (.int x4), some (.int x5)] [.long r3, .long x1] h2 0 0 Q)))) : i_P i_MT i_AT L xs 68 20 [some (.ref x0), some (.long x1), none, some (.int x3), some (.int x4), some (.int x5)] [] h 0 0 Q := by
  have hk := i_k68
  refine g_s1 (pc2 := 21) hk rfl rfl rfl rfl rfl ?_
  refine g_s1 (pc2 := 22) hk rfl rfl rfl rfl rfl ?_
  obtain ⟨v1, ev1, H⟩ := H
  refine g_step (pc2 := 25) hk rfl rfl rfl (s_get ev1) ?_
  refine g_s1 (pc2 := 26) hk rfl rfl rfl rfl rfl ?_
  refine g_s1 (pc2 := 28) hk rfl rfl rfl rfl rfl ?_
  obtain ⟨ho, H⟩ := H
  refine g_call hk rfl rfl i_k10.1 ⟨rfl, rfl⟩ rfl (i_rcv_v ho rfl (by decide)) rfl ?_
  exact H.mono (fun v h2 q => by obtain ⟨r, rfl, q⟩ := q; exact q)
theorem b68_31 {x0 : Nat} {x1 : Int64} {x3 : Int32} {x4 : Int32} {x5 : Int32} {s0 : Int64} {s1 : Int64} {h : iH} {Q : Option Value → iH → Prop} (H : Q (some (.long (s0 &&& s1))) h) : i_P i_MT i_AT L xs 68 31 [some (.ref x0), some (.long x1), none, some (.int x3), some (.int x4), some (.int x5)] [.long s1, .long s0] h 0 0 Q := by
  have hk := i_k68
  refine g_s1 (pc2 := 32) hk rfl rfl rfl rfl rfl ?_
  exact g_lreturn hk rfl (by decide) (by decide) rfl H
/-! StillTown$Stealth.unseenOn(III)J -/
theorem e69 {x0 : Nat} {x1 : Int32} {x2 : Int32} {x3 : Int32} {h : iH} {Q : Option Value → iH → Prop} (H : i_P i_MT i_AT L xs 69 0 [some (.ref x0), some (.int x1), some (.int x2), some (.int x3), none, none, none] [] h 0 0 Q) : i_C i_MT i_AT L xs 69 [.ref x0, .int x1, .int x2, .int x3] h Q := ⟨i_m69, i_k69.1, Nat.le_of_ble_eq_true rfl, H⟩
theorem b69_0 {x0 : Nat} {x1 : Int32} {x2 : Int32} {x3 : Int32} {x4 : Option Value} {x5 : Option Value} {x6 : Option Value} {h : iH} {Q : Option Value → iH → Prop} (H : i_P i_MT i_AT L xs 69 6 [some (.ref x0), some (.int x1), some (.int x2), some (.int x3), some (.long (0 : Int64)), none, some (.int (0 : Int32))] [] h 0 0 Q) : i_P i_MT i_AT L xs 69 0 [some (.ref x0), some (.int x1), some (.int x2), some (.int x3), x4, x5, x6] [] h 0 0 Q := by
  have hk := i_k69
  refine g_s1 (pc2 := 1) (st2 := [.long (0 : Int64)]) hk rfl rfl rfl rfl rfl ?_
  refine g_s1 (pc2 := 3) (lo2 := [some (.ref x0), some (.int x1), some (.int x2), some (.int x3), some (.long (0 : Int64)), none, x6]) hk rfl rfl rfl rfl rfl ?_
  refine g_s1 (pc2 := 4) (st2 := [.int (0 : Int32)]) hk rfl rfl rfl rfl rfl ?_
  refine g_s1 (pc2 := 6) (lo2 := [some (.ref x0), some (.int x1), some (.int x2), some (.int x3), some (.long (0 : Int64)), none, some (.int (0 : Int32))]) hk rfl rfl rfl rfl rfl ?_
  exact H
theorem b69_6 {x0 : Nat} {x1 : Int32} {x2 : Int32} {x3 : Int32} {x4 : Int64} {x6 : Int32} {h : iH} {Q : Option Value → iH → Prop} (H : (∃ v1 : Nat, i_fld h x0 6 0 = some (.ref v1) ∧ (∃ v2 : Nat, i_fld h v1 0 1 = some (.ref v2) ∧ (∃ v3 : Nat, i_fld h v2 8 12 = some (.ref v3) ∧ (∃ v4 : Int32, i_fld h v3 3 0 = some (.int v4) ∧ ((v4 ≤ x6 → Q (some (.long (x4 ^^^ (-1 : Int64)))) h) ∧ (¬ (v4 ≤ x6) → (i_C i_MT i_AT L xs 193 [.long (x1.toInt64), .int x6] h (fun v h5 => ∃ r6 : Int32, v = some (.int r6) ∧ i_P i_MT i_AT L xs 69 31 [some (.ref x0), some (.int x1), some (.int x2), some (.int x3), some (.long x4), none, some (.int x6)] [.int r6] h5 0 0 Q))))))))) : i_P i_MT i_AT L xs 69 6 [some (.ref x0), some (.int x1), some (.int x2), some (.int x3), some (.long x4), none, some (.int x6)] [] h 0 0 Q := by
  have hk := i_k69
  refine g_s1 (pc2 := 8) hk rfl rfl rfl rfl rfl ?_
  refine g_s1 (pc2 := 9) hk rfl rfl rfl rfl rfl ?_
  obtain ⟨v1, ev1, H⟩ := H
  refine g_step (pc2 := 12) hk rfl rfl rfl (s_get ev1) ?_
  obtain ⟨v2, ev2, H⟩ := H
  refine g_step (pc2 := 15) hk rfl rfl rfl (s_get ev2) ?_
  obtain ⟨v3, ev3, H⟩ := H
  refine g_step (pc2 := 18) hk rfl rfl rfl (s_get ev3) ?_
  obtain ⟨v4, ev4, H⟩ := H
  refine g_step (pc2 := 21) hk rfl rfl rfl (s_get ev4) ?_
  refine g_icmp_ge hk rfl (fun hc => ?_) (fun hc => ?_)
  · have H := H.1 hc
    refine g_s1 (pc2 := 61) hk rfl rfl rfl rfl rfl ?_
    refine g_step (pc2 := 64) (st2 := [.long (-1 : Int64), .long x4]) hk rfl rfl rfl rfl ?_
    refine g_s1 (pc2 := 65) hk rfl rfl rfl rfl rfl ?_
    exact g_lreturn hk rfl (by decide) (by decide) rfl H
  · have H := H.2 hc
    refine g_s1 (pc2 := 25) hk rfl rfl rfl rfl rfl ?_
    refine g_s1 (pc2 := 26) hk rfl rfl rfl rfl rfl ?_
    refine g_s1 (pc2 := 28) hk rfl rfl rfl rfl rfl ?_
    refine g_call hk rfl rfl i_k193.1 ⟨rfl, rfl⟩ rfl (i_rcv_0 rfl) rfl ?_
    exact H.mono (fun v h2 q => by obtain ⟨r, rfl, q⟩ := q; exact q)
theorem b69_31 {x0 : Nat} {x1 : Int32} {x2 : Int32} {x3 : Int32} {x4 : Int64} {x6 : Int32} {s0 : Int32} {h : iH} {Q : Option Value → iH → Prop} (H : ((s0 = 0 → i_P i_MT i_AT L xs 69 53 [some (.ref x0), some (.int x1), some (.int x2), some (.int x3), some (.long x4), none, some (.int x6)] [] h 0 0 Q) ∧ (¬ (s0 = 0) → (∃ v1 : Nat, i_fld h x0 6 3 = some (.ref v1) ∧ (∃ (n2 : Nat) (f3 : Nat → Int64), i_arJ h v1 = some (n2, f3) ∧ ¬ (x2 < 0 ∨ n2 ≤ x2.toNatClampNeg) ∧ (i_obj? h x0 6 ∧ i_C i_MT i_AT L xs 68 [.ref x0, .long (f3 x2.toNatClampNeg), .int x6, .int x2, .int x3] h (fun v h4 => ∃ r5 : Int64, v = some (.long r5) ∧ i_P i_MT i_AT L xs 69 50 [some (.ref x0), some (.int x1), some (.int x2), some (.int x3), some (.long x4), none, some (.int x6)] [.long r5, .long x4] h4 0 0 Q))))))) : i_P i_MT i_AT L xs 69 31 [some (.ref x0), some (.int x1), some (.int x2), some (.int x3), some (.long x4), none, some (.int x6)] [.int s0] h 0 0 Q := by
  have hk := i_k69
  refine g_if_eq hk rfl (fun hc => ?_) (fun hc => ?_)
  · have H := H.1 hc
    exact H
  · have H := H.2 hc
    refine g_s1 (pc2 := 36) hk rfl rfl rfl rfl rfl ?_
    refine g_s1 (pc2 := 37) hk rfl rfl rfl rfl rfl ?_
    refine g_s1 (pc2 := 38) hk rfl rfl rfl rfl rfl ?_
    obtain ⟨v1, ev1, H⟩ := H
    refine g_step (pc2 := 41) hk rfl rfl rfl (s_get ev1) ?_
    refine g_s1 (pc2 := 42) hk rfl rfl rfl rfl rfl ?_
    obtain ⟨n2, f3, ef3, hi, H⟩ := H
    refine g_step (pc2 := 43) hk rfl rfl rfl (s_lget ef3 hi) ?_
    refine g_s1 (pc2 := 45) hk rfl rfl rfl rfl rfl ?_
    refine g_s1 (pc2 := 46) hk rfl rfl rfl rfl rfl ?_
    refine g_s1 (pc2 := 47) hk rfl rfl rfl rfl rfl ?_
    obtain ⟨ho, H⟩ := H
    refine g_call hk rfl rfl i_k68.1 ⟨rfl, rfl⟩ rfl (i_rcv_v ho rfl (by decide)) rfl ?_
    exact H.mono (fun v h2 q => by obtain ⟨r, rfl, q⟩ := q; exact q)
theorem b69_50 {x0 : Nat} {x1 : Int32} {x2 : Int32} {x3 : Int32} {x4 : Int64} {x6 : Int32} {s0 : Int64} {s1 : Int64} {h : iH} {Q : Option Value → iH → Prop} (H : i_P i_MT i_AT L xs 69 53 [some (.ref x0), some (.int x1), some (.int x2), some (.int x3), some (.long (s0 ||| s1)), none, some (.int x6)] [] h 0 0 Q) : i_P i_MT i_AT L xs 69 50 [some (.ref x0), some (.int x1), some (.int x2), some (.int x3), some (.long x4), none, some (.int x6)] [.long s1, .long s0] h 0 0 Q := by
  have hk := i_k69
  refine g_s1 (pc2 := 51) hk rfl rfl rfl rfl rfl ?_
  refine g_s1 (pc2 := 53) (lo2 := [some (.ref x0), some (.int x1), some (.int x2), some (.int x3), some (.long (s0 ||| s1)), none, some (.int x6)]) hk rfl rfl rfl rfl rfl ?_
  exact H
theorem b69_53 {x0 : Nat} {x1 : Int32} {x2 : Int32} {x3 : Int32} {x4 : Int64} {x6 : Int32} {h : iH} {Q : Option Value → iH → Prop} (H : i_P i_MT i_AT L xs 69 6 [some (.ref x0), some (.int x1), some (.int x2), some (.int x3), some (.long x4), none, some (.int (x6 + 1))] [] h 0 0 Q) : i_P i_MT i_AT L xs 69 53 [some (.ref x0), some (.int x1), some (.int x2), some (.int x3), some (.long x4), none, some (.int x6)] [] h 0 0 Q := by
  have hk := i_k69
  refine g_s1 (pc2 := 56) (lo2 := [some (.ref x0), some (.int x1), some (.int x2), some (.int x3), some (.long x4), none, some (.int (x6 + 1))]) hk rfl rfl rfl rfl rfl ?_
  refine g_s1 (pc2 := 6) hk rfl rfl rfl rfl rfl ?_
  exact H
/-! StillTown$Stealth.soonestUnseen(II)I -/
theorem e70 {x0 : Nat} {x1 : Int32} {x2 : Int32} {h : iH} {Q : Option Value → iH → Prop} (H : i_P i_MT i_AT L xs 70 0 [some (.ref x0), some (.int x1), some (.int x2), none, none] [] h 0 0 Q) : i_C i_MT i_AT L xs 70 [.ref x0, .int x1, .int x2] h Q := ⟨i_m70, i_k70.1, Nat.le_of_ble_eq_true rfl, H⟩
theorem b70_0 {x0 : Nat} {x1 : Int32} {x2 : Int32} {x3 : Option Value} {x4 : Option Value} {h : iH} {Q : Option Value → iH → Prop} (H : (i_obj? h x0 6 ∧ i_C i_MT i_AT L xs 67 [.ref x0] h (fun v h1 => v = none ∧ i_P i_MT i_AT L xs 70 4 [some (.ref x0), some (.int x1), some (.int x2), x3, x4] [] h1 0 0 Q))) : i_P i_MT i_AT L xs 70 0 [some (.ref x0), some (.int x1), some (.int x2), x3, x4] [] h 0 0 Q := by
  have hk := i_k70
  refine g_s1 (pc2 := 1) hk rfl rfl rfl rfl rfl ?_
  obtain ⟨ho, H⟩ := H
  refine g_call hk rfl rfl i_k67.1 ⟨rfl, rfl⟩ rfl (i_rcv_v ho rfl (by decide)) rfl ?_
  exact H.mono (fun v h2 q => by obtain ⟨rfl, q⟩ := q; exact q)
theorem b70_4 {x0 : Nat} {x1 : Int32} {x2 : Int32} {x3 : Option Value} {x4 : Option Value} {h : iH} {Q : Option Value → iH → Prop} (H : (∃ v1 : Nat, i_fld h x0 6 0 = some (.ref v1) ∧ (∃ v2 : Nat, i_fld h v1 0 1 = some (.ref v2) ∧ (∃ v3 : Nat, i_fld h v2 8 12 = some (.ref v3) ∧ (∃ v4 : Nat, i_fld h v3 3 5 = some (.ref v4) ∧ (∃ (n5 : Nat) (f6 : Nat → Int32), i_arI h 0 v4 = some (n5, f6) ∧ ¬ (x1 < 0 ∨ n5 ≤ x1.toNatClampNeg) ∧ (∃ v7 : Nat, i_fld h x0 6 5 = some (.ref v7) ∧ (∃ v8 : Nat, i_fld h x0 6 0 = some (.ref v8) ∧ (∃ v9 : Nat, i_fld h v8 0 1 = some (.ref v9) ∧ (∃ v10 : Nat, i_fld h v9 8 12 = some (.ref v10) ∧ (∃ v11 : Nat, i_fld h v10 3 2 = some (.ref v11) ∧ (∃ (n12 : Nat) (f13 : Nat → Int32), i_arI h 0 v11 = some (n12, f13) ∧ ¬ (x1 < 0 ∨ n12 ≤ x1.toNatClampNeg) ∧ (∃ (n14 : Nat) (f15 : Nat → Int64), i_arJ h v7 = some (n14, f15) ∧ ¬ ((0 : Int32) < 0 ∨ n14 ≤ (0 : Int32).toNatClampNeg) ∧ i_P i_MT i_AT L xs 70 43 [some (.ref x0), some (.int x1), some (.int x2), some (.int (f6 x1.toNatClampNeg)), x4] [] (i_siJ h v7 (0 : Int32).toNatClampNeg ((1 : Int64) <<< ((f13 x1.toNatClampNeg).toInt64 &&& 63))) 0 0 Q))))))))))))) : i_P i_MT i_AT L xs 70 4 [some (.ref x0), some (.int x1), some (.int x2), x3, x4] [] h 0 0 Q := by
  have hk := i_k70
  refine g_s1 (pc2 := 5) hk rfl rfl rfl rfl rfl ?_
  obtain ⟨v1, ev1, H⟩ := H
  refine g_step (pc2 := 8) hk rfl rfl rfl (s_get ev1) ?_
  obtain ⟨v2, ev2, H⟩ := H
  refine g_step (pc2 := 11) hk rfl rfl rfl (s_get ev2) ?_
  obtain ⟨v3, ev3, H⟩ := H
  refine g_step (pc2 := 14) hk rfl rfl rfl (s_get ev3) ?_
  obtain ⟨v4, ev4, H⟩ := H
  refine g_step (pc2 := 17) hk rfl rfl rfl (s_get ev4) ?_
  refine g_s1 (pc2 := 18) hk rfl rfl rfl rfl rfl ?_
  obtain ⟨n5, f6, ef6, hi, H⟩ := H
  refine g_step (pc2 := 19) hk rfl rfl rfl (s_aget (L := L) (xs := xs) ef6 hi) ?_
  refine g_s1 (pc2 := 20) (lo2 := [some (.ref x0), some (.int x1), some (.int x2), some (.int (f6 x1.toNatClampNeg)), x4]) hk rfl rfl rfl rfl rfl ?_
  refine g_s1 (pc2 := 21) hk rfl rfl rfl rfl rfl ?_
  obtain ⟨v7, ev7, H⟩ := H
  refine g_step (pc2 := 24) hk rfl rfl rfl (s_get ev7) ?_
  refine g_s1 (pc2 := 25) (st2 := [.int (0 : Int32), .ref v7]) hk rfl rfl rfl rfl rfl ?_
  refine g_s1 (pc2 := 26) (st2 := [.long (1 : Int64), .int (0 : Int32), .ref v7]) hk rfl rfl rfl rfl rfl ?_
  refine g_s1 (pc2 := 27) hk rfl rfl rfl rfl rfl ?_
  obtain ⟨v8, ev8, H⟩ := H
  refine g_step (pc2 := 30) hk rfl rfl rfl (s_get ev8) ?_
  obtain ⟨v9, ev9, H⟩ := H
  refine g_step (pc2 := 33) hk rfl rfl rfl (s_get ev9) ?_
  obtain ⟨v10, ev10, H⟩ := H
  refine g_step (pc2 := 36) hk rfl rfl rfl (s_get ev10) ?_
  obtain ⟨v11, ev11, H⟩ := H
  refine g_step (pc2 := 39) hk rfl rfl rfl (s_get ev11) ?_
  refine g_s1 (pc2 := 40) hk rfl rfl rfl rfl rfl ?_
  obtain ⟨n12, f13, ef13, hi, H⟩ := H
  refine g_step (pc2 := 41) hk rfl rfl rfl (s_aget (L := L) (xs := xs) ef13 hi) ?_
  refine g_s1 (pc2 := 42) hk rfl rfl rfl rfl rfl ?_
  obtain ⟨n14, f15, ef15, hi, H⟩ := H
  refine g_step (pc2 := 43) hk rfl rfl rfl (s_lput ef15 hi) ?_
  exact H
theorem b70_43 {x0 : Nat} {x1 : Int32} {x2 : Int32} {x3 : Int32} {x4 : Option Value} {h : iH} {Q : Option Value → iH → Prop} (H : i_P i_MT i_AT L xs 70 46 [some (.ref x0), some (.int x1), some (.int x2), some (.int x3), some (.int (0 : Int32))] [] h 0 0 Q) : i_P i_MT i_AT L xs 70 43 [some (.ref x0), some (.int x1), some (.int x2), some (.int x3), x4] [] h 0 0 Q := by
  have hk := i_k70
  refine g_s1 (pc2 := 44) (st2 := [.int (0 : Int32)]) hk rfl rfl rfl rfl rfl ?_
  refine g_s1 (pc2 := 46) (lo2 := [some (.ref x0), some (.int x1), some (.int x2), some (.int x3), some (.int (0 : Int32))]) hk rfl rfl rfl rfl rfl ?_
  exact H
theorem b70_46 {x0 : Nat} {x1 : Int32} {x2 : Int32} {x3 : Int32} {x4 : Int32} {h : iH} {Q : Option Value → iH → Prop} (H : (((60 : Int32) < x4 → Q (some (.int (-1 : Int32))) h) ∧ (¬ ((60 : Int32) < x4) → ((x4 ≤ 0 → i_P i_MT i_AT L xs 70 110 [some (.ref x0), some (.int x1), some (.int x2), some (.int x3), some (.int x4)] [] h 0 0 Q) ∧ (¬ (x4 ≤ 0) → (∃ v1 : Nat, i_fld h x0 6 7 = some (.ref v1) ∧ (i_obj? h x0 6 ∧ i_C i_MT i_AT L xs 69 [.ref x0, .int x3, .int (2 : Int32), .int x4] h (fun v h2 => ∃ r3 : Int64, v = some (.long r3) ∧ i_P i_MT i_AT L xs 70 72 [some (.ref x0), some (.int x1), some (.int x2), some (.int x3), some (.int x4)] [.long r3, .int x4, .ref v1] h2 0 0 Q)))))))) : i_P i_MT i_AT L xs 70 46 [some (.ref x0), some (.int x1), some (.int x2), some (.int x3), some (.int x4)] [] h 0 0 Q := by
  have hk := i_k70
  refine g_s1 (pc2 := 48) hk rfl rfl rfl rfl rfl ?_
  refine g_s1 (pc2 := 50) (st2 := [.int (60 : Int32), .int x4]) hk rfl rfl rfl rfl rfl ?_
  refine g_icmp_gt hk rfl (fun hc => ?_) (fun hc => ?_)
  · have H := H.1 hc
    refine g_s1 (pc2 := 141) (st2 := [.int (-1 : Int32)]) hk rfl rfl rfl rfl rfl ?_
    exact g_ireturn hk rfl (by decide) (by decide) rfl H
  · have H := H.2 hc
    refine g_s1 (pc2 := 55) hk rfl rfl rfl rfl rfl ?_
    refine g_if_le hk rfl (fun hc => ?_) (fun hc => ?_)
    · have H := H.1 hc
      exact H
    · have H := H.2 hc
      refine g_s1 (pc2 := 59) hk rfl rfl rfl rfl rfl ?_
      obtain ⟨v1, ev1, H⟩ := H
      refine g_step (pc2 := 62) hk rfl rfl rfl (s_get ev1) ?_
      refine g_s1 (pc2 := 64) hk rfl rfl rfl rfl rfl ?_
      refine g_s1 (pc2 := 65) hk rfl rfl rfl rfl rfl ?_
      refine g_s1 (pc2 := 66) hk rfl rfl rfl rfl rfl ?_
      refine g_s1 (pc2 := 67) (st2 := [.int (2 : Int32), .int x3, .ref x0, .int x4, .ref v1]) hk rfl rfl rfl rfl rfl ?_
      refine g_s1 (pc2 := 69) hk rfl rfl rfl rfl rfl ?_
      obtain ⟨ho, H⟩ := H
      refine g_call hk rfl rfl i_k69.1 ⟨rfl, rfl⟩ rfl (i_rcv_v ho rfl (by decide)) rfl ?_
      exact H.mono (fun v h2 q => by obtain ⟨r, rfl, q⟩ := q; exact q)
theorem b70_72 {x0 : Nat} {x1 : Int32} {x2 : Int32} {x3 : Int32} {x4 : Int32} {s0 : Nat} {s1 : Int32} {s2 : Int64} {h : iH} {Q : Option Value → iH → Prop} (H : (∃ (n1 : Nat) (f2 : Nat → Int64), i_arJ h s0 = some (n1, f2) ∧ ¬ (s1 < 0 ∨ n1 ≤ s1.toNatClampNeg) ∧ i_P i_MT i_AT L xs 70 73 [some (.ref x0), some (.int x1), some (.int x2), some (.int x3), some (.int x4)] [] (i_siJ h s0 s1.toNatClampNeg s2) 0 0 Q)) : i_P i_MT i_AT L xs 70 72 [some (.ref x0), some (.int x1), some (.int x2), some (.int x3), some (.int x4)] [.long s2, .int s1, .ref s0] h 0 0 Q := by
  have hk := i_k70
  obtain ⟨n1, f2, ef2, hi, H⟩ := H
  refine g_step (pc2 := 73) hk rfl rfl rfl (s_lput ef2 hi) ?_
  exact H
theorem b70_73 {x0 : Nat} {x1 : Int32} {x2 : Int32} {x3 : Int32} {x4 : Int32} {h : iH} {Q : Option Value → iH → Prop} (H : (∃ v1 : Nat, i_fld h x0 6 6 = some (.ref v1) ∧ (i_obj? h x0 6 ∧ i_C i_MT i_AT L xs 69 [.ref x0, .int x3, .int (0 : Int32), .int x4] h (fun v h2 => ∃ r3 : Int64, v = some (.long r3) ∧ i_P i_MT i_AT L xs 70 87 [some (.ref x0), some (.int x1), some (.int x2), some (.int x3), some (.int x4)] [.long r3, .int x4, .ref v1] h2 0 0 Q)))) : i_P i_MT i_AT L xs 70 73 [some (.ref x0), some (.int x1), some (.int x2), some (.int x3), some (.int x4)] [] h 0 0 Q := by
  have hk := i_k70
  refine g_s1 (pc2 := 74) hk rfl rfl rfl rfl rfl ?_
  obtain ⟨v1, ev1, H⟩ := H
  refine g_step (pc2 := 77) hk rfl rfl rfl (s_get ev1) ?_
  refine g_s1 (pc2 := 79) hk rfl rfl rfl rfl rfl ?_
  refine g_s1 (pc2 := 80) hk rfl rfl rfl rfl rfl ?_
  refine g_s1 (pc2 := 81) hk rfl rfl rfl rfl rfl ?_
  refine g_s1 (pc2 := 82) (st2 := [.int (0 : Int32), .int x3, .ref x0, .int x4, .ref v1]) hk rfl rfl rfl rfl rfl ?_
  refine g_s1 (pc2 := 84) hk rfl rfl rfl rfl rfl ?_
  obtain ⟨ho, H⟩ := H
  refine g_call hk rfl rfl i_k69.1 ⟨rfl, rfl⟩ rfl (i_rcv_v ho rfl (by decide)) rfl ?_
  exact H.mono (fun v h2 q => by obtain ⟨r, rfl, q⟩ := q; exact q)
theorem b70_87 {x0 : Nat} {x1 : Int32} {x2 : Int32} {x3 : Int32} {x4 : Int32} {s0 : Nat} {s1 : Int32} {s2 : Int64} {h : iH} {Q : Option Value → iH → Prop} (H : (∃ (n1 : Nat) (f2 : Nat → Int64), i_arJ h s0 = some (n1, f2) ∧ ¬ (s1 < 0 ∨ n1 ≤ s1.toNatClampNeg) ∧ i_P i_MT i_AT L xs 70 88 [some (.ref x0), some (.int x1), some (.int x2), some (.int x3), some (.int x4)] [] (i_siJ h s0 s1.toNatClampNeg s2) 0 0 Q)) : i_P i_MT i_AT L xs 70 87 [some (.ref x0), some (.int x1), some (.int x2), some (.int x3), some (.int x4)] [.long s2, .int s1, .ref s0] h 0 0 Q := by
  have hk := i_k70
  obtain ⟨n1, f2, ef2, hi, H⟩ := H
  refine g_step (pc2 := 88) hk rfl rfl rfl (s_lput ef2 hi) ?_
  exact H
theorem b70_88 {x0 : Nat} {x1 : Int32} {x2 : Int32} {x3 : Int32} {x4 : Int32} {h : iH} {Q : Option Value → iH → Prop} (H : (∃ v1 : Nat, i_fld h x0 6 5 = some (.ref v1) ∧ (∃ v2 : Nat, i_fld h x0 6 5 = some (.ref v2) ∧ (∃ (n3 : Nat) (f4 : Nat → Int64), i_arJ h v2 = some (n3, f4) ∧ ¬ ((x4 - (1 : Int32)) < 0 ∨ n3 ≤ (x4 - (1 : Int32)).toNatClampNeg) ∧ (i_obj? h x0 6 ∧ i_C i_MT i_AT L xs 71 [.ref x0, .long (f4 (x4 - (1 : Int32)).toNatClampNeg), .int x4] h (fun v h5 => ∃ r6 : Int64, v = some (.long r6) ∧ i_P i_MT i_AT L xs 70 109 [some (.ref x0), some (.int x1), some (.int x2), some (.int x3), some (.int x4)] [.long r6, .int x4, .ref v1] h5 0 0 Q)))))) : i_P i_MT i_AT L xs 70 88 [some (.ref x0), some (.int x1), some (.int x2), some (.int x3), some (.int x4)] [] h 0 0 Q := by
  have hk := i_k70
  refine g_s1 (pc2 := 89) hk rfl rfl rfl rfl rfl ?_
  obtain ⟨v1, ev1, H⟩ := H
  refine g_step (pc2 := 92) hk rfl rfl rfl (s_get ev1) ?_
  refine g_s1 (pc2 := 94) hk rfl rfl rfl rfl rfl ?_
  refine g_s1 (pc2 := 95) hk rfl rfl rfl rfl rfl ?_
  refine g_s1 (pc2 := 96) hk rfl rfl rfl rfl rfl ?_
  obtain ⟨v2, ev2, H⟩ := H
  refine g_step (pc2 := 99) hk rfl rfl rfl (s_get ev2) ?_
  refine g_s1 (pc2 := 101) hk rfl rfl rfl rfl rfl ?_
  refine g_s1 (pc2 := 102) (st2 := [.int (1 : Int32), .int x4, .ref v2, .ref x0, .int x4, .ref v1]) hk rfl rfl rfl rfl rfl ?_
  refine g_s1 (pc2 := 103) hk rfl rfl rfl rfl rfl ?_
  obtain ⟨n3, f4, ef4, hi, H⟩ := H
  refine g_step (pc2 := 104) hk rfl rfl rfl (s_lget ef4 hi) ?_
  refine g_s1 (pc2 := 106) hk rfl rfl rfl rfl rfl ?_
  obtain ⟨ho, H⟩ := H
  refine g_call hk rfl rfl i_k71.1 ⟨rfl, rfl⟩ rfl (i_rcv_v ho rfl (by decide)) rfl ?_
  exact H.mono (fun v h2 q => by obtain ⟨r, rfl, q⟩ := q; exact q)
theorem b70_109 {x0 : Nat} {x1 : Int32} {x2 : Int32} {x3 : Int32} {x4 : Int32} {s0 : Nat} {s1 : Int32} {s2 : Int64} {h : iH} {Q : Option Value → iH → Prop} (H : (∃ (n1 : Nat) (f2 : Nat → Int64), i_arJ h s0 = some (n1, f2) ∧ ¬ (s1 < 0 ∨ n1 ≤ s1.toNatClampNeg) ∧ i_P i_MT i_AT L xs 70 110 [some (.ref x0), some (.int x1), some (.int x2), some (.int x3), some (.int x4)] [] (i_siJ h s0 s1.toNatClampNeg s2) 0 0 Q)) : i_P i_MT i_AT L xs 70 109 [some (.ref x0), some (.int x1), some (.int x2), some (.int x3), some (.int x4)] [.long s2, .int s1, .ref s0] h 0 0 Q := by
  have hk := i_k70
  obtain ⟨n1, f2, ef2, hi, H⟩ := H
  refine g_step (pc2 := 110) hk rfl rfl rfl (s_lput ef2 hi) ?_
  exact H
theorem b70_110 {x0 : Nat} {x1 : Int32} {x2 : Int32} {x3 : Int32} {x4 : Int32} {h : iH} {Q : Option Value → iH → Prop} (H : (∃ v1 : Nat, i_fld h x0 6 5 = some (.ref v1) ∧ (∃ (n2 : Nat) (f3 : Nat → Int64), i_arJ h v1 = some (n2, f3) ∧ ¬ (x4 < 0 ∨ n2 ≤ x4.toNatClampNeg) ∧ (i_C i_MT i_AT L xs 193 [.long (f3 x4.toNatClampNeg), .int x2] h (fun v h4 => ∃ r5 : Int32, v = some (.int r5) ∧ i_P i_MT i_AT L xs 70 121 [some (.ref x0), some (.int x1), some (.int x2), some (.int x3), some (.int x4)] [.int r5] h4 0 0 Q))))) : i_P i_MT i_AT L xs 70 110 [some (.ref x0), some (.int x1), some (.int x2), some (.int x3), some (.int x4)] [] h 0 0 Q := by
  have hk := i_k70
  refine g_s1 (pc2 := 111) hk rfl rfl rfl rfl rfl ?_
  obtain ⟨v1, ev1, H⟩ := H
  refine g_step (pc2 := 114) hk rfl rfl rfl (s_get ev1) ?_
  refine g_s1 (pc2 := 116) hk rfl rfl rfl rfl rfl ?_
  obtain ⟨n2, f3, ef3, hi, H⟩ := H
  refine g_step (pc2 := 117) hk rfl rfl rfl (s_lget ef3 hi) ?_
  refine g_s1 (pc2 := 118) hk rfl rfl rfl rfl rfl ?_
  refine g_call hk rfl rfl i_k193.1 ⟨rfl, rfl⟩ rfl (i_rcv_0 rfl) rfl ?_
  exact H.mono (fun v h2 q => by obtain ⟨r, rfl, q⟩ := q; exact q)
theorem b70_121 {x0 : Nat} {x1 : Int32} {x2 : Int32} {x3 : Int32} {x4 : Int32} {s0 : Int32} {h : iH} {Q : Option Value → iH → Prop} (H : ((s0 = 0 → i_P i_MT i_AT L xs 70 46 [some (.ref x0), some (.int x1), some (.int x2), some (.int x3), some (.int (x4 + 1))] [] h 0 0 Q) ∧ (¬ (s0 = 0) → (i_obj? h x0 6 ∧ i_C i_MT i_AT L xs 72 [.ref x0, .int x2, .int x4] h (fun v h1 => v = none ∧ i_P i_MT i_AT L xs 70 131 [some (.ref x0), some (.int x1), some (.int x2), some (.int x3), some (.int x4)] [] h1 0 0 Q))))) : i_P i_MT i_AT L xs 70 121 [some (.ref x0), some (.int x1), some (.int x2), some (.int x3), some (.int x4)] [.int s0] h 0 0 Q := by
  have hk := i_k70
  refine g_if_eq hk rfl (fun hc => ?_) (fun hc => ?_)
  · have H := H.1 hc
    refine g_s1 (pc2 := 137) (lo2 := [some (.ref x0), some (.int x1), some (.int x2), some (.int x3), some (.int (x4 + 1))]) hk rfl rfl rfl rfl rfl ?_
    refine g_s1 (pc2 := 46) hk rfl rfl rfl rfl rfl ?_
    exact H
  · have H := H.2 hc
    refine g_s1 (pc2 := 125) hk rfl rfl rfl rfl rfl ?_
    refine g_s1 (pc2 := 126) hk rfl rfl rfl rfl rfl ?_
    refine g_s1 (pc2 := 128) hk rfl rfl rfl rfl rfl ?_
    obtain ⟨ho, H⟩ := H
    refine g_call hk rfl rfl i_k72.1 ⟨rfl, rfl⟩ rfl (i_rcv_v ho rfl (by decide)) rfl ?_
    exact H.mono (fun v h2 q => by obtain ⟨rfl, q⟩ := q; exact q)
theorem b70_131 {x0 : Nat} {x1 : Int32} {x2 : Int32} {x3 : Int32} {x4 : Int32} {h : iH} {Q : Option Value → iH → Prop} (H : Q (some (.int x4)) h) : i_P i_MT i_AT L xs 70 131 [some (.ref x0), some (.int x1), some (.int x2), some (.int x3), some (.int x4)] [] h 0 0 Q := by
  have hk := i_k70
  refine g_s1 (pc2 := 133) hk rfl rfl rfl rfl rfl ?_
  exact g_ireturn hk rfl (by decide) (by decide) rfl H
/-! StillTown$Stealth.from(JI)J -/
theorem e71 {x0 : Nat} {x1 : Int64} {x3 : Int32} {h : iH} {Q : Option Value → iH → Prop} (H : i_P i_MT i_AT L xs 71 0 [some (.ref x0), some (.long x1), none, some (.int x3)] [] h 0 0 Q) : i_C i_MT i_AT L xs 71 [.ref x0, .long x1, .int x3] h Q := ⟨i_m71, i_k71.1, Nat.le_of_ble_eq_true rfl, H⟩
theorem b71_0 {x0 : Nat} {x1 : Int64} {x3 : Int32} {h : iH} {Q : Option Value → iH → Prop} (H : (∃ v1 : Nat, i_fld h x0 6 0 = some (.ref v1) ∧ (∃ v2 : Nat, i_fld h v1 0 0 = some (.ref v2) ∧ (i_obj? h v2 2 ∧ i_C i_MT i_AT L xs 23 [.ref v2, .long x1] h (fun v h3 => ∃ r4 : Int64, v = some (.long r4) ∧ i_P i_MT i_AT L xs 71 11 [some (.ref x0), some (.long x1), none, some (.int x3)] [.long r4] h3 0 0 Q))))) : i_P i_MT i_AT L xs 71 0 [some (.ref x0), some (.long x1), none, some (.int x3)] [] h 0 0 Q := by
  have hk := i_k71
  refine g_s1 (pc2 := 1) hk rfl rfl rfl rfl rfl ?_
  obtain ⟨v1, ev1, H⟩ := H
  refine g_step (pc2 := 4) hk rfl rfl rfl (s_get ev1) ?_
  obtain ⟨v2, ev2, H⟩ := H
  refine g_step (pc2 := 7) hk rfl rfl rfl (s_get ev2) ?_
  refine g_s1 (pc2 := 8) hk rfl rfl rfl rfl rfl ?_
  obtain ⟨ho, H⟩ := H
  refine g_call hk rfl rfl i_k23.1 ⟨rfl, rfl⟩ rfl (i_rcv_v ho rfl (by decide)) rfl ?_
  exact H.mono (fun v h2 q => by obtain ⟨r, rfl, q⟩ := q; exact q)
theorem b71_11 {x0 : Nat} {x1 : Int64} {x3 : Int32} {s0 : Int64} {h : iH} {Q : Option Value → iH → Prop} (H : (∃ v1 : Nat, i_fld h x0 6 7 = some (.ref v1) ∧ (∃ (n2 : Nat) (f3 : Nat → Int64), i_arJ h v1 = some (n2, f3) ∧ ¬ (x3 < 0 ∨ n2 ≤ x3.toNatClampNeg) ∧ (∃ v4 : Nat, i_fld h x0 6 6 = some (.ref v4) ∧ (∃ (n5 : Nat) (f6 : Nat → Int64), i_arJ h v4 = some (n5, f6) ∧ ¬ (x3 < 0 ∨ n5 ≤ x3.toNatClampNeg) ∧ Q (some (.long ((s0 &&& (f3 x3.toNatClampNeg)) ||| (x1 &&& (f6 x3.toNatClampNeg))))) h))))) : i_P i_MT i_AT L xs 71 11 [some (.ref x0), some (.long x1), none, some (.int x3)] [.long s0] h 0 0 Q := by
  have hk := i_k71
  refine g_s1 (pc2 := 12) hk rfl rfl rfl rfl rfl ?_
  obtain ⟨v1, ev1, H⟩ := H
  refine g_step (pc2 := 15) hk rfl rfl rfl (s_get ev1) ?_
  refine g_s1 (pc2 := 16) hk rfl rfl rfl rfl rfl ?_
  obtain ⟨n2, f3, ef3, hi, H⟩ := H
  refine g_step (pc2 := 17) hk rfl rfl rfl (s_lget ef3 hi) ?_
  refine g_s1 (pc2 := 18) hk rfl rfl rfl rfl rfl ?_
  refine g_s1 (pc2 := 19) hk rfl rfl rfl rfl rfl ?_
  refine g_s1 (pc2 := 20) hk rfl rfl rfl rfl rfl ?_
  obtain ⟨v4, ev4, H⟩ := H
  refine g_step (pc2 := 23) hk rfl rfl rfl (s_get ev4) ?_
  refine g_s1 (pc2 := 24) hk rfl rfl rfl rfl rfl ?_
  obtain ⟨n5, f6, ef6, hi, H⟩ := H
  refine g_step (pc2 := 25) hk rfl rfl rfl (s_lget ef6 hi) ?_
  refine g_s1 (pc2 := 26) hk rfl rfl rfl rfl rfl ?_
  refine g_s1 (pc2 := 27) hk rfl rfl rfl rfl rfl ?_
  exact g_lreturn hk rfl (by decide) (by decide) rfl H
/-! StillTown$Stealth.layPath(II)V -/
theorem e72 {x0 : Nat} {x1 : Int32} {x2 : Int32} {h : iH} {Q : Option Value → iH → Prop} (H : i_P i_MT i_AT L xs 72 0 [some (.ref x0), some (.int x1), some (.int x2), none, none, none, none, none] [] h 0 0 Q) : i_C i_MT i_AT L xs 72 [.ref x0, .int x1, .int x2] h Q := ⟨i_m72, i_k72.1, Nat.le_of_ble_eq_true rfl, H⟩
theorem b72_0 {x0 : Nat} {x1 : Int32} {x2 : Int32} {x3 : Option Value} {x4 : Option Value} {x5 : Option Value} {x6 : Option Value} {x7 : Option Value} {h : iH} {Q : Option Value → iH → Prop} (H : (∃ v1 : Nat, i_fld h x0 6 5 = some (.ref v1) ∧ (∃ (n2 : Nat) (f3 : Nat → Int64), i_arJ h v1 = some (n2, f3) ∧ ¬ (x2 < 0 ∨ n2 ≤ x2.toNatClampNeg) ∧ i_P i_MT i_AT L xs 72 9 [some (.ref x0), some (.int x1), some (.int x2), x3, x4, x5, x6, x7] [] (i_siJ h v1 x2.toNatClampNeg ((1 : Int64) <<< (x1.toInt64 &&& 63))) 0 0 Q))) : i_P i_MT i_AT L xs 72 0 [some (.ref x0), some (.int x1), some (.int x2), x3, x4, x5, x6, x7] [] h 0 0 Q := by
  have hk := i_k72
  refine g_s1 (pc2 := 1) hk rfl rfl rfl rfl rfl ?_
  obtain ⟨v1, ev1, H⟩ := H
  refine g_step (pc2 := 4) hk rfl rfl rfl (s_get ev1) ?_
  refine g_s1 (pc2 := 5) hk rfl rfl rfl rfl rfl ?_
  refine g_s1 (pc2 := 6) (st2 := [.long (1 : Int64), .int x2, .ref v1]) hk rfl rfl rfl rfl rfl ?_
  refine g_s1 (pc2 := 7) hk rfl rfl rfl rfl rfl ?_
  refine g_s1 (pc2 := 8) hk rfl rfl rfl rfl rfl ?_
  obtain ⟨n2, f3, ef3, hi, H⟩ := H
  refine g_step (pc2 := 9) hk rfl rfl rfl (s_lput ef3 hi) ?_
  exact H
theorem b72_9 {x0 : Nat} {x1 : Int32} {x2 : Int32} {x3 : Option Value} {x4 : Option Value} {x5 : Option Value} {x6 : Option Value} {x7 : Option Value} {h : iH} {Q : Option Value → iH → Prop} (H : i_P i_MT i_AT L xs 72 13 [some (.ref x0), some (.int x1), some (.int x2), some (.int (x2 - (1 : Int32))), x4, x5, x6, x7] [] h 0 0 Q) : i_P i_MT i_AT L xs 72 9 [some (.ref x0), some (.int x1), some (.int x2), x3, x4, x5, x6, x7] [] h 0 0 Q := by
  have hk := i_k72
  refine g_s1 (pc2 := 10) hk rfl rfl rfl rfl rfl ?_
  refine g_s1 (pc2 := 11) (st2 := [.int (1 : Int32), .int x2]) hk rfl rfl rfl rfl rfl ?_
  refine g_s1 (pc2 := 12) hk rfl rfl rfl rfl rfl ?_
  refine g_s1 (pc2 := 13) (lo2 := [some (.ref x0), some (.int x1), some (.int x2), some (.int (x2 - (1 : Int32))), x4, x5, x6, x7]) hk rfl rfl rfl rfl rfl ?_
  exact H
theorem b72_13 {x0 : Nat} {x1 : Int32} {x2 : Int32} {x3 : Int32} {x4 : Option Value} {x5 : Option Value} {x6 : Option Value} {x7 : Option Value} {h : iH} {Q : Option Value → iH → Prop} (H : ((x3 < 0 → ((∃ o, i_fld h x0 6 1 = some o) ∧ i_P i_MT i_AT L xs 72 84 [some (.ref x0), some (.int x1), some (.int x2), some (.int x3), x4, x5, x6, x7] [] (i_sf h x0 1 (.int x2)) 0 0 Q)) ∧ (¬ (x3 < 0) → (∃ v1 : Nat, i_fld h x0 6 5 = some (.ref v1) ∧ (∃ (n2 : Nat) (f3 : Nat → Int64), i_arJ h v1 = some (n2, f3) ∧ ¬ ((x3 + (1 : Int32)) < 0 ∨ n2 ≤ (x3 + (1 : Int32)).toNatClampNeg) ∧ (∃ v4 : Nat, i_fld h x0 6 0 = some (.ref v4) ∧ (∃ v5 : Nat, i_fld h v4 0 0 = some (.ref v5) ∧ (∃ v6 : Nat, i_fld h x0 6 7 = some (.ref v6) ∧ (∃ (n7 : Nat) (f8 : Nat → Int64), i_arJ h v6 = some (n7, f8) ∧ ¬ ((x3 + (1 : Int32)) < 0 ∨ n7 ≤ (x3 + (1 : Int32)).toNatClampNeg) ∧ (i_obj? h v5 2 ∧ i_C i_MT i_AT L xs 23 [.ref v5, .long ((f3 (x3 + (1 : Int32)).toNatClampNeg) &&& (f8 (x3 + (1 : Int32)).toNatClampNeg))] h (fun v h9 => ∃ r10 : Int64, v = some (.long r10) ∧ i_P i_MT i_AT L xs 72 48 [some (.ref x0), some (.int x1), some (.int x2), some (.int x3), some (.long (f3 (x3 + (1 : Int32)).toNatClampNeg)), none, x6, x7] [.long r10] h9 0 0 Q))))))))))) : i_P i_MT i_AT L xs 72 13 [some (.ref x0), some (.int x1), some (.int x2), some (.int x3), x4, x5, x6, x7] [] h 0 0 Q := by
  have hk := i_k72
  refine g_s1 (pc2 := 14) hk rfl rfl rfl rfl rfl ?_
  refine g_if_lt hk rfl (fun hc => ?_) (fun hc => ?_)
  · have H := H.1 hc
    refine g_s1 (pc2 := 80) hk rfl rfl rfl rfl rfl ?_
    refine g_s1 (pc2 := 81) hk rfl rfl rfl rfl rfl ?_
    obtain ⟨⟨o, ho⟩, H⟩ := H
    refine g_step (pc2 := 84) hk rfl rfl rfl (s_put ho rfl) ?_
    exact H
  · have H := H.2 hc
    refine g_s1 (pc2 := 18) hk rfl rfl rfl rfl rfl ?_
    obtain ⟨v1, ev1, H⟩ := H
    refine g_step (pc2 := 21) hk rfl rfl rfl (s_get ev1) ?_
    refine g_s1 (pc2 := 22) hk rfl rfl rfl rfl rfl ?_
    refine g_s1 (pc2 := 23) (st2 := [.int (1 : Int32), .int x3, .ref v1]) hk rfl rfl rfl rfl rfl ?_
    refine g_s1 (pc2 := 24) hk rfl rfl rfl rfl rfl ?_
    obtain ⟨n2, f3, ef3, hi, H⟩ := H
    refine g_step (pc2 := 25) hk rfl rfl rfl (s_lget ef3 hi) ?_
    refine g_s1 (pc2 := 27) (lo2 := [some (.ref x0), some (.int x1), some (.int x2), some (.int x3), some (.long (f3 (x3 + (1 : Int32)).toNatClampNeg)), none, x6, x7]) hk rfl rfl rfl rfl rfl ?_
    refine g_s1 (pc2 := 28) hk rfl rfl rfl rfl rfl ?_
    obtain ⟨v4, ev4, H⟩ := H
    refine g_step (pc2 := 31) hk rfl rfl rfl (s_get ev4) ?_
    obtain ⟨v5, ev5, H⟩ := H
    refine g_step (pc2 := 34) hk rfl rfl rfl (s_get ev5) ?_
    refine g_s1 (pc2 := 36) hk rfl rfl rfl rfl rfl ?_
    refine g_s1 (pc2 := 37) hk rfl rfl rfl rfl rfl ?_
    obtain ⟨v6, ev6, H⟩ := H
    refine g_step (pc2 := 40) hk rfl rfl rfl (s_get ev6) ?_
    refine g_s1 (pc2 := 41) hk rfl rfl rfl rfl rfl ?_
    refine g_s1 (pc2 := 42) (st2 := [.int (1 : Int32), .int x3, .ref v6, .long (f3 (x3 + (1 : Int32)).toNatClampNeg), .ref v5]) hk rfl rfl rfl rfl rfl ?_
    refine g_s1 (pc2 := 43) hk rfl rfl rfl rfl rfl ?_
    obtain ⟨n7, f8, ef8, hi, H⟩ := H
    refine g_step (pc2 := 44) hk rfl rfl rfl (s_lget ef8 hi) ?_
    refine g_s1 (pc2 := 45) hk rfl rfl rfl rfl rfl ?_
    obtain ⟨ho, H⟩ := H
    refine g_call hk rfl rfl i_k23.1 ⟨rfl, rfl⟩ rfl (i_rcv_v ho rfl (by decide)) rfl ?_
    exact H.mono (fun v h2 q => by obtain ⟨r, rfl, q⟩ := q; exact q)
theorem b72_48 {x0 : Nat} {x1 : Int32} {x2 : Int32} {x3 : Int32} {x4 : Int64} {x6 : Option Value} {x7 : Option Value} {s0 : Int64} {h : iH} {Q : Option Value → iH → Prop} (H : (∃ v1 : Nat, i_fld h x0 6 6 = some (.ref v1) ∧ (∃ (n2 : Nat) (f3 : Nat → Int64), i_arJ h v1 = some (n2, f3) ∧ ¬ ((x3 + (1 : Int32)) < 0 ∨ n2 ≤ (x3 + (1 : Int32)).toNatClampNeg) ∧ (∃ v4 : Nat, i_fld h x0 6 5 = some (.ref v4) ∧ (∃ (n5 : Nat) (f6 : Nat → Int64), i_arJ h v4 = some (n5, f6) ∧ ¬ (x3 < 0 ∨ n5 ≤ x3.toNatClampNeg) ∧ (∃ (n7 : Nat) (f8 : Nat → Int64), i_arJ h v4 = some (n7, f8) ∧ ¬ (x3 < 0 ∨ n7 ≤ x3.toNatClampNeg) ∧ i_P i_MT i_AT L xs 72 73 [some (.ref x0), some (.int x1), some (.int x2), some (.int x3), some (.long x4), none, some (.long (s0 ||| (x4 &&& (f3 (x3 + (1 : Int32)).toNatClampNeg)))), none] [] (i_siJ h v4 x3.toNatClampNeg ((f6 x3.toNatClampNeg) &&& (s0 ||| (x4 &&& (f3 (x3 + (1 : Int32)).toNatClampNeg))))) 0 0 Q)))))) : i_P i_MT i_AT L xs 72 48 [some (.ref x0), some (.int x1), some (.int x2), some (.int x3), some (.long x4), none, x6, x7] [.long s0] h 0 0 Q := by
  have hk := i_k72
  refine g_s1 (pc2 := 50) hk rfl rfl rfl rfl rfl ?_
  refine g_s1 (pc2 := 51) hk rfl rfl rfl rfl rfl ?_
  obtain ⟨v1, ev1, H⟩ := H
  refine g_step (pc2 := 54) hk rfl rfl rfl (s_get ev1) ?_
  refine g_s1 (pc2 := 55) hk rfl rfl rfl rfl rfl ?_
  refine g_s1 (pc2 := 56) (st2 := [.int (1 : Int32), .int x3, .ref v1, .long x4, .long s0]) hk rfl rfl rfl rfl rfl ?_
  refine g_s1 (pc2 := 57) hk rfl rfl rfl rfl rfl ?_
  obtain ⟨n2, f3, ef3, hi, H⟩ := H
  refine g_step (pc2 := 58) hk rfl rfl rfl (s_lget ef3 hi) ?_
  refine g_s1 (pc2 := 59) hk rfl rfl rfl rfl rfl ?_
  refine g_s1 (pc2 := 60) hk rfl rfl rfl rfl rfl ?_
  refine g_s1 (pc2 := 62) (lo2 := [some (.ref x0), some (.int x1), some (.int x2), some (.int x3), some (.long x4), none, some (.long (s0 ||| (x4 &&& (f3 (x3 + (1 : Int32)).toNatClampNeg)))), none]) hk rfl rfl rfl rfl rfl ?_
  refine g_s1 (pc2 := 63) hk rfl rfl rfl rfl rfl ?_
  obtain ⟨v4, ev4, H⟩ := H
  refine g_step (pc2 := 66) hk rfl rfl rfl (s_get ev4) ?_
  refine g_s1 (pc2 := 67) hk rfl rfl rfl rfl rfl ?_
  refine g_s1 (pc2 := 68) hk rfl rfl rfl rfl rfl ?_
  obtain ⟨n5, f6, ef6, hi, H⟩ := H
  refine g_step (pc2 := 69) hk rfl rfl rfl (s_lget ef6 hi) ?_
  refine g_s1 (pc2 := 71) hk rfl rfl rfl rfl rfl ?_
  refine g_s1 (pc2 := 72) hk rfl rfl rfl rfl rfl ?_
  obtain ⟨n7, f8, ef8, hi, H⟩ := H
  refine g_step (pc2 := 73) hk rfl rfl rfl (s_lput ef8 hi) ?_
  exact H
theorem b72_73 {x0 : Nat} {x1 : Int32} {x2 : Int32} {x3 : Int32} {x4 : Int64} {x6 : Int64} {h : iH} {Q : Option Value → iH → Prop} (H : i_P i_MT i_AT L xs 72 13 [some (.ref x0), some (.int x1), some (.int x2), some (.int (x3 + (-1))), some (.long x4), none, some (.long x6), none] [] h 0 0 Q) : i_P i_MT i_AT L xs 72 73 [some (.ref x0), some (.int x1), some (.int x2), some (.int x3), some (.long x4), none, some (.long x6), none] [] h 0 0 Q := by
  have hk := i_k72
  refine g_s1 (pc2 := 76) (lo2 := [some (.ref x0), some (.int x1), some (.int x2), some (.int (x3 + (-1))), some (.long x4), none, some (.long x6), none]) hk rfl rfl rfl rfl rfl ?_
  refine g_s1 (pc2 := 13) hk rfl rfl rfl rfl rfl ?_
  exact H
theorem b72_84 {x0 : Nat} {x1 : Int32} {x2 : Int32} {x3 : Int32} {x4 : Option Value} {x5 : Option Value} {x6 : Option Value} {x7 : Option Value} {h : iH} {Q : Option Value → iH → Prop} (H : (∃ v1 : Nat, i_fld h x0 6 2 = some (.ref v1) ∧ (∃ v2 : Nat, i_fld h x0 6 5 = some (.ref v2) ∧ (∃ (n3 : Nat) (f4 : Nat → Int64), i_arJ h v2 = some (n3, f4) ∧ ¬ ((0 : Int32) < 0 ∨ n3 ≤ (0 : Int32).toNatClampNeg) ∧ (i_C i_MT i_AT L xs 32 [.long (f4 (0 : Int32).toNatClampNeg)] h (fun v h5 => ∃ r6 : Int32, v = some (.int r6) ∧ i_P i_MT i_AT L xs 72 98 [some (.ref x0), some (.int x1), some (.int x2), some (.int x3), x4, x5, x6, x7] [.int r6, .int (0 : Int32), .ref v1] h5 0 0 Q)))))) : i_P i_MT i_AT L xs 72 84 [some (.ref x0), some (.int x1), some (.int x2), some (.int x3), x4, x5, x6, x7] [] h 0 0 Q := by
  have hk := i_k72
  refine g_s1 (pc2 := 85) hk rfl rfl rfl rfl rfl ?_
  obtain ⟨v1, ev1, H⟩ := H
  refine g_step (pc2 := 88) hk rfl rfl rfl (s_get ev1) ?_
  refine g_s1 (pc2 := 89) (st2 := [.int (0 : Int32), .ref v1]) hk rfl rfl rfl rfl rfl ?_
  refine g_s1 (pc2 := 90) hk rfl rfl rfl rfl rfl ?_
  obtain ⟨v2, ev2, H⟩ := H
  refine g_step (pc2 := 93) hk rfl rfl rfl (s_get ev2) ?_
  refine g_s1 (pc2 := 94) (st2 := [.int (0 : Int32), .ref v2, .int (0 : Int32), .ref v1]) hk rfl rfl rfl rfl rfl ?_
  obtain ⟨n3, f4, ef4, hi, H⟩ := H
  refine g_step (pc2 := 95) hk rfl rfl rfl (s_lget ef4 hi) ?_
  refine g_call hk rfl rfl i_k32.1 ⟨rfl, rfl⟩ rfl (i_rcv_0 rfl) rfl ?_
  exact H.mono (fun v h2 q => by obtain ⟨r, rfl, q⟩ := q; exact q)
theorem b72_98 {x0 : Nat} {x1 : Int32} {x2 : Int32} {x3 : Int32} {x4 : Option Value} {x5 : Option Value} {x6 : Option Value} {x7 : Option Value} {s0 : Nat} {s1 : Int32} {s2 : Int32} {h : iH} {Q : Option Value → iH → Prop} (H : (∃ (n1 : Nat) (f2 : Nat → Int32), i_arI h 0 s0 = some (n1, f2) ∧ ¬ (s1 < 0 ∨ n1 ≤ s1.toNatClampNeg) ∧ i_P i_MT i_AT L xs 72 99 [some (.ref x0), some (.int x1), some (.int x2), some (.int x3), x4, x5, x6, x7] [] (i_siI h s0 s1.toNatClampNeg s2) 0 0 Q)) : i_P i_MT i_AT L xs 72 98 [some (.ref x0), some (.int x1), some (.int x2), some (.int x3), x4, x5, x6, x7] [.int s2, .int s1, .ref s0] h 0 0 Q := by
  have hk := i_k72
  obtain ⟨n1, f2, ef2, hi, H⟩ := H
  refine g_step (pc2 := 99) hk rfl rfl rfl (s_aput ef2 hi) ?_
  exact H
theorem b72_99 {x0 : Nat} {x1 : Int32} {x2 : Int32} {x3 : Int32} {x4 : Option Value} {x5 : Option Value} {x6 : Option Value} {x7 : Option Value} {h : iH} {Q : Option Value → iH → Prop} (H : i_P i_MT i_AT L xs 72 101 [some (.ref x0), some (.int x1), some (.int x2), some (.int (1 : Int32)), x4, x5, x6, x7] [] h 0 0 Q) : i_P i_MT i_AT L xs 72 99 [some (.ref x0), some (.int x1), some (.int x2), some (.int x3), x4, x5, x6, x7] [] h 0 0 Q := by
  have hk := i_k72
  refine g_s1 (pc2 := 100) (st2 := [.int (1 : Int32)]) hk rfl rfl rfl rfl rfl ?_
  refine g_s1 (pc2 := 101) (lo2 := [some (.ref x0), some (.int x1), some (.int x2), some (.int (1 : Int32)), x4, x5, x6, x7]) hk rfl rfl rfl rfl rfl ?_
  exact H
theorem b72_101 {x0 : Nat} {x1 : Int32} {x2 : Int32} {x3 : Int32} {x4 : Option Value} {x5 : Option Value} {x6 : Option Value} {x7 : Option Value} {h : iH} {Q : Option Value → iH → Prop} (H : ((x2 < x3 → Q none h) ∧ (¬ (x2 < x3) → (∃ v1 : Nat, i_fld h x0 6 2 = some (.ref v1) ∧ (∃ v2 : Nat, i_fld h x0 6 2 = some (.ref v2) ∧ (∃ (n3 : Nat) (f4 : Nat → Int32), i_arI h 0 v2 = some (n3, f4) ∧ ¬ ((x3 - (1 : Int32)) < 0 ∨ n3 ≤ (x3 - (1 : Int32)).toNatClampNeg) ∧ (i_obj? h x0 6 ∧ i_C i_MT i_AT L xs 71 [.ref x0, .long ((1 : Int64) <<< ((f4 (x3 - (1 : Int32)).toNatClampNeg).toInt64 &&& 63)), .int x3] h (fun v h5 => ∃ r6 : Int64, v = some (.long r6) ∧ i_P i_MT i_AT L xs 72 126 [some (.ref x0), some (.int x1), some (.int x2), some (.int x3), x4, x5, x6, x7] [.long r6, .int x3, .ref v1] h5 0 0 Q)))))))) : i_P i_MT i_AT L xs 72 101 [some (.ref x0), some (.int x1), some (.int x2), some (.int x3), x4, x5, x6, x7] [] h 0 0 Q := by
  have hk := i_k72
  refine g_s1 (pc2 := 102) hk rfl rfl rfl rfl rfl ?_
  refine g_s1 (pc2 := 103) hk rfl rfl rfl rfl rfl ?_
  refine g_icmp_gt hk rfl (fun hc => ?_) (fun hc => ?_)
  · have H := H.1 hc
    exact g_return hk rfl (by decide) (by decide) rfl H
  · have H := H.2 hc
    refine g_s1 (pc2 := 107) hk rfl rfl rfl rfl rfl ?_
    obtain ⟨v1, ev1, H⟩ := H
    refine g_step (pc2 := 110) hk rfl rfl rfl (s_get ev1) ?_
    refine g_s1 (pc2 := 111) hk rfl rfl rfl rfl rfl ?_
    refine g_s1 (pc2 := 112) hk rfl rfl rfl rfl rfl ?_
    refine g_s1 (pc2 := 113) (st2 := [.long (1 : Int64), .ref x0, .int x3, .ref v1]) hk rfl rfl rfl rfl rfl ?_
    refine g_s1 (pc2 := 114) hk rfl rfl rfl rfl rfl ?_
    obtain ⟨v2, ev2, H⟩ := H
    refine g_step (pc2 := 117) hk rfl rfl rfl (s_get ev2) ?_
    refine g_s1 (pc2 := 118) hk rfl rfl rfl rfl rfl ?_
    refine g_s1 (pc2 := 119) (st2 := [.int (1 : Int32), .int x3, .ref v2, .long (1 : Int64), .ref x0, .int x3, .ref v1]) hk rfl rfl rfl rfl rfl ?_
    refine g_s1 (pc2 := 120) hk rfl rfl rfl rfl rfl ?_
    obtain ⟨n3, f4, ef4, hi, H⟩ := H
    refine g_step (pc2 := 121) hk rfl rfl rfl (s_aget (L := L) (xs := xs) ef4 hi) ?_
    refine g_s1 (pc2 := 122) hk rfl rfl rfl rfl rfl ?_
    refine g_s1 (pc2 := 123) hk rfl rfl rfl rfl rfl ?_
    obtain ⟨ho, H⟩ := H
    refine g_call hk rfl rfl i_k71.1 ⟨rfl, rfl⟩ rfl (i_rcv_v ho rfl (by decide)) rfl ?_
    exact H.mono (fun v h2 q => by obtain ⟨r, rfl, q⟩ := q; exact q)
theorem b72_126 {x0 : Nat} {x1 : Int32} {x2 : Int32} {x3 : Int32} {x4 : Option Value} {x5 : Option Value} {x6 : Option Value} {x7 : Option Value} {s0 : Nat} {s1 : Int32} {s2 : Int64} {h : iH} {Q : Option Value → iH → Prop} (H : (∃ v1 : Nat, i_fld h x0 6 5 = some (.ref v1) ∧ (∃ (n2 : Nat) (f3 : Nat → Int64), i_arJ h v1 = some (n2, f3) ∧ ¬ (x3 < 0 ∨ n2 ≤ x3.toNatClampNeg) ∧ (i_C i_MT i_AT L xs 32 [.long (s2 &&& (f3 x3.toNatClampNeg))] h (fun v h4 => ∃ r5 : Int32, v = some (.int r5) ∧ i_P i_MT i_AT L xs 72 136 [some (.ref x0), some (.int x1), some (.int x2), some (.int x3), x4, x5, x6, x7] [.int r5, .int s1, .ref s0] h4 0 0 Q))))) : i_P i_MT i_AT L xs 72 126 [some (.ref x0), some (.int x1), some (.int x2), some (.int x3), x4, x5, x6, x7] [.long s2, .int s1, .ref s0] h 0 0 Q := by
  have hk := i_k72
  refine g_s1 (pc2 := 127) hk rfl rfl rfl rfl rfl ?_
  obtain ⟨v1, ev1, H⟩ := H
  refine g_step (pc2 := 130) hk rfl rfl rfl (s_get ev1) ?_
  refine g_s1 (pc2 := 131) hk rfl rfl rfl rfl rfl ?_
  obtain ⟨n2, f3, ef3, hi, H⟩ := H
  refine g_step (pc2 := 132) hk rfl rfl rfl (s_lget ef3 hi) ?_
  refine g_s1 (pc2 := 133) hk rfl rfl rfl rfl rfl ?_
  refine g_call hk rfl rfl i_k32.1 ⟨rfl, rfl⟩ rfl (i_rcv_0 rfl) rfl ?_
  exact H.mono (fun v h2 q => by obtain ⟨r, rfl, q⟩ := q; exact q)
theorem b72_136 {x0 : Nat} {x1 : Int32} {x2 : Int32} {x3 : Int32} {x4 : Option Value} {x5 : Option Value} {x6 : Option Value} {x7 : Option Value} {s0 : Nat} {s1 : Int32} {s2 : Int32} {h : iH} {Q : Option Value → iH → Prop} (H : (∃ (n1 : Nat) (f2 : Nat → Int32), i_arI h 0 s0 = some (n1, f2) ∧ ¬ (s1 < 0 ∨ n1 ≤ s1.toNatClampNeg) ∧ i_P i_MT i_AT L xs 72 137 [some (.ref x0), some (.int x1), some (.int x2), some (.int x3), x4, x5, x6, x7] [] (i_siI h s0 s1.toNatClampNeg s2) 0 0 Q)) : i_P i_MT i_AT L xs 72 136 [some (.ref x0), some (.int x1), some (.int x2), some (.int x3), x4, x5, x6, x7] [.int s2, .int s1, .ref s0] h 0 0 Q := by
  have hk := i_k72
  obtain ⟨n1, f2, ef2, hi, H⟩ := H
  refine g_step (pc2 := 137) hk rfl rfl rfl (s_aput ef2 hi) ?_
  exact H
theorem b72_137 {x0 : Nat} {x1 : Int32} {x2 : Int32} {x3 : Int32} {x4 : Option Value} {x5 : Option Value} {x6 : Option Value} {x7 : Option Value} {h : iH} {Q : Option Value → iH → Prop} (H : i_P i_MT i_AT L xs 72 101 [some (.ref x0), some (.int x1), some (.int x2), some (.int (x3 + 1)), x4, x5, x6, x7] [] h 0 0 Q) : i_P i_MT i_AT L xs 72 137 [some (.ref x0), some (.int x1), some (.int x2), some (.int x3), x4, x5, x6, x7] [] h 0 0 Q := by
  have hk := i_k72
  refine g_s1 (pc2 := 140) (lo2 := [some (.ref x0), some (.int x1), some (.int x2), some (.int (x3 + 1)), x4, x5, x6, x7]) hk rfl rfl rfl rfl rfl ?_
  refine g_s1 (pc2 := 101) hk rfl rfl rfl rfl rfl ?_
  exact H
/-! StillTown$Stealth.greatestUnseen(III)I -/
theorem e73 {x0 : Nat} {x1 : Int32} {x2 : Int32} {x3 : Int32} {h : iH} {Q : Option Value → iH → Prop} (H : i_P i_MT i_AT L xs 73 0 [some (.ref x0), some (.int x1), some (.int x2), some (.int x3), none, none, none, none, none] [] h 0 0 Q) : i_C i_MT i_AT L xs 73 [.ref x0, .int x1, .int x2, .int x3] h Q := ⟨i_m73, i_k73.1, Nat.le_of_ble_eq_true rfl, H⟩
theorem b73_0 {x0 : Nat} {x1 : Int32} {x2 : Int32} {x3 : Int32} {x4 : Option Value} {x5 : Option Value} {x6 : Option Value} {x7 : Option Value} {x8 : Option Value} {h : iH} {Q : Option Value → iH → Prop} (H : (∃ v1 : Nat, i_fld h x0 6 8 = some (.ref v1) ∧ (i_C i_MT i_AT L xs 349 [.ref v1, .int (-1 : Int32)] h (fun v h2 => v = none ∧ i_P i_MT i_AT L xs 73 8 [some (.ref x0), some (.int x1), some (.int x2), some (.int x3), x4, x5, x6, x7, x8] [] h2 0 0 Q)))) : i_P i_MT i_AT L xs 73 0 [some (.ref x0), some (.int x1), some (.int x2), some (.int x3), x4, x5, x6, x7, x8] [] h 0 0 Q := by
  have hk := i_k73
  refine g_s1 (pc2 := 1) hk rfl rfl rfl rfl rfl ?_
  obtain ⟨v1, ev1, H⟩ := H
  refine g_step (pc2 := 4) hk rfl rfl rfl (s_get ev1) ?_
  refine g_s1 (pc2 := 5) (st2 := [.int (-1 : Int32), .ref v1]) hk rfl rfl rfl rfl rfl ?_
  refine g_call hk rfl rfl i_k349.1 ⟨rfl, rfl⟩ rfl (i_rcv_0 rfl) rfl ?_
  exact H.mono (fun v h2 q => by obtain ⟨rfl, q⟩ := q; exact q)
theorem b73_8 {x0 : Nat} {x1 : Int32} {x2 : Int32} {x3 : Int32} {x4 : Option Value} {x5 : Option Value} {x6 : Option Value} {x7 : Option Value} {x8 : Option Value} {h : iH} {Q : Option Value → iH → Prop} (H : (∃ v1 : Nat, i_fld h x0 6 8 = some (.ref v1) ∧ (∃ v2 : Nat, i_fld h x0 6 0 = some (.ref v2) ∧ (∃ v3 : Nat, i_fld h v2 0 1 = some (.ref v3) ∧ (∃ v4 : Nat, i_fld h v3 8 12 = some (.ref v4) ∧ (∃ v5 : Nat, i_fld h v4 3 2 = some (.ref v5) ∧ (∃ (n6 : Nat) (f7 : Nat → Int32), i_arI h 0 v5 = some (n6, f7) ∧ ¬ (x1 < 0 ∨ n6 ≤ x1.toNatClampNeg) ∧ (∃ (n8 : Nat) (f9 : Nat → Int32), i_arI h 0 v1 = some (n8, f9) ∧ ¬ ((f7 x1.toNatClampNeg) < 0 ∨ n8 ≤ (f7 x1.toNatClampNeg).toNatClampNeg) ∧ i_P i_MT i_AT L xs 73 30 [some (.ref x0), some (.int x1), some (.int x2), some (.int x3), x4, x5, x6, x7, x8] [] (i_siI h v1 (f7 x1.toNatClampNeg).toNatClampNeg (1000000 : Int32)) 0 0 Q)))))))) : i_P i_MT i_AT L xs 73 8 [some (.ref x0), some (.int x1), some (.int x2), some (.int x3), x4, x5, x6, x7, x8] [] h 0 0 Q := by
  have hk := i_k73
  refine g_s1 (pc2 := 9) hk rfl rfl rfl rfl rfl ?_
  obtain ⟨v1, ev1, H⟩ := H
  refine g_step (pc2 := 12) hk rfl rfl rfl (s_get ev1) ?_
  refine g_s1 (pc2 := 13) hk rfl rfl rfl rfl rfl ?_
  obtain ⟨v2, ev2, H⟩ := H
  refine g_step (pc2 := 16) hk rfl rfl rfl (s_get ev2) ?_
  obtain ⟨v3, ev3, H⟩ := H
  refine g_step (pc2 := 19) hk rfl rfl rfl (s_get ev3) ?_
  obtain ⟨v4, ev4, H⟩ := H
  refine g_step (pc2 := 22) hk rfl rfl rfl (s_get ev4) ?_
  obtain ⟨v5, ev5, H⟩ := H
  refine g_step (pc2 := 25) hk rfl rfl rfl (s_get ev5) ?_
  refine g_s1 (pc2 := 26) hk rfl rfl rfl rfl rfl ?_
  obtain ⟨n6, f7, ef7, hi, H⟩ := H
  refine g_step (pc2 := 27) hk rfl rfl rfl (s_aget (L := L) (xs := xs) ef7 hi) ?_
  refine g_step (pc2 := 29) (st2 := [.int (1000000 : Int32), .int (f7 x1.toNatClampNeg), .ref v1]) hk rfl rfl rfl rfl ?_
  obtain ⟨n8, f9, ef9, hi, H⟩ := H
  refine g_step (pc2 := 30) hk rfl rfl rfl (s_aput ef9 hi) ?_
  exact H
theorem b73_30 {x0 : Nat} {x1 : Int32} {x2 : Int32} {x3 : Int32} {x4 : Option Value} {x5 : Option Value} {x6 : Option Value} {x7 : Option Value} {x8 : Option Value} {h : iH} {Q : Option Value → iH → Prop} (H : (∃ v1 : Nat, i_fld h x0 6 0 = some (.ref v1) ∧ (∃ v2 : Nat, i_fld h v1 0 1 = some (.ref v2) ∧ (∃ v3 : Nat, i_fld h v2 8 12 = some (.ref v3) ∧ (∃ v4 : Nat, i_fld h v3 3 5 = some (.ref v4) ∧ (∃ (n5 : Nat) (f6 : Nat → Int32), i_arI h 0 v4 = some (n5, f6) ∧ ¬ (x1 < 0 ∨ n5 ≤ x1.toNatClampNeg) ∧ i_P i_MT i_AT L xs 73 50 [some (.ref x0), some (.int x1), some (.int x2), some (.int x3), some (.int (f6 x1.toNatClampNeg)), some (.int (1 : Int32)), x6, x7, x8] [] h 0 0 Q)))))) : i_P i_MT i_AT L xs 73 30 [some (.ref x0), some (.int x1), some (.int x2), some (.int x3), x4, x5, x6, x7, x8] [] h 0 0 Q := by
  have hk := i_k73
  refine g_s1 (pc2 := 31) hk rfl rfl rfl rfl rfl ?_
  obtain ⟨v1, ev1, H⟩ := H
  refine g_step (pc2 := 34) hk rfl rfl rfl (s_get ev1) ?_
  obtain ⟨v2, ev2, H⟩ := H
  refine g_step (pc2 := 37) hk rfl rfl rfl (s_get ev2) ?_
  obtain ⟨v3, ev3, H⟩ := H
  refine g_step (pc2 := 40) hk rfl rfl rfl (s_get ev3) ?_
  obtain ⟨v4, ev4, H⟩ := H
  refine g_step (pc2 := 43) hk rfl rfl rfl (s_get ev4) ?_
  refine g_s1 (pc2 := 44) hk rfl rfl rfl rfl rfl ?_
  obtain ⟨n5, f6, ef6, hi, H⟩ := H
  refine g_step (pc2 := 45) hk rfl rfl rfl (s_aget (L := L) (xs := xs) ef6 hi) ?_
  refine g_s1 (pc2 := 47) (lo2 := [some (.ref x0), some (.int x1), some (.int x2), some (.int x3), some (.int (f6 x1.toNatClampNeg)), x5, x6, x7, x8]) hk rfl rfl rfl rfl rfl ?_
  refine g_s1 (pc2 := 48) (st2 := [.int (1 : Int32)]) hk rfl rfl rfl rfl rfl ?_
  refine g_s1 (pc2 := 50) (lo2 := [some (.ref x0), some (.int x1), some (.int x2), some (.int x3), some (.int (f6 x1.toNatClampNeg)), some (.int (1 : Int32)), x6, x7, x8]) hk rfl rfl rfl rfl rfl ?_
  exact H
theorem b73_50 {x0 : Nat} {x1 : Int32} {x2 : Int32} {x3 : Int32} {x4 : Int32} {x5 : Int32} {x6 : Option Value} {x7 : Option Value} {x8 : Option Value} {h : iH} {Q : Option Value → iH → Prop} (H : ((x3 < x5 → (∃ v1 : Nat, i_fld h x0 6 8 = some (.ref v1) ∧ (∃ (n2 : Nat) (f3 : Nat → Int32), i_arI h 0 v1 = some (n2, f3) ∧ ¬ (x2 < 0 ∨ n2 ≤ x2.toNatClampNeg) ∧ Q (some (.int (f3 x2.toNatClampNeg))) h))) ∧ (¬ (x3 < x5) → i_P i_MT i_AT L xs 73 59 [some (.ref x0), some (.int x1), some (.int x2), some (.int x3), some (.int x4), some (.int x5), some (.int (0 : Int32)), x7, x8] [] h 0 0 Q))) : i_P i_MT i_AT L xs 73 50 [some (.ref x0), some (.int x1), some (.int x2), some (.int x3), some (.int x4), some (.int x5), x6, x7, x8] [] h 0 0 Q := by
  have hk := i_k73
  refine g_s1 (pc2 := 52) hk rfl rfl rfl rfl rfl ?_
  refine g_s1 (pc2 := 53) hk rfl rfl rfl rfl rfl ?_
  refine g_icmp_gt hk rfl (fun hc => ?_) (fun hc => ?_)
  · have H := H.1 hc
    refine g_s1 (pc2 := 160) hk rfl rfl rfl rfl rfl ?_
    obtain ⟨v1, ev1, H⟩ := H
    refine g_step (pc2 := 163) hk rfl rfl rfl (s_get ev1) ?_
    refine g_s1 (pc2 := 164) hk rfl rfl rfl rfl rfl ?_
    obtain ⟨n2, f3, ef3, hi, H⟩ := H
    refine g_step (pc2 := 165) hk rfl rfl rfl (s_aget (L := L) (xs := xs) ef3 hi) ?_
    exact g_ireturn hk rfl (by decide) (by decide) rfl H
  · have H := H.2 hc
    refine g_s1 (pc2 := 57) (st2 := [.int (0 : Int32)]) hk rfl rfl rfl rfl rfl ?_
    refine g_s1 (pc2 := 59) (lo2 := [some (.ref x0), some (.int x1), some (.int x2), some (.int x3), some (.int x4), some (.int x5), some (.int (0 : Int32)), x7, x8]) hk rfl rfl rfl rfl rfl ?_
    exact H
theorem b73_59 {x0 : Nat} {x1 : Int32} {x2 : Int32} {x3 : Int32} {x4 : Int32} {x5 : Int32} {x6 : Int32} {x7 : Option Value} {x8 : Option Value} {h : iH} {Q : Option Value → iH → Prop} (H : (∃ v1 : Nat, i_fld h x0 6 0 = some (.ref v1) ∧ (∃ v2 : Nat, i_fld h v1 0 0 = some (.ref v2) ∧ (∃ v3 : Int32, i_fld h v2 2 2 = some (.int v3) ∧ ((v3 ≤ x6 → (∃ v4 : Nat, i_fld h x0 6 8 = some (.ref v4) ∧ (∃ v5 : Nat, i_fld h x0 6 9 = some (.ref v5) ∧ ((∃ o, i_fld h x0 6 8 = some o) ∧ i_P i_MT i_AT L xs 73 147 [some (.ref x0), some (.int x1), some (.int x2), some (.int x3), some (.int x4), some (.int x5), some (.ref v4), x7, x8] [] (i_sf h x0 8 (.ref v5)) 0 0 Q)))) ∧ (¬ (v3 ≤ x6) → (∃ v6 : Nat, i_fld h x0 6 8 = some (.ref v6) ∧ (∃ (n7 : Nat) (f8 : Nat → Int32), i_arI h 0 v6 = some (n7, f8) ∧ ¬ (x6 < 0 ∨ n7 ≤ x6.toNatClampNeg) ∧ (i_obj? h x0 6 ∧ i_C i_MT i_AT L xs 75 [.ref x0, .int (f8 x6.toNatClampNeg), .int x4, .int x6, .int (0 : Int32), .int x5] h (fun v h9 => ∃ r10 : Int32, v = some (.int r10) ∧ i_P i_MT i_AT L xs 73 92 [some (.ref x0), some (.int x1), some (.int x2), some (.int x3), some (.int x4), some (.int x5), some (.int x6), x7, x8] [.int r10] h9 0 0 Q)))))))))) : i_P i_MT i_AT L xs 73 59 [some (.ref x0), some (.int x1), some (.int x2), some (.int x3), some (.int x4), some (.int x5), some (.int x6), x7, x8] [] h 0 0 Q := by
  have hk := i_k73
  refine g_s1 (pc2 := 61) hk rfl rfl rfl rfl rfl ?_
  refine g_s1 (pc2 := 62) hk rfl rfl rfl rfl rfl ?_
  obtain ⟨v1, ev1, H⟩ := H
  refine g_step (pc2 := 65) hk rfl rfl rfl (s_get ev1) ?_
  obtain ⟨v2, ev2, H⟩ := H
  refine g_step (pc2 := 68) hk rfl rfl rfl (s_get ev2) ?_
  obtain ⟨v3, ev3, H⟩ := H
  refine g_step (pc2 := 71) hk rfl rfl rfl (s_get ev3) ?_
  refine g_icmp_ge hk rfl (fun hc => ?_) (fun hc => ?_)
  · have H := H.1 hc
    refine g_s1 (pc2 := 134) hk rfl rfl rfl rfl rfl ?_
    obtain ⟨v4, ev4, H⟩ := H
    refine g_step (pc2 := 137) hk rfl rfl rfl (s_get ev4) ?_
    refine g_s1 (pc2 := 139) (lo2 := [some (.ref x0), some (.int x1), some (.int x2), some (.int x3), some (.int x4), some (.int x5), some (.ref v4), x7, x8]) hk rfl rfl rfl rfl rfl ?_
    refine g_s1 (pc2 := 140) hk rfl rfl rfl rfl rfl ?_
    refine g_s1 (pc2 := 141) hk rfl rfl rfl rfl rfl ?_
    obtain ⟨v5, ev5, H⟩ := H
    refine g_step (pc2 := 144) hk rfl rfl rfl (s_get ev5) ?_
    obtain ⟨⟨o, ho⟩, H⟩ := H
    refine g_step (pc2 := 147) hk rfl rfl rfl (s_put ho rfl) ?_
    exact H
  · have H := H.2 hc
    refine g_s1 (pc2 := 75) hk rfl rfl rfl rfl rfl ?_
    refine g_s1 (pc2 := 76) hk rfl rfl rfl rfl rfl ?_
    obtain ⟨v6, ev6, H⟩ := H
    refine g_step (pc2 := 79) hk rfl rfl rfl (s_get ev6) ?_
    refine g_s1 (pc2 := 81) hk rfl rfl rfl rfl rfl ?_
    obtain ⟨n7, f8, ef8, hi, H⟩ := H
    refine g_step (pc2 := 82) hk rfl rfl rfl (s_aget (L := L) (xs := xs) ef8 hi) ?_
    refine g_s1 (pc2 := 84) hk rfl rfl rfl rfl rfl ?_
    refine g_s1 (pc2 := 86) hk rfl rfl rfl rfl rfl ?_
    refine g_s1 (pc2 := 87) (st2 := [.int (0 : Int32), .int x6, .int x4, .int (f8 x6.toNatClampNeg), .ref x0]) hk rfl rfl rfl rfl rfl ?_
    refine g_s1 (pc2 := 89) hk rfl rfl rfl rfl rfl ?_
    obtain ⟨ho, H⟩ := H
    refine g_call hk rfl rfl i_k75.1 ⟨rfl, rfl⟩ rfl (i_rcv_v ho rfl (by decide)) rfl ?_
    exact H.mono (fun v h2 q => by obtain ⟨r, rfl, q⟩ := q; exact q)
theorem b73_92 {x0 : Nat} {x1 : Int32} {x2 : Int32} {x3 : Int32} {x4 : Int32} {x5 : Int32} {x6 : Int32} {x7 : Option Value} {x8 : Option Value} {s0 : Int32} {h : iH} {Q : Option Value → iH → Prop} (H : (i_obj? h x0 6 ∧ i_C i_MT i_AT L xs 74 [.ref x0, .int x6] h (fun v h1 => ∃ r2 : Int32, v = some (.int r2) ∧ i_P i_MT i_AT L xs 73 101 [some (.ref x0), some (.int x1), some (.int x2), some (.int x3), some (.int x4), some (.int x5), some (.int x6), some (.int s0), x8] [.int r2, .ref x0] h1 0 0 Q))) : i_P i_MT i_AT L xs 73 92 [some (.ref x0), some (.int x1), some (.int x2), some (.int x3), some (.int x4), some (.int x5), some (.int x6), x7, x8] [.int s0] h 0 0 Q := by
  have hk := i_k73
  refine g_s1 (pc2 := 94) (lo2 := [some (.ref x0), some (.int x1), some (.int x2), some (.int x3), some (.int x4), some (.int x5), some (.int x6), some (.int s0), x8]) hk rfl rfl rfl rfl rfl ?_
  refine g_s1 (pc2 := 95) hk rfl rfl rfl rfl rfl ?_
  refine g_s1 (pc2 := 96) hk rfl rfl rfl rfl rfl ?_
  refine g_s1 (pc2 := 98) hk rfl rfl rfl rfl rfl ?_
  obtain ⟨ho, H⟩ := H
  refine g_call hk rfl rfl i_k74.1 ⟨rfl, rfl⟩ rfl (i_rcv_v ho rfl (by decide)) rfl ?_
  exact H.mono (fun v h2 q => by obtain ⟨r, rfl, q⟩ := q; exact q)
theorem b73_101 {x0 : Nat} {x1 : Int32} {x2 : Int32} {x3 : Int32} {x4 : Int32} {x5 : Int32} {x6 : Int32} {x7 : Int32} {x8 : Option Value} {s0 : Nat} {s1 : Int32} {h : iH} {Q : Option Value → iH → Prop} (H : (i_obj? h s0 6 ∧ i_C i_MT i_AT L xs 75 [.ref s0, .int s1, .int x4, .int x6, .int (2 : Int32), .int x5] h (fun v h1 => ∃ r2 : Int32, v = some (.int r2) ∧ i_P i_MT i_AT L xs 73 111 [some (.ref x0), some (.int x1), some (.int x2), some (.int x3), some (.int x4), some (.int x5), some (.int x6), some (.int x7), x8] [.int r2] h1 0 0 Q))) : i_P i_MT i_AT L xs 73 101 [some (.ref x0), some (.int x1), some (.int x2), some (.int x3), some (.int x4), some (.int x5), some (.int x6), some (.int x7), x8] [.int s1, .ref s0] h 0 0 Q := by
  have hk := i_k73
  refine g_s1 (pc2 := 103) hk rfl rfl rfl rfl rfl ?_
  refine g_s1 (pc2 := 105) hk rfl rfl rfl rfl rfl ?_
  refine g_s1 (pc2 := 106) (st2 := [.int (2 : Int32), .int x6, .int x4, .int s1, .ref s0]) hk rfl rfl rfl rfl rfl ?_
  refine g_s1 (pc2 := 108) hk rfl rfl rfl rfl rfl ?_
  obtain ⟨ho, H⟩ := H
  refine g_call hk rfl rfl i_k75.1 ⟨rfl, rfl⟩ rfl (i_rcv_v ho rfl (by decide)) rfl ?_
  exact H.mono (fun v h2 q => by obtain ⟨r, rfl, q⟩ := q; exact q)
theorem b73_111 {x0 : Nat} {x1 : Int32} {x2 : Int32} {x3 : Int32} {x4 : Int32} {x5 : Int32} {x6 : Int32} {x7 : Int32} {x8 : Option Value} {s0 : Int32} {h : iH} {Q : Option Value → iH → Prop} (H : (∃ v1 : Nat, i_fld h x0 6 9 = some (.ref v1) ∧ (i_C i_MT i_AT L xs 336 [.int x7, .int s0] h (fun v h2 => ∃ r3 : Int32, v = some (.int r3) ∧ i_P i_MT i_AT L xs 73 126 [some (.ref x0), some (.int x1), some (.int x2), some (.int x3), some (.int x4), some (.int x5), some (.int x6), some (.int x7), some (.int s0)] [.int r3, .int x6, .ref v1] h2 0 0 Q)))) : i_P i_MT i_AT L xs 73 111 [some (.ref x0), some (.int x1), some (.int x2), some (.int x3), some (.int x4), some (.int x5), some (.int x6), some (.int x7), x8] [.int s0] h 0 0 Q := by
  have hk := i_k73
  refine g_s1 (pc2 := 113) (lo2 := [some (.ref x0), some (.int x1), some (.int x2), some (.int x3), some (.int x4), some (.int x5), some (.int x6), some (.int x7), some (.int s0)]) hk rfl rfl rfl rfl rfl ?_
  refine g_s1 (pc2 := 114) hk rfl rfl rfl rfl rfl ?_
  obtain ⟨v1, ev1, H⟩ := H
  refine g_step (pc2 := 117) hk rfl rfl rfl (s_get ev1) ?_
  refine g_s1 (pc2 := 119) hk rfl rfl rfl rfl rfl ?_
  refine g_s1 (pc2 := 121) hk rfl rfl rfl rfl rfl ?_
  refine g_s1 (pc2 := 123) hk rfl rfl rfl rfl rfl ?_
  refine g_call hk rfl rfl i_k336.1 ⟨rfl, rfl⟩ rfl (i_rcv_0 rfl) rfl ?_
  exact H.mono (fun v h2 q => by obtain ⟨r, rfl, q⟩ := q; exact q)
theorem b73_126 {x0 : Nat} {x1 : Int32} {x2 : Int32} {x3 : Int32} {x4 : Int32} {x5 : Int32} {x6 : Int32} {x7 : Int32} {x8 : Int32} {s0 : Nat} {s1 : Int32} {s2 : Int32} {h : iH} {Q : Option Value → iH → Prop} (H : (∃ (n1 : Nat) (f2 : Nat → Int32), i_arI h 0 s0 = some (n1, f2) ∧ ¬ (s1 < 0 ∨ n1 ≤ s1.toNatClampNeg) ∧ i_P i_MT i_AT L xs 73 127 [some (.ref x0), some (.int x1), some (.int x2), some (.int x3), some (.int x4), some (.int x5), some (.int x6), some (.int x7), some (.int x8)] [] (i_siI h s0 s1.toNatClampNeg s2) 0 0 Q)) : i_P i_MT i_AT L xs 73 126 [some (.ref x0), some (.int x1), some (.int x2), some (.int x3), some (.int x4), some (.int x5), some (.int x6), some (.int x7), some (.int x8)] [.int s2, .int s1, .ref s0] h 0 0 Q := by
  have hk := i_k73
  obtain ⟨n1, f2, ef2, hi, H⟩ := H
  refine g_step (pc2 := 127) hk rfl rfl rfl (s_aput ef2 hi) ?_
  exact H
theorem b73_127 {x0 : Nat} {x1 : Int32} {x2 : Int32} {x3 : Int32} {x4 : Int32} {x5 : Int32} {x6 : Int32} {x7 : Int32} {x8 : Int32} {h : iH} {Q : Option Value → iH → Prop} (H : i_P i_MT i_AT L xs 73 59 [some (.ref x0), some (.int x1), some (.int x2), some (.int x3), some (.int x4), some (.int x5), some (.int (x6 + 1)), some (.int x7), some (.int x8)] [] h 0 0 Q) : i_P i_MT i_AT L xs 73 127 [some (.ref x0), some (.int x1), some (.int x2), some (.int x3), some (.int x4), some (.int x5), some (.int x6), some (.int x7), some (.int x8)] [] h 0 0 Q := by
  have hk := i_k73
  refine g_s1 (pc2 := 130) (lo2 := [some (.ref x0), some (.int x1), some (.int x2), some (.int x3), some (.int x4), some (.int x5), some (.int (x6 + 1)), some (.int x7), some (.int x8)]) hk rfl rfl rfl rfl rfl ?_
  refine g_s1 (pc2 := 59) hk rfl rfl rfl rfl rfl ?_
  exact H
theorem b73_147 {x0 : Nat} {x1 : Int32} {x2 : Int32} {x3 : Int32} {x4 : Int32} {x5 : Int32} {x6 : Nat} {x7 : Option Value} {x8 : Option Value} {h : iH} {Q : Option Value → iH → Prop} (H : ((∃ o, i_fld h x0 6 9 = some o) ∧ i_P i_MT i_AT L xs 73 153 [some (.ref x0), some (.int x1), some (.int x2), some (.int x3), some (.int x4), some (.int x5), some (.ref x6), x7, x8] [] (i_sf h x0 9 (.ref x6)) 0 0 Q)) : i_P i_MT i_AT L xs 73 147 [some (.ref x0), some (.int x1), some (.int x2), some (.int x3), some (.int x4), some (.int x5), some (.ref x6), x7, x8] [] h 0 0 Q := by
  have hk := i_k73
  refine g_s1 (pc2 := 148) hk rfl rfl rfl rfl rfl ?_
  refine g_s1 (pc2 := 150) hk rfl rfl rfl rfl rfl ?_
  obtain ⟨⟨o, ho⟩, H⟩ := H
  refine g_step (pc2 := 153) hk rfl rfl rfl (s_put ho rfl) ?_
  exact H
theorem b73_153 {x0 : Nat} {x1 : Int32} {x2 : Int32} {x3 : Int32} {x4 : Int32} {x5 : Int32} {x6 : Nat} {x7 : Option Value} {x8 : Option Value} {h : iH} {Q : Option Value → iH → Prop} (H : i_P i_MT i_AT L xs 73 50 [some (.ref x0), some (.int x1), some (.int x2), some (.int x3), some (.int x4), some (.int (x5 + 1)), some (.ref x6), x7, x8] [] h 0 0 Q) : i_P i_MT i_AT L xs 73 153 [some (.ref x0), some (.int x1), some (.int x2), some (.int x3), some (.int x4), some (.int x5), some (.ref x6), x7, x8] [] h 0 0 Q := by
  have hk := i_k73
  refine g_s1 (pc2 := 156) (lo2 := [some (.ref x0), some (.int x1), some (.int x2), some (.int x3), some (.int x4), some (.int (x5 + 1)), some (.ref x6), x7, x8]) hk rfl rfl rfl rfl rfl ?_
  refine g_s1 (pc2 := 50) hk rfl rfl rfl rfl rfl ?_
  exact H
/-! StillTown$Stealth.bestBeside(I)I -/
theorem e74 {x0 : Nat} {x1 : Int32} {h : iH} {Q : Option Value → iH → Prop} (H : i_P i_MT i_AT L xs 74 0 [some (.ref x0), some (.int x1), none, none, none] [] h 0 0 Q) : i_C i_MT i_AT L xs 74 [.ref x0, .int x1] h Q := ⟨i_m74, i_k74.1, Nat.le_of_ble_eq_true rfl, H⟩
theorem b74_0 {x0 : Nat} {x1 : Int32} {x2 : Option Value} {x3 : Option Value} {x4 : Option Value} {h : iH} {Q : Option Value → iH → Prop} (H : (∃ v1 : Nat, i_fld h x0 6 0 = some (.ref v1) ∧ (∃ v2 : Nat, i_fld h v1 0 0 = some (.ref v2) ∧ (∃ v3 : Int64, i_fld h v2 2 4 = some (.long v3) ∧ (i_C i_MT i_AT L xs 193 [.long v3, .int x1] h (fun v h4 => ∃ r5 : Int32, v = some (.int r5) ∧ i_P i_MT i_AT L xs 74 14 [some (.ref x0), some (.int x1), x2, x3, x4] [.int r5] h4 0 0 Q)))))) : i_P i_MT i_AT L xs 74 0 [some (.ref x0), some (.int x1), x2, x3, x4] [] h 0 0 Q := by
  have hk := i_k74
  refine g_s1 (pc2 := 1) hk rfl rfl rfl rfl rfl ?_
  obtain ⟨v1, ev1, H⟩ := H
  refine g_step (pc2 := 4) hk rfl rfl rfl (s_get ev1) ?_
  obtain ⟨v2, ev2, H⟩ := H
  refine g_step (pc2 := 7) hk rfl rfl rfl (s_get ev2) ?_
  obtain ⟨v3, ev3, H⟩ := H
  refine g_step (pc2 := 10) hk rfl rfl rfl (s_get ev3) ?_
  refine g_s1 (pc2 := 11) hk rfl rfl rfl rfl rfl ?_
  refine g_call hk rfl rfl i_k193.1 ⟨rfl, rfl⟩ rfl (i_rcv_0 rfl) rfl ?_
  exact H.mono (fun v h2 q => by obtain ⟨r, rfl, q⟩ := q; exact q)
theorem b74_14 {x0 : Nat} {x1 : Int32} {x2 : Option Value} {x3 : Option Value} {x4 : Option Value} {s0 : Int32} {h : iH} {Q : Option Value → iH → Prop} (H : ((¬ s0 = 0 → i_P i_MT i_AT L xs 74 23 [some (.ref x0), some (.int x1), some (.int (-1 : Int32)), some (.int (0 : Int32)), x4] [] h 0 0 Q) ∧ (¬ (¬ s0 = 0) → Q (some (.int (-1 : Int32))) h))) : i_P i_MT i_AT L xs 74 14 [some (.ref x0), some (.int x1), x2, x3, x4] [.int s0] h 0 0 Q := by
  have hk := i_k74
  refine g_if_ne hk rfl (fun hc => ?_) (fun hc => ?_)
  · have H := H.1 hc
    refine g_s1 (pc2 := 20) (st2 := [.int (-1 : Int32)]) hk rfl rfl rfl rfl rfl ?_
    refine g_s1 (pc2 := 21) (lo2 := [some (.ref x0), some (.int x1), some (.int (-1 : Int32)), x3, x4]) hk rfl rfl rfl rfl rfl ?_
    refine g_s1 (pc2 := 22) (st2 := [.int (0 : Int32)]) hk rfl rfl rfl rfl rfl ?_
    refine g_s1 (pc2 := 23) (lo2 := [some (.ref x0), some (.int x1), some (.int (-1 : Int32)), some (.int (0 : Int32)), x4]) hk rfl rfl rfl rfl rfl ?_
    exact H
  · have H := H.2 hc
    refine g_s1 (pc2 := 18) (st2 := [.int (-1 : Int32)]) hk rfl rfl rfl rfl rfl ?_
    exact g_ireturn hk rfl (by decide) (by decide) rfl H
theorem b74_23 {x0 : Nat} {x1 : Int32} {x2 : Int32} {x3 : Int32} {x4 : Option Value} {h : iH} {Q : Option Value → iH → Prop} (H : (((8 : Int32) ≤ x3 → Q (some (.int x2)) h) ∧ (¬ ((8 : Int32) ≤ x3) → (∃ v1 : Nat, i_fld h x0 6 0 = some (.ref v1) ∧ (∃ v2 : Nat, i_fld h v1 0 0 = some (.ref v2) ∧ (i_obj? h v2 2 ∧ i_C i_MT i_AT L xs 25 [.ref v2, .int x1, .int x3] h (fun v h3 => ∃ r4 : Int32, v = some (.int r4) ∧ i_P i_MT i_AT L xs 74 41 [some (.ref x0), some (.int x1), some (.int x2), some (.int x3), x4] [.int r4] h3 0 0 Q))))))) : i_P i_MT i_AT L xs 74 23 [some (.ref x0), some (.int x1), some (.int x2), some (.int x3), x4] [] h 0 0 Q := by
  have hk := i_k74
  refine g_s1 (pc2 := 24) hk rfl rfl rfl rfl rfl ?_
  refine g_s1 (pc2 := 26) (st2 := [.int (8 : Int32), .int x3]) hk rfl rfl rfl rfl rfl ?_
  refine g_icmp_ge hk rfl (fun hc => ?_) (fun hc => ?_)
  · have H := H.1 hc
    refine g_s1 (pc2 := 68) hk rfl rfl rfl rfl rfl ?_
    exact g_ireturn hk rfl (by decide) (by decide) rfl H
  · have H := H.2 hc
    refine g_s1 (pc2 := 30) hk rfl rfl rfl rfl rfl ?_
    obtain ⟨v1, ev1, H⟩ := H
    refine g_step (pc2 := 33) hk rfl rfl rfl (s_get ev1) ?_
    obtain ⟨v2, ev2, H⟩ := H
    refine g_step (pc2 := 36) hk rfl rfl rfl (s_get ev2) ?_
    refine g_s1 (pc2 := 37) hk rfl rfl rfl rfl rfl ?_
    refine g_s1 (pc2 := 38) hk rfl rfl rfl rfl rfl ?_
    obtain ⟨ho, H⟩ := H
    refine g_call hk rfl rfl i_k25.1 ⟨rfl, rfl⟩ rfl (i_rcv_v ho rfl (by decide)) rfl ?_
    exact H.mono (fun v h2 q => by obtain ⟨r, rfl, q⟩ := q; exact q)
theorem b74_41 {x0 : Nat} {x1 : Int32} {x2 : Int32} {x3 : Int32} {x4 : Option Value} {s0 : Int32} {h : iH} {Q : Option Value → iH → Prop} (H : ((s0 = (-1 : Int32) → i_P i_MT i_AT L xs 74 61 [some (.ref x0), some (.int x1), some (.int x2), some (.int x3), some (.int s0)] [] h 0 0 Q) ∧ (¬ (s0 = (-1 : Int32)) → (∃ v1 : Nat, i_fld h x0 6 8 = some (.ref v1) ∧ (∃ (n2 : Nat) (f3 : Nat → Int32), i_arI h 0 v1 = some (n2, f3) ∧ ¬ (s0 < 0 ∨ n2 ≤ s0.toNatClampNeg) ∧ (i_C i_MT i_AT L xs 336 [.int x2, .int (f3 s0.toNatClampNeg)] h (fun v h4 => ∃ r5 : Int32, v = some (.int r5) ∧ i_P i_MT i_AT L xs 74 60 [some (.ref x0), some (.int x1), some (.int x2), some (.int x3), some (.int s0)] [.int r5] h4 0 0 Q))))))) : i_P i_MT i_AT L xs 74 41 [some (.ref x0), some (.int x1), some (.int x2), some (.int x3), x4] [.int s0] h 0 0 Q := by
  have hk := i_k74
  refine g_s1 (pc2 := 43) (lo2 := [some (.ref x0), some (.int x1), some (.int x2), some (.int x3), some (.int s0)]) hk rfl rfl rfl rfl rfl ?_
  refine g_s1 (pc2 := 45) hk rfl rfl rfl rfl rfl ?_
  refine g_s1 (pc2 := 46) (st2 := [.int (-1 : Int32), .int s0]) hk rfl rfl rfl rfl rfl ?_
  refine g_icmp_eq hk rfl (fun hc => ?_) (fun hc => ?_)
  · have H := H.1 hc
    exact H
  · have H := H.2 hc
    refine g_s1 (pc2 := 50) hk rfl rfl rfl rfl rfl ?_
    refine g_s1 (pc2 := 51) hk rfl rfl rfl rfl rfl ?_
    obtain ⟨v1, ev1, H⟩ := H
    refine g_step (pc2 := 54) hk rfl rfl rfl (s_get ev1) ?_
    refine g_s1 (pc2 := 56) hk rfl rfl rfl rfl rfl ?_
    obtain ⟨n2, f3, ef3, hi, H⟩ := H
    refine g_step (pc2 := 57) hk rfl rfl rfl (s_aget (L := L) (xs := xs) ef3 hi) ?_
    refine g_call hk rfl rfl i_k336.1 ⟨rfl, rfl⟩ rfl (i_rcv_0 rfl) rfl ?_
    exact H.mono (fun v h2 q => by obtain ⟨r, rfl, q⟩ := q; exact q)
theorem b74_60 {x0 : Nat} {x1 : Int32} {x2 : Int32} {x3 : Int32} {x4 : Int32} {s0 : Int32} {h : iH} {Q : Option Value → iH → Prop} (H : i_P i_MT i_AT L xs 74 61 [some (.ref x0), some (.int x1), some (.int s0), some (.int x3), some (.int x4)] [] h 0 0 Q) : i_P i_MT i_AT L xs 74 60 [some (.ref x0), some (.int x1), some (.int x2), some (.int x3), some (.int x4)] [.int s0] h 0 0 Q := by
  have hk := i_k74
  refine g_s1 (pc2 := 61) (lo2 := [some (.ref x0), some (.int x1), some (.int s0), some (.int x3), some (.int x4)]) hk rfl rfl rfl rfl rfl ?_
  exact H
theorem b74_61 {x0 : Nat} {x1 : Int32} {x2 : Int32} {x3 : Int32} {x4 : Int32} {h : iH} {Q : Option Value → iH → Prop} (H : i_P i_MT i_AT L xs 74 23 [some (.ref x0), some (.int x1), some (.int x2), some (.int (x3 + 1)), some (.int x4)] [] h 0 0 Q) : i_P i_MT i_AT L xs 74 61 [some (.ref x0), some (.int x1), some (.int x2), some (.int x3), some (.int x4)] [] h 0 0 Q := by
  have hk := i_k74
  refine g_s1 (pc2 := 64) (lo2 := [some (.ref x0), some (.int x1), some (.int x2), some (.int (x3 + 1)), some (.int x4)]) hk rfl rfl rfl rfl rfl ?_
  refine g_s1 (pc2 := 23) hk rfl rfl rfl rfl rfl ?_
  exact H
/-! StillTown$Stealth.chance(IIIII)I -/
theorem e75 {x0 : Nat} {x1 : Int32} {x2 : Int32} {x3 : Int32} {x4 : Int32} {x5 : Int32} {h : iH} {Q : Option Value → iH → Prop} (H : i_P i_MT i_AT L xs 75 0 [some (.ref x0), some (.int x1), some (.int x2), some (.int x3), some (.int x4), some (.int x5), none, none] [] h 0 0 Q) : i_C i_MT i_AT L xs 75 [.ref x0, .int x1, .int x2, .int x3, .int x4, .int x5] h Q := ⟨i_m75, i_k75.1, Nat.le_of_ble_eq_true rfl, H⟩
theorem b75_0 {x0 : Nat} {x1 : Int32} {x2 : Int32} {x3 : Int32} {x4 : Int32} {x5 : Int32} {x6 : Option Value} {x7 : Option Value} {h : iH} {Q : Option Value → iH → Prop} (H : i_P i_MT i_AT L xs 75 6 [some (.ref x0), some (.int x1), some (.int x2), some (.int x3), some (.int x4), some (.int x5), some (.int x1), some (.int (0 : Int32))] [] h 0 0 Q) : i_P i_MT i_AT L xs 75 0 [some (.ref x0), some (.int x1), some (.int x2), some (.int x3), some (.int x4), some (.int x5), x6, x7] [] h 0 0 Q := by
  have hk := i_k75
  refine g_s1 (pc2 := 1) hk rfl rfl rfl rfl rfl ?_
  refine g_s1 (pc2 := 3) (lo2 := [some (.ref x0), some (.int x1), some (.int x2), some (.int x3), some (.int x4), some (.int x5), some (.int x1), x7]) hk rfl rfl rfl rfl rfl ?_
  refine g_s1 (pc2 := 4) (st2 := [.int (0 : Int32)]) hk rfl rfl rfl rfl rfl ?_
  refine g_s1 (pc2 := 6) (lo2 := [some (.ref x0), some (.int x1), some (.int x2), some (.int x3), some (.int x4), some (.int x5), some (.int x1), some (.int (0 : Int32))]) hk rfl rfl rfl rfl rfl ?_
  exact H
theorem b75_6 {x0 : Nat} {x1 : Int32} {x2 : Int32} {x3 : Int32} {x4 : Int32} {x5 : Int32} {x6 : Int32} {x7 : Int32} {h : iH} {Q : Option Value → iH → Prop} (H : (∃ v1 : Nat, i_fld h x0 6 0 = some (.ref v1) ∧ (∃ v2 : Nat, i_fld h v1 0 1 = some (.ref v2) ∧ (∃ v3 : Nat, i_fld h v2 8 12 = some (.ref v3) ∧ (∃ v4 : Int32, i_fld h v3 3 0 = some (.int v4) ∧ ((v4 ≤ x7 → i_P i_MT i_AT L xs 75 66 [some (.ref x0), some (.int x1), some (.int x2), some (.int x3), some (.int x4), some (.int x5), some (.int x6), some (.int x7)] [] h 0 0 Q) ∧ (¬ (v4 ≤ x7) → ((x6 ≤ 0 → i_P i_MT i_AT L xs 75 66 [some (.ref x0), some (.int x1), some (.int x2), some (.int x3), some (.int x4), some (.int x5), some (.int x6), some (.int x7)] [] h 0 0 Q) ∧ (¬ (x6 ≤ 0) → (i_C i_MT i_AT L xs 193 [.long (x2.toInt64), .int x7] h (fun v h5 => ∃ r6 : Int32, v = some (.int r6) ∧ i_P i_MT i_AT L xs 75 36 [some (.ref x0), some (.int x1), some (.int x2), some (.int x3), some (.int x4), some (.int x5), some (.int x6), some (.int x7)] [.int r6] h5 0 0 Q))))))))))) : i_P i_MT i_AT L xs 75 6 [some (.ref x0), some (.int x1), some (.int x2), some (.int x3), some (.int x4), some (.int x5), some (.int x6), some (.int x7)] [] h 0 0 Q := by
  have hk := i_k75
  refine g_s1 (pc2 := 8) hk rfl rfl rfl rfl rfl ?_
  refine g_s1 (pc2 := 9) hk rfl rfl rfl rfl rfl ?_
  obtain ⟨v1, ev1, H⟩ := H
  refine g_step (pc2 := 12) hk rfl rfl rfl (s_get ev1) ?_
  obtain ⟨v2, ev2, H⟩ := H
  refine g_step (pc2 := 15) hk rfl rfl rfl (s_get ev2) ?_
  obtain ⟨v3, ev3, H⟩ := H
  refine g_step (pc2 := 18) hk rfl rfl rfl (s_get ev3) ?_
  obtain ⟨v4, ev4, H⟩ := H
  refine g_step (pc2 := 21) hk rfl rfl rfl (s_get ev4) ?_
  refine g_icmp_ge hk rfl (fun hc => ?_) (fun hc => ?_)
  · have H := H.1 hc
    exact H
  · have H := H.2 hc
    refine g_s1 (pc2 := 26) hk rfl rfl rfl rfl rfl ?_
    refine g_if_le hk rfl (fun hc => ?_) (fun hc => ?_)
    · have H := H.1 hc
      exact H
    · have H := H.2 hc
      refine g_s1 (pc2 := 30) hk rfl rfl rfl rfl rfl ?_
      refine g_s1 (pc2 := 31) hk rfl rfl rfl rfl rfl ?_
      refine g_s1 (pc2 := 33) hk rfl rfl rfl rfl rfl ?_
      refine g_call hk rfl rfl i_k193.1 ⟨rfl, rfl⟩ rfl (i_rcv_0 rfl) rfl ?_
      exact H.mono (fun v h2 q => by obtain ⟨r, rfl, q⟩ := q; exact q)
theorem b75_36 {x0 : Nat} {x1 : Int32} {x2 : Int32} {x3 : Int32} {x4 : Int32} {x5 : Int32} {x6 : Int32} {x7 : Int32} {s0 : Int32} {h : iH} {Q : Option Value → iH → Prop} (H : ((s0 = 0 → i_P i_MT i_AT L xs 75 60 [some (.ref x0), some (.int x1), some (.int x2), some (.int x3), some (.int x4), some (.int x5), some (.int x6), some (.int x7)] [] h 0 0 Q) ∧ (¬ (s0 = 0) → (∃ v1 : Nat, i_fld h x0 6 0 = some (.ref v1) ∧ (i_obj? h v1 0 ∧ i_C i_MT i_AT L xs 11 [.ref v1, .int x7, .int x3, .int x4, .int x5] h (fun v h2 => ∃ r3 : Int32, v = some (.int r3) ∧ i_P i_MT i_AT L xs 75 55 [some (.ref x0), some (.int x1), some (.int x2), some (.int x3), some (.int x4), some (.int x5), some (.int x6), some (.int x7)] [.int r3, .int x6] h2 0 0 Q)))))) : i_P i_MT i_AT L xs 75 36 [some (.ref x0), some (.int x1), some (.int x2), some (.int x3), some (.int x4), some (.int x5), some (.int x6), some (.int x7)] [.int s0] h 0 0 Q := by
  have hk := i_k75
  refine g_if_eq hk rfl (fun hc => ?_) (fun hc => ?_)
  · have H := H.1 hc
    exact H
  · have H := H.2 hc
    refine g_s1 (pc2 := 41) hk rfl rfl rfl rfl rfl ?_
    refine g_s1 (pc2 := 42) hk rfl rfl rfl rfl rfl ?_
    obtain ⟨v1, ev1, H⟩ := H
    refine g_step (pc2 := 45) hk rfl rfl rfl (s_get ev1) ?_
    refine g_s1 (pc2 := 47) hk rfl rfl rfl rfl rfl ?_
    refine g_s1 (pc2 := 48) hk rfl rfl rfl rfl rfl ?_
    refine g_s1 (pc2 := 50) hk rfl rfl rfl rfl rfl ?_
    refine g_s1 (pc2 := 52) hk rfl rfl rfl rfl rfl ?_
    obtain ⟨ho, H⟩ := H
    refine g_call hk rfl rfl i_k11.1 ⟨rfl, rfl⟩ rfl (i_rcv_v ho rfl (by decide)) rfl ?_
    exact H.mono (fun v h2 q => by obtain ⟨r, rfl, q⟩ := q; exact q)
theorem b75_55 {x0 : Nat} {x1 : Int32} {x2 : Int32} {x3 : Int32} {x4 : Int32} {x5 : Int32} {x6 : Int32} {x7 : Int32} {s0 : Int32} {s1 : Int32} {h : iH} {Q : Option Value → iH → Prop} (H : (i_C i_MT i_AT L xs 194 [.int s0, .int s1] h (fun v h1 => ∃ r2 : Int32, v = some (.int r2) ∧ i_P i_MT i_AT L xs 75 58 [some (.ref x0), some (.int x1), some (.int x2), some (.int x3), some (.int x4), some (.int x5), some (.int x6), some (.int x7)] [.int r2] h1 0 0 Q))) : i_P i_MT i_AT L xs 75 55 [some (.ref x0), some (.int x1), some (.int x2), some (.int x3), some (.int x4), some (.int x5), some (.int x6), some (.int x7)] [.int s1, .int s0] h 0 0 Q := by
  have hk := i_k75
  refine g_call hk rfl rfl i_k194.1 ⟨rfl, rfl⟩ rfl (i_rcv_0 rfl) rfl ?_
  exact H.mono (fun v h2 q => by obtain ⟨r, rfl, q⟩ := q; exact q)
theorem b75_58 {x0 : Nat} {x1 : Int32} {x2 : Int32} {x3 : Int32} {x4 : Int32} {x5 : Int32} {x6 : Int32} {x7 : Int32} {s0 : Int32} {h : iH} {Q : Option Value → iH → Prop} (H : i_P i_MT i_AT L xs 75 60 [some (.ref x0), some (.int x1), some (.int x2), some (.int x3), some (.int x4), some (.int x5), some (.int s0), some (.int x7)] [] h 0 0 Q) : i_P i_MT i_AT L xs 75 58 [some (.ref x0), some (.int x1), some (.int x2), some (.int x3), some (.int x4), some (.int x5), some (.int x6), some (.int x7)] [.int s0] h 0 0 Q := by
  have hk := i_k75
  refine g_s1 (pc2 := 60) (lo2 := [some (.ref x0), some (.int x1), some (.int x2), some (.int x3), some (.int x4), some (.int x5), some (.int s0), some (.int x7)]) hk rfl rfl rfl rfl rfl ?_
  exact H
theorem b75_60 {x0 : Nat} {x1 : Int32} {x2 : Int32} {x3 : Int32} {x4 : Int32} {x5 : Int32} {x6 : Int32} {x7 : Int32} {h : iH} {Q : Option Value → iH → Prop} (H : i_P i_MT i_AT L xs 75 6 [some (.ref x0), some (.int x1), some (.int x2), some (.int x3), some (.int x4), some (.int x5), some (.int x6), some (.int (x7 + 1))] [] h 0 0 Q) : i_P i_MT i_AT L xs 75 60 [some (.ref x0), some (.int x1), some (.int x2), some (.int x3), some (.int x4), some (.int x5), some (.int x6), some (.int x7)] [] h 0 0 Q := by
  have hk := i_k75
  refine g_s1 (pc2 := 63) (lo2 := [some (.ref x0), some (.int x1), some (.int x2), some (.int x3), some (.int x4), some (.int x5), some (.int x6), some (.int (x7 + 1))]) hk rfl rfl rfl rfl rfl ?_
  refine g_s1 (pc2 := 6) hk rfl rfl rfl rfl rfl ?_
  exact H
theorem b75_66 {x0 : Nat} {x1 : Int32} {x2 : Int32} {x3 : Int32} {x4 : Int32} {x5 : Int32} {x6 : Int32} {x7 : Int32} {h : iH} {Q : Option Value → iH → Prop} (H : Q (some (.int x6)) h) : i_P i_MT i_AT L xs 75 66 [some (.ref x0), some (.int x1), some (.int x2), some (.int x3), some (.int x4), some (.int x5), some (.int x6), some (.int x7)] [] h 0 0 Q := by
  have hk := i_k75
  refine g_s1 (pc2 := 68) hk rfl rfl rfl rfl rfl ?_
  exact g_ireturn hk rfl (by decide) (by decide) rfl H
/-! StillTown$Stealth.soonestShown(I)I -/
theorem e76 {x0 : Nat} {x1 : Int32} {h : iH} {Q : Option Value → iH → Prop} (H : i_P i_MT i_AT L xs 76 0 [some (.ref x0), some (.int x1), none, none, none, none] [] h 0 0 Q) : i_C i_MT i_AT L xs 76 [.ref x0, .int x1] h Q := ⟨i_m76, i_k76.1, Nat.le_of_ble_eq_true rfl, H⟩
theorem b76_0 {x0 : Nat} {x1 : Int32} {x2 : Option Value} {x3 : Option Value} {x4 : Option Value} {x5 : Option Value} {h : iH} {Q : Option Value → iH → Prop} (H : (∃ v1 : Nat, i_fld h x0 6 0 = some (.ref v1) ∧ (∃ v2 : Nat, i_fld h v1 0 1 = some (.ref v2) ∧ (∃ v3 : Nat, i_fld h v2 8 12 = some (.ref v3) ∧ (∃ v4 : Nat, i_fld h v3 3 6 = some (.ref v4) ∧ (∃ (n5 : Nat) (f6 : Nat → Int32), i_arI h 0 v4 = some (n5, f6) ∧ ¬ (x1 < 0 ∨ n5 ≤ x1.toNatClampNeg) ∧ (∃ v7 : Nat, i_fld h x0 6 0 = some (.ref v7) ∧ (∃ v8 : Nat, i_fld h v7 0 1 = some (.ref v8) ∧ (∃ v9 : Nat, i_fld h v8 8 12 = some (.ref v9) ∧ (∃ v10 : Nat, i_fld h v9 3 5 = some (.ref v10) ∧ (∃ (n11 : Nat) (f12 : Nat → Int32), i_arI h 0 v10 = some (n11, f12) ∧ ¬ (x1 < 0 ∨ n11 ≤ x1.toNatClampNeg) ∧ ((¬ (f6 x1.toNatClampNeg) = 0 → (i_obj? h x0 6 ∧ i_C i_MT i_AT L xs 67 [.ref x0] h (fun v h13 => v = none ∧ i_P i_MT i_AT L xs 76 42 [some (.ref x0), some (.int x1), some (.int (f6 x1.toNatClampNeg)), some (.int (f12 x1.toNatClampNeg)), x4, x5] [] h13 0 0 Q))) ∧ (¬ (¬ (f6 x1.toNatClampNeg) = 0) → Q (some (.int (0 : Int32))) h))))))))))))) : i_P i_MT i_AT L xs 76 0 [some (.ref x0), some (.int x1), x2, x3, x4, x5] [] h 0 0 Q := by
  have hk := i_k76
  refine g_s1 (pc2 := 1) hk rfl rfl rfl rfl rfl ?_
  obtain ⟨v1, ev1, H⟩ := H
  refine g_step (pc2 := 4) hk rfl rfl rfl (s_get ev1) ?_
  obtain ⟨v2, ev2, H⟩ := H
  refine g_step (pc2 := 7) hk rfl rfl rfl (s_get ev2) ?_
  obtain ⟨v3, ev3, H⟩ := H
  refine g_step (pc2 := 10) hk rfl rfl rfl (s_get ev3) ?_
  obtain ⟨v4, ev4, H⟩ := H
  refine g_step (pc2 := 13) hk rfl rfl rfl (s_get ev4) ?_
  refine g_s1 (pc2 := 14) hk rfl rfl rfl rfl rfl ?_
  obtain ⟨n5, f6, ef6, hi, H⟩ := H
  refine g_step (pc2 := 15) hk rfl rfl rfl (s_aget (L := L) (xs := xs) ef6 hi) ?_
  refine g_s1 (pc2 := 16) (lo2 := [some (.ref x0), some (.int x1), some (.int (f6 x1.toNatClampNeg)), x3, x4, x5]) hk rfl rfl rfl rfl rfl ?_
  refine g_s1 (pc2 := 17) hk rfl rfl rfl rfl rfl ?_
  obtain ⟨v7, ev7, H⟩ := H
  refine g_step (pc2 := 20) hk rfl rfl rfl (s_get ev7) ?_
  obtain ⟨v8, ev8, H⟩ := H
  refine g_step (pc2 := 23) hk rfl rfl rfl (s_get ev8) ?_
  obtain ⟨v9, ev9, H⟩ := H
  refine g_step (pc2 := 26) hk rfl rfl rfl (s_get ev9) ?_
  obtain ⟨v10, ev10, H⟩ := H
  refine g_step (pc2 := 29) hk rfl rfl rfl (s_get ev10) ?_
  refine g_s1 (pc2 := 30) hk rfl rfl rfl rfl rfl ?_
  obtain ⟨n11, f12, ef12, hi, H⟩ := H
  refine g_step (pc2 := 31) hk rfl rfl rfl (s_aget (L := L) (xs := xs) ef12 hi) ?_
  refine g_s1 (pc2 := 32) (lo2 := [some (.ref x0), some (.int x1), some (.int (f6 x1.toNatClampNeg)), some (.int (f12 x1.toNatClampNeg)), x4, x5]) hk rfl rfl rfl rfl rfl ?_
  refine g_s1 (pc2 := 33) hk rfl rfl rfl rfl rfl ?_
  refine g_if_ne hk rfl (fun hc => ?_) (fun hc => ?_)
  · have H := H.1 hc
    refine g_s1 (pc2 := 39) hk rfl rfl rfl rfl rfl ?_
    obtain ⟨ho, H⟩ := H
    refine g_call hk rfl rfl i_k67.1 ⟨rfl, rfl⟩ rfl (i_rcv_v ho rfl (by decide)) rfl ?_
    exact H.mono (fun v h2 q => by obtain ⟨rfl, q⟩ := q; exact q)
  · have H := H.2 hc
    refine g_s1 (pc2 := 37) (st2 := [.int (0 : Int32)]) hk rfl rfl rfl rfl rfl ?_
    exact g_ireturn hk rfl (by decide) (by decide) rfl H
theorem b76_42 {x0 : Nat} {x1 : Int32} {x2 : Int32} {x3 : Int32} {x4 : Option Value} {x5 : Option Value} {h : iH} {Q : Option Value → iH → Prop} (H : (∃ v1 : Nat, i_fld h x0 6 10 = some (.ref v1) ∧ (i_C i_MT i_AT L xs 348 [.ref v1, .long (0 : Int64)] h (fun v h2 => v = none ∧ i_P i_MT i_AT L xs 76 50 [some (.ref x0), some (.int x1), some (.int x2), some (.int x3), x4, x5] [] h2 0 0 Q)))) : i_P i_MT i_AT L xs 76 42 [some (.ref x0), some (.int x1), some (.int x2), some (.int x3), x4, x5] [] h 0 0 Q := by
  have hk := i_k76
  refine g_s1 (pc2 := 43) hk rfl rfl rfl rfl rfl ?_
  obtain ⟨v1, ev1, H⟩ := H
  refine g_step (pc2 := 46) hk rfl rfl rfl (s_get ev1) ?_
  refine g_s1 (pc2 := 47) (st2 := [.long (0 : Int64), .ref v1]) hk rfl rfl rfl rfl rfl ?_
  refine g_call hk rfl rfl i_k348.1 ⟨rfl, rfl⟩ rfl (i_rcv_0 rfl) rfl ?_
  exact H.mono (fun v h2 q => by obtain ⟨rfl, q⟩ := q; exact q)
theorem b76_50 {x0 : Nat} {x1 : Int32} {x2 : Int32} {x3 : Int32} {x4 : Option Value} {x5 : Option Value} {h : iH} {Q : Option Value → iH → Prop} (H : (∃ v1 : Nat, i_fld h x0 6 10 = some (.ref v1) ∧ (∃ v2 : Nat, i_fld h x0 6 0 = some (.ref v2) ∧ (∃ v3 : Nat, i_fld h v2 0 1 = some (.ref v3) ∧ (∃ v4 : Nat, i_fld h v3 8 12 = some (.ref v4) ∧ (∃ v5 : Nat, i_fld h v4 3 2 = some (.ref v5) ∧ (∃ (n6 : Nat) (f7 : Nat → Int32), i_arI h 0 v5 = some (n6, f7) ∧ ¬ (x1 < 0 ∨ n6 ≤ x1.toNatClampNeg) ∧ (∃ (n8 : Nat) (f9 : Nat → Int64), i_arJ h v1 = some (n8, f9) ∧ ¬ ((0 : Int32) < 0 ∨ n8 ≤ (0 : Int32).toNatClampNeg) ∧ i_P i_MT i_AT L xs 76 73 [some (.ref x0), some (.int x1), some (.int x2), some (.int x3), x4, x5] [] (i_siJ h v1 (0 : Int32).toNatClampNeg ((1 : Int64) <<< ((f7 x1.toNatClampNeg).toInt64 &&& 63))) 0 0 Q)))))))) : i_P i_MT i_AT L xs 76 50 [some (.ref x0), some (.int x1), some (.int x2), some (.int x3), x4, x5] [] h 0 0 Q := by
  have hk := i_k76
  refine g_s1 (pc2 := 51) hk rfl rfl rfl rfl rfl ?_
  obtain ⟨v1, ev1, H⟩ := H
  refine g_step (pc2 := 54) hk rfl rfl rfl (s_get ev1) ?_
  refine g_s1 (pc2 := 55) (st2 := [.int (0 : Int32), .ref v1]) hk rfl rfl rfl rfl rfl ?_
  refine g_s1 (pc2 := 56) (st2 := [.long (1 : Int64), .int (0 : Int32), .ref v1]) hk rfl rfl rfl rfl rfl ?_
  refine g_s1 (pc2 := 57) hk rfl rfl rfl rfl rfl ?_
  obtain ⟨v2, ev2, H⟩ := H
  refine g_step (pc2 := 60) hk rfl rfl rfl (s_get ev2) ?_
  obtain ⟨v3, ev3, H⟩ := H
  refine g_step (pc2 := 63) hk rfl rfl rfl (s_get ev3) ?_
  obtain ⟨v4, ev4, H⟩ := H
  refine g_step (pc2 := 66) hk rfl rfl rfl (s_get ev4) ?_
  obtain ⟨v5, ev5, H⟩ := H
  refine g_step (pc2 := 69) hk rfl rfl rfl (s_get ev5) ?_
  refine g_s1 (pc2 := 70) hk rfl rfl rfl rfl rfl ?_
  obtain ⟨n6, f7, ef7, hi, H⟩ := H
  refine g_step (pc2 := 71) hk rfl rfl rfl (s_aget (L := L) (xs := xs) ef7 hi) ?_
  refine g_s1 (pc2 := 72) hk rfl rfl rfl rfl rfl ?_
  obtain ⟨n8, f9, ef9, hi, H⟩ := H
  refine g_step (pc2 := 73) hk rfl rfl rfl (s_lput ef9 hi) ?_
  exact H
theorem b76_73 {x0 : Nat} {x1 : Int32} {x2 : Int32} {x3 : Int32} {x4 : Option Value} {x5 : Option Value} {h : iH} {Q : Option Value → iH → Prop} (H : i_P i_MT i_AT L xs 76 76 [some (.ref x0), some (.int x1), some (.int x2), some (.int x3), some (.int (1 : Int32)), x5] [] h 0 0 Q) : i_P i_MT i_AT L xs 76 73 [some (.ref x0), some (.int x1), some (.int x2), some (.int x3), x4, x5] [] h 0 0 Q := by
  have hk := i_k76
  refine g_s1 (pc2 := 74) (st2 := [.int (1 : Int32)]) hk rfl rfl rfl rfl rfl ?_
  refine g_s1 (pc2 := 76) (lo2 := [some (.ref x0), some (.int x1), some (.int x2), some (.int x3), some (.int (1 : Int32)), x5]) hk rfl rfl rfl rfl rfl ?_
  exact H
theorem b76_76 {x0 : Nat} {x1 : Int32} {x2 : Int32} {x3 : Int32} {x4 : Int32} {x5 : Option Value} {h : iH} {Q : Option Value → iH → Prop} (H : (((60 : Int32) < x4 → Q (some (.int (-1 : Int32))) h) ∧ (¬ ((60 : Int32) < x4) → (i_obj? h x0 6 ∧ i_C i_MT i_AT L xs 77 [.ref x0, .int x2, .int x4] h (fun v h1 => v = none ∧ i_P i_MT i_AT L xs 76 90 [some (.ref x0), some (.int x1), some (.int x2), some (.int x3), some (.int x4), x5] [] h1 0 0 Q))))) : i_P i_MT i_AT L xs 76 76 [some (.ref x0), some (.int x1), some (.int x2), some (.int x3), some (.int x4), x5] [] h 0 0 Q := by
  have hk := i_k76
  refine g_s1 (pc2 := 78) hk rfl rfl rfl rfl rfl ?_
  refine g_s1 (pc2 := 80) (st2 := [.int (60 : Int32), .int x4]) hk rfl rfl rfl rfl rfl ?_
  refine g_icmp_gt hk rfl (fun hc => ?_) (fun hc => ?_)
  · have H := H.1 hc
    refine g_s1 (pc2 := 191) (st2 := [.int (-1 : Int32)]) hk rfl rfl rfl rfl rfl ?_
    exact g_ireturn hk rfl (by decide) (by decide) rfl H
  · have H := H.2 hc
    refine g_s1 (pc2 := 84) hk rfl rfl rfl rfl rfl ?_
    refine g_s1 (pc2 := 85) hk rfl rfl rfl rfl rfl ?_
    refine g_s1 (pc2 := 87) hk rfl rfl rfl rfl rfl ?_
    obtain ⟨ho, H⟩ := H
    refine g_call hk rfl rfl i_k77.1 ⟨rfl, rfl⟩ rfl (i_rcv_v ho rfl (by decide)) rfl ?_
    exact H.mono (fun v h2 q => by obtain ⟨rfl, q⟩ := q; exact q)
theorem b76_90 {x0 : Nat} {x1 : Int32} {x2 : Int32} {x3 : Int32} {x4 : Int32} {x5 : Option Value} {h : iH} {Q : Option Value → iH → Prop} (H : (∃ v1 : Nat, i_fld h x0 6 11 = some (.ref v1) ∧ (i_C i_MT i_AT L xs 348 [.ref v1, .long (0 : Int64)] h (fun v h2 => v = none ∧ i_P i_MT i_AT L xs 76 98 [some (.ref x0), some (.int x1), some (.int x2), some (.int x3), some (.int x4), x5] [] h2 0 0 Q)))) : i_P i_MT i_AT L xs 76 90 [some (.ref x0), some (.int x1), some (.int x2), some (.int x3), some (.int x4), x5] [] h 0 0 Q := by
  have hk := i_k76
  refine g_s1 (pc2 := 91) hk rfl rfl rfl rfl rfl ?_
  obtain ⟨v1, ev1, H⟩ := H
  refine g_step (pc2 := 94) hk rfl rfl rfl (s_get ev1) ?_
  refine g_s1 (pc2 := 95) (st2 := [.long (0 : Int64), .ref v1]) hk rfl rfl rfl rfl rfl ?_
  refine g_call hk rfl rfl i_k348.1 ⟨rfl, rfl⟩ rfl (i_rcv_0 rfl) rfl ?_
  exact H.mono (fun v h2 q => by obtain ⟨rfl, q⟩ := q; exact q)
theorem b76_98 {x0 : Nat} {x1 : Int32} {x2 : Int32} {x3 : Int32} {x4 : Int32} {x5 : Option Value} {h : iH} {Q : Option Value → iH → Prop} (H : (i_obj? h x0 6 ∧ i_C i_MT i_AT L xs 69 [.ref x0, .int x3, .int (0 : Int32), .int x4] h (fun v h1 => ∃ r2 : Int64, v = some (.long r2) ∧ i_P i_MT i_AT L xs 76 108 [some (.ref x0), some (.int x1), some (.int x2), some (.int x3), some (.int x4), x5] [.long r2, .int (0 : Int32), .ref x0] h1 0 0 Q))) : i_P i_MT i_AT L xs 76 98 [some (.ref x0), some (.int x1), some (.int x2), some (.int x3), some (.int x4), x5] [] h 0 0 Q := by
  have hk := i_k76
  refine g_s1 (pc2 := 99) hk rfl rfl rfl rfl rfl ?_
  refine g_s1 (pc2 := 100) (st2 := [.int (0 : Int32), .ref x0]) hk rfl rfl rfl rfl rfl ?_
  refine g_s1 (pc2 := 101) hk rfl rfl rfl rfl rfl ?_
  refine g_s1 (pc2 := 102) hk rfl rfl rfl rfl rfl ?_
  refine g_s1 (pc2 := 103) (st2 := [.int (0 : Int32), .int x3, .ref x0, .int (0 : Int32), .ref x0]) hk rfl rfl rfl rfl rfl ?_
  refine g_s1 (pc2 := 105) hk rfl rfl rfl rfl rfl ?_
  obtain ⟨ho, H⟩ := H
  refine g_call hk rfl rfl i_k69.1 ⟨rfl, rfl⟩ rfl (i_rcv_v ho rfl (by decide)) rfl ?_
  exact H.mono (fun v h2 q => by obtain ⟨r, rfl, q⟩ := q; exact q)
theorem b76_108 {x0 : Nat} {x1 : Int32} {x2 : Int32} {x3 : Int32} {x4 : Int32} {x5 : Option Value} {s0 : Nat} {s1 : Int32} {s2 : Int64} {h : iH} {Q : Option Value → iH → Prop} (H : (i_obj? h s0 6 ∧ i_C i_MT i_AT L xs 79 [.ref s0, .int s1, .long s2] h (fun v h1 => v = none ∧ i_P i_MT i_AT L xs 76 111 [some (.ref x0), some (.int x1), some (.int x2), some (.int x3), some (.int x4), x5] [] h1 0 0 Q))) : i_P i_MT i_AT L xs 76 108 [some (.ref x0), some (.int x1), some (.int x2), some (.int x3), some (.int x4), x5] [.long s2, .int s1, .ref s0] h 0 0 Q := by
  have hk := i_k76
  obtain ⟨ho, H⟩ := H
  refine g_call hk rfl rfl i_k79.1 ⟨rfl, rfl⟩ rfl (i_rcv_v ho rfl (by decide)) rfl ?_
  exact H.mono (fun v h2 q => by obtain ⟨rfl, q⟩ := q; exact q)
theorem b76_111 {x0 : Nat} {x1 : Int32} {x2 : Int32} {x3 : Int32} {x4 : Int32} {x5 : Option Value} {h : iH} {Q : Option Value → iH → Prop} (H : (i_obj? h x0 6 ∧ i_C i_MT i_AT L xs 69 [.ref x0, .int x3, .int (1 : Int32), .int x4] h (fun v h1 => ∃ r2 : Int64, v = some (.long r2) ∧ i_P i_MT i_AT L xs 76 121 [some (.ref x0), some (.int x1), some (.int x2), some (.int x3), some (.int x4), x5] [.long r2, .int (1 : Int32), .ref x0] h1 0 0 Q))) : i_P i_MT i_AT L xs 76 111 [some (.ref x0), some (.int x1), some (.int x2), some (.int x3), some (.int x4), x5] [] h 0 0 Q := by
  have hk := i_k76
  refine g_s1 (pc2 := 112) hk rfl rfl rfl rfl rfl ?_
  refine g_s1 (pc2 := 113) (st2 := [.int (1 : Int32), .ref x0]) hk rfl rfl rfl rfl rfl ?_
  refine g_s1 (pc2 := 114) hk rfl rfl rfl rfl rfl ?_
  refine g_s1 (pc2 := 115) hk rfl rfl rfl rfl rfl ?_
  refine g_s1 (pc2 := 116) (st2 := [.int (1 : Int32), .int x3, .ref x0, .int (1 : Int32), .ref x0]) hk rfl rfl rfl rfl rfl ?_
  refine g_s1 (pc2 := 118) hk rfl rfl rfl rfl rfl ?_
  obtain ⟨ho, H⟩ := H
  refine g_call hk rfl rfl i_k69.1 ⟨rfl, rfl⟩ rfl (i_rcv_v ho rfl (by decide)) rfl ?_
  exact H.mono (fun v h2 q => by obtain ⟨r, rfl, q⟩ := q; exact q)
theorem b76_121 {x0 : Nat} {x1 : Int32} {x2 : Int32} {x3 : Int32} {x4 : Int32} {x5 : Option Value} {s0 : Nat} {s1 : Int32} {s2 : Int64} {h : iH} {Q : Option Value → iH → Prop} (H : (i_obj? h s0 6 ∧ i_C i_MT i_AT L xs 79 [.ref s0, .int s1, .long s2] h (fun v h1 => v = none ∧ i_P i_MT i_AT L xs 76 124 [some (.ref x0), some (.int x1), some (.int x2), some (.int x3), some (.int x4), x5] [] h1 0 0 Q))) : i_P i_MT i_AT L xs 76 121 [some (.ref x0), some (.int x1), some (.int x2), some (.int x3), some (.int x4), x5] [.long s2, .int s1, .ref s0] h 0 0 Q := by
  have hk := i_k76
  obtain ⟨ho, H⟩ := H
  refine g_call hk rfl rfl i_k79.1 ⟨rfl, rfl⟩ rfl (i_rcv_v ho rfl (by decide)) rfl ?_
  exact H.mono (fun v h2 q => by obtain ⟨rfl, q⟩ := q; exact q)
theorem b76_124 {x0 : Nat} {x1 : Int32} {x2 : Int32} {x3 : Int32} {x4 : Int32} {x5 : Option Value} {h : iH} {Q : Option Value → iH → Prop} (H : (i_obj? h x0 6 ∧ i_C i_MT i_AT L xs 69 [.ref x0, .int x3, .int (2 : Int32), .int x4] h (fun v h1 => ∃ r2 : Int64, v = some (.long r2) ∧ i_P i_MT i_AT L xs 76 134 [some (.ref x0), some (.int x1), some (.int x2), some (.int x3), some (.int x4), x5] [.long r2, .int (2 : Int32), .ref x0] h1 0 0 Q))) : i_P i_MT i_AT L xs 76 124 [some (.ref x0), some (.int x1), some (.int x2), some (.int x3), some (.int x4), x5] [] h 0 0 Q := by
  have hk := i_k76
  refine g_s1 (pc2 := 125) hk rfl rfl rfl rfl rfl ?_
  refine g_s1 (pc2 := 126) (st2 := [.int (2 : Int32), .ref x0]) hk rfl rfl rfl rfl rfl ?_
  refine g_s1 (pc2 := 127) hk rfl rfl rfl rfl rfl ?_
  refine g_s1 (pc2 := 128) hk rfl rfl rfl rfl rfl ?_
  refine g_s1 (pc2 := 129) (st2 := [.int (2 : Int32), .int x3, .ref x0, .int (2 : Int32), .ref x0]) hk rfl rfl rfl rfl rfl ?_
  refine g_s1 (pc2 := 131) hk rfl rfl rfl rfl rfl ?_
  obtain ⟨ho, H⟩ := H
  refine g_call hk rfl rfl i_k69.1 ⟨rfl, rfl⟩ rfl (i_rcv_v ho rfl (by decide)) rfl ?_
  exact H.mono (fun v h2 q => by obtain ⟨r, rfl, q⟩ := q; exact q)
theorem b76_134 {x0 : Nat} {x1 : Int32} {x2 : Int32} {x3 : Int32} {x4 : Int32} {x5 : Option Value} {s0 : Nat} {s1 : Int32} {s2 : Int64} {h : iH} {Q : Option Value → iH → Prop} (H : (i_obj? h s0 6 ∧ i_C i_MT i_AT L xs 79 [.ref s0, .int s1, .long s2] h (fun v h1 => v = none ∧ i_P i_MT i_AT L xs 76 137 [some (.ref x0), some (.int x1), some (.int x2), some (.int x3), some (.int x4), x5] [] h1 0 0 Q))) : i_P i_MT i_AT L xs 76 134 [some (.ref x0), some (.int x1), some (.int x2), some (.int x3), some (.int x4), x5] [.long s2, .int s1, .ref s0] h 0 0 Q := by
  have hk := i_k76
  obtain ⟨ho, H⟩ := H
  refine g_call hk rfl rfl i_k79.1 ⟨rfl, rfl⟩ rfl (i_rcv_v ho rfl (by decide)) rfl ?_
  exact H.mono (fun v h2 q => by obtain ⟨rfl, q⟩ := q; exact q)
theorem b76_137 {x0 : Nat} {x1 : Int32} {x2 : Int32} {x3 : Int32} {x4 : Int32} {x5 : Option Value} {h : iH} {Q : Option Value → iH → Prop} (H : (i_obj? h x0 6 ∧ i_C i_MT i_AT L xs 69 [.ref x0, .int x3, .int (4 : Int32), .int x4] h (fun v h1 => ∃ r2 : Int64, v = some (.long r2) ∧ i_P i_MT i_AT L xs 76 147 [some (.ref x0), some (.int x1), some (.int x2), some (.int x3), some (.int x4), x5] [.long r2, .int (4 : Int32), .ref x0] h1 0 0 Q))) : i_P i_MT i_AT L xs 76 137 [some (.ref x0), some (.int x1), some (.int x2), some (.int x3), some (.int x4), x5] [] h 0 0 Q := by
  have hk := i_k76
  refine g_s1 (pc2 := 138) hk rfl rfl rfl rfl rfl ?_
  refine g_s1 (pc2 := 139) (st2 := [.int (4 : Int32), .ref x0]) hk rfl rfl rfl rfl rfl ?_
  refine g_s1 (pc2 := 140) hk rfl rfl rfl rfl rfl ?_
  refine g_s1 (pc2 := 141) hk rfl rfl rfl rfl rfl ?_
  refine g_s1 (pc2 := 142) (st2 := [.int (4 : Int32), .int x3, .ref x0, .int (4 : Int32), .ref x0]) hk rfl rfl rfl rfl rfl ?_
  refine g_s1 (pc2 := 144) hk rfl rfl rfl rfl rfl ?_
  obtain ⟨ho, H⟩ := H
  refine g_call hk rfl rfl i_k69.1 ⟨rfl, rfl⟩ rfl (i_rcv_v ho rfl (by decide)) rfl ?_
  exact H.mono (fun v h2 q => by obtain ⟨r, rfl, q⟩ := q; exact q)
theorem b76_147 {x0 : Nat} {x1 : Int32} {x2 : Int32} {x3 : Int32} {x4 : Int32} {x5 : Option Value} {s0 : Nat} {s1 : Int32} {s2 : Int64} {h : iH} {Q : Option Value → iH → Prop} (H : (i_obj? h s0 6 ∧ i_C i_MT i_AT L xs 79 [.ref s0, .int s1, .long s2] h (fun v h1 => v = none ∧ i_P i_MT i_AT L xs 76 150 [some (.ref x0), some (.int x1), some (.int x2), some (.int x3), some (.int x4), x5] [] h1 0 0 Q))) : i_P i_MT i_AT L xs 76 147 [some (.ref x0), some (.int x1), some (.int x2), some (.int x3), some (.int x4), x5] [.long s2, .int s1, .ref s0] h 0 0 Q := by
  have hk := i_k76
  obtain ⟨ho, H⟩ := H
  refine g_call hk rfl rfl i_k79.1 ⟨rfl, rfl⟩ rfl (i_rcv_v ho rfl (by decide)) rfl ?_
  exact H.mono (fun v h2 q => by obtain ⟨rfl, q⟩ := q; exact q)
theorem b76_150 {x0 : Nat} {x1 : Int32} {x2 : Int32} {x3 : Int32} {x4 : Int32} {x5 : Option Value} {h : iH} {Q : Option Value → iH → Prop} (H : (∃ v1 : Nat, i_fld h x0 6 11 = some (.ref v1) ∧ (∃ (n2 : Nat) (f3 : Nat → Int64), i_arJ h v1 = some (n2, f3) ∧ ¬ (x2 < 0 ∨ n2 ≤ x2.toNatClampNeg) ∧ (((lg_cmp (f3 x2.toNatClampNeg) (0 : Int64)) = 0 → (∃ v4 : Nat, i_fld h x0 6 10 = some (.ref v4) ∧ (∃ v5 : Nat, i_fld h x0 6 11 = some (.ref v5) ∧ ((∃ o, i_fld h x0 6 10 = some o) ∧ i_P i_MT i_AT L xs 76 178 [some (.ref x0), some (.int x1), some (.int x2), some (.int x3), some (.int x4), some (.ref v4)] [] (i_sf h x0 10 (.ref v5)) 0 0 Q)))) ∧ (¬ ((lg_cmp (f3 x2.toNatClampNeg) (0 : Int64)) = 0) → Q (some (.int x4)) h))))) : i_P i_MT i_AT L xs 76 150 [some (.ref x0), some (.int x1), some (.int x2), some (.int x3), some (.int x4), x5] [] h 0 0 Q := by
  have hk := i_k76
  refine g_s1 (pc2 := 151) hk rfl rfl rfl rfl rfl ?_
  obtain ⟨v1, ev1, H⟩ := H
  refine g_step (pc2 := 154) hk rfl rfl rfl (s_get ev1) ?_
  refine g_s1 (pc2 := 155) hk rfl rfl rfl rfl rfl ?_
  obtain ⟨n2, f3, ef3, hi, H⟩ := H
  refine g_step (pc2 := 156) hk rfl rfl rfl (s_lget ef3 hi) ?_
  refine g_s1 (pc2 := 157) (st2 := [.long (0 : Int64), .long (f3 x2.toNatClampNeg)]) hk rfl rfl rfl rfl rfl ?_
  refine g_s1 (pc2 := 158) hk rfl rfl rfl rfl rfl ?_
  refine g_if_eq hk rfl (fun hc => ?_) (fun hc => ?_)
  · have H := H.1 hc
    refine g_s1 (pc2 := 165) hk rfl rfl rfl rfl rfl ?_
    obtain ⟨v4, ev4, H⟩ := H
    refine g_step (pc2 := 168) hk rfl rfl rfl (s_get ev4) ?_
    refine g_s1 (pc2 := 170) (lo2 := [some (.ref x0), some (.int x1), some (.int x2), some (.int x3), some (.int x4), some (.ref v4)]) hk rfl rfl rfl rfl rfl ?_
    refine g_s1 (pc2 := 171) hk rfl rfl rfl rfl rfl ?_
    refine g_s1 (pc2 := 172) hk rfl rfl rfl rfl rfl ?_
    obtain ⟨v5, ev5, H⟩ := H
    refine g_step (pc2 := 175) hk rfl rfl rfl (s_get ev5) ?_
    obtain ⟨⟨o, ho⟩, H⟩ := H
    refine g_step (pc2 := 178) hk rfl rfl rfl (s_put ho rfl) ?_
    exact H
  · have H := H.2 hc
    refine g_s1 (pc2 := 163) hk rfl rfl rfl rfl rfl ?_
    exact g_ireturn hk rfl (by decide) (by decide) rfl H
theorem b76_178 {x0 : Nat} {x1 : Int32} {x2 : Int32} {x3 : Int32} {x4 : Int32} {x5 : Nat} {h : iH} {Q : Option Value → iH → Prop} (H : ((∃ o, i_fld h x0 6 11 = some o) ∧ i_P i_MT i_AT L xs 76 184 [some (.ref x0), some (.int x1), some (.int x2), some (.int x3), some (.int x4), some (.ref x5)] [] (i_sf h x0 11 (.ref x5)) 0 0 Q)) : i_P i_MT i_AT L xs 76 178 [some (.ref x0), some (.int x1), some (.int x2), some (.int x3), some (.int x4), some (.ref x5)] [] h 0 0 Q := by
  have hk := i_k76
  refine g_s1 (pc2 := 179) hk rfl rfl rfl rfl rfl ?_
  refine g_s1 (pc2 := 181) hk rfl rfl rfl rfl rfl ?_
  obtain ⟨⟨o, ho⟩, H⟩ := H
  refine g_step (pc2 := 184) hk rfl rfl rfl (s_put ho rfl) ?_
  exact H
theorem b76_184 {x0 : Nat} {x1 : Int32} {x2 : Int32} {x3 : Int32} {x4 : Int32} {x5 : Nat} {h : iH} {Q : Option Value → iH → Prop} (H : i_P i_MT i_AT L xs 76 76 [some (.ref x0), some (.int x1), some (.int x2), some (.int x3), some (.int (x4 + 1)), some (.ref x5)] [] h 0 0 Q) : i_P i_MT i_AT L xs 76 184 [some (.ref x0), some (.int x1), some (.int x2), some (.int x3), some (.int x4), some (.ref x5)] [] h 0 0 Q := by
  have hk := i_k76
  refine g_s1 (pc2 := 187) (lo2 := [some (.ref x0), some (.int x1), some (.int x2), some (.int x3), some (.int (x4 + 1)), some (.ref x5)]) hk rfl rfl rfl rfl rfl ?_
  refine g_s1 (pc2 := 76) hk rfl rfl rfl rfl rfl ?_
  exact H
/-! StillTown$Stealth.noteGains(II)V -/
theorem e77 {x0 : Nat} {x1 : Int32} {x2 : Int32} {h : iH} {Q : Option Value → iH → Prop} (H : i_P i_MT i_AT L xs 77 0 [some (.ref x0), some (.int x1), some (.int x2), none, none, none, none] [] h 0 0 Q) : i_C i_MT i_AT L xs 77 [.ref x0, .int x1, .int x2] h Q := ⟨i_m77, i_k77.1, Nat.le_of_ble_eq_true rfl, H⟩
theorem b77_0 {x0 : Nat} {x1 : Int32} {x2 : Int32} {x3 : Option Value} {x4 : Option Value} {x5 : Option Value} {x6 : Option Value} {h : iH} {Q : Option Value → iH → Prop} (H : (∃ v1 : Nat, i_fld h x0 6 12 = some (.ref v1) ∧ (i_C i_MT i_AT L xs 349 [.ref v1, .int (0 : Int32)] h (fun v h2 => v = none ∧ i_P i_MT i_AT L xs 77 8 [some (.ref x0), some (.int x1), some (.int x2), x3, x4, x5, x6] [] h2 0 0 Q)))) : i_P i_MT i_AT L xs 77 0 [some (.ref x0), some (.int x1), some (.int x2), x3, x4, x5, x6] [] h 0 0 Q := by
  have hk := i_k77
  refine g_s1 (pc2 := 1) hk rfl rfl rfl rfl rfl ?_
  obtain ⟨v1, ev1, H⟩ := H
  refine g_step (pc2 := 4) hk rfl rfl rfl (s_get ev1) ?_
  refine g_s1 (pc2 := 5) (st2 := [.int (0 : Int32), .ref v1]) hk rfl rfl rfl rfl rfl ?_
  refine g_call hk rfl rfl i_k349.1 ⟨rfl, rfl⟩ rfl (i_rcv_0 rfl) rfl ?_
  exact H.mono (fun v h2 q => by obtain ⟨rfl, q⟩ := q; exact q)
theorem b77_8 {x0 : Nat} {x1 : Int32} {x2 : Int32} {x3 : Option Value} {x4 : Option Value} {x5 : Option Value} {x6 : Option Value} {h : iH} {Q : Option Value → iH → Prop} (H : i_P i_MT i_AT L xs 77 10 [some (.ref x0), some (.int x1), some (.int x2), some (.int (0 : Int32)), x4, x5, x6] [] h 0 0 Q) : i_P i_MT i_AT L xs 77 8 [some (.ref x0), some (.int x1), some (.int x2), x3, x4, x5, x6] [] h 0 0 Q := by
  have hk := i_k77
  refine g_s1 (pc2 := 9) (st2 := [.int (0 : Int32)]) hk rfl rfl rfl rfl rfl ?_
  refine g_s1 (pc2 := 10) (lo2 := [some (.ref x0), some (.int x1), some (.int x2), some (.int (0 : Int32)), x4, x5, x6]) hk rfl rfl rfl rfl rfl ?_
  exact H
theorem b77_10 {x0 : Nat} {x1 : Int32} {x2 : Int32} {x3 : Int32} {x4 : Option Value} {x5 : Option Value} {x6 : Option Value} {h : iH} {Q : Option Value → iH → Prop} (H : (((4 : Int32) < x3 → Q none h) ∧ (¬ ((4 : Int32) < x3) → (∃ v1 : Nat, i_fld h x0 6 13 = some (.ref v1) ∧ (∃ (n2 : Nat) (f3 : Nat → Int64), i_arJ h v1 = some (n2, f3) ∧ ¬ (x3 < 0 ∨ n2 ≤ x3.toNatClampNeg) ∧ i_P i_MT i_AT L xs 77 22 [some (.ref x0), some (.int x1), some (.int x2), some (.int x3), x4, x5, x6] [] (i_siJ h v1 x3.toNatClampNeg (0 : Int64)) 0 0 Q))))) : i_P i_MT i_AT L xs 77 10 [some (.ref x0), some (.int x1), some (.int x2), some (.int x3), x4, x5, x6] [] h 0 0 Q := by
  have hk := i_k77
  refine g_s1 (pc2 := 11) hk rfl rfl rfl rfl rfl ?_
  refine g_s1 (pc2 := 12) (st2 := [.int (4 : Int32), .int x3]) hk rfl rfl rfl rfl rfl ?_
  refine g_icmp_gt hk rfl (fun hc => ?_) (fun hc => ?_)
  · have H := H.1 hc
    exact g_return hk rfl (by decide) (by decide) rfl H
  · have H := H.2 hc
    refine g_s1 (pc2 := 16) hk rfl rfl rfl rfl rfl ?_
    obtain ⟨v1, ev1, H⟩ := H
    refine g_step (pc2 := 19) hk rfl rfl rfl (s_get ev1) ?_
    refine g_s1 (pc2 := 20) hk rfl rfl rfl rfl rfl ?_
    refine g_s1 (pc2 := 21) (st2 := [.long (0 : Int64), .int x3, .ref v1]) hk rfl rfl rfl rfl rfl ?_
    obtain ⟨n2, f3, ef3, hi, H⟩ := H
    refine g_step (pc2 := 22) hk rfl rfl rfl (s_lput ef3 hi) ?_
    exact H
theorem b77_22 {x0 : Nat} {x1 : Int32} {x2 : Int32} {x3 : Int32} {x4 : Option Value} {x5 : Option Value} {x6 : Option Value} {h : iH} {Q : Option Value → iH → Prop} (H : i_P i_MT i_AT L xs 77 25 [some (.ref x0), some (.int x1), some (.int x2), some (.int x3), some (.int (0 : Int32)), x5, x6] [] h 0 0 Q) : i_P i_MT i_AT L xs 77 22 [some (.ref x0), some (.int x1), some (.int x2), some (.int x3), x4, x5, x6] [] h 0 0 Q := by
  have hk := i_k77
  refine g_s1 (pc2 := 23) (st2 := [.int (0 : Int32)]) hk rfl rfl rfl rfl rfl ?_
  refine g_s1 (pc2 := 25) (lo2 := [some (.ref x0), some (.int x1), some (.int x2), some (.int x3), some (.int (0 : Int32)), x5, x6]) hk rfl rfl rfl rfl rfl ?_
  exact H
theorem b77_25 {x0 : Nat} {x1 : Int32} {x2 : Int32} {x3 : Int32} {x4 : Int32} {x5 : Option Value} {x6 : Option Value} {h : iH} {Q : Option Value → iH → Prop} (H : (∃ v1 : Nat, i_fld h x0 6 0 = some (.ref v1) ∧ (∃ v2 : Nat, i_fld h v1 0 1 = some (.ref v2) ∧ (∃ v3 : Nat, i_fld h v2 8 12 = some (.ref v3) ∧ (∃ v4 : Int32, i_fld h v3 3 0 = some (.int v4) ∧ ((v4 ≤ x4 → i_P i_MT i_AT L xs 77 10 [some (.ref x0), some (.int x1), some (.int x2), some (.int (x3 + 1)), some (.int x4), x5, x6] [] h 0 0 Q) ∧ (¬ (v4 ≤ x4) → (i_C i_MT i_AT L xs 193 [.long (x1.toInt64), .int x4] h (fun v h5 => ∃ r6 : Int32, v = some (.int r6) ∧ i_P i_MT i_AT L xs 77 50 [some (.ref x0), some (.int x1), some (.int x2), some (.int x3), some (.int x4), x5, x6] [.int r6] h5 0 0 Q))))))))) : i_P i_MT i_AT L xs 77 25 [some (.ref x0), some (.int x1), some (.int x2), some (.int x3), some (.int x4), x5, x6] [] h 0 0 Q := by
  have hk := i_k77
  refine g_s1 (pc2 := 27) hk rfl rfl rfl rfl rfl ?_
  refine g_s1 (pc2 := 28) hk rfl rfl rfl rfl rfl ?_
  obtain ⟨v1, ev1, H⟩ := H
  refine g_step (pc2 := 31) hk rfl rfl rfl (s_get ev1) ?_
  obtain ⟨v2, ev2, H⟩ := H
  refine g_step (pc2 := 34) hk rfl rfl rfl (s_get ev2) ?_
  obtain ⟨v3, ev3, H⟩ := H
  refine g_step (pc2 := 37) hk rfl rfl rfl (s_get ev3) ?_
  obtain ⟨v4, ev4, H⟩ := H
  refine g_step (pc2 := 40) hk rfl rfl rfl (s_get ev4) ?_
  refine g_icmp_ge hk rfl (fun hc => ?_) (fun hc => ?_)
  · have H := H.1 hc
    refine g_s1 (pc2 := 100) (lo2 := [some (.ref x0), some (.int x1), some (.int x2), some (.int (x3 + 1)), some (.int x4), x5, x6]) hk rfl rfl rfl rfl rfl ?_
    refine g_s1 (pc2 := 10) hk rfl rfl rfl rfl rfl ?_
    exact H
  · have H := H.2 hc
    refine g_s1 (pc2 := 44) hk rfl rfl rfl rfl rfl ?_
    refine g_s1 (pc2 := 45) hk rfl rfl rfl rfl rfl ?_
    refine g_s1 (pc2 := 47) hk rfl rfl rfl rfl rfl ?_
    refine g_call hk rfl rfl i_k193.1 ⟨rfl, rfl⟩ rfl (i_rcv_0 rfl) rfl ?_
    exact H.mono (fun v h2 q => by obtain ⟨r, rfl, q⟩ := q; exact q)
theorem b77_50 {x0 : Nat} {x1 : Int32} {x2 : Int32} {x3 : Int32} {x4 : Int32} {x5 : Option Value} {x6 : Option Value} {s0 : Int32} {h : iH} {Q : Option Value → iH → Prop} (H : ((s0 = 0 → i_P i_MT i_AT L xs 77 91 [some (.ref x0), some (.int x1), some (.int x2), some (.int x3), some (.int x4), x5, x6] [] h 0 0 Q) ∧ (¬ (s0 = 0) → (∃ v1 : Nat, i_fld h x0 6 4 = some (.ref v1) ∧ (∃ (n2 : Nat) (f3 : Nat → Int64), i_arJ h v1 = some (n2, f3) ∧ ¬ (x3 < 0 ∨ n2 ≤ x3.toNatClampNeg) ∧ (i_obj? h x0 6 ∧ i_C i_MT i_AT L xs 68 [.ref x0, .long (f3 x3.toNatClampNeg), .int x4, .int x3, .int x2] h (fun v h4 => ∃ r5 : Int64, v = some (.long r5) ∧ i_P i_MT i_AT L xs 77 67 [some (.ref x0), some (.int x1), some (.int x2), some (.int x3), some (.int x4), x5, x6] [.long r5] h4 0 0 Q))))))) : i_P i_MT i_AT L xs 77 50 [some (.ref x0), some (.int x1), some (.int x2), some (.int x3), some (.int x4), x5, x6] [.int s0] h 0 0 Q := by
  have hk := i_k77
  refine g_if_eq hk rfl (fun hc => ?_) (fun hc => ?_)
  · have H := H.1 hc
    exact H
  · have H := H.2 hc
    refine g_s1 (pc2 := 54) hk rfl rfl rfl rfl rfl ?_
    refine g_s1 (pc2 := 55) hk rfl rfl rfl rfl rfl ?_
    obtain ⟨v1, ev1, H⟩ := H
    refine g_step (pc2 := 58) hk rfl rfl rfl (s_get ev1) ?_
    refine g_s1 (pc2 := 59) hk rfl rfl rfl rfl rfl ?_
    obtain ⟨n2, f3, ef3, hi, H⟩ := H
    refine g_step (pc2 := 60) hk rfl rfl rfl (s_lget ef3 hi) ?_
    refine g_s1 (pc2 := 62) hk rfl rfl rfl rfl rfl ?_
    refine g_s1 (pc2 := 63) hk rfl rfl rfl rfl rfl ?_
    refine g_s1 (pc2 := 64) hk rfl rfl rfl rfl rfl ?_
    obtain ⟨ho, H⟩ := H
    refine g_call hk rfl rfl i_k68.1 ⟨rfl, rfl⟩ rfl (i_rcv_v ho rfl (by decide)) rfl ?_
    exact H.mono (fun v h2 q => by obtain ⟨r, rfl, q⟩ := q; exact q)
theorem b77_67 {x0 : Nat} {x1 : Int32} {x2 : Int32} {x3 : Int32} {x4 : Int32} {x5 : Option Value} {x6 : Option Value} {s0 : Int64} {h : iH} {Q : Option Value → iH → Prop} (H : (∃ v1 : Nat, i_fld h x0 6 13 = some (.ref v1) ∧ (∃ (n2 : Nat) (f3 : Nat → Int64), i_arJ h v1 = some (n2, f3) ∧ ¬ (x3 < 0 ∨ n2 ≤ x3.toNatClampNeg) ∧ (∃ (n4 : Nat) (f5 : Nat → Int64), i_arJ h v1 = some (n4, f5) ∧ ¬ (x3 < 0 ∨ n4 ≤ x3.toNatClampNeg) ∧ i_P i_MT i_AT L xs 77 80 [some (.ref x0), some (.int x1), some (.int x2), some (.int x3), some (.int x4), some (.long s0), none] [] (i_siJ h v1 x3.toNatClampNeg ((f3 x3.toNatClampNeg) ||| s0)) 0 0 Q)))) : i_P i_MT i_AT L xs 77 67 [some (.ref x0), some (.int x1), some (.int x2), some (.int x3), some (.int x4), x5, x6] [.long s0] h 0 0 Q := by
  have hk := i_k77
  refine g_s1 (pc2 := 69) (lo2 := [some (.ref x0), some (.int x1), some (.int x2), some (.int x3), some (.int x4), some (.long s0), none]) hk rfl rfl rfl rfl rfl ?_
  refine g_s1 (pc2 := 70) hk rfl rfl rfl rfl rfl ?_
  obtain ⟨v1, ev1, H⟩ := H
  refine g_step (pc2 := 73) hk rfl rfl rfl (s_get ev1) ?_
  refine g_s1 (pc2 := 74) hk rfl rfl rfl rfl rfl ?_
  refine g_s1 (pc2 := 75) hk rfl rfl rfl rfl rfl ?_
  obtain ⟨n2, f3, ef3, hi, H⟩ := H
  refine g_step (pc2 := 76) hk rfl rfl rfl (s_lget ef3 hi) ?_
  refine g_s1 (pc2 := 78) hk rfl rfl rfl rfl rfl ?_
  refine g_s1 (pc2 := 79) hk rfl rfl rfl rfl rfl ?_
  obtain ⟨n4, f5, ef5, hi, H⟩ := H
  refine g_step (pc2 := 80) hk rfl rfl rfl (s_lput ef5 hi) ?_
  exact H
theorem b77_80 {x0 : Nat} {x1 : Int32} {x2 : Int32} {x3 : Int32} {x4 : Int32} {x5 : Int64} {h : iH} {Q : Option Value → iH → Prop} (H : (i_obj? h x0 6 ∧ i_C i_MT i_AT L xs 78 [.ref x0, .int x3, .int ((1 : Int32) <<< (x4 &&& 31)), .long x5] h (fun v h1 => v = none ∧ i_P i_MT i_AT L xs 77 91 [some (.ref x0), some (.int x1), some (.int x2), some (.int x3), some (.int x4), some (.long x5), none] [] h1 0 0 Q))) : i_P i_MT i_AT L xs 77 80 [some (.ref x0), some (.int x1), some (.int x2), some (.int x3), some (.int x4), some (.long x5), none] [] h 0 0 Q := by
  have hk := i_k77
  refine g_s1 (pc2 := 81) hk rfl rfl rfl rfl rfl ?_
  refine g_s1 (pc2 := 82) hk rfl rfl rfl rfl rfl ?_
  refine g_s1 (pc2 := 83) (st2 := [.int (1 : Int32), .int x3, .ref x0]) hk rfl rfl rfl rfl rfl ?_
  refine g_s1 (pc2 := 85) hk rfl rfl rfl rfl rfl ?_
  refine g_s1 (pc2 := 86) hk rfl rfl rfl rfl rfl ?_
  refine g_s1 (pc2 := 88) hk rfl rfl rfl rfl rfl ?_
  obtain ⟨ho, H⟩ := H
  refine g_call hk rfl rfl i_k78.1 ⟨rfl, rfl⟩ rfl (i_rcv_v ho rfl (by decide)) rfl ?_
  exact H.mono (fun v h2 q => by obtain ⟨rfl, q⟩ := q; exact q)
theorem b77_91 {x0 : Nat} {x1 : Int32} {x2 : Int32} {x3 : Int32} {x4 : Int32} {x5 : Option Value} {x6 : Option Value} {h : iH} {Q : Option Value → iH → Prop} (H : i_P i_MT i_AT L xs 77 25 [some (.ref x0), some (.int x1), some (.int x2), some (.int x3), some (.int (x4 + 1)), x5, x6] [] h 0 0 Q) : i_P i_MT i_AT L xs 77 91 [some (.ref x0), some (.int x1), some (.int x2), some (.int x3), some (.int x4), x5, x6] [] h 0 0 Q := by
  have hk := i_k77
  refine g_s1 (pc2 := 94) (lo2 := [some (.ref x0), some (.int x1), some (.int x2), some (.int x3), some (.int (x4 + 1)), x5, x6]) hk rfl rfl rfl rfl rfl ?_
  refine g_s1 (pc2 := 25) hk rfl rfl rfl rfl rfl ?_
  exact H
/-! StillTown$Stealth.noteGain(IIJ)V -/
theorem e78 {x0 : Nat} {x1 : Int32} {x2 : Int32} {x3 : Int64} {h : iH} {Q : Option Value → iH → Prop} (H : i_P i_MT i_AT L xs 78 0 [some (.ref x0), some (.int x1), some (.int x2), some (.long x3), none, none] [] h 0 0 Q) : i_C i_MT i_AT L xs 78 [.ref x0, .int x1, .int x2, .long x3] h Q := ⟨i_m78, i_k78.1, Nat.le_of_ble_eq_true rfl, H⟩
theorem b78_0 {x0 : Nat} {x1 : Int32} {x2 : Int32} {x3 : Int64} {x5 : Option Value} {h : iH} {Q : Option Value → iH → Prop} (H : i_P i_MT i_AT L xs 78 3 [some (.ref x0), some (.int x1), some (.int x2), some (.long x3), none, some (.int (0 : Int32))] [] h 0 0 Q) : i_P i_MT i_AT L xs 78 0 [some (.ref x0), some (.int x1), some (.int x2), some (.long x3), none, x5] [] h 0 0 Q := by
  have hk := i_k78
  refine g_s1 (pc2 := 1) (st2 := [.int (0 : Int32)]) hk rfl rfl rfl rfl rfl ?_
  refine g_s1 (pc2 := 3) (lo2 := [some (.ref x0), some (.int x1), some (.int x2), some (.long x3), none, some (.int (0 : Int32))]) hk rfl rfl rfl rfl rfl ?_
  exact H
theorem b78_3 {x0 : Nat} {x1 : Int32} {x2 : Int32} {x3 : Int64} {x5 : Int32} {h : iH} {Q : Option Value → iH → Prop} (H : (∃ v1 : Nat, i_fld h x0 6 0 = some (.ref v1) ∧ (∃ v2 : Nat, i_fld h v1 0 0 = some (.ref v2) ∧ (∃ v3 : Int32, i_fld h v2 2 2 = some (.int v3) ∧ ((v3 ≤ x5 → Q none h) ∧ (¬ (v3 ≤ x5) → (i_C i_MT i_AT L xs 193 [.long x3, .int x5] h (fun v h4 => ∃ r5 : Int32, v = some (.int r5) ∧ i_P i_MT i_AT L xs 78 24 [some (.ref x0), some (.int x1), some (.int x2), some (.long x3), none, some (.int x5)] [.int r5] h4 0 0 Q)))))))) : i_P i_MT i_AT L xs 78 3 [some (.ref x0), some (.int x1), some (.int x2), some (.long x3), none, some (.int x5)] [] h 0 0 Q := by
  have hk := i_k78
  refine g_s1 (pc2 := 5) hk rfl rfl rfl rfl rfl ?_
  refine g_s1 (pc2 := 6) hk rfl rfl rfl rfl rfl ?_
  obtain ⟨v1, ev1, H⟩ := H
  refine g_step (pc2 := 9) hk rfl rfl rfl (s_get ev1) ?_
  obtain ⟨v2, ev2, H⟩ := H
  refine g_step (pc2 := 12) hk rfl rfl rfl (s_get ev2) ?_
  obtain ⟨v3, ev3, H⟩ := H
  refine g_step (pc2 := 15) hk rfl rfl rfl (s_get ev3) ?_
  refine g_icmp_ge hk rfl (fun hc => ?_) (fun hc => ?_)
  · have H := H.1 hc
    exact g_return hk rfl (by decide) (by decide) rfl H
  · have H := H.2 hc
    refine g_s1 (pc2 := 19) hk rfl rfl rfl rfl rfl ?_
    refine g_s1 (pc2 := 21) hk rfl rfl rfl rfl rfl ?_
    refine g_call hk rfl rfl i_k193.1 ⟨rfl, rfl⟩ rfl (i_rcv_0 rfl) rfl ?_
    exact H.mono (fun v h2 q => by obtain ⟨r, rfl, q⟩ := q; exact q)
theorem b78_24 {x0 : Nat} {x1 : Int32} {x2 : Int32} {x3 : Int64} {x5 : Int32} {s0 : Int32} {h : iH} {Q : Option Value → iH → Prop} (H : ((s0 = 0 → i_P i_MT i_AT L xs 78 43 [some (.ref x0), some (.int x1), some (.int x2), some (.long x3), none, some (.int x5)] [] h 0 0 Q) ∧ (¬ (s0 = 0) → (∃ v1 : Nat, i_fld h x0 6 12 = some (.ref v1) ∧ (∃ (n2 : Nat) (f3 : Nat → Int32), i_arI h 0 v1 = some (n2, f3) ∧ ¬ (((x1 * (48 : Int32)) + x5) < 0 ∨ n2 ≤ ((x1 * (48 : Int32)) + x5).toNatClampNeg) ∧ (∃ (n4 : Nat) (f5 : Nat → Int32), i_arI h 0 v1 = some (n4, f5) ∧ ¬ (((x1 * (48 : Int32)) + x5) < 0 ∨ n4 ≤ ((x1 * (48 : Int32)) + x5).toNatClampNeg) ∧ i_P i_MT i_AT L xs 78 43 [some (.ref x0), some (.int x1), some (.int x2), some (.long x3), none, some (.int x5)] [] (i_siI h v1 ((x1 * (48 : Int32)) + x5).toNatClampNeg ((f3 ((x1 * (48 : Int32)) + x5).toNatClampNeg) ||| x2)) 0 0 Q)))))) : i_P i_MT i_AT L xs 78 24 [some (.ref x0), some (.int x1), some (.int x2), some (.long x3), none, some (.int x5)] [.int s0] h 0 0 Q := by
  have hk := i_k78
  refine g_if_eq hk rfl (fun hc => ?_) (fun hc => ?_)
  · have H := H.1 hc
    exact H
  · have H := H.2 hc
    refine g_s1 (pc2 := 28) hk rfl rfl rfl rfl rfl ?_
    obtain ⟨v1, ev1, H⟩ := H
    refine g_step (pc2 := 31) hk rfl rfl rfl (s_get ev1) ?_
    refine g_s1 (pc2 := 32) hk rfl rfl rfl rfl rfl ?_
    refine g_s1 (pc2 := 34) (st2 := [.int (48 : Int32), .int x1, .ref v1]) hk rfl rfl rfl rfl rfl ?_
    refine g_s1 (pc2 := 35) hk rfl rfl rfl rfl rfl ?_
    refine g_s1 (pc2 := 37) hk rfl rfl rfl rfl rfl ?_
    refine g_s1 (pc2 := 38) hk rfl rfl rfl rfl rfl ?_
    refine g_s1 (pc2 := 39) hk rfl rfl rfl rfl rfl ?_
    obtain ⟨n2, f3, ef3, hi, H⟩ := H
    refine g_step (pc2 := 40) hk rfl rfl rfl (s_aget (L := L) (xs := xs) ef3 hi) ?_
    refine g_s1 (pc2 := 41) hk rfl rfl rfl rfl rfl ?_
    refine g_s1 (pc2 := 42) hk rfl rfl rfl rfl rfl ?_
    obtain ⟨n4, f5, ef5, hi, H⟩ := H
    refine g_step (pc2 := 43) hk rfl rfl rfl (s_aput ef5 hi) ?_
    exact H
theorem b78_43 {x0 : Nat} {x1 : Int32} {x2 : Int32} {x3 : Int64} {x5 : Int32} {h : iH} {Q : Option Value → iH → Prop} (H : i_P i_MT i_AT L xs 78 3 [some (.ref x0), some (.int x1), some (.int x2), some (.long x3), none, some (.int (x5 + 1))] [] h 0 0 Q) : i_P i_MT i_AT L xs 78 43 [some (.ref x0), some (.int x1), some (.int x2), some (.long x3), none, some (.int x5)] [] h 0 0 Q := by
  have hk := i_k78
  refine g_s1 (pc2 := 46) (lo2 := [some (.ref x0), some (.int x1), some (.int x2), some (.long x3), none, some (.int (x5 + 1))]) hk rfl rfl rfl rfl rfl ?_
  refine g_s1 (pc2 := 3) hk rfl rfl rfl rfl rfl ?_
  exact H
/-! StillTown$Stealth.spread(IJ)V -/
theorem e79 {x0 : Nat} {x1 : Int32} {x2 : Int64} {h : iH} {Q : Option Value → iH → Prop} (H : i_P i_MT i_AT L xs 79 0 [some (.ref x0), some (.int x1), some (.long x2), none, none, none, none, none] [] h 0 0 Q) : i_C i_MT i_AT L xs 79 [.ref x0, .int x1, .long x2] h Q := ⟨i_m79, i_k79.1, Nat.le_of_ble_eq_true rfl, H⟩
theorem b79_0 {x0 : Nat} {x1 : Int32} {x2 : Int64} {x4 : Option Value} {x5 : Option Value} {x6 : Option Value} {x7 : Option Value} {h : iH} {Q : Option Value → iH → Prop} (H : i_P i_MT i_AT L xs 79 3 [some (.ref x0), some (.int x1), some (.long x2), none, some (.int (0 : Int32)), x5, x6, x7] [] h 0 0 Q) : i_P i_MT i_AT L xs 79 0 [some (.ref x0), some (.int x1), some (.long x2), none, x4, x5, x6, x7] [] h 0 0 Q := by
  have hk := i_k79
  refine g_s1 (pc2 := 1) (st2 := [.int (0 : Int32)]) hk rfl rfl rfl rfl rfl ?_
  refine g_s1 (pc2 := 3) (lo2 := [some (.ref x0), some (.int x1), some (.long x2), none, some (.int (0 : Int32)), x5, x6, x7]) hk rfl rfl rfl rfl rfl ?_
  exact H
theorem b79_3 {x0 : Nat} {x1 : Int32} {x2 : Int64} {x4 : Int32} {x5 : Option Value} {x6 : Option Value} {x7 : Option Value} {h : iH} {Q : Option Value → iH → Prop} (H : (((256 : Int32) ≤ x4 → Q none h) ∧ (¬ ((256 : Int32) ≤ x4) → (∃ v1 : Nat, i_fld h x0 6 10 = some (.ref v1) ∧ (∃ (n2 : Nat) (f3 : Nat → Int64), i_arJ h v1 = some (n2, f3) ∧ ¬ (x4 < 0 ∨ n2 ≤ x4.toNatClampNeg) ∧ (((lg_cmp (f3 x4.toNatClampNeg) (0 : Int64)) = 0 → i_P i_MT i_AT L xs 79 114 [some (.ref x0), some (.int x1), some (.long x2), none, some (.int x4), x5, x6, x7] [] h 0 0 Q) ∧ (¬ ((lg_cmp (f3 x4.toNatClampNeg) (0 : Int64)) = 0) → ((x1 = 0 → i_P i_MT i_AT L xs 79 32 [some (.ref x0), some (.int x1), some (.long x2), none, some (.int x4), x5, x6, x7] [] h 0 0 Q) ∧ (¬ (x1 = 0) → ((¬ x1 = (4 : Int32) → i_P i_MT i_AT L xs 79 37 [some (.ref x0), some (.int x1), some (.long x2), none, some (.int x4), x5, x6, x7] [.int (0 : Int32)] h 0 0 Q) ∧ (¬ (¬ x1 = (4 : Int32)) → i_P i_MT i_AT L xs 79 32 [some (.ref x0), some (.int x1), some (.long x2), none, some (.int x4), x5, x6, x7] [] h 0 0 Q))))))))))) : i_P i_MT i_AT L xs 79 3 [some (.ref x0), some (.int x1), some (.long x2), none, some (.int x4), x5, x6, x7] [] h 0 0 Q := by
  have hk := i_k79
  refine g_s1 (pc2 := 5) hk rfl rfl rfl rfl rfl ?_
  refine g_s1 (pc2 := 8) (st2 := [.int (256 : Int32), .int x4]) hk rfl rfl rfl rfl rfl ?_
  refine g_icmp_ge hk rfl (fun hc => ?_) (fun hc => ?_)
  · have H := H.1 hc
    exact g_return hk rfl (by decide) (by decide) rfl H
  · have H := H.2 hc
    refine g_s1 (pc2 := 12) hk rfl rfl rfl rfl rfl ?_
    obtain ⟨v1, ev1, H⟩ := H
    refine g_step (pc2 := 15) hk rfl rfl rfl (s_get ev1) ?_
    refine g_s1 (pc2 := 17) hk rfl rfl rfl rfl rfl ?_
    obtain ⟨n2, f3, ef3, hi, H⟩ := H
    refine g_step (pc2 := 18) hk rfl rfl rfl (s_lget ef3 hi) ?_
    refine g_s1 (pc2 := 19) (st2 := [.long (0 : Int64), .long (f3 x4.toNatClampNeg)]) hk rfl rfl rfl rfl rfl ?_
    refine g_s1 (pc2 := 20) hk rfl rfl rfl rfl rfl ?_
    refine g_if_eq hk rfl (fun hc => ?_) (fun hc => ?_)
    · have H := H.1 hc
      exact H
    · have H := H.2 hc
      refine g_s1 (pc2 := 24) hk rfl rfl rfl rfl rfl ?_
      refine g_if_eq hk rfl (fun hc => ?_) (fun hc => ?_)
      · have H := H.1 hc
        exact H
      · have H := H.2 hc
        refine g_s1 (pc2 := 28) hk rfl rfl rfl rfl rfl ?_
        refine g_s1 (pc2 := 29) (st2 := [.int (4 : Int32), .int x1]) hk rfl rfl rfl rfl rfl ?_
        refine g_icmp_ne hk rfl (fun hc => ?_) (fun hc => ?_)
        · have H := H.1 hc
          refine g_s1 (pc2 := 37) (st2 := [.int (0 : Int32)]) hk rfl rfl rfl rfl rfl ?_
          exact H
        · have H := H.2 hc
          exact H
theorem b79_32 {x0 : Nat} {x1 : Int32} {x2 : Int64} {x4 : Int32} {x5 : Option Value} {x6 : Option Value} {x7 : Option Value} {h : iH} {Q : Option Value → iH → Prop} (H : i_P i_MT i_AT L xs 79 37 [some (.ref x0), some (.int x1), some (.long x2), none, some (.int x4), x5, x6, x7] [.int (1 : Int32)] h 0 0 Q) : i_P i_MT i_AT L xs 79 32 [some (.ref x0), some (.int x1), some (.long x2), none, some (.int x4), x5, x6, x7] [] h 0 0 Q := by
  have hk := i_k79
  refine g_s1 (pc2 := 33) (st2 := [.int (1 : Int32)]) hk rfl rfl rfl rfl rfl ?_
  refine g_s1 (pc2 := 37) hk rfl rfl rfl rfl rfl ?_
  exact H
theorem b79_37 {x0 : Nat} {x1 : Int32} {x2 : Int64} {x4 : Int32} {x5 : Option Value} {x6 : Option Value} {x7 : Option Value} {s0 : Int32} {h : iH} {Q : Option Value → iH → Prop} (H : ((s0 = 0 → (∃ v1 : Nat, i_fld h x0 6 0 = some (.ref v1) ∧ (∃ v2 : Nat, i_fld h v1 0 0 = some (.ref v2) ∧ (∃ v3 : Nat, i_fld h x0 6 10 = some (.ref v3) ∧ (∃ (n4 : Nat) (f5 : Nat → Int64), i_arJ h v3 = some (n4, f5) ∧ ¬ (x4 < 0 ∨ n4 ≤ x4.toNatClampNeg) ∧ (i_obj? h v2 2 ∧ i_C i_MT i_AT L xs 23 [.ref v2, .long (f5 x4.toNatClampNeg)] h (fun v h6 => ∃ r7 : Int64, v = some (.long r7) ∧ i_P i_MT i_AT L xs 79 71 [some (.ref x0), some (.int x1), some (.long x2), none, some (.int x4), some (.int s0), x6, x7] [.long r7] h6 0 0 Q))))))) ∧ (¬ (s0 = 0) → (∃ v8 : Nat, i_fld h x0 6 10 = some (.ref v8) ∧ (∃ (n9 : Nat) (f10 : Nat → Int64), i_arJ h v8 = some (n9, f10) ∧ ¬ (x4 < 0 ∨ n9 ≤ x4.toNatClampNeg) ∧ i_P i_MT i_AT L xs 79 71 [some (.ref x0), some (.int x1), some (.long x2), none, some (.int x4), some (.int s0), x6, x7] [.long (f10 x4.toNatClampNeg)] h 0 0 Q))))) : i_P i_MT i_AT L xs 79 37 [some (.ref x0), some (.int x1), some (.long x2), none, some (.int x4), x5, x6, x7] [.int s0] h 0 0 Q := by
  have hk := i_k79
  refine g_s1 (pc2 := 39) (lo2 := [some (.ref x0), some (.int x1), some (.long x2), none, some (.int x4), some (.int s0), x6, x7]) hk rfl rfl rfl rfl rfl ?_
  refine g_s1 (pc2 := 41) hk rfl rfl rfl rfl rfl ?_
  refine g_if_eq hk rfl (fun hc => ?_) (fun hc => ?_)
  · have H := H.1 hc
    refine g_s1 (pc2 := 55) hk rfl rfl rfl rfl rfl ?_
    obtain ⟨v1, ev1, H⟩ := H
    refine g_step (pc2 := 58) hk rfl rfl rfl (s_get ev1) ?_
    obtain ⟨v2, ev2, H⟩ := H
    refine g_step (pc2 := 61) hk rfl rfl rfl (s_get ev2) ?_
    refine g_s1 (pc2 := 62) hk rfl rfl rfl rfl rfl ?_
    obtain ⟨v3, ev3, H⟩ := H
    refine g_step (pc2 := 65) hk rfl rfl rfl (s_get ev3) ?_
    refine g_s1 (pc2 := 67) hk rfl rfl rfl rfl rfl ?_
    obtain ⟨n4, f5, ef5, hi, H⟩ := H
    refine g_step (pc2 := 68) hk rfl rfl rfl (s_lget ef5 hi) ?_
    obtain ⟨ho, H⟩ := H
    refine g_call hk rfl rfl i_k23.1 ⟨rfl, rfl⟩ rfl (i_rcv_v ho rfl (by decide)) rfl ?_
    exact H.mono (fun v h2 q => by obtain ⟨r, rfl, q⟩ := q; exact q)
  · have H := H.2 hc
    refine g_s1 (pc2 := 45) hk rfl rfl rfl rfl rfl ?_
    obtain ⟨v8, ev8, H⟩ := H
    refine g_step (pc2 := 48) hk rfl rfl rfl (s_get ev8) ?_
    refine g_s1 (pc2 := 50) hk rfl rfl rfl rfl rfl ?_
    obtain ⟨n9, f10, ef10, hi, H⟩ := H
    refine g_step (pc2 := 51) hk rfl rfl rfl (s_lget ef10 hi) ?_
    refine g_s1 (pc2 := 71) hk rfl rfl rfl rfl rfl ?_
    exact H
theorem b79_71 {x0 : Nat} {x1 : Int32} {x2 : Int64} {x4 : Int32} {x5 : Int32} {x6 : Option Value} {x7 : Option Value} {s0 : Int64} {h : iH} {Q : Option Value → iH → Prop} (H : (∃ v1 : Nat, i_fld h x0 6 11 = some (.ref v1) ∧ (∃ (n2 : Nat) (f3 : Nat → Int64), i_arJ h v1 = some (n2, f3) ∧ ¬ (x4 < 0 ∨ n2 ≤ x4.toNatClampNeg) ∧ (∃ v4 : Nat, i_fld h x0 6 13 = some (.ref v4) ∧ (∃ (n5 : Nat) (f6 : Nat → Int64), i_arJ h v4 = some (n5, f6) ∧ ¬ (x1 < 0 ∨ n5 ≤ x1.toNatClampNeg) ∧ (∃ (n7 : Nat) (f8 : Nat → Int64), i_arJ h v1 = some (n7, f8) ∧ ¬ (x4 < 0 ∨ n7 ≤ x4.toNatClampNeg) ∧ i_P i_MT i_AT L xs 79 98 [some (.ref x0), some (.int x1), some (.long x2), none, some (.int x4), some (.int x5), some (.long (s0 &&& x2)), none] [] (i_siJ h v1 x4.toNatClampNeg ((f3 x4.toNatClampNeg) ||| ((s0 &&& x2) &&& ((f6 x1.toNatClampNeg) ^^^ (-1 : Int64))))) 0 0 Q)))))) : i_P i_MT i_AT L xs 79 71 [some (.ref x0), some (.int x1), some (.long x2), none, some (.int x4), some (.int x5), x6, x7] [.long s0] h 0 0 Q := by
  have hk := i_k79
  refine g_s1 (pc2 := 72) hk rfl rfl rfl rfl rfl ?_
  refine g_s1 (pc2 := 73) hk rfl rfl rfl rfl rfl ?_
  refine g_s1 (pc2 := 75) (lo2 := [some (.ref x0), some (.int x1), some (.long x2), none, some (.int x4), some (.int x5), some (.long (s0 &&& x2)), none]) hk rfl rfl rfl rfl rfl ?_
  refine g_s1 (pc2 := 76) hk rfl rfl rfl rfl rfl ?_
  obtain ⟨v1, ev1, H⟩ := H
  refine g_step (pc2 := 79) hk rfl rfl rfl (s_get ev1) ?_
  refine g_s1 (pc2 := 81) hk rfl rfl rfl rfl rfl ?_
  refine g_s1 (pc2 := 82) hk rfl rfl rfl rfl rfl ?_
  obtain ⟨n2, f3, ef3, hi, H⟩ := H
  refine g_step (pc2 := 83) hk rfl rfl rfl (s_lget ef3 hi) ?_
  refine g_s1 (pc2 := 85) hk rfl rfl rfl rfl rfl ?_
  refine g_s1 (pc2 := 86) hk rfl rfl rfl rfl rfl ?_
  obtain ⟨v4, ev4, H⟩ := H
  refine g_step (pc2 := 89) hk rfl rfl rfl (s_get ev4) ?_
  refine g_s1 (pc2 := 90) hk rfl rfl rfl rfl rfl ?_
  obtain ⟨n5, f6, ef6, hi, H⟩ := H
  refine g_step (pc2 := 91) hk rfl rfl rfl (s_lget ef6 hi) ?_
  refine g_step (pc2 := 94) (st2 := [.long (-1 : Int64), .long (f6 x1.toNatClampNeg), .long (s0 &&& x2), .long (f3 x4.toNatClampNeg), .int x4, .ref v1]) hk rfl rfl rfl rfl ?_
  refine g_s1 (pc2 := 95) hk rfl rfl rfl rfl rfl ?_
  refine g_s1 (pc2 := 96) hk rfl rfl rfl rfl rfl ?_
  refine g_s1 (pc2 := 97) hk rfl rfl rfl rfl rfl ?_
  obtain ⟨n7, f8, ef8, hi, H⟩ := H
  refine g_step (pc2 := 98) hk rfl rfl rfl (s_lput ef8 hi) ?_
  exact H
theorem b79_98 {x0 : Nat} {x1 : Int32} {x2 : Int64} {x4 : Int32} {x5 : Int32} {x6 : Int64} {h : iH} {Q : Option Value → iH → Prop} (H : (∃ v1 : Nat, i_fld h x0 6 13 = some (.ref v1) ∧ (∃ (n2 : Nat) (f3 : Nat → Int64), i_arJ h v1 = some (n2, f3) ∧ ¬ (x1 < 0 ∨ n2 ≤ x1.toNatClampNeg) ∧ (i_obj? h x0 6 ∧ i_C i_MT i_AT L xs 80 [.ref x0, .int x1, .int x4, .long (x6 &&& (f3 x1.toNatClampNeg))] h (fun v h4 => v = none ∧ i_P i_MT i_AT L xs 79 114 [some (.ref x0), some (.int x1), some (.long x2), none, some (.int x4), some (.int x5), some (.long x6), none] [] h4 0 0 Q))))) : i_P i_MT i_AT L xs 79 98 [some (.ref x0), some (.int x1), some (.long x2), none, some (.int x4), some (.int x5), some (.long x6), none] [] h 0 0 Q := by
  have hk := i_k79
  refine g_s1 (pc2 := 99) hk rfl rfl rfl rfl rfl ?_
  refine g_s1 (pc2 := 100) hk rfl rfl rfl rfl rfl ?_
  refine g_s1 (pc2 := 102) hk rfl rfl rfl rfl rfl ?_
  refine g_s1 (pc2 := 104) hk rfl rfl rfl rfl rfl ?_
  refine g_s1 (pc2 := 105) hk rfl rfl rfl rfl rfl ?_
  obtain ⟨v1, ev1, H⟩ := H
  refine g_step (pc2 := 108) hk rfl rfl rfl (s_get ev1) ?_
  refine g_s1 (pc2 := 109) hk rfl rfl rfl rfl rfl ?_
  obtain ⟨n2, f3, ef3, hi, H⟩ := H
  refine g_step (pc2 := 110) hk rfl rfl rfl (s_lget ef3 hi) ?_
  refine g_s1 (pc2 := 111) hk rfl rfl rfl rfl rfl ?_
  obtain ⟨ho, H⟩ := H
  refine g_call hk rfl rfl i_k80.1 ⟨rfl, rfl⟩ rfl (i_rcv_v ho rfl (by decide)) rfl ?_
  exact H.mono (fun v h2 q => by obtain ⟨rfl, q⟩ := q; exact q)
theorem b79_114 {x0 : Nat} {x1 : Int32} {x2 : Int64} {x4 : Int32} {x5 : Option Value} {x6 : Option Value} {x7 : Option Value} {h : iH} {Q : Option Value → iH → Prop} (H : i_P i_MT i_AT L xs 79 3 [some (.ref x0), some (.int x1), some (.long x2), none, some (.int (x4 + 1)), x5, x6, x7] [] h 0 0 Q) : i_P i_MT i_AT L xs 79 114 [some (.ref x0), some (.int x1), some (.long x2), none, some (.int x4), x5, x6, x7] [] h 0 0 Q := by
  have hk := i_k79
  refine g_s1 (pc2 := 117) (lo2 := [some (.ref x0), some (.int x1), some (.long x2), none, some (.int (x4 + 1)), x5, x6, x7]) hk rfl rfl rfl rfl rfl ?_
  refine g_s1 (pc2 := 3) hk rfl rfl rfl rfl rfl ?_
  exact H
/-! StillTown$Stealth.spreadGains(IIJ)V -/
theorem e80 {x0 : Nat} {x1 : Int32} {x2 : Int32} {x3 : Int64} {h : iH} {Q : Option Value → iH → Prop} (H : i_P i_MT i_AT L xs 80 0 [some (.ref x0), some (.int x1), some (.int x2), some (.long x3), none, none] [] h 0 0 Q) : i_C i_MT i_AT L xs 80 [.ref x0, .int x1, .int x2, .long x3] h Q := ⟨i_m80, i_k80.1, Nat.le_of_ble_eq_true rfl, H⟩
theorem b80_0 {x0 : Nat} {x1 : Int32} {x2 : Int32} {x3 : Int64} {x5 : Option Value} {h : iH} {Q : Option Value → iH → Prop} (H : i_P i_MT i_AT L xs 80 3 [some (.ref x0), some (.int x1), some (.int x2), some (.long x3), none, some (.int (0 : Int32))] [] h 0 0 Q) : i_P i_MT i_AT L xs 80 0 [some (.ref x0), some (.int x1), some (.int x2), some (.long x3), none, x5] [] h 0 0 Q := by
  have hk := i_k80
  refine g_s1 (pc2 := 1) (st2 := [.int (0 : Int32)]) hk rfl rfl rfl rfl rfl ?_
  refine g_s1 (pc2 := 3) (lo2 := [some (.ref x0), some (.int x1), some (.int x2), some (.long x3), none, some (.int (0 : Int32))]) hk rfl rfl rfl rfl rfl ?_
  exact H
theorem b80_3 {x0 : Nat} {x1 : Int32} {x2 : Int32} {x3 : Int64} {x5 : Int32} {h : iH} {Q : Option Value → iH → Prop} (H : (∃ v1 : Nat, i_fld h x0 6 0 = some (.ref v1) ∧ (∃ v2 : Nat, i_fld h v1 0 0 = some (.ref v2) ∧ (∃ v3 : Int32, i_fld h v2 2 2 = some (.int v3) ∧ ((v3 ≤ x5 → i_P i_MT i_AT L xs 80 65 [some (.ref x0), some (.int x1), some (.int x2), some (.long x3), none, some (.int x5)] [] h 0 0 Q) ∧ (¬ (v3 ≤ x5) → (((lg_cmp x3 (0 : Int64)) = 0 → i_P i_MT i_AT L xs 80 65 [some (.ref x0), some (.int x1), some (.int x2), some (.long x3), none, some (.int x5)] [] h 0 0 Q) ∧ (¬ ((lg_cmp x3 (0 : Int64)) = 0) → (i_C i_MT i_AT L xs 193 [.long x3, .int x5] h (fun v h4 => ∃ r5 : Int32, v = some (.int r5) ∧ i_P i_MT i_AT L xs 80 30 [some (.ref x0), some (.int x1), some (.int x2), some (.long x3), none, some (.int x5)] [.int r5] h4 0 0 Q)))))))))) : i_P i_MT i_AT L xs 80 3 [some (.ref x0), some (.int x1), some (.int x2), some (.long x3), none, some (.int x5)] [] h 0 0 Q := by
  have hk := i_k80
  refine g_s1 (pc2 := 5) hk rfl rfl rfl rfl rfl ?_
  refine g_s1 (pc2 := 6) hk rfl rfl rfl rfl rfl ?_
  obtain ⟨v1, ev1, H⟩ := H
  refine g_step (pc2 := 9) hk rfl rfl rfl (s_get ev1) ?_
  obtain ⟨v2, ev2, H⟩ := H
  refine g_step (pc2 := 12) hk rfl rfl rfl (s_get ev2) ?_
  obtain ⟨v3, ev3, H⟩ := H
  refine g_step (pc2 := 15) hk rfl rfl rfl (s_get ev3) ?_
  refine g_icmp_ge hk rfl (fun hc => ?_) (fun hc => ?_)
  · have H := H.1 hc
    exact H
  · have H := H.2 hc
    refine g_s1 (pc2 := 19) hk rfl rfl rfl rfl rfl ?_
    refine g_s1 (pc2 := 20) (st2 := [.long (0 : Int64), .long x3]) hk rfl rfl rfl rfl rfl ?_
    refine g_s1 (pc2 := 21) hk rfl rfl rfl rfl rfl ?_
    refine g_if_eq hk rfl (fun hc => ?_) (fun hc => ?_)
    · have H := H.1 hc
      exact H
    · have H := H.2 hc
      refine g_s1 (pc2 := 25) hk rfl rfl rfl rfl rfl ?_
      refine g_s1 (pc2 := 27) hk rfl rfl rfl rfl rfl ?_
      refine g_call hk rfl rfl i_k193.1 ⟨rfl, rfl⟩ rfl (i_rcv_0 rfl) rfl ?_
      exact H.mono (fun v h2 q => by obtain ⟨r, rfl, q⟩ := q; exact q)
theorem b80_30 {x0 : Nat} {x1 : Int32} {x2 : Int32} {x3 : Int64} {x5 : Int32} {s0 : Int32} {h : iH} {Q : Option Value → iH → Prop} (H : ((s0 = 0 → i_P i_MT i_AT L xs 80 59 [some (.ref x0), some (.int x1), some (.int x2), some (.long x3), none, some (.int x5)] [] h 0 0 Q) ∧ (¬ (s0 = 0) → (∃ v1 : Nat, i_fld h x0 6 11 = some (.ref v1) ∧ (∃ v2 : Nat, i_fld h x0 6 12 = some (.ref v2) ∧ (∃ (n3 : Nat) (f4 : Nat → Int32), i_arI h 0 v2 = some (n3, f4) ∧ ¬ (((x1 * (48 : Int32)) + x5) < 0 ∨ n3 ≤ ((x1 * (48 : Int32)) + x5).toNatClampNeg) ∧ (∃ (n5 : Nat) (f6 : Nat → Int64), i_arJ h v1 = some (n5, f6) ∧ ¬ ((x2 ||| (f4 ((x1 * (48 : Int32)) + x5).toNatClampNeg)) < 0 ∨ n5 ≤ (x2 ||| (f4 ((x1 * (48 : Int32)) + x5).toNatClampNeg)).toNatClampNeg) ∧ (∃ (n7 : Nat) (f8 : Nat → Int64), i_arJ h v1 = some (n7, f8) ∧ ¬ ((x2 ||| (f4 ((x1 * (48 : Int32)) + x5).toNatClampNeg)) < 0 ∨ n7 ≤ (x2 ||| (f4 ((x1 * (48 : Int32)) + x5).toNatClampNeg)).toNatClampNeg) ∧ i_P i_MT i_AT L xs 80 59 [some (.ref x0), some (.int x1), some (.int x2), some (.long x3), none, some (.int x5)] [] (i_siJ h v1 (x2 ||| (f4 ((x1 * (48 : Int32)) + x5).toNatClampNeg)).toNatClampNeg ((f6 (x2 ||| (f4 ((x1 * (48 : Int32)) + x5).toNatClampNeg)).toNatClampNeg) ||| ((1 : Int64) <<< (x5.toInt64 &&& 63)))) 0 0 Q)))))))) : i_P i_MT i_AT L xs 80 30 [some (.ref x0), some (.int x1), some (.int x2), some (.long x3), none, some (.int x5)] [.int s0] h 0 0 Q := by
  have hk := i_k80
  refine g_if_eq hk rfl (fun hc => ?_) (fun hc => ?_)
  · have H := H.1 hc
    exact H
  · have H := H.2 hc
    refine g_s1 (pc2 := 34) hk rfl rfl rfl rfl rfl ?_
    obtain ⟨v1, ev1, H⟩ := H
    refine g_step (pc2 := 37) hk rfl rfl rfl (s_get ev1) ?_
    refine g_s1 (pc2 := 38) hk rfl rfl rfl rfl rfl ?_
    refine g_s1 (pc2 := 39) hk rfl rfl rfl rfl rfl ?_
    obtain ⟨v2, ev2, H⟩ := H
    refine g_step (pc2 := 42) hk rfl rfl rfl (s_get ev2) ?_
    refine g_s1 (pc2 := 43) hk rfl rfl rfl rfl rfl ?_
    refine g_s1 (pc2 := 45) (st2 := [.int (48 : Int32), .int x1, .ref v2, .int x2, .ref v1]) hk rfl rfl rfl rfl rfl ?_
    refine g_s1 (pc2 := 46) hk rfl rfl rfl rfl rfl ?_
    refine g_s1 (pc2 := 48) hk rfl rfl rfl rfl rfl ?_
    refine g_s1 (pc2 := 49) hk rfl rfl rfl rfl rfl ?_
    obtain ⟨n3, f4, ef4, hi, H⟩ := H
    refine g_step (pc2 := 50) hk rfl rfl rfl (s_aget (L := L) (xs := xs) ef4 hi) ?_
    refine g_s1 (pc2 := 51) hk rfl rfl rfl rfl rfl ?_
    refine g_s1 (pc2 := 52) hk rfl rfl rfl rfl rfl ?_
    obtain ⟨n5, f6, ef6, hi, H⟩ := H
    refine g_step (pc2 := 53) hk rfl rfl rfl (s_lget ef6 hi) ?_
    refine g_s1 (pc2 := 54) (st2 := [.long (1 : Int64), .long (f6 (x2 ||| (f4 ((x1 * (48 : Int32)) + x5).toNatClampNeg)).toNatClampNeg), .int (x2 ||| (f4 ((x1 * (48 : Int32)) + x5).toNatClampNeg)), .ref v1]) hk rfl rfl rfl rfl rfl ?_
    refine g_s1 (pc2 := 56) hk rfl rfl rfl rfl rfl ?_
    refine g_s1 (pc2 := 57) hk rfl rfl rfl rfl rfl ?_
    refine g_s1 (pc2 := 58) hk rfl rfl rfl rfl rfl ?_
    obtain ⟨n7, f8, ef8, hi, H⟩ := H
    refine g_step (pc2 := 59) hk rfl rfl rfl (s_lput ef8 hi) ?_
    exact H
theorem b80_59 {x0 : Nat} {x1 : Int32} {x2 : Int32} {x3 : Int64} {x5 : Int32} {h : iH} {Q : Option Value → iH → Prop} (H : i_P i_MT i_AT L xs 80 3 [some (.ref x0), some (.int x1), some (.int x2), some (.long x3), none, some (.int (x5 + 1))] [] h 0 0 Q) : i_P i_MT i_AT L xs 80 59 [some (.ref x0), some (.int x1), some (.int x2), some (.long x3), none, some (.int x5)] [] h 0 0 Q := by
  have hk := i_k80
  refine g_s1 (pc2 := 62) (lo2 := [some (.ref x0), some (.int x1), some (.int x2), some (.long x3), none, some (.int (x5 + 1))]) hk rfl rfl rfl rfl rfl ?_
  refine g_s1 (pc2 := 3) hk rfl rfl rfl rfl rfl ?_
  exact H
theorem b80_65 {x0 : Nat} {x1 : Int32} {x2 : Int32} {x3 : Int64} {x5 : Int32} {h : iH} {Q : Option Value → iH → Prop} (H : Q none h) : i_P i_MT i_AT L xs 80 65 [some (.ref x0), some (.int x1), some (.int x2), some (.long x3), none, some (.int x5)] [] h 0 0 Q := by
  have hk := i_k80
  exact g_return hk rfl (by decide) (by decide) rfl H
/-! StillTown$Stealth.longestFollowed(III)I -/
theorem e81 {x0 : Nat} {x1 : Int32} {x2 : Int32} {x3 : Int32} {h : iH} {Q : Option Value → iH → Prop} (H : i_P i_MT i_AT L xs 81 0 [some (.ref x0), some (.int x1), some (.int x2), some (.int x3), none, none, none] [] h 0 0 Q) : i_C i_MT i_AT L xs 81 [.ref x0, .int x1, .int x2, .int x3] h Q := ⟨i_m81, i_k81.1, Nat.le_of_ble_eq_true rfl, H⟩
theorem b81_0 {x0 : Nat} {x1 : Int32} {x2 : Int32} {x3 : Int32} {x4 : Option Value} {x5 : Option Value} {x6 : Option Value} {h : iH} {Q : Option Value → iH → Prop} (H : (i_obj? h x0 6 ∧ i_C i_MT i_AT L xs 67 [.ref x0] h (fun v h1 => v = none ∧ i_P i_MT i_AT L xs 81 4 [some (.ref x0), some (.int x1), some (.int x2), some (.int x3), x4, x5, x6] [] h1 0 0 Q))) : i_P i_MT i_AT L xs 81 0 [some (.ref x0), some (.int x1), some (.int x2), some (.int x3), x4, x5, x6] [] h 0 0 Q := by
  have hk := i_k81
  refine g_s1 (pc2 := 1) hk rfl rfl rfl rfl rfl ?_
  obtain ⟨ho, H⟩ := H
  refine g_call hk rfl rfl i_k67.1 ⟨rfl, rfl⟩ rfl (i_rcv_v ho rfl (by decide)) rfl ?_
  exact H.mono (fun v h2 q => by obtain ⟨rfl, q⟩ := q; exact q)
theorem b81_4 {x0 : Nat} {x1 : Int32} {x2 : Int32} {x3 : Int32} {x4 : Option Value} {x5 : Option Value} {x6 : Option Value} {h : iH} {Q : Option Value → iH → Prop} (H : (∃ v1 : Nat, i_fld h x0 6 0 = some (.ref v1) ∧ (∃ v2 : Nat, i_fld h v1 0 1 = some (.ref v2) ∧ (∃ v3 : Nat, i_fld h v2 8 12 = some (.ref v3) ∧ (∃ v4 : Nat, i_fld h v3 3 2 = some (.ref v4) ∧ (∃ (n5 : Nat) (f6 : Nat → Int32), i_arI h 0 v4 = some (n5, f6) ∧ ¬ (x1 < 0 ∨ n5 ≤ x1.toNatClampNeg) ∧ i_P i_MT i_AT L xs 81 26 [some (.ref x0), some (.int x1), some (.int x2), some (.int x3), some (.long ((1 : Int64) <<< ((f6 x1.toNatClampNeg).toInt64 &&& 63))), none, some (.int (1 : Int32))] [] h 0 0 Q)))))) : i_P i_MT i_AT L xs 81 4 [some (.ref x0), some (.int x1), some (.int x2), some (.int x3), x4, x5, x6] [] h 0 0 Q := by
  have hk := i_k81
  refine g_s1 (pc2 := 5) (st2 := [.long (1 : Int64)]) hk rfl rfl rfl rfl rfl ?_
  refine g_s1 (pc2 := 6) hk rfl rfl rfl rfl rfl ?_
  obtain ⟨v1, ev1, H⟩ := H
  refine g_step (pc2 := 9) hk rfl rfl rfl (s_get ev1) ?_
  obtain ⟨v2, ev2, H⟩ := H
  refine g_step (pc2 := 12) hk rfl rfl rfl (s_get ev2) ?_
  obtain ⟨v3, ev3, H⟩ := H
  refine g_step (pc2 := 15) hk rfl rfl rfl (s_get ev3) ?_
  obtain ⟨v4, ev4, H⟩ := H
  refine g_step (pc2 := 18) hk rfl rfl rfl (s_get ev4) ?_
  refine g_s1 (pc2 := 19) hk rfl rfl rfl rfl rfl ?_
  obtain ⟨n5, f6, ef6, hi, H⟩ := H
  refine g_step (pc2 := 20) hk rfl rfl rfl (s_aget (L := L) (xs := xs) ef6 hi) ?_
  refine g_s1 (pc2 := 21) hk rfl rfl rfl rfl rfl ?_
  refine g_s1 (pc2 := 23) (lo2 := [some (.ref x0), some (.int x1), some (.int x2), some (.int x3), some (.long ((1 : Int64) <<< ((f6 x1.toNatClampNeg).toInt64 &&& 63))), none, x6]) hk rfl rfl rfl rfl rfl ?_
  refine g_s1 (pc2 := 24) (st2 := [.int (1 : Int32)]) hk rfl rfl rfl rfl rfl ?_
  refine g_s1 (pc2 := 26) (lo2 := [some (.ref x0), some (.int x1), some (.int x2), some (.int x3), some (.long ((1 : Int64) <<< ((f6 x1.toNatClampNeg).toInt64 &&& 63))), none, some (.int (1 : Int32))]) hk rfl rfl rfl rfl rfl ?_
  exact H
theorem b81_26 {x0 : Nat} {x1 : Int32} {x2 : Int32} {x3 : Int32} {x4 : Int64} {x6 : Int32} {h : iH} {Q : Option Value → iH → Prop} (H : (((60 : Int32) < x6 → Q (some (.int (60 : Int32))) h) ∧ (¬ ((60 : Int32) < x6) → (∃ v1 : Nat, i_fld h x0 6 7 = some (.ref v1) ∧ (i_obj? h x0 6 ∧ i_C i_MT i_AT L xs 69 [.ref x0, .int ((1 : Int32) <<< (x2 &&& 31)), .int (2 : Int32), .int x6] h (fun v h2 => ∃ r3 : Int64, v = some (.long r3) ∧ i_P i_MT i_AT L xs 81 49 [some (.ref x0), some (.int x1), some (.int x2), some (.int x3), some (.long x4), none, some (.int x6)] [.long r3, .int x6, .ref v1] h2 0 0 Q)))))) : i_P i_MT i_AT L xs 81 26 [some (.ref x0), some (.int x1), some (.int x2), some (.int x3), some (.long x4), none, some (.int x6)] [] h 0 0 Q := by
  have hk := i_k81
  refine g_s1 (pc2 := 28) hk rfl rfl rfl rfl rfl ?_
  refine g_s1 (pc2 := 30) (st2 := [.int (60 : Int32), .int x6]) hk rfl rfl rfl rfl rfl ?_
  refine g_icmp_gt hk rfl (fun hc => ?_) (fun hc => ?_)
  · have H := H.1 hc
    refine g_s1 (pc2 := 119) (st2 := [.int (60 : Int32)]) hk rfl rfl rfl rfl rfl ?_
    exact g_ireturn hk rfl (by decide) (by decide) rfl H
  · have H := H.2 hc
    refine g_s1 (pc2 := 34) hk rfl rfl rfl rfl rfl ?_
    obtain ⟨v1, ev1, H⟩ := H
    refine g_step (pc2 := 37) hk rfl rfl rfl (s_get ev1) ?_
    refine g_s1 (pc2 := 39) hk rfl rfl rfl rfl rfl ?_
    refine g_s1 (pc2 := 40) hk rfl rfl rfl rfl rfl ?_
    refine g_s1 (pc2 := 41) (st2 := [.int (1 : Int32), .ref x0, .int x6, .ref v1]) hk rfl rfl rfl rfl rfl ?_
    refine g_s1 (pc2 := 42) hk rfl rfl rfl rfl rfl ?_
    refine g_s1 (pc2 := 43) hk rfl rfl rfl rfl rfl ?_
    refine g_s1 (pc2 := 44) (st2 := [.int (2 : Int32), .int ((1 : Int32) <<< (x2 &&& 31)), .ref x0, .int x6, .ref v1]) hk rfl rfl rfl rfl rfl ?_
    refine g_s1 (pc2 := 46) hk rfl rfl rfl rfl rfl ?_
    obtain ⟨ho, H⟩ := H
    refine g_call hk rfl rfl i_k69.1 ⟨rfl, rfl⟩ rfl (i_rcv_v ho rfl (by decide)) rfl ?_
    exact H.mono (fun v h2 q => by obtain ⟨r, rfl, q⟩ := q; exact q)
theorem b81_49 {x0 : Nat} {x1 : Int32} {x2 : Int32} {x3 : Int32} {x4 : Int64} {x6 : Int32} {s0 : Nat} {s1 : Int32} {s2 : Int64} {h : iH} {Q : Option Value → iH → Prop} (H : (∃ (n1 : Nat) (f2 : Nat → Int64), i_arJ h s0 = some (n1, f2) ∧ ¬ (s1 < 0 ∨ n1 ≤ s1.toNatClampNeg) ∧ i_P i_MT i_AT L xs 81 50 [some (.ref x0), some (.int x1), some (.int x2), some (.int x3), some (.long x4), none, some (.int x6)] [] (i_siJ h s0 s1.toNatClampNeg s2) 0 0 Q)) : i_P i_MT i_AT L xs 81 49 [some (.ref x0), some (.int x1), some (.int x2), some (.int x3), some (.long x4), none, some (.int x6)] [.long s2, .int s1, .ref s0] h 0 0 Q := by
  have hk := i_k81
  obtain ⟨n1, f2, ef2, hi, H⟩ := H
  refine g_step (pc2 := 50) hk rfl rfl rfl (s_lput ef2 hi) ?_
  exact H
theorem b81_50 {x0 : Nat} {x1 : Int32} {x2 : Int32} {x3 : Int32} {x4 : Int64} {x6 : Int32} {h : iH} {Q : Option Value → iH → Prop} (H : (∃ v1 : Nat, i_fld h x0 6 6 = some (.ref v1) ∧ (i_obj? h x0 6 ∧ i_C i_MT i_AT L xs 69 [.ref x0, .int ((1 : Int32) <<< (x2 &&& 31)), .int (0 : Int32), .int x6] h (fun v h2 => ∃ r3 : Int64, v = some (.long r3) ∧ i_P i_MT i_AT L xs 81 66 [some (.ref x0), some (.int x1), some (.int x2), some (.int x3), some (.long x4), none, some (.int x6)] [.long r3, .int x6, .ref v1] h2 0 0 Q)))) : i_P i_MT i_AT L xs 81 50 [some (.ref x0), some (.int x1), some (.int x2), some (.int x3), some (.long x4), none, some (.int x6)] [] h 0 0 Q := by
  have hk := i_k81
  refine g_s1 (pc2 := 51) hk rfl rfl rfl rfl rfl ?_
  obtain ⟨v1, ev1, H⟩ := H
  refine g_step (pc2 := 54) hk rfl rfl rfl (s_get ev1) ?_
  refine g_s1 (pc2 := 56) hk rfl rfl rfl rfl rfl ?_
  refine g_s1 (pc2 := 57) hk rfl rfl rfl rfl rfl ?_
  refine g_s1 (pc2 := 58) (st2 := [.int (1 : Int32), .ref x0, .int x6, .ref v1]) hk rfl rfl rfl rfl rfl ?_
  refine g_s1 (pc2 := 59) hk rfl rfl rfl rfl rfl ?_
  refine g_s1 (pc2 := 60) hk rfl rfl rfl rfl rfl ?_
  refine g_s1 (pc2 := 61) (st2 := [.int (0 : Int32), .int ((1 : Int32) <<< (x2 &&& 31)), .ref x0, .int x6, .ref v1]) hk rfl rfl rfl rfl rfl ?_
  refine g_s1 (pc2 := 63) hk rfl rfl rfl rfl rfl ?_
  obtain ⟨ho, H⟩ := H
  refine g_call hk rfl rfl i_k69.1 ⟨rfl, rfl⟩ rfl (i_rcv_v ho rfl (by decide)) rfl ?_
  exact H.mono (fun v h2 q => by obtain ⟨r, rfl, q⟩ := q; exact q)
theorem b81_66 {x0 : Nat} {x1 : Int32} {x2 : Int32} {x3 : Int32} {x4 : Int64} {x6 : Int32} {s0 : Nat} {s1 : Int32} {s2 : Int64} {h : iH} {Q : Option Value → iH → Prop} (H : (∃ (n1 : Nat) (f2 : Nat → Int64), i_arJ h s0 = some (n1, f2) ∧ ¬ (s1 < 0 ∨ n1 ≤ s1.toNatClampNeg) ∧ i_P i_MT i_AT L xs 81 67 [some (.ref x0), some (.int x1), some (.int x2), some (.int x3), some (.long x4), none, some (.int x6)] [] (i_siJ h s0 s1.toNatClampNeg s2) 0 0 Q)) : i_P i_MT i_AT L xs 81 66 [some (.ref x0), some (.int x1), some (.int x2), some (.int x3), some (.long x4), none, some (.int x6)] [.long s2, .int s1, .ref s0] h 0 0 Q := by
  have hk := i_k81
  obtain ⟨n1, f2, ef2, hi, H⟩ := H
  refine g_step (pc2 := 67) hk rfl rfl rfl (s_lput ef2 hi) ?_
  exact H
theorem b81_67 {x0 : Nat} {x1 : Int32} {x2 : Int32} {x3 : Int32} {x4 : Int64} {x6 : Int32} {h : iH} {Q : Option Value → iH → Prop} (H : (i_obj? h x0 6 ∧ i_C i_MT i_AT L xs 71 [.ref x0, .long x4, .int x6] h (fun v h1 => ∃ r2 : Int64, v = some (.long r2) ∧ i_P i_MT i_AT L xs 81 75 [some (.ref x0), some (.int x1), some (.int x2), some (.int x3), some (.long x4), none, some (.int x6)] [.long r2] h1 0 0 Q))) : i_P i_MT i_AT L xs 81 67 [some (.ref x0), some (.int x1), some (.int x2), some (.int x3), some (.long x4), none, some (.int x6)] [] h 0 0 Q := by
  have hk := i_k81
  refine g_s1 (pc2 := 68) hk rfl rfl rfl rfl rfl ?_
  refine g_s1 (pc2 := 70) hk rfl rfl rfl rfl rfl ?_
  refine g_s1 (pc2 := 72) hk rfl rfl rfl rfl rfl ?_
  obtain ⟨ho, H⟩ := H
  refine g_call hk rfl rfl i_k71.1 ⟨rfl, rfl⟩ rfl (i_rcv_v ho rfl (by decide)) rfl ?_
  exact H.mono (fun v h2 q => by obtain ⟨r, rfl, q⟩ := q; exact q)
theorem b81_75 {x0 : Nat} {x1 : Int32} {x2 : Int32} {x3 : Int32} {x4 : Int64} {x6 : Int32} {s0 : Int64} {h : iH} {Q : Option Value → iH → Prop} (H : (∃ v1 : Nat, i_fld h x0 6 0 = some (.ref v1) ∧ (∃ v2 : Nat, i_fld h v1 0 0 = some (.ref v2) ∧ (∃ v3 : Nat, i_fld h x0 6 0 = some (.ref v3) ∧ (i_obj? h v3 0 ∧ i_C i_MT i_AT L xs 4 [.ref v3, .int x2, .int x6] h (fun v h4 => ∃ r5 : Int32, v = some (.int r5) ∧ i_P i_MT i_AT L xs 81 92 [some (.ref x0), some (.int x1), some (.int x2), some (.int x3), some (.long x4), none, some (.int x6)] [.int r5, .ref v2, .long s0] h4 0 0 Q)))))) : i_P i_MT i_AT L xs 81 75 [some (.ref x0), some (.int x1), some (.int x2), some (.int x3), some (.long x4), none, some (.int x6)] [.long s0] h 0 0 Q := by
  have hk := i_k81
  refine g_s1 (pc2 := 76) hk rfl rfl rfl rfl rfl ?_
  obtain ⟨v1, ev1, H⟩ := H
  refine g_step (pc2 := 79) hk rfl rfl rfl (s_get ev1) ?_
  obtain ⟨v2, ev2, H⟩ := H
  refine g_step (pc2 := 82) hk rfl rfl rfl (s_get ev2) ?_
  refine g_s1 (pc2 := 83) hk rfl rfl rfl rfl rfl ?_
  obtain ⟨v3, ev3, H⟩ := H
  refine g_step (pc2 := 86) hk rfl rfl rfl (s_get ev3) ?_
  refine g_s1 (pc2 := 87) hk rfl rfl rfl rfl rfl ?_
  refine g_s1 (pc2 := 89) hk rfl rfl rfl rfl rfl ?_
  obtain ⟨ho, H⟩ := H
  refine g_call hk rfl rfl i_k4.1 ⟨rfl, rfl⟩ rfl (i_rcv_v ho rfl (by decide)) rfl ?_
  exact H.mono (fun v h2 q => by obtain ⟨r, rfl, q⟩ := q; exact q)
theorem b81_92 {x0 : Nat} {x1 : Int32} {x2 : Int32} {x3 : Int32} {x4 : Int64} {x6 : Int32} {s0 : Int64} {s1 : Nat} {s2 : Int32} {h : iH} {Q : Option Value → iH → Prop} (H : (i_obj? h s1 2 ∧ i_C i_MT i_AT L xs 28 [.ref s1, .int s2, .int x3] h (fun v h1 => ∃ r2 : Int64, v = some (.long r2) ∧ i_P i_MT i_AT L xs 81 96 [some (.ref x0), some (.int x1), some (.int x2), some (.int x3), some (.long x4), none, some (.int x6)] [.long r2, .long s0] h1 0 0 Q))) : i_P i_MT i_AT L xs 81 92 [some (.ref x0), some (.int x1), some (.int x2), some (.int x3), some (.long x4), none, some (.int x6)] [.int s2, .ref s1, .long s0] h 0 0 Q := by
  have hk := i_k81
  refine g_s1 (pc2 := 93) hk rfl rfl rfl rfl rfl ?_
  obtain ⟨ho, H⟩ := H
  refine g_call hk rfl rfl i_k28.1 ⟨rfl, rfl⟩ rfl (i_rcv_v ho rfl (by decide)) rfl ?_
  exact H.mono (fun v h2 q => by obtain ⟨r, rfl, q⟩ := q; exact q)
theorem b81_96 {x0 : Nat} {x1 : Int32} {x2 : Int32} {x3 : Int32} {x4 : Int64} {x6 : Int32} {s0 : Int64} {s1 : Int64} {h : iH} {Q : Option Value → iH → Prop} (H : ((¬ (lg_cmp (s0 &&& s1) (0 : Int64)) = 0 → i_P i_MT i_AT L xs 81 26 [some (.ref x0), some (.int x1), some (.int x2), some (.int x3), some (.long (s0 &&& s1)), none, some (.int (x6 + 1))] [] h 0 0 Q) ∧ (¬ (¬ (lg_cmp (s0 &&& s1) (0 : Int64)) = 0) → Q (some (.int (x6 - (1 : Int32)))) h))) : i_P i_MT i_AT L xs 81 96 [some (.ref x0), some (.int x1), some (.int x2), some (.int x3), some (.long x4), none, some (.int x6)] [.long s1, .long s0] h 0 0 Q := by
  have hk := i_k81
  refine g_s1 (pc2 := 97) hk rfl rfl rfl rfl rfl ?_
  refine g_s1 (pc2 := 99) (lo2 := [some (.ref x0), some (.int x1), some (.int x2), some (.int x3), some (.long (s0 &&& s1)), none, some (.int x6)]) hk rfl rfl rfl rfl rfl ?_
  refine g_s1 (pc2 := 101) hk rfl rfl rfl rfl rfl ?_
  refine g_s1 (pc2 := 102) (st2 := [.long (0 : Int64), .long (s0 &&& s1)]) hk rfl rfl rfl rfl rfl ?_
  refine g_s1 (pc2 := 103) hk rfl rfl rfl rfl rfl ?_
  refine g_if_ne hk rfl (fun hc => ?_) (fun hc => ?_)
  · have H := H.1 hc
    refine g_s1 (pc2 := 114) (lo2 := [some (.ref x0), some (.int x1), some (.int x2), some (.int x3), some (.long (s0 &&& s1)), none, some (.int (x6 + 1))]) hk rfl rfl rfl rfl rfl ?_
    refine g_s1 (pc2 := 26) hk rfl rfl rfl rfl rfl ?_
    exact H
  · have H := H.2 hc
    refine g_s1 (pc2 := 108) hk rfl rfl rfl rfl rfl ?_
    refine g_s1 (pc2 := 109) (st2 := [.int (1 : Int32), .int x6]) hk rfl rfl rfl rfl rfl ?_
    refine g_s1 (pc2 := 110) hk rfl rfl rfl rfl rfl ?_
    exact g_ireturn hk rfl (by decide) (by decide) rfl H
/-! StillTown$Tape.append(I)V -/
theorem e83 {x0 : Nat} {x1 : Int32} {h : iH} {Q : Option Value → iH → Prop} (H : i_P i_MT i_AT L xs 83 0 [some (.ref x0), some (.int x1), none] [] h 0 0 Q) : i_C i_MT i_AT L xs 83 [.ref x0, .int x1] h Q := ⟨i_m83, i_k83.1, Nat.le_of_ble_eq_true rfl, H⟩
theorem b83_0 {x0 : Nat} {x1 : Int32} {x2 : Option Value} {h : iH} {Q : Option Value → iH → Prop} (H : i_P i_MT i_AT L xs 83 3 [some (.ref x0), some (.int x1), some (.int (24 : Int32))] [] h 0 0 Q) : i_P i_MT i_AT L xs 83 0 [some (.ref x0), some (.int x1), x2] [] h 0 0 Q := by
  have hk := i_k83
  refine g_s1 (pc2 := 2) (st2 := [.int (24 : Int32)]) hk rfl rfl rfl rfl rfl ?_
  refine g_s1 (pc2 := 3) (lo2 := [some (.ref x0), some (.int x1), some (.int (24 : Int32))]) hk rfl rfl rfl rfl rfl ?_
  exact H
theorem b83_3 {x0 : Nat} {x1 : Int32} {x2 : Int32} {h : iH} {Q : Option Value → iH → Prop} (H : ((x2 < 0 → i_P i_MT i_AT L xs 83 46 [some (.ref x0), some (.int x1), some (.int x2)] [] h 0 0 Q) ∧ (¬ (x2 < 0) → (∃ v1 : Int32, i_fld h x0 7 3 = some (.int v1) ∧ (((900 : Int32) ≤ v1 → i_P i_MT i_AT L xs 83 46 [some (.ref x0), some (.int x1), some (.int x2)] [] h 0 0 Q) ∧ (¬ ((900 : Int32) ≤ v1) → (∃ v2 : Nat, i_fld h x0 7 0 = some (.ref v2) ∧ (∃ v3 : Int32, i_fld h x0 7 3 = some (.int v3) ∧ ((∃ o, i_fld h x0 7 3 = some o) ∧ i_P i_MT i_AT L xs 83 32 [some (.ref x0), some (.int x1), some (.int x2)] [.int v3, .ref v2] (i_sf h x0 3 (.int (v3 + (1 : Int32)))) 0 0 Q))))))))) : i_P i_MT i_AT L xs 83 3 [some (.ref x0), some (.int x1), some (.int x2)] [] h 0 0 Q := by
  have hk := i_k83
  refine g_s1 (pc2 := 4) hk rfl rfl rfl rfl rfl ?_
  refine g_if_lt hk rfl (fun hc => ?_) (fun hc => ?_)
  · have H := H.1 hc
    exact H
  · have H := H.2 hc
    refine g_s1 (pc2 := 8) hk rfl rfl rfl rfl rfl ?_
    obtain ⟨v1, ev1, H⟩ := H
    refine g_step (pc2 := 11) hk rfl rfl rfl (s_get ev1) ?_
    refine g_s1 (pc2 := 14) (st2 := [.int (900 : Int32), .int v1]) hk rfl rfl rfl rfl rfl ?_
    refine g_icmp_ge hk rfl (fun hc => ?_) (fun hc => ?_)
    · have H := H.1 hc
      exact H
    · have H := H.2 hc
      refine g_s1 (pc2 := 18) hk rfl rfl rfl rfl rfl ?_
      obtain ⟨v2, ev2, H⟩ := H
      refine g_step (pc2 := 21) hk rfl rfl rfl (s_get ev2) ?_
      refine g_s1 (pc2 := 22) hk rfl rfl rfl rfl rfl ?_
      refine g_s1 (pc2 := 23) hk rfl rfl rfl rfl rfl ?_
      obtain ⟨v3, ev3, H⟩ := H
      refine g_step (pc2 := 26) hk rfl rfl rfl (s_get ev3) ?_
      refine g_s1 (pc2 := 27) hk rfl rfl rfl rfl rfl ?_
      refine g_s1 (pc2 := 28) (st2 := [.int (1 : Int32), .int v3, .ref x0, .int v3, .ref v2]) hk rfl rfl rfl rfl rfl ?_
      refine g_s1 (pc2 := 29) hk rfl rfl rfl rfl rfl ?_
      obtain ⟨⟨o, ho⟩, H⟩ := H
      refine g_step (pc2 := 32) hk rfl rfl rfl (s_put ho rfl) ?_
      exact H
theorem b83_32 {x0 : Nat} {x1 : Int32} {x2 : Int32} {s0 : Nat} {s1 : Int32} {h : iH} {Q : Option Value → iH → Prop} (H : (∃ (n1 : Nat) (f2 : Nat → Int32), i_arI h 0 s0 = some (n1, f2) ∧ ¬ (s1 < 0 ∨ n1 ≤ s1.toNatClampNeg) ∧ i_P i_MT i_AT L xs 83 40 [some (.ref x0), some (.int x1), some (.int x2)] [] (i_siI h s0 s1.toNatClampNeg (((x1.toUInt32 >>> (x2.toUInt32 &&& Int32.toUInt32 31)).toInt32) &&& (255 : Int32))) 0 0 Q)) : i_P i_MT i_AT L xs 83 32 [some (.ref x0), some (.int x1), some (.int x2)] [.int s1, .ref s0] h 0 0 Q := by
  have hk := i_k83
  refine g_s1 (pc2 := 33) hk rfl rfl rfl rfl rfl ?_
  refine g_s1 (pc2 := 34) hk rfl rfl rfl rfl rfl ?_
  refine g_s1 (pc2 := 35) hk rfl rfl rfl rfl rfl ?_
  refine g_s1 (pc2 := 38) (st2 := [.int (255 : Int32), .int ((x1.toUInt32 >>> (x2.toUInt32 &&& Int32.toUInt32 31)).toInt32), .int s1, .ref s0]) hk rfl rfl rfl rfl rfl ?_
  refine g_s1 (pc2 := 39) hk rfl rfl rfl rfl rfl ?_
  obtain ⟨n1, f2, ef2, hi, H⟩ := H
  refine g_step (pc2 := 40) hk rfl rfl rfl (s_aput ef2 hi) ?_
  exact H
theorem b83_40 {x0 : Nat} {x1 : Int32} {x2 : Int32} {h : iH} {Q : Option Value → iH → Prop} (H : i_P i_MT i_AT L xs 83 3 [some (.ref x0), some (.int x1), some (.int (x2 + (-8)))] [] h 0 0 Q) : i_P i_MT i_AT L xs 83 40 [some (.ref x0), some (.int x1), some (.int x2)] [] h 0 0 Q := by
  have hk := i_k83
  refine g_s1 (pc2 := 43) (lo2 := [some (.ref x0), some (.int x1), some (.int (x2 + (-8)))]) hk rfl rfl rfl rfl rfl ?_
  refine g_s1 (pc2 := 3) hk rfl rfl rfl rfl rfl ?_
  exact H
theorem b83_46 {x0 : Nat} {x1 : Int32} {x2 : Int32} {h : iH} {Q : Option Value → iH → Prop} (H : Q none h) : i_P i_MT i_AT L xs 83 46 [some (.ref x0), some (.int x1), some (.int x2)] [] h 0 0 Q := by
  have hk := i_k83
  exact g_return hk rfl (by decide) (by decide) rfl H
/-! StillTown$Tape.begin(I)V -/
theorem e84 {x0 : Nat} {x1 : Int32} {h : iH} {Q : Option Value → iH → Prop} (H : i_P i_MT i_AT L xs 84 0 [some (.ref x0), some (.int x1)] [] h 0 0 Q) : i_C i_MT i_AT L xs 84 [.ref x0, .int x1] h Q := ⟨i_m84, i_k84.1, Nat.le_of_ble_eq_true rfl, H⟩
theorem b84_0 {x0 : Nat} {x1 : Int32} {h : iH} {Q : Option Value → iH → Prop} (H : ((∃ o, i_fld h x0 7 4 = some o) ∧ i_P i_MT i_AT L xs 84 5 [some (.ref x0), some (.int x1)] [] (i_sf h x0 4 (.int x1)) 0 0 Q)) : i_P i_MT i_AT L xs 84 0 [some (.ref x0), some (.int x1)] [] h 0 0 Q := by
  have hk := i_k84
  refine g_s1 (pc2 := 1) hk rfl rfl rfl rfl rfl ?_
  refine g_s1 (pc2 := 2) hk rfl rfl rfl rfl rfl ?_
  obtain ⟨⟨o, ho⟩, H⟩ := H
  refine g_step (pc2 := 5) hk rfl rfl rfl (s_put ho rfl) ?_
  exact H
theorem b84_5 {x0 : Nat} {x1 : Int32} {h : iH} {Q : Option Value → iH → Prop} (H : ((∃ o, i_fld h x0 7 5 = some o) ∧ i_P i_MT i_AT L xs 84 10 [some (.ref x0), some (.int x1)] [] (i_sf h x0 5 (.int (0 : Int32))) 0 0 Q)) : i_P i_MT i_AT L xs 84 5 [some (.ref x0), some (.int x1)] [] h 0 0 Q := by
  have hk := i_k84
  refine g_s1 (pc2 := 6) hk rfl rfl rfl rfl rfl ?_
  refine g_s1 (pc2 := 7) (st2 := [.int (0 : Int32), .ref x0]) hk rfl rfl rfl rfl rfl ?_
  obtain ⟨⟨o, ho⟩, H⟩ := H
  refine g_step (pc2 := 10) hk rfl rfl rfl (s_put ho rfl) ?_
  exact H
theorem b84_10 {x0 : Nat} {x1 : Int32} {h : iH} {Q : Option Value → iH → Prop} (H : ((∃ o, i_fld h x0 7 3 = some o) ∧ i_P i_MT i_AT L xs 84 15 [some (.ref x0), some (.int x1)] [] (i_sf h x0 3 (.int (0 : Int32))) 0 0 Q)) : i_P i_MT i_AT L xs 84 10 [some (.ref x0), some (.int x1)] [] h 0 0 Q := by
  have hk := i_k84
  refine g_s1 (pc2 := 11) hk rfl rfl rfl rfl rfl ?_
  refine g_s1 (pc2 := 12) (st2 := [.int (0 : Int32), .ref x0]) hk rfl rfl rfl rfl rfl ?_
  obtain ⟨⟨o, ho⟩, H⟩ := H
  refine g_step (pc2 := 15) hk rfl rfl rfl (s_put ho rfl) ?_
  exact H
theorem b84_15 {x0 : Nat} {x1 : Int32} {h : iH} {Q : Option Value → iH → Prop} (H : Q none h) : i_P i_MT i_AT L xs 84 15 [some (.ref x0), some (.int x1)] [] h 0 0 Q := by
  have hk := i_k84
  exact g_return hk rfl (by decide) (by decide) rfl H
/-! StillTown$Tape.praise()V -/
theorem e85 {x0 : Nat} {h : iH} {Q : Option Value → iH → Prop} (H : i_P i_MT i_AT L xs 85 0 [some (.ref x0)] [] h 0 0 Q) : i_C i_MT i_AT L xs 85 [.ref x0] h Q := ⟨i_m85, i_k85.1, Nat.le_of_ble_eq_true rfl, H⟩
theorem b85_0 {x0 : Nat} {h : iH} {Q : Option Value → iH → Prop} (H : ((∃ o, i_fld h x0 7 11 = some o) ∧ i_P i_MT i_AT L xs 85 5 [some (.ref x0)] [] (i_sf h x0 11 (.int (0 : Int32))) 0 0 Q)) : i_P i_MT i_AT L xs 85 0 [some (.ref x0)] [] h 0 0 Q := by
  have hk := i_k85
  refine g_s1 (pc2 := 1) hk rfl rfl rfl rfl rfl ?_
  refine g_s1 (pc2 := 2) (st2 := [.int (0 : Int32), .ref x0]) hk rfl rfl rfl rfl rfl ?_
  obtain ⟨⟨o, ho⟩, H⟩ := H
  refine g_step (pc2 := 5) hk rfl rfl rfl (s_put ho rfl) ?_
  exact H
theorem b85_5 {x0 : Nat} {h : iH} {Q : Option Value → iH → Prop} (H : ((∃ o, i_fld h x0 7 12 = some o) ∧ i_P i_MT i_AT L xs 85 10 [some (.ref x0)] [] (i_sf h x0 12 (.int (-1 : Int32))) 0 0 Q)) : i_P i_MT i_AT L xs 85 5 [some (.ref x0)] [] h 0 0 Q := by
  have hk := i_k85
  refine g_s1 (pc2 := 6) hk rfl rfl rfl rfl rfl ?_
  refine g_s1 (pc2 := 7) (st2 := [.int (-1 : Int32), .ref x0]) hk rfl rfl rfl rfl rfl ?_
  obtain ⟨⟨o, ho⟩, H⟩ := H
  refine g_step (pc2 := 10) hk rfl rfl rfl (s_put ho rfl) ?_
  exact H
theorem b85_10 {x0 : Nat} {h : iH} {Q : Option Value → iH → Prop} (H : Q none h) : i_P i_MT i_AT L xs 85 10 [some (.ref x0)] [] h 0 0 Q := by
  have hk := i_k85
  exact g_return hk rfl (by decide) (by decide) rfl H
/-! StillTown$Tape.blame(I)Z -/
theorem e86 {x0 : Nat} {x1 : Int32} {h : iH} {Q : Option Value → iH → Prop} (H : i_P i_MT i_AT L xs 86 0 [some (.ref x0), some (.int x1)] [] h 0 0 Q) : i_C i_MT i_AT L xs 86 [.ref x0, .int x1] h Q := ⟨i_m86, i_k86.1, Nat.le_of_ble_eq_true rfl, H⟩
theorem b86_0 {x0 : Nat} {x1 : Int32} {h : iH} {Q : Option Value → iH → Prop} (H : ((∃ o, i_fld h x0 7 11 = some o) ∧ i_P i_MT i_AT L xs 86 5 [some (.ref x0), some (.int x1)] [] (i_sf h x0 11 (.int x1)) 0 0 Q)) : i_P i_MT i_AT L xs 86 0 [some (.ref x0), some (.int x1)] [] h 0 0 Q := by
  have hk := i_k86
  refine g_s1 (pc2 := 1) hk rfl rfl rfl rfl rfl ?_
  refine g_s1 (pc2 := 2) hk rfl rfl rfl rfl rfl ?_
  obtain ⟨⟨o, ho⟩, H⟩ := H
  refine g_step (pc2 := 5) hk rfl rfl rfl (s_put ho rfl) ?_
  exact H
theorem b86_5 {x0 : Nat} {x1 : Int32} {h : iH} {Q : Option Value → iH → Prop} (H : (∃ v1 : Int32, i_fld h x0 7 7 = some (.int v1) ∧ ((∃ o, i_fld h x0 7 12 = some o) ∧ i_P i_MT i_AT L xs 86 13 [some (.ref x0), some (.int x1)] [] (i_sf h x0 12 (.int v1)) 0 0 Q))) : i_P i_MT i_AT L xs 86 5 [some (.ref x0), some (.int x1)] [] h 0 0 Q := by
  have hk := i_k86
  refine g_s1 (pc2 := 6) hk rfl rfl rfl rfl rfl ?_
  refine g_s1 (pc2 := 7) hk rfl rfl rfl rfl rfl ?_
  obtain ⟨v1, ev1, H⟩ := H
  refine g_step (pc2 := 10) hk rfl rfl rfl (s_get ev1) ?_
  obtain ⟨⟨o, ho⟩, H⟩ := H
  refine g_step (pc2 := 13) hk rfl rfl rfl (s_put ho rfl) ?_
  exact H
theorem b86_13 {x0 : Nat} {x1 : Int32} {h : iH} {Q : Option Value → iH → Prop} (H : Q (some (.int 0)) h) : i_P i_MT i_AT L xs 86 13 [some (.ref x0), some (.int x1)] [] h 0 0 Q := by
  have hk := i_k86
  refine g_s1 (pc2 := 14) (st2 := [.int (0 : Int32)]) hk rfl rfl rfl rfl rfl ?_
  exact g_ireturn hk rfl (by decide) (by decide) rfl H
/-! StillTown$Tape.blameToken()Z -/
theorem e87 {x0 : Nat} {h : iH} {Q : Option Value → iH → Prop} (H : i_P i_MT i_AT L xs 87 0 [some (.ref x0)] [] h 0 0 Q) : i_C i_MT i_AT L xs 87 [.ref x0] h Q := ⟨i_m87, i_k87.1, Nat.le_of_ble_eq_true rfl, H⟩
theorem b87_0 {x0 : Nat} {h : iH} {Q : Option Value → iH → Prop} (H : (∃ v1 : Int32, i_fld h x0 7 6 = some (.int v1) ∧ ((¬ v1 = (4 : Int32) → i_P i_MT i_AT L xs 87 14 [some (.ref x0)] [.int (2 : Int32), .ref x0] h 0 0 Q) ∧ (¬ (¬ v1 = (4 : Int32)) → i_P i_MT i_AT L xs 87 14 [some (.ref x0)] [.int (1 : Int32), .ref x0] h 0 0 Q)))) : i_P i_MT i_AT L xs 87 0 [some (.ref x0)] [] h 0 0 Q := by
  have hk := i_k87
  refine g_s1 (pc2 := 1) hk rfl rfl rfl rfl rfl ?_
  refine g_s1 (pc2 := 2) hk rfl rfl rfl rfl rfl ?_
  obtain ⟨v1, ev1, H⟩ := H
  refine g_step (pc2 := 5) hk rfl rfl rfl (s_get ev1) ?_
  refine g_s1 (pc2 := 6) (st2 := [.int (4 : Int32), .int v1, .ref x0]) hk rfl rfl rfl rfl rfl ?_
  refine g_icmp_ne hk rfl (fun hc => ?_) (fun hc => ?_)
  · have H := H.1 hc
    refine g_s1 (pc2 := 14) (st2 := [.int (2 : Int32), .ref x0]) hk rfl rfl rfl rfl rfl ?_
    exact H
  · have H := H.2 hc
    refine g_s1 (pc2 := 10) (st2 := [.int (1 : Int32), .ref x0]) hk rfl rfl rfl rfl rfl ?_
    refine g_s1 (pc2 := 14) hk rfl rfl rfl rfl rfl ?_
    exact H
theorem b87_14 {x0 : Nat} {s0 : Nat} {s1 : Int32} {h : iH} {Q : Option Value → iH → Prop} (H : ((∃ o, i_fld h s0 7 11 = some o) ∧ i_P i_MT i_AT L xs 87 17 [some (.ref x0)] [] (i_sf h s0 11 (.int s1)) 0 0 Q)) : i_P i_MT i_AT L xs 87 14 [some (.ref x0)] [.int s1, .ref s0] h 0 0 Q := by
  have hk := i_k87
  obtain ⟨⟨o, ho⟩, H⟩ := H
  refine g_step (pc2 := 17) hk rfl rfl rfl (s_put ho rfl) ?_
  exact H
theorem b87_17 {x0 : Nat} {h : iH} {Q : Option Value → iH → Prop} (H : (∃ v1 : Int32, i_fld h x0 7 7 = some (.int v1) ∧ ((∃ o, i_fld h x0 7 12 = some o) ∧ i_P i_MT i_AT L xs 87 25 [some (.ref x0)] [] (i_sf h x0 12 (.int v1)) 0 0 Q))) : i_P i_MT i_AT L xs 87 17 [some (.ref x0)] [] h 0 0 Q := by
  have hk := i_k87
  refine g_s1 (pc2 := 18) hk rfl rfl rfl rfl rfl ?_
  refine g_s1 (pc2 := 19) hk rfl rfl rfl rfl rfl ?_
  obtain ⟨v1, ev1, H⟩ := H
  refine g_step (pc2 := 22) hk rfl rfl rfl (s_get ev1) ?_
  obtain ⟨⟨o, ho⟩, H⟩ := H
  refine g_step (pc2 := 25) hk rfl rfl rfl (s_put ho rfl) ?_
  exact H
theorem b87_25 {x0 : Nat} {h : iH} {Q : Option Value → iH → Prop} (H : Q (some (.int 0)) h) : i_P i_MT i_AT L xs 87 25 [some (.ref x0)] [] h 0 0 Q := by
  have hk := i_k87
  refine g_s1 (pc2 := 26) (st2 := [.int (0 : Int32)]) hk rfl rfl rfl rfl rfl ?_
  exact g_ireturn hk rfl (by decide) (by decide) rfl H
/-! StillTown$Tape.advance()V -/
theorem e88 {x0 : Nat} {h : iH} {Q : Option Value → iH → Prop} (H : i_P i_MT i_AT L xs 88 0 [some (.ref x0), none] [] h 0 0 Q) : i_C i_MT i_AT L xs 88 [.ref x0] h Q := ⟨i_m88, i_k88.1, Nat.le_of_ble_eq_true rfl, H⟩
theorem b88_0 {x0 : Nat} {x1 : Option Value} {h : iH} {Q : Option Value → iH → Prop} (H : (∃ v1 : Int32, i_fld h x0 7 5 = some (.int v1) ∧ (∃ v2 : Int32, i_fld h x0 7 4 = some (.int v2) ∧ ((v2 ≤ v1 → i_P i_MT i_AT L xs 88 42 [some (.ref x0), x1] [] h 0 0 Q) ∧ (¬ (v2 ≤ v1) → (∃ v3 : Nat, i_fld h x0 7 1 = some (.ref v3) ∧ (∃ v4 : Nat, i_fld h x0 7 0 = some (.ref v4) ∧ (∃ v5 : Int32, i_fld h x0 7 5 = some (.int v5) ∧ (∃ (n6 : Nat) (f7 : Nat → Int32), i_arI h 0 v4 = some (n6, f7) ∧ ¬ (v5 < 0 ∨ n6 ≤ v5.toNatClampNeg) ∧ (∃ (n8 : Nat) (f9 : Nat → Int32), i_arI h 0 v3 = some (n8, f9) ∧ ¬ ((f7 v5.toNatClampNeg) < 0 ∨ n8 ≤ (f7 v5.toNatClampNeg).toNatClampNeg) ∧ ((¬ (f9 (f7 v5.toNatClampNeg).toNatClampNeg) = (5 : Int32) → i_P i_MT i_AT L xs 88 42 [some (.ref x0), x1] [] h 0 0 Q) ∧ (¬ (¬ (f9 (f7 v5.toNatClampNeg).toNatClampNeg) = (5 : Int32)) → (∃ v10 : Int32, i_fld h x0 7 5 = some (.int v10) ∧ ((∃ o, i_fld h x0 7 5 = some o) ∧ i_P i_MT i_AT L xs 88 39 [some (.ref x0), x1] [] (i_sf h x0 5 (.int (v10 + (1 : Int32)))) 0 0 Q)))))))))))))) : i_P i_MT i_AT L xs 88 0 [some (.ref x0), x1] [] h 0 0 Q := by
  have hk := i_k88
  refine g_s1 (pc2 := 1) hk rfl rfl rfl rfl rfl ?_
  obtain ⟨v1, ev1, H⟩ := H
  refine g_step (pc2 := 4) hk rfl rfl rfl (s_get ev1) ?_
  refine g_s1 (pc2 := 5) hk rfl rfl rfl rfl rfl ?_
  obtain ⟨v2, ev2, H⟩ := H
  refine g_step (pc2 := 8) hk rfl rfl rfl (s_get ev2) ?_
  refine g_icmp_ge hk rfl (fun hc => ?_) (fun hc => ?_)
  · have H := H.1 hc
    exact H
  · have H := H.2 hc
    refine g_s1 (pc2 := 12) hk rfl rfl rfl rfl rfl ?_
    obtain ⟨v3, ev3, H⟩ := H
    refine g_step (pc2 := 15) hk rfl rfl rfl (s_get ev3) ?_
    refine g_s1 (pc2 := 16) hk rfl rfl rfl rfl rfl ?_
    obtain ⟨v4, ev4, H⟩ := H
    refine g_step (pc2 := 19) hk rfl rfl rfl (s_get ev4) ?_
    refine g_s1 (pc2 := 20) hk rfl rfl rfl rfl rfl ?_
    obtain ⟨v5, ev5, H⟩ := H
    refine g_step (pc2 := 23) hk rfl rfl rfl (s_get ev5) ?_
    obtain ⟨n6, f7, ef7, hi, H⟩ := H
    refine g_step (pc2 := 24) hk rfl rfl rfl (s_aget (L := L) (xs := xs) ef7 hi) ?_
    obtain ⟨n8, f9, ef9, hi, H⟩ := H
    refine g_step (pc2 := 25) hk rfl rfl rfl (s_aget (L := L) (xs := xs) ef9 hi) ?_
    refine g_s1 (pc2 := 26) (st2 := [.int (5 : Int32), .int (f9 (f7 v5.toNatClampNeg).toNatClampNeg)]) hk rfl rfl rfl rfl rfl ?_
    refine g_icmp_ne hk rfl (fun hc => ?_) (fun hc => ?_)
    · have H := H.1 hc
      exact H
    · have H := H.2 hc
      refine g_s1 (pc2 := 30) hk rfl rfl rfl rfl rfl ?_
      refine g_s1 (pc2 := 31) hk rfl rfl rfl rfl rfl ?_
      obtain ⟨v10, ev10, H⟩ := H
      refine g_step (pc2 := 34) hk rfl rfl rfl (s_get ev10) ?_
      refine g_s1 (pc2 := 35) (st2 := [.int (1 : Int32), .int v10, .ref x0]) hk rfl rfl rfl rfl rfl ?_
      refine g_s1 (pc2 := 36) hk rfl rfl rfl rfl rfl ?_
      obtain ⟨⟨o, ho⟩, H⟩ := H
      refine g_step (pc2 := 39) hk rfl rfl rfl (s_put ho rfl) ?_
      exact H
theorem b88_39 {x0 : Nat} {x1 : Option Value} {h : iH} {Q : Option Value → iH → Prop} (H : i_P i_MT i_AT L xs 88 0 [some (.ref x0), x1] [] h 0 0 Q) : i_P i_MT i_AT L xs 88 39 [some (.ref x0), x1] [] h 0 0 Q := by
  have hk := i_k88
  refine g_s1 (pc2 := 0) hk rfl rfl rfl rfl rfl ?_
  exact H
theorem b88_42 {x0 : Nat} {x1 : Option Value} {h : iH} {Q : Option Value → iH → Prop} (H : (∃ v1 : Int32, i_fld h x0 7 5 = some (.int v1) ∧ ((∃ o, i_fld h x0 7 7 = some o) ∧ i_P i_MT i_AT L xs 88 50 [some (.ref x0), x1] [] (i_sf h x0 7 (.int v1)) 0 0 Q))) : i_P i_MT i_AT L xs 88 42 [some (.ref x0), x1] [] h 0 0 Q := by
  have hk := i_k88
  refine g_s1 (pc2 := 43) hk rfl rfl rfl rfl rfl ?_
  refine g_s1 (pc2 := 44) hk rfl rfl rfl rfl rfl ?_
  obtain ⟨v1, ev1, H⟩ := H
  refine g_step (pc2 := 47) hk rfl rfl rfl (s_get ev1) ?_
  obtain ⟨⟨o, ho⟩, H⟩ := H
  refine g_step (pc2 := 50) hk rfl rfl rfl (s_put ho rfl) ?_
  exact H
theorem b88_50 {x0 : Nat} {x1 : Option Value} {h : iH} {Q : Option Value → iH → Prop} (H : (∃ v1 : Int32, i_fld h x0 7 5 = some (.int v1) ∧ (∃ v2 : Int32, i_fld h x0 7 4 = some (.int v2) ∧ ((v2 ≤ v1 → i_P i_MT i_AT L xs 88 80 [some (.ref x0), x1] [.int (0 : Int32), .ref x0] h 0 0 Q) ∧ (¬ (v2 ≤ v1) → (∃ v3 : Nat, i_fld h x0 7 1 = some (.ref v3) ∧ (∃ v4 : Nat, i_fld h x0 7 0 = some (.ref v4) ∧ (∃ v5 : Int32, i_fld h x0 7 5 = some (.int v5) ∧ (∃ (n6 : Nat) (f7 : Nat → Int32), i_arI h 0 v4 = some (n6, f7) ∧ ¬ (v5 < 0 ∨ n6 ≤ v5.toNatClampNeg) ∧ (∃ (n8 : Nat) (f9 : Nat → Int32), i_arI h 0 v3 = some (n8, f9) ∧ ¬ ((f7 v5.toNatClampNeg) < 0 ∨ n8 ≤ (f7 v5.toNatClampNeg).toNatClampNeg) ∧ i_P i_MT i_AT L xs 88 80 [some (.ref x0), x1] [.int (f9 (f7 v5.toNatClampNeg).toNatClampNeg), .ref x0] h 0 0 Q)))))))))) : i_P i_MT i_AT L xs 88 50 [some (.ref x0), x1] [] h 0 0 Q := by
  have hk := i_k88
  refine g_s1 (pc2 := 51) hk rfl rfl rfl rfl rfl ?_
  refine g_s1 (pc2 := 52) hk rfl rfl rfl rfl rfl ?_
  obtain ⟨v1, ev1, H⟩ := H
  refine g_step (pc2 := 55) hk rfl rfl rfl (s_get ev1) ?_
  refine g_s1 (pc2 := 56) hk rfl rfl rfl rfl rfl ?_
  obtain ⟨v2, ev2, H⟩ := H
  refine g_step (pc2 := 59) hk rfl rfl rfl (s_get ev2) ?_
  refine g_icmp_ge hk rfl (fun hc => ?_) (fun hc => ?_)
  · have H := H.1 hc
    refine g_s1 (pc2 := 80) (st2 := [.int (0 : Int32), .ref x0]) hk rfl rfl rfl rfl rfl ?_
    exact H
  · have H := H.2 hc
    refine g_s1 (pc2 := 63) hk rfl rfl rfl rfl rfl ?_
    obtain ⟨v3, ev3, H⟩ := H
    refine g_step (pc2 := 66) hk rfl rfl rfl (s_get ev3) ?_
    refine g_s1 (pc2 := 67) hk rfl rfl rfl rfl rfl ?_
    obtain ⟨v4, ev4, H⟩ := H
    refine g_step (pc2 := 70) hk rfl rfl rfl (s_get ev4) ?_
    refine g_s1 (pc2 := 71) hk rfl rfl rfl rfl rfl ?_
    obtain ⟨v5, ev5, H⟩ := H
    refine g_step (pc2 := 74) hk rfl rfl rfl (s_get ev5) ?_
    obtain ⟨n6, f7, ef7, hi, H⟩ := H
    refine g_step (pc2 := 75) hk rfl rfl rfl (s_aget (L := L) (xs := xs) ef7 hi) ?_
    obtain ⟨n8, f9, ef9, hi, H⟩ := H
    refine g_step (pc2 := 76) hk rfl rfl rfl (s_aget (L := L) (xs := xs) ef9 hi) ?_
    refine g_s1 (pc2 := 80) hk rfl rfl rfl rfl rfl ?_
    exact H
theorem b88_80 {x0 : Nat} {x1 : Option Value} {s0 : Nat} {s1 : Int32} {h : iH} {Q : Option Value → iH → Prop} (H : ((∃ o, i_fld h s0 7 6 = some o) ∧ i_P i_MT i_AT L xs 88 83 [some (.ref x0), x1] [] (i_sf h s0 6 (.int s1)) 0 0 Q)) : i_P i_MT i_AT L xs 88 80 [some (.ref x0), x1] [.int s1, .ref s0] h 0 0 Q := by
  have hk := i_k88
  obtain ⟨⟨o, ho⟩, H⟩ := H
  refine g_step (pc2 := 83) hk rfl rfl rfl (s_put ho rfl) ?_
  exact H
theorem b88_83 {x0 : Nat} {x1 : Option Value} {h : iH} {Q : Option Value → iH → Prop} (H : (∃ v1 : Int32, i_fld h x0 7 6 = some (.int v1) ∧ ((v1 = (2 : Int32) → i_P i_MT i_AT L xs 88 99 [some (.ref x0), x1] [] h 0 0 Q) ∧ (¬ (v1 = (2 : Int32)) → (∃ v2 : Int32, i_fld h x0 7 6 = some (.int v2) ∧ ((¬ v2 = (1 : Int32) → (∃ v3 : Int32, i_fld h x0 7 6 = some (.int v3) ∧ ((v3 = 0 → i_P i_MT i_AT L xs 88 161 [some (.ref x0), x1] [] h 0 0 Q) ∧ (¬ (v3 = 0) → (∃ v4 : Int32, i_fld h x0 7 5 = some (.int v4) ∧ ((∃ o, i_fld h x0 7 5 = some o) ∧ i_P i_MT i_AT L xs 88 161 [some (.ref x0), x1] [] (i_sf h x0 5 (.int (v4 + (1 : Int32)))) 0 0 Q)))))) ∧ (¬ (¬ v2 = (1 : Int32)) → i_P i_MT i_AT L xs 88 99 [some (.ref x0), x1] [] h 0 0 Q))))))) : i_P i_MT i_AT L xs 88 83 [some (.ref x0), x1] [] h 0 0 Q := by
  have hk := i_k88
  refine g_s1 (pc2 := 84) hk rfl rfl rfl rfl rfl ?_
  obtain ⟨v1, ev1, H⟩ := H
  refine g_step (pc2 := 87) hk rfl rfl rfl (s_get ev1) ?_
  refine g_s1 (pc2 := 88) (st2 := [.int (2 : Int32), .int v1]) hk rfl rfl rfl rfl rfl ?_
  refine g_icmp_eq hk rfl (fun hc => ?_) (fun hc => ?_)
  · have H := H.1 hc
    exact H
  · have H := H.2 hc
    refine g_s1 (pc2 := 92) hk rfl rfl rfl rfl rfl ?_
    obtain ⟨v2, ev2, H⟩ := H
    refine g_step (pc2 := 95) hk rfl rfl rfl (s_get ev2) ?_
    refine g_s1 (pc2 := 96) (st2 := [.int (1 : Int32), .int v2]) hk rfl rfl rfl rfl rfl ?_
    refine g_icmp_ne hk rfl (fun hc => ?_) (fun hc => ?_)
    · have H := H.1 hc
      refine g_s1 (pc2 := 145) hk rfl rfl rfl rfl rfl ?_
      obtain ⟨v3, ev3, H⟩ := H
      refine g_step (pc2 := 148) hk rfl rfl rfl (s_get ev3) ?_
      refine g_if_eq hk rfl (fun hc => ?_) (fun hc => ?_)
      · have H := H.1 hc
        exact H
      · have H := H.2 hc
        refine g_s1 (pc2 := 152) hk rfl rfl rfl rfl rfl ?_
        refine g_s1 (pc2 := 153) hk rfl rfl rfl rfl rfl ?_
        obtain ⟨v4, ev4, H⟩ := H
        refine g_step (pc2 := 156) hk rfl rfl rfl (s_get ev4) ?_
        refine g_s1 (pc2 := 157) (st2 := [.int (1 : Int32), .int v4, .ref x0]) hk rfl rfl rfl rfl rfl ?_
        refine g_s1 (pc2 := 158) hk rfl rfl rfl rfl rfl ?_
        obtain ⟨⟨o, ho⟩, H⟩ := H
        refine g_step (pc2 := 161) hk rfl rfl rfl (s_put ho rfl) ?_
        exact H
    · have H := H.2 hc
      exact H
theorem b88_99 {x0 : Nat} {x1 : Option Value} {h : iH} {Q : Option Value → iH → Prop} (H : (∃ v1 : Int32, i_fld h x0 7 5 = some (.int v1) ∧ (∃ v2 : Int32, i_fld h x0 7 4 = some (.int v2) ∧ ((v2 ≤ v1 → i_P i_MT i_AT L xs 88 161 [some (.ref x0), x1] [] h 0 0 Q) ∧ (¬ (v2 ≤ v1) → (∃ v3 : Nat, i_fld h x0 7 1 = some (.ref v3) ∧ (∃ v4 : Nat, i_fld h x0 7 0 = some (.ref v4) ∧ (∃ v5 : Int32, i_fld h x0 7 5 = some (.int v5) ∧ (∃ (n6 : Nat) (f7 : Nat → Int32), i_arI h 0 v4 = some (n6, f7) ∧ ¬ (v5 < 0 ∨ n6 ≤ v5.toNatClampNeg) ∧ (∃ (n8 : Nat) (f9 : Nat → Int32), i_arI h 0 v3 = some (n8, f9) ∧ ¬ ((f7 v5.toNatClampNeg) < 0 ∨ n8 ≤ (f7 v5.toNatClampNeg).toNatClampNeg) ∧ (∃ v10 : Int32, i_fld h x0 7 6 = some (.int v10) ∧ ((¬ (f9 (f7 v5.toNatClampNeg).toNatClampNeg) = v10 → i_P i_MT i_AT L xs 88 161 [some (.ref x0), x1] [] h 0 0 Q) ∧ (¬ (¬ (f9 (f7 v5.toNatClampNeg).toNatClampNeg) = v10) → (∃ v11 : Int32, i_fld h x0 7 5 = some (.int v11) ∧ ((∃ o, i_fld h x0 7 5 = some o) ∧ i_P i_MT i_AT L xs 88 141 [some (.ref x0), x1] [] (i_sf h x0 5 (.int (v11 + (1 : Int32)))) 0 0 Q))))))))))))))) : i_P i_MT i_AT L xs 88 99 [some (.ref x0), x1] [] h 0 0 Q := by
  have hk := i_k88
  refine g_s1 (pc2 := 100) hk rfl rfl rfl rfl rfl ?_
  obtain ⟨v1, ev1, H⟩ := H
  refine g_step (pc2 := 103) hk rfl rfl rfl (s_get ev1) ?_
  refine g_s1 (pc2 := 104) hk rfl rfl rfl rfl rfl ?_
  obtain ⟨v2, ev2, H⟩ := H
  refine g_step (pc2 := 107) hk rfl rfl rfl (s_get ev2) ?_
  refine g_icmp_ge hk rfl (fun hc => ?_) (fun hc => ?_)
  · have H := H.1 hc
    exact H
  · have H := H.2 hc
    refine g_s1 (pc2 := 111) hk rfl rfl rfl rfl rfl ?_
    obtain ⟨v3, ev3, H⟩ := H
    refine g_step (pc2 := 114) hk rfl rfl rfl (s_get ev3) ?_
    refine g_s1 (pc2 := 115) hk rfl rfl rfl rfl rfl ?_
    obtain ⟨v4, ev4, H⟩ := H
    refine g_step (pc2 := 118) hk rfl rfl rfl (s_get ev4) ?_
    refine g_s1 (pc2 := 119) hk rfl rfl rfl rfl rfl ?_
    obtain ⟨v5, ev5, H⟩ := H
    refine g_step (pc2 := 122) hk rfl rfl rfl (s_get ev5) ?_
    obtain ⟨n6, f7, ef7, hi, H⟩ := H
    refine g_step (pc2 := 123) hk rfl rfl rfl (s_aget (L := L) (xs := xs) ef7 hi) ?_
    obtain ⟨n8, f9, ef9, hi, H⟩ := H
    refine g_step (pc2 := 124) hk rfl rfl rfl (s_aget (L := L) (xs := xs) ef9 hi) ?_
    refine g_s1 (pc2 := 125) hk rfl rfl rfl rfl rfl ?_
    obtain ⟨v10, ev10, H⟩ := H
    refine g_step (pc2 := 128) hk rfl rfl rfl (s_get ev10) ?_
    refine g_icmp_ne hk rfl (fun hc => ?_) (fun hc => ?_)
    · have H := H.1 hc
      exact H
    · have H := H.2 hc
      refine g_s1 (pc2 := 132) hk rfl rfl rfl rfl rfl ?_
      refine g_s1 (pc2 := 133) hk rfl rfl rfl rfl rfl ?_
      obtain ⟨v11, ev11, H⟩ := H
      refine g_step (pc2 := 136) hk rfl rfl rfl (s_get ev11) ?_
      refine g_s1 (pc2 := 137) (st2 := [.int (1 : Int32), .int v11, .ref x0]) hk rfl rfl rfl rfl rfl ?_
      refine g_s1 (pc2 := 138) hk rfl rfl rfl rfl rfl ?_
      obtain ⟨⟨o, ho⟩, H⟩ := H
      refine g_step (pc2 := 141) hk rfl rfl rfl (s_put ho rfl) ?_
      exact H
theorem b88_141 {x0 : Nat} {x1 : Option Value} {h : iH} {Q : Option Value → iH → Prop} (H : i_P i_MT i_AT L xs 88 99 [some (.ref x0), x1] [] h 0 0 Q) : i_P i_MT i_AT L xs 88 141 [some (.ref x0), x1] [] h 0 0 Q := by
  have hk := i_k88
  refine g_s1 (pc2 := 99) hk rfl rfl rfl rfl rfl ?_
  exact H
theorem b88_161 {x0 : Nat} {x1 : Option Value} {h : iH} {Q : Option Value → iH → Prop} (H : (∃ v1 : Int32, i_fld h x0 7 6 = some (.int v1) ∧ ((¬ v1 = (1 : Int32) → i_P i_MT i_AT L xs 88 187 [some (.ref x0), x1] [] h 0 0 Q) ∧ (¬ (¬ v1 = (1 : Int32)) → (∃ v2 : Int32, i_fld h x0 7 5 = some (.int v2) ∧ (∃ v3 : Int32, i_fld h x0 7 7 = some (.int v3) ∧ (((v2 - v3) ≤ (4 : Int32) → i_P i_MT i_AT L xs 88 187 [some (.ref x0), x1] [] h 0 0 Q) ∧ (¬ ((v2 - v3) ≤ (4 : Int32)) → ((∃ o, i_fld h x0 7 6 = some o) ∧ i_P i_MT i_AT L xs 88 187 [some (.ref x0), x1] [] (i_sf h x0 6 (.int (4 : Int32))) 0 0 Q))))))))) : i_P i_MT i_AT L xs 88 161 [some (.ref x0), x1] [] h 0 0 Q := by
  have hk := i_k88
  refine g_s1 (pc2 := 162) hk rfl rfl rfl rfl rfl ?_
  obtain ⟨v1, ev1, H⟩ := H
  refine g_step (pc2 := 165) hk rfl rfl rfl (s_get ev1) ?_
  refine g_s1 (pc2 := 166) (st2 := [.int (1 : Int32), .int v1]) hk rfl rfl rfl rfl rfl ?_
  refine g_icmp_ne hk rfl (fun hc => ?_) (fun hc => ?_)
  · have H := H.1 hc
    exact H
  · have H := H.2 hc
    refine g_s1 (pc2 := 170) hk rfl rfl rfl rfl rfl ?_
    obtain ⟨v2, ev2, H⟩ := H
    refine g_step (pc2 := 173) hk rfl rfl rfl (s_get ev2) ?_
    refine g_s1 (pc2 := 174) hk rfl rfl rfl rfl rfl ?_
    obtain ⟨v3, ev3, H⟩ := H
    refine g_step (pc2 := 177) hk rfl rfl rfl (s_get ev3) ?_
    refine g_s1 (pc2 := 178) hk rfl rfl rfl rfl rfl ?_
    refine g_s1 (pc2 := 179) (st2 := [.int (4 : Int32), .int (v2 - v3)]) hk rfl rfl rfl rfl rfl ?_
    refine g_icmp_le hk rfl (fun hc => ?_) (fun hc => ?_)
    · have H := H.1 hc
      exact H
    · have H := H.2 hc
      refine g_s1 (pc2 := 183) hk rfl rfl rfl rfl rfl ?_
      refine g_s1 (pc2 := 184) (st2 := [.int (4 : Int32), .ref x0]) hk rfl rfl rfl rfl rfl ?_
      obtain ⟨⟨o, ho⟩, H⟩ := H
      refine g_step (pc2 := 187) hk rfl rfl rfl (s_put ho rfl) ?_
      exact H
theorem b88_187 {x0 : Nat} {x1 : Option Value} {h : iH} {Q : Option Value → iH → Prop} (H : ((∃ o, i_fld h x0 7 8 = some o) ∧ i_P i_MT i_AT L xs 88 192 [some (.ref x0), x1] [] (i_sf h x0 8 (.int (0 : Int32))) 0 0 Q)) : i_P i_MT i_AT L xs 88 187 [some (.ref x0), x1] [] h 0 0 Q := by
  have hk := i_k88
  refine g_s1 (pc2 := 188) hk rfl rfl rfl rfl rfl ?_
  refine g_s1 (pc2 := 189) (st2 := [.int (0 : Int32), .ref x0]) hk rfl rfl rfl rfl rfl ?_
  obtain ⟨⟨o, ho⟩, H⟩ := H
  refine g_step (pc2 := 192) hk rfl rfl rfl (s_put ho rfl) ?_
  exact H
theorem b88_192 {x0 : Nat} {x1 : Option Value} {h : iH} {Q : Option Value → iH → Prop} (H : ((∃ o, i_fld h x0 7 9 = some o) ∧ i_P i_MT i_AT L xs 88 197 [some (.ref x0), x1] [] (i_sf h x0 9 (.long (0 : Int64))) 0 0 Q)) : i_P i_MT i_AT L xs 88 192 [some (.ref x0), x1] [] h 0 0 Q := by
  have hk := i_k88
  refine g_s1 (pc2 := 193) hk rfl rfl rfl rfl rfl ?_
  refine g_s1 (pc2 := 194) (st2 := [.long (0 : Int64), .ref x0]) hk rfl rfl rfl rfl rfl ?_
  obtain ⟨⟨o, ho⟩, H⟩ := H
  refine g_step (pc2 := 197) hk rfl rfl rfl (s_put ho rfl) ?_
  exact H
theorem b88_197 {x0 : Nat} {x1 : Option Value} {h : iH} {Q : Option Value → iH → Prop} (H : ((∃ o, i_fld h x0 7 10 = some o) ∧ i_P i_MT i_AT L xs 88 202 [some (.ref x0), x1] [] (i_sf h x0 10 (.int (-1 : Int32))) 0 0 Q)) : i_P i_MT i_AT L xs 88 197 [some (.ref x0), x1] [] h 0 0 Q := by
  have hk := i_k88
  refine g_s1 (pc2 := 198) hk rfl rfl rfl rfl rfl ?_
  refine g_s1 (pc2 := 199) (st2 := [.int (-1 : Int32), .ref x0]) hk rfl rfl rfl rfl rfl ?_
  obtain ⟨⟨o, ho⟩, H⟩ := H
  refine g_step (pc2 := 202) hk rfl rfl rfl (s_put ho rfl) ?_
  exact H
theorem b88_202 {x0 : Nat} {x1 : Option Value} {h : iH} {Q : Option Value → iH → Prop} (H : (∃ v1 : Int32, i_fld h x0 7 6 = some (.int v1) ∧ ((¬ v1 = (1 : Int32) → i_P i_MT i_AT L xs 88 250 [some (.ref x0), x1] [] h 0 0 Q) ∧ (¬ (¬ v1 = (1 : Int32)) → (∃ v2 : Int32, i_fld h x0 7 7 = some (.int v2) ∧ i_P i_MT i_AT L xs 88 215 [some (.ref x0), some (.int v2)] [] h 0 0 Q))))) : i_P i_MT i_AT L xs 88 202 [some (.ref x0), x1] [] h 0 0 Q := by
  have hk := i_k88
  refine g_s1 (pc2 := 203) hk rfl rfl rfl rfl rfl ?_
  obtain ⟨v1, ev1, H⟩ := H
  refine g_step (pc2 := 206) hk rfl rfl rfl (s_get ev1) ?_
  refine g_s1 (pc2 := 207) (st2 := [.int (1 : Int32), .int v1]) hk rfl rfl rfl rfl rfl ?_
  refine g_icmp_ne hk rfl (fun hc => ?_) (fun hc => ?_)
  · have H := H.1 hc
    exact H
  · have H := H.2 hc
    refine g_s1 (pc2 := 211) hk rfl rfl rfl rfl rfl ?_
    obtain ⟨v2, ev2, H⟩ := H
    refine g_step (pc2 := 214) hk rfl rfl rfl (s_get ev2) ?_
    refine g_s1 (pc2 := 215) (lo2 := [some (.ref x0), some (.int v2)]) hk rfl rfl rfl rfl rfl ?_
    exact H
theorem b88_215 {x0 : Nat} {x1 : Int32} {h : iH} {Q : Option Value → iH → Prop} (H : (∃ v1 : Int32, i_fld h x0 7 5 = some (.int v1) ∧ ((v1 ≤ x1 → i_P i_MT i_AT L xs 88 250 [some (.ref x0), some (.int x1)] [] h 0 0 Q) ∧ (¬ (v1 ≤ x1) → (∃ v2 : Int32, i_fld h x0 7 8 = some (.int v2) ∧ (∃ v3 : Nat, i_fld h x0 7 0 = some (.ref v3) ∧ (∃ (n4 : Nat) (f5 : Nat → Int32), i_arI h 0 v3 = some (n4, f5) ∧ ¬ (x1 < 0 ∨ n4 ≤ x1.toNatClampNeg) ∧ ((∃ o, i_fld h x0 7 8 = some o) ∧ i_P i_MT i_AT L xs 88 244 [some (.ref x0), some (.int x1)] [] (i_sf h x0 8 (.int (((v2 * (10 : Int32)) + (f5 x1.toNatClampNeg)) - (48 : Int32)))) 0 0 Q)))))))) : i_P i_MT i_AT L xs 88 215 [some (.ref x0), some (.int x1)] [] h 0 0 Q := by
  have hk := i_k88
  refine g_s1 (pc2 := 216) hk rfl rfl rfl rfl rfl ?_
  refine g_s1 (pc2 := 217) hk rfl rfl rfl rfl rfl ?_
  obtain ⟨v1, ev1, H⟩ := H
  refine g_step (pc2 := 220) hk rfl rfl rfl (s_get ev1) ?_
  refine g_icmp_ge hk rfl (fun hc => ?_) (fun hc => ?_)
  · have H := H.1 hc
    exact H
  · have H := H.2 hc
    refine g_s1 (pc2 := 224) hk rfl rfl rfl rfl rfl ?_
    refine g_s1 (pc2 := 225) hk rfl rfl rfl rfl rfl ?_
    obtain ⟨v2, ev2, H⟩ := H
    refine g_step (pc2 := 228) hk rfl rfl rfl (s_get ev2) ?_
    refine g_s1 (pc2 := 230) (st2 := [.int (10 : Int32), .int v2, .ref x0]) hk rfl rfl rfl rfl rfl ?_
    refine g_s1 (pc2 := 231) hk rfl rfl rfl rfl rfl ?_
    refine g_s1 (pc2 := 232) hk rfl rfl rfl rfl rfl ?_
    obtain ⟨v3, ev3, H⟩ := H
    refine g_step (pc2 := 235) hk rfl rfl rfl (s_get ev3) ?_
    refine g_s1 (pc2 := 236) hk rfl rfl rfl rfl rfl ?_
    obtain ⟨n4, f5, ef5, hi, H⟩ := H
    refine g_step (pc2 := 237) hk rfl rfl rfl (s_aget (L := L) (xs := xs) ef5 hi) ?_
    refine g_s1 (pc2 := 238) hk rfl rfl rfl rfl rfl ?_
    refine g_s1 (pc2 := 240) (st2 := [.int (48 : Int32), .int ((v2 * (10 : Int32)) + (f5 x1.toNatClampNeg)), .ref x0]) hk rfl rfl rfl rfl rfl ?_
    refine g_s1 (pc2 := 241) hk rfl rfl rfl rfl rfl ?_
    obtain ⟨⟨o, ho⟩, H⟩ := H
    refine g_step (pc2 := 244) hk rfl rfl rfl (s_put ho rfl) ?_
    exact H
theorem b88_244 {x0 : Nat} {x1 : Int32} {h : iH} {Q : Option Value → iH → Prop} (H : i_P i_MT i_AT L xs 88 215 [some (.ref x0), some (.int (x1 + 1))] [] h 0 0 Q) : i_P i_MT i_AT L xs 88 244 [some (.ref x0), some (.int x1)] [] h 0 0 Q := by
  have hk := i_k88
  refine g_s1 (pc2 := 247) (lo2 := [some (.ref x0), some (.int (x1 + 1))]) hk rfl rfl rfl rfl rfl ?_
  refine g_s1 (pc2 := 215) hk rfl rfl rfl rfl rfl ?_
  exact H
theorem b88_250 {x0 : Nat} {x1 : Option Value} {h : iH} {Q : Option Value → iH → Prop} (H : (∃ v1 : Int32, i_fld h x0 7 6 = some (.int v1) ∧ ((¬ v1 = (2 : Int32) → i_P i_MT i_AT L xs 88 354 [some (.ref x0), x1] [] h 0 0 Q) ∧ (¬ (¬ v1 = (2 : Int32)) → (∃ v2 : Int32, i_fld h x0 7 5 = some (.int v2) ∧ (∃ v3 : Int32, i_fld h x0 7 7 = some (.int v3) ∧ (((8 : Int32) < (v2 - v3) → i_P i_MT i_AT L xs 88 354 [some (.ref x0), x1] [] h 0 0 Q) ∧ (¬ ((8 : Int32) < (v2 - v3)) → (∃ v4 : Int32, i_fld h x0 7 7 = some (.int v4) ∧ i_P i_MT i_AT L xs 88 277 [some (.ref x0), some (.int v4)] [] h 0 0 Q))))))))) : i_P i_MT i_AT L xs 88 250 [some (.ref x0), x1] [] h 0 0 Q := by
  have hk := i_k88
  refine g_s1 (pc2 := 251) hk rfl rfl rfl rfl rfl ?_
  obtain ⟨v1, ev1, H⟩ := H
  refine g_step (pc2 := 254) hk rfl rfl rfl (s_get ev1) ?_
  refine g_s1 (pc2 := 255) (st2 := [.int (2 : Int32), .int v1]) hk rfl rfl rfl rfl rfl ?_
  refine g_icmp_ne hk rfl (fun hc => ?_) (fun hc => ?_)
  · have H := H.1 hc
    exact H
  · have H := H.2 hc
    refine g_s1 (pc2 := 259) hk rfl rfl rfl rfl rfl ?_
    obtain ⟨v2, ev2, H⟩ := H
    refine g_step (pc2 := 262) hk rfl rfl rfl (s_get ev2) ?_
    refine g_s1 (pc2 := 263) hk rfl rfl rfl rfl rfl ?_
    obtain ⟨v3, ev3, H⟩ := H
    refine g_step (pc2 := 266) hk rfl rfl rfl (s_get ev3) ?_
    refine g_s1 (pc2 := 267) hk rfl rfl rfl rfl rfl ?_
    refine g_s1 (pc2 := 269) (st2 := [.int (8 : Int32), .int (v2 - v3)]) hk rfl rfl rfl rfl rfl ?_
    refine g_icmp_gt hk rfl (fun hc => ?_) (fun hc => ?_)
    · have H := H.1 hc
      exact H
    · have H := H.2 hc
      refine g_s1 (pc2 := 273) hk rfl rfl rfl rfl rfl ?_
      obtain ⟨v4, ev4, H⟩ := H
      refine g_step (pc2 := 276) hk rfl rfl rfl (s_get ev4) ?_
      refine g_s1 (pc2 := 277) (lo2 := [some (.ref x0), some (.int v4)]) hk rfl rfl rfl rfl rfl ?_
      exact H
theorem b88_277 {x0 : Nat} {x1 : Int32} {h : iH} {Q : Option Value → iH → Prop} (H : (∃ v1 : Int32, i_fld h x0 7 5 = some (.int v1) ∧ ((v1 ≤ x1 → i_P i_MT i_AT L xs 88 316 [some (.ref x0), some (.int (0 : Int32))] [] h 0 0 Q) ∧ (¬ (v1 ≤ x1) → (∃ v2 : Int64, i_fld h x0 7 9 = some (.long v2) ∧ (∃ v3 : Nat, i_fld h x0 7 0 = some (.ref v3) ∧ (∃ (n4 : Nat) (f5 : Nat → Int32), i_arI h 0 v3 = some (n4, f5) ∧ ¬ (x1 < 0 ∨ n4 ≤ x1.toNatClampNeg) ∧ ((∃ o, i_fld h x0 7 9 = some o) ∧ i_P i_MT i_AT L xs 88 308 [some (.ref x0), some (.int x1)] [] (i_sf h x0 9 (.long ((v2 <<< ((5 : Int32).toInt64 &&& 63)) ||| ((((f5 x1.toNatClampNeg) - (97 : Int32)) + (1 : Int32)).toInt64)))) 0 0 Q)))))))) : i_P i_MT i_AT L xs 88 277 [some (.ref x0), some (.int x1)] [] h 0 0 Q := by
  have hk := i_k88
  refine g_s1 (pc2 := 278) hk rfl rfl rfl rfl rfl ?_
  refine g_s1 (pc2 := 279) hk rfl rfl rfl rfl rfl ?_
  obtain ⟨v1, ev1, H⟩ := H
  refine g_step (pc2 := 282) hk rfl rfl rfl (s_get ev1) ?_
  refine g_icmp_ge hk rfl (fun hc => ?_) (fun hc => ?_)
  · have H := H.1 hc
    refine g_s1 (pc2 := 315) (st2 := [.int (0 : Int32)]) hk rfl rfl rfl rfl rfl ?_
    refine g_s1 (pc2 := 316) (lo2 := [some (.ref x0), some (.int (0 : Int32))]) hk rfl rfl rfl rfl rfl ?_
    exact H
  · have H := H.2 hc
    refine g_s1 (pc2 := 286) hk rfl rfl rfl rfl rfl ?_
    refine g_s1 (pc2 := 287) hk rfl rfl rfl rfl rfl ?_
    obtain ⟨v2, ev2, H⟩ := H
    refine g_step (pc2 := 290) hk rfl rfl rfl (s_get ev2) ?_
    refine g_s1 (pc2 := 291) (st2 := [.int (5 : Int32), .long v2, .ref x0]) hk rfl rfl rfl rfl rfl ?_
    refine g_s1 (pc2 := 292) hk rfl rfl rfl rfl rfl ?_
    refine g_s1 (pc2 := 293) hk rfl rfl rfl rfl rfl ?_
    obtain ⟨v3, ev3, H⟩ := H
    refine g_step (pc2 := 296) hk rfl rfl rfl (s_get ev3) ?_
    refine g_s1 (pc2 := 297) hk rfl rfl rfl rfl rfl ?_
    obtain ⟨n4, f5, ef5, hi, H⟩ := H
    refine g_step (pc2 := 298) hk rfl rfl rfl (s_aget (L := L) (xs := xs) ef5 hi) ?_
    refine g_s1 (pc2 := 300) (st2 := [.int (97 : Int32), .int (f5 x1.toNatClampNeg), .long (v2 <<< ((5 : Int32).toInt64 &&& 63)), .ref x0]) hk rfl rfl rfl rfl rfl ?_
    refine g_s1 (pc2 := 301) hk rfl rfl rfl rfl rfl ?_
    refine g_s1 (pc2 := 302) (st2 := [.int (1 : Int32), .int ((f5 x1.toNatClampNeg) - (97 : Int32)), .long (v2 <<< ((5 : Int32).toInt64 &&& 63)), .ref x0]) hk rfl rfl rfl rfl rfl ?_
    refine g_s1 (pc2 := 303) hk rfl rfl rfl rfl rfl ?_
    refine g_s1 (pc2 := 304) hk rfl rfl rfl rfl rfl ?_
    refine g_s1 (pc2 := 305) hk rfl rfl rfl rfl rfl ?_
    obtain ⟨⟨o, ho⟩, H⟩ := H
    refine g_step (pc2 := 308) hk rfl rfl rfl (s_put ho rfl) ?_
    exact H
theorem b88_308 {x0 : Nat} {x1 : Int32} {h : iH} {Q : Option Value → iH → Prop} (H : i_P i_MT i_AT L xs 88 277 [some (.ref x0), some (.int (x1 + 1))] [] h 0 0 Q) : i_P i_MT i_AT L xs 88 308 [some (.ref x0), some (.int x1)] [] h 0 0 Q := by
  have hk := i_k88
  refine g_s1 (pc2 := 311) (lo2 := [some (.ref x0), some (.int (x1 + 1))]) hk rfl rfl rfl rfl rfl ?_
  refine g_s1 (pc2 := 277) hk rfl rfl rfl rfl rfl ?_
  exact H
theorem b88_316 {x0 : Nat} {x1 : Int32} {h : iH} {Q : Option Value → iH → Prop} (H : (((33 : Int32) ≤ x1 → i_P i_MT i_AT L xs 88 354 [some (.ref x0), some (.int x1)] [] h 0 0 Q) ∧ (¬ ((33 : Int32) ≤ x1) → (∃ v1 : Nat, i_fld h x0 7 2 = some (.ref v1) ∧ (∃ (n2 : Nat) (f3 : Nat → Int64), i_arJ h v1 = some (n2, f3) ∧ ¬ (x1 < 0 ∨ n2 ≤ x1.toNatClampNeg) ∧ (∃ v4 : Int64, i_fld h x0 7 9 = some (.long v4) ∧ ((¬ (lg_cmp (f3 x1.toNatClampNeg) v4) = 0 → (∃ v5 : Int32, i_fld h x0 7 10 = some (.int v5) ∧ i_P i_MT i_AT L xs 88 345 [some (.ref x0), some (.int x1)] [.int v5, .ref x0] h 0 0 Q)) ∧ (¬ (¬ (lg_cmp (f3 x1.toNatClampNeg) v4) = 0) → i_P i_MT i_AT L xs 88 345 [some (.ref x0), some (.int x1)] [.int x1, .ref x0] h 0 0 Q)))))))) : i_P i_MT i_AT L xs 88 316 [some (.ref x0), some (.int x1)] [] h 0 0 Q := by
  have hk := i_k88
  refine g_s1 (pc2 := 317) hk rfl rfl rfl rfl rfl ?_
  refine g_s1 (pc2 := 319) (st2 := [.int (33 : Int32), .int x1]) hk rfl rfl rfl rfl rfl ?_
  refine g_icmp_ge hk rfl (fun hc => ?_) (fun hc => ?_)
  · have H := H.1 hc
    exact H
  · have H := H.2 hc
    refine g_s1 (pc2 := 323) hk rfl rfl rfl rfl rfl ?_
    refine g_s1 (pc2 := 324) hk rfl rfl rfl rfl rfl ?_
    obtain ⟨v1, ev1, H⟩ := H
    refine g_step (pc2 := 327) hk rfl rfl rfl (s_get ev1) ?_
    refine g_s1 (pc2 := 328) hk rfl rfl rfl rfl rfl ?_
    obtain ⟨n2, f3, ef3, hi, H⟩ := H
    refine g_step (pc2 := 329) hk rfl rfl rfl (s_lget ef3 hi) ?_
    refine g_s1 (pc2 := 330) hk rfl rfl rfl rfl rfl ?_
    obtain ⟨v4, ev4, H⟩ := H
    refine g_step (pc2 := 333) hk rfl rfl rfl (s_get ev4) ?_
    refine g_s1 (pc2 := 334) hk rfl rfl rfl rfl rfl ?_
    refine g_if_ne hk rfl (fun hc => ?_) (fun hc => ?_)
    · have H := H.1 hc
      refine g_s1 (pc2 := 342) hk rfl rfl rfl rfl rfl ?_
      obtain ⟨v5, ev5, H⟩ := H
      refine g_step (pc2 := 345) hk rfl rfl rfl (s_get ev5) ?_
      exact H
    · have H := H.2 hc
      refine g_s1 (pc2 := 338) hk rfl rfl rfl rfl rfl ?_
      refine g_s1 (pc2 := 345) hk rfl rfl rfl rfl rfl ?_
      exact H
theorem b88_345 {x0 : Nat} {x1 : Int32} {s0 : Nat} {s1 : Int32} {h : iH} {Q : Option Value → iH → Prop} (H : ((∃ o, i_fld h s0 7 10 = some o) ∧ i_P i_MT i_AT L xs 88 348 [some (.ref x0), some (.int x1)] [] (i_sf h s0 10 (.int s1)) 0 0 Q)) : i_P i_MT i_AT L xs 88 345 [some (.ref x0), some (.int x1)] [.int s1, .ref s0] h 0 0 Q := by
  have hk := i_k88
  obtain ⟨⟨o, ho⟩, H⟩ := H
  refine g_step (pc2 := 348) hk rfl rfl rfl (s_put ho rfl) ?_
  exact H
theorem b88_348 {x0 : Nat} {x1 : Int32} {h : iH} {Q : Option Value → iH → Prop} (H : i_P i_MT i_AT L xs 88 316 [some (.ref x0), some (.int (x1 + 1))] [] h 0 0 Q) : i_P i_MT i_AT L xs 88 348 [some (.ref x0), some (.int x1)] [] h 0 0 Q := by
  have hk := i_k88
  refine g_s1 (pc2 := 351) (lo2 := [some (.ref x0), some (.int (x1 + 1))]) hk rfl rfl rfl rfl rfl ?_
  refine g_s1 (pc2 := 316) hk rfl rfl rfl rfl rfl ?_
  exact H
theorem b88_354 {x0 : Nat} {x1 : Option Value} {h : iH} {Q : Option Value → iH → Prop} (H : Q none h) : i_P i_MT i_AT L xs 88 354 [some (.ref x0), x1] [] h 0 0 Q := by
  have hk := i_k88
  exact g_return hk rfl (by decide) (by decide) rfl H
/-! StillTown$Tape.isWay()Z -/
theorem e89 {x0 : Nat} {h : iH} {Q : Option Value → iH → Prop} (H : i_P i_MT i_AT L xs 89 0 [some (.ref x0)] [] h 0 0 Q) : i_C i_MT i_AT L xs 89 [.ref x0] h Q := ⟨i_m89, i_k89.1, Nat.le_of_ble_eq_true rfl, H⟩
theorem b89_0 {x0 : Nat} {h : iH} {Q : Option Value → iH → Prop} (H : (∃ v1 : Int32, i_fld h x0 7 10 = some (.int v1) ∧ ((v1 < 0 → i_P i_MT i_AT L xs 89 20 [some (.ref x0)] [] h 0 0 Q) ∧ (¬ (v1 < 0) → (∃ v2 : Int32, i_fld h x0 7 10 = some (.int v2) ∧ (((8 : Int32) ≤ v2 → i_P i_MT i_AT L xs 89 20 [some (.ref x0)] [] h 0 0 Q) ∧ (¬ ((8 : Int32) ≤ v2) → i_P i_MT i_AT L xs 89 21 [some (.ref x0)] [.int (1 : Int32)] h 0 0 Q))))))) : i_P i_MT i_AT L xs 89 0 [some (.ref x0)] [] h 0 0 Q := by
  have hk := i_k89
  refine g_s1 (pc2 := 1) hk rfl rfl rfl rfl rfl ?_
  obtain ⟨v1, ev1, H⟩ := H
  refine g_step (pc2 := 4) hk rfl rfl rfl (s_get ev1) ?_
  refine g_if_lt hk rfl (fun hc => ?_) (fun hc => ?_)
  · have H := H.1 hc
    exact H
  · have H := H.2 hc
    refine g_s1 (pc2 := 8) hk rfl rfl rfl rfl rfl ?_
    obtain ⟨v2, ev2, H⟩ := H
    refine g_step (pc2 := 11) hk rfl rfl rfl (s_get ev2) ?_
    refine g_s1 (pc2 := 13) (st2 := [.int (8 : Int32), .int v2]) hk rfl rfl rfl rfl rfl ?_
    refine g_icmp_ge hk rfl (fun hc => ?_) (fun hc => ?_)
    · have H := H.1 hc
      exact H
    · have H := H.2 hc
      refine g_s1 (pc2 := 17) (st2 := [.int (1 : Int32)]) hk rfl rfl rfl rfl rfl ?_
      refine g_s1 (pc2 := 21) hk rfl rfl rfl rfl rfl ?_
      exact H
theorem b89_20 {x0 : Nat} {h : iH} {Q : Option Value → iH → Prop} (H : i_P i_MT i_AT L xs 89 21 [some (.ref x0)] [.int (0 : Int32)] h 0 0 Q) : i_P i_MT i_AT L xs 89 20 [some (.ref x0)] [] h 0 0 Q := by
  have hk := i_k89
  refine g_s1 (pc2 := 21) (st2 := [.int (0 : Int32)]) hk rfl rfl rfl rfl rfl ?_
  exact H
theorem b89_21 {x0 : Nat} {s0 : Int32} {h : iH} {Q : Option Value → iH → Prop} (H : (i_ret (some .boolean) s0 = true ∧ Q (some (.int s0)) h)) : i_P i_MT i_AT L xs 89 21 [some (.ref x0)] [.int s0] h 0 0 Q := by
  have hk := i_k89
  exact g_ireturn hk rfl (by decide) (by decide) H.1 H.2
/-! StillTown$Tape.isName()Z -/
theorem e90 {x0 : Nat} {h : iH} {Q : Option Value → iH → Prop} (H : i_P i_MT i_AT L xs 90 0 [some (.ref x0)] [] h 0 0 Q) : i_C i_MT i_AT L xs 90 [.ref x0] h Q := ⟨i_m90, i_k90.1, Nat.le_of_ble_eq_true rfl, H⟩
theorem b90_0 {x0 : Nat} {h : iH} {Q : Option Value → iH → Prop} (H : (∃ v1 : Int32, i_fld h x0 7 6 = some (.int v1) ∧ ((¬ v1 = (2 : Int32) → i_P i_MT i_AT L xs 90 29 [some (.ref x0)] [] h 0 0 Q) ∧ (¬ (¬ v1 = (2 : Int32)) → (∃ v2 : Int32, i_fld h x0 7 10 = some (.int v2) ∧ ((¬ v2 = (-1 : Int32) → i_P i_MT i_AT L xs 90 29 [some (.ref x0)] [] h 0 0 Q) ∧ (¬ (¬ v2 = (-1 : Int32)) → (∃ v3 : Int64, i_fld h x0 7 9 = some (.long v3) ∧ (((lg_cmp v3 (0 : Int64)) = 0 → i_P i_MT i_AT L xs 90 29 [some (.ref x0)] [] h 0 0 Q) ∧ (¬ ((lg_cmp v3 (0 : Int64)) = 0) → i_P i_MT i_AT L xs 90 30 [some (.ref x0)] [.int (1 : Int32)] h 0 0 Q)))))))))) : i_P i_MT i_AT L xs 90 0 [some (.ref x0)] [] h 0 0 Q := by
  have hk := i_k90
  refine g_s1 (pc2 := 1) hk rfl rfl rfl rfl rfl ?_
  obtain ⟨v1, ev1, H⟩ := H
  refine g_step (pc2 := 4) hk rfl rfl rfl (s_get ev1) ?_
  refine g_s1 (pc2 := 5) (st2 := [.int (2 : Int32), .int v1]) hk rfl rfl rfl rfl rfl ?_
  refine g_icmp_ne hk rfl (fun hc => ?_) (fun hc => ?_)
  · have H := H.1 hc
    exact H
  · have H := H.2 hc
    refine g_s1 (pc2 := 9) hk rfl rfl rfl rfl rfl ?_
    obtain ⟨v2, ev2, H⟩ := H
    refine g_step (pc2 := 12) hk rfl rfl rfl (s_get ev2) ?_
    refine g_s1 (pc2 := 13) (st2 := [.int (-1 : Int32), .int v2]) hk rfl rfl rfl rfl rfl ?_
    refine g_icmp_ne hk rfl (fun hc => ?_) (fun hc => ?_)
    · have H := H.1 hc
      exact H
    · have H := H.2 hc
      refine g_s1 (pc2 := 17) hk rfl rfl rfl rfl rfl ?_
      obtain ⟨v3, ev3, H⟩ := H
      refine g_step (pc2 := 20) hk rfl rfl rfl (s_get ev3) ?_
      refine g_s1 (pc2 := 21) (st2 := [.long (0 : Int64), .long v3]) hk rfl rfl rfl rfl rfl ?_
      refine g_s1 (pc2 := 22) hk rfl rfl rfl rfl rfl ?_
      refine g_if_eq hk rfl (fun hc => ?_) (fun hc => ?_)
      · have H := H.1 hc
        exact H
      · have H := H.2 hc
        refine g_s1 (pc2 := 26) (st2 := [.int (1 : Int32)]) hk rfl rfl rfl rfl rfl ?_
        refine g_s1 (pc2 := 30) hk rfl rfl rfl rfl rfl ?_
        exact H
theorem b90_29 {x0 : Nat} {h : iH} {Q : Option Value → iH → Prop} (H : i_P i_MT i_AT L xs 90 30 [some (.ref x0)] [.int (0 : Int32)] h 0 0 Q) : i_P i_MT i_AT L xs 90 29 [some (.ref x0)] [] h 0 0 Q := by
  have hk := i_k90
  refine g_s1 (pc2 := 30) (st2 := [.int (0 : Int32)]) hk rfl rfl rfl rfl rfl ?_
  exact H
theorem b90_30 {x0 : Nat} {s0 : Int32} {h : iH} {Q : Option Value → iH → Prop} (H : (i_ret (some .boolean) s0 = true ∧ Q (some (.int s0)) h)) : i_P i_MT i_AT L xs 90 30 [some (.ref x0)] [.int s0] h 0 0 Q := by
  have hk := i_k90
  exact g_ireturn hk rfl (by decide) (by decide) H.1 H.2
/-! StillTown$Tape.takeWord(I)Z -/
theorem e91 {x0 : Nat} {x1 : Int32} {h : iH} {Q : Option Value → iH → Prop} (H : i_P i_MT i_AT L xs 91 0 [some (.ref x0), some (.int x1)] [] h 0 0 Q) : i_C i_MT i_AT L xs 91 [.ref x0, .int x1] h Q := ⟨i_m91, i_k91.1, Nat.le_of_ble_eq_true rfl, H⟩
theorem b91_0 {x0 : Nat} {x1 : Int32} {h : iH} {Q : Option Value → iH → Prop} (H : (i_obj? h x0 7 ∧ i_C i_MT i_AT L xs 88 [.ref x0] h (fun v h1 => v = none ∧ i_P i_MT i_AT L xs 91 4 [some (.ref x0), some (.int x1)] [] h1 0 0 Q))) : i_P i_MT i_AT L xs 91 0 [some (.ref x0), some (.int x1)] [] h 0 0 Q := by
  have hk := i_k91
  refine g_s1 (pc2 := 1) hk rfl rfl rfl rfl rfl ?_
  obtain ⟨ho, H⟩ := H
  refine g_call hk rfl rfl i_k88.1 ⟨rfl, rfl⟩ rfl (i_rcv_v ho rfl (by decide)) rfl ?_
  exact H.mono (fun v h2 q => by obtain ⟨rfl, q⟩ := q; exact q)
theorem b91_4 {x0 : Nat} {x1 : Int32} {h : iH} {Q : Option Value → iH → Prop} (H : (∃ v1 : Int32, i_fld h x0 7 10 = some (.int v1) ∧ ((v1 = x1 → i_P i_MT i_AT L xs 91 19 [some (.ref x0), some (.int x1)] [] h 0 0 Q) ∧ (¬ (v1 = x1) → (i_obj? h x0 7 ∧ i_C i_MT i_AT L xs 87 [.ref x0] h (fun v h2 => ∃ r3 : Int32, v = some (.int r3) ∧ i_P i_MT i_AT L xs 91 16 [some (.ref x0), some (.int x1)] [.int r3] h2 0 0 Q)))))) : i_P i_MT i_AT L xs 91 4 [some (.ref x0), some (.int x1)] [] h 0 0 Q := by
  have hk := i_k91
  refine g_s1 (pc2 := 5) hk rfl rfl rfl rfl rfl ?_
  obtain ⟨v1, ev1, H⟩ := H
  refine g_step (pc2 := 8) hk rfl rfl rfl (s_get ev1) ?_
  refine g_s1 (pc2 := 9) hk rfl rfl rfl rfl rfl ?_
  refine g_icmp_eq hk rfl (fun hc => ?_) (fun hc => ?_)
  · have H := H.1 hc
    exact H
  · have H := H.2 hc
    refine g_s1 (pc2 := 13) hk rfl rfl rfl rfl rfl ?_
    obtain ⟨ho, H⟩ := H
    refine g_call hk rfl rfl i_k87.1 ⟨rfl, rfl⟩ rfl (i_rcv_v ho rfl (by decide)) rfl ?_
    exact H.mono (fun v h2 q => by obtain ⟨r, rfl, q⟩ := q; exact q)
theorem b91_16 {x0 : Nat} {x1 : Int32} {s0 : Int32} {h : iH} {Q : Option Value → iH → Prop} (H : ((s0 = 0 → i_P i_MT i_AT L xs 91 24 [some (.ref x0), some (.int x1)] [.int (0 : Int32)] h 0 0 Q) ∧ (¬ (s0 = 0) → i_P i_MT i_AT L xs 91 19 [some (.ref x0), some (.int x1)] [] h 0 0 Q))) : i_P i_MT i_AT L xs 91 16 [some (.ref x0), some (.int x1)] [.int s0] h 0 0 Q := by
  have hk := i_k91
  refine g_if_eq hk rfl (fun hc => ?_) (fun hc => ?_)
  · have H := H.1 hc
    refine g_s1 (pc2 := 24) (st2 := [.int (0 : Int32)]) hk rfl rfl rfl rfl rfl ?_
    exact H
  · have H := H.2 hc
    exact H
theorem b91_19 {x0 : Nat} {x1 : Int32} {h : iH} {Q : Option Value → iH → Prop} (H : i_P i_MT i_AT L xs 91 24 [some (.ref x0), some (.int x1)] [.int (1 : Int32)] h 0 0 Q) : i_P i_MT i_AT L xs 91 19 [some (.ref x0), some (.int x1)] [] h 0 0 Q := by
  have hk := i_k91
  refine g_s1 (pc2 := 20) (st2 := [.int (1 : Int32)]) hk rfl rfl rfl rfl rfl ?_
  refine g_s1 (pc2 := 24) hk rfl rfl rfl rfl rfl ?_
  exact H
theorem b91_24 {x0 : Nat} {x1 : Int32} {s0 : Int32} {h : iH} {Q : Option Value → iH → Prop} (H : (i_ret (some .boolean) s0 = true ∧ Q (some (.int s0)) h)) : i_P i_MT i_AT L xs 91 24 [some (.ref x0), some (.int x1)] [.int s0] h 0 0 Q := by
  have hk := i_k91
  exact g_ireturn hk rfl (by decide) (by decide) H.1 H.2
/-! StillTown$Tape.takeWay()Z -/
theorem e92 {x0 : Nat} {h : iH} {Q : Option Value → iH → Prop} (H : i_P i_MT i_AT L xs 92 0 [some (.ref x0)] [] h 0 0 Q) : i_C i_MT i_AT L xs 92 [.ref x0] h Q := ⟨i_m92, i_k92.1, Nat.le_of_ble_eq_true rfl, H⟩
theorem b92_0 {x0 : Nat} {h : iH} {Q : Option Value → iH → Prop} (H : (i_obj? h x0 7 ∧ i_C i_MT i_AT L xs 88 [.ref x0] h (fun v h1 => v = none ∧ i_P i_MT i_AT L xs 92 4 [some (.ref x0)] [] h1 0 0 Q))) : i_P i_MT i_AT L xs 92 0 [some (.ref x0)] [] h 0 0 Q := by
  have hk := i_k92
  refine g_s1 (pc2 := 1) hk rfl rfl rfl rfl rfl ?_
  obtain ⟨ho, H⟩ := H
  refine g_call hk rfl rfl i_k88.1 ⟨rfl, rfl⟩ rfl (i_rcv_v ho rfl (by decide)) rfl ?_
  exact H.mono (fun v h2 q => by obtain ⟨rfl, q⟩ := q; exact q)
theorem b92_4 {x0 : Nat} {h : iH} {Q : Option Value → iH → Prop} (H : (i_obj? h x0 7 ∧ i_C i_MT i_AT L xs 89 [.ref x0] h (fun v h1 => ∃ r2 : Int32, v = some (.int r2) ∧ i_P i_MT i_AT L xs 92 8 [some (.ref x0)] [.int r2] h1 0 0 Q))) : i_P i_MT i_AT L xs 92 4 [some (.ref x0)] [] h 0 0 Q := by
  have hk := i_k92
  refine g_s1 (pc2 := 5) hk rfl rfl rfl rfl rfl ?_
  obtain ⟨ho, H⟩ := H
  refine g_call hk rfl rfl i_k89.1 ⟨rfl, rfl⟩ rfl (i_rcv_v ho rfl (by decide)) rfl ?_
  exact H.mono (fun v h2 q => by obtain ⟨r, rfl, q⟩ := q; exact q)
theorem b92_8 {x0 : Nat} {s0 : Int32} {h : iH} {Q : Option Value → iH → Prop} (H : ((¬ s0 = 0 → i_P i_MT i_AT L xs 92 18 [some (.ref x0)] [] h 0 0 Q) ∧ (¬ (¬ s0 = 0) → (i_obj? h x0 7 ∧ i_C i_MT i_AT L xs 87 [.ref x0] h (fun v h1 => ∃ r2 : Int32, v = some (.int r2) ∧ i_P i_MT i_AT L xs 92 15 [some (.ref x0)] [.int r2] h1 0 0 Q))))) : i_P i_MT i_AT L xs 92 8 [some (.ref x0)] [.int s0] h 0 0 Q := by
  have hk := i_k92
  refine g_if_ne hk rfl (fun hc => ?_) (fun hc => ?_)
  · have H := H.1 hc
    exact H
  · have H := H.2 hc
    refine g_s1 (pc2 := 12) hk rfl rfl rfl rfl rfl ?_
    obtain ⟨ho, H⟩ := H
    refine g_call hk rfl rfl i_k87.1 ⟨rfl, rfl⟩ rfl (i_rcv_v ho rfl (by decide)) rfl ?_
    exact H.mono (fun v h2 q => by obtain ⟨r, rfl, q⟩ := q; exact q)
theorem b92_15 {x0 : Nat} {s0 : Int32} {h : iH} {Q : Option Value → iH → Prop} (H : ((s0 = 0 → i_P i_MT i_AT L xs 92 23 [some (.ref x0)] [.int (0 : Int32)] h 0 0 Q) ∧ (¬ (s0 = 0) → i_P i_MT i_AT L xs 92 18 [some (.ref x0)] [] h 0 0 Q))) : i_P i_MT i_AT L xs 92 15 [some (.ref x0)] [.int s0] h 0 0 Q := by
  have hk := i_k92
  refine g_if_eq hk rfl (fun hc => ?_) (fun hc => ?_)
  · have H := H.1 hc
    refine g_s1 (pc2 := 23) (st2 := [.int (0 : Int32)]) hk rfl rfl rfl rfl rfl ?_
    exact H
  · have H := H.2 hc
    exact H
theorem b92_18 {x0 : Nat} {h : iH} {Q : Option Value → iH → Prop} (H : i_P i_MT i_AT L xs 92 23 [some (.ref x0)] [.int (1 : Int32)] h 0 0 Q) : i_P i_MT i_AT L xs 92 18 [some (.ref x0)] [] h 0 0 Q := by
  have hk := i_k92
  refine g_s1 (pc2 := 19) (st2 := [.int (1 : Int32)]) hk rfl rfl rfl rfl rfl ?_
  refine g_s1 (pc2 := 23) hk rfl rfl rfl rfl rfl ?_
  exact H
theorem b92_23 {x0 : Nat} {s0 : Int32} {h : iH} {Q : Option Value → iH → Prop} (H : (i_ret (some .boolean) s0 = true ∧ Q (some (.int s0)) h)) : i_P i_MT i_AT L xs 92 23 [some (.ref x0)] [.int s0] h 0 0 Q := by
  have hk := i_k92
  exact g_ireturn hk rfl (by decide) (by decide) H.1 H.2
/-! StillTown$Tape.takeName()Z -/
theorem e93 {x0 : Nat} {h : iH} {Q : Option Value → iH → Prop} (H : i_P i_MT i_AT L xs 93 0 [some (.ref x0)] [] h 0 0 Q) : i_C i_MT i_AT L xs 93 [.ref x0] h Q := ⟨i_m93, i_k93.1, Nat.le_of_ble_eq_true rfl, H⟩
theorem b93_0 {x0 : Nat} {h : iH} {Q : Option Value → iH → Prop} (H : (i_obj? h x0 7 ∧ i_C i_MT i_AT L xs 88 [.ref x0] h (fun v h1 => v = none ∧ i_P i_MT i_AT L xs 93 4 [some (.ref x0)] [] h1 0 0 Q))) : i_P i_MT i_AT L xs 93 0 [some (.ref x0)] [] h 0 0 Q := by
  have hk := i_k93
  refine g_s1 (pc2 := 1) hk rfl rfl rfl rfl rfl ?_
  obtain ⟨ho, H⟩ := H
  refine g_call hk rfl rfl i_k88.1 ⟨rfl, rfl⟩ rfl (i_rcv_v ho rfl (by decide)) rfl ?_
  exact H.mono (fun v h2 q => by obtain ⟨rfl, q⟩ := q; exact q)
theorem b93_4 {x0 : Nat} {h : iH} {Q : Option Value → iH → Prop} (H : (i_obj? h x0 7 ∧ i_C i_MT i_AT L xs 90 [.ref x0] h (fun v h1 => ∃ r2 : Int32, v = some (.int r2) ∧ i_P i_MT i_AT L xs 93 8 [some (.ref x0)] [.int r2] h1 0 0 Q))) : i_P i_MT i_AT L xs 93 4 [some (.ref x0)] [] h 0 0 Q := by
  have hk := i_k93
  refine g_s1 (pc2 := 5) hk rfl rfl rfl rfl rfl ?_
  obtain ⟨ho, H⟩ := H
  refine g_call hk rfl rfl i_k90.1 ⟨rfl, rfl⟩ rfl (i_rcv_v ho rfl (by decide)) rfl ?_
  exact H.mono (fun v h2 q => by obtain ⟨r, rfl, q⟩ := q; exact q)
theorem b93_8 {x0 : Nat} {s0 : Int32} {h : iH} {Q : Option Value → iH → Prop} (H : ((¬ s0 = 0 → i_P i_MT i_AT L xs 93 18 [some (.ref x0)] [] h 0 0 Q) ∧ (¬ (¬ s0 = 0) → (i_obj? h x0 7 ∧ i_C i_MT i_AT L xs 87 [.ref x0] h (fun v h1 => ∃ r2 : Int32, v = some (.int r2) ∧ i_P i_MT i_AT L xs 93 15 [some (.ref x0)] [.int r2] h1 0 0 Q))))) : i_P i_MT i_AT L xs 93 8 [some (.ref x0)] [.int s0] h 0 0 Q := by
  have hk := i_k93
  refine g_if_ne hk rfl (fun hc => ?_) (fun hc => ?_)
  · have H := H.1 hc
    exact H
  · have H := H.2 hc
    refine g_s1 (pc2 := 12) hk rfl rfl rfl rfl rfl ?_
    obtain ⟨ho, H⟩ := H
    refine g_call hk rfl rfl i_k87.1 ⟨rfl, rfl⟩ rfl (i_rcv_v ho rfl (by decide)) rfl ?_
    exact H.mono (fun v h2 q => by obtain ⟨r, rfl, q⟩ := q; exact q)
theorem b93_15 {x0 : Nat} {s0 : Int32} {h : iH} {Q : Option Value → iH → Prop} (H : ((s0 = 0 → i_P i_MT i_AT L xs 93 23 [some (.ref x0)] [.int (0 : Int32)] h 0 0 Q) ∧ (¬ (s0 = 0) → i_P i_MT i_AT L xs 93 18 [some (.ref x0)] [] h 0 0 Q))) : i_P i_MT i_AT L xs 93 15 [some (.ref x0)] [.int s0] h 0 0 Q := by
  have hk := i_k93
  refine g_if_eq hk rfl (fun hc => ?_) (fun hc => ?_)
  · have H := H.1 hc
    refine g_s1 (pc2 := 23) (st2 := [.int (0 : Int32)]) hk rfl rfl rfl rfl rfl ?_
    exact H
  · have H := H.2 hc
    exact H
theorem b93_18 {x0 : Nat} {h : iH} {Q : Option Value → iH → Prop} (H : i_P i_MT i_AT L xs 93 23 [some (.ref x0)] [.int (1 : Int32)] h 0 0 Q) : i_P i_MT i_AT L xs 93 18 [some (.ref x0)] [] h 0 0 Q := by
  have hk := i_k93
  refine g_s1 (pc2 := 19) (st2 := [.int (1 : Int32)]) hk rfl rfl rfl rfl rfl ?_
  refine g_s1 (pc2 := 23) hk rfl rfl rfl rfl rfl ?_
  exact H
theorem b93_23 {x0 : Nat} {s0 : Int32} {h : iH} {Q : Option Value → iH → Prop} (H : (i_ret (some .boolean) s0 = true ∧ Q (some (.int s0)) h)) : i_P i_MT i_AT L xs 93 23 [some (.ref x0)] [.int s0] h 0 0 Q := by
  have hk := i_k93
  exact g_ireturn hk rfl (by decide) (by decide) H.1 H.2
/-! StillTown$Tape.takeStop()Z -/
theorem e94 {x0 : Nat} {h : iH} {Q : Option Value → iH → Prop} (H : i_P i_MT i_AT L xs 94 0 [some (.ref x0)] [] h 0 0 Q) : i_C i_MT i_AT L xs 94 [.ref x0] h Q := ⟨i_m94, i_k94.1, Nat.le_of_ble_eq_true rfl, H⟩
theorem b94_0 {x0 : Nat} {h : iH} {Q : Option Value → iH → Prop} (H : (i_obj? h x0 7 ∧ i_C i_MT i_AT L xs 88 [.ref x0] h (fun v h1 => v = none ∧ i_P i_MT i_AT L xs 94 4 [some (.ref x0)] [] h1 0 0 Q))) : i_P i_MT i_AT L xs 94 0 [some (.ref x0)] [] h 0 0 Q := by
  have hk := i_k94
  refine g_s1 (pc2 := 1) hk rfl rfl rfl rfl rfl ?_
  obtain ⟨ho, H⟩ := H
  refine g_call hk rfl rfl i_k88.1 ⟨rfl, rfl⟩ rfl (i_rcv_v ho rfl (by decide)) rfl ?_
  exact H.mono (fun v h2 q => by obtain ⟨rfl, q⟩ := q; exact q)
theorem b94_4 {x0 : Nat} {h : iH} {Q : Option Value → iH → Prop} (H : (∃ v1 : Int32, i_fld h x0 7 6 = some (.int v1) ∧ ((v1 = (3 : Int32) → i_P i_MT i_AT L xs 94 19 [some (.ref x0)] [] h 0 0 Q) ∧ (¬ (v1 = (3 : Int32)) → (i_obj? h x0 7 ∧ i_C i_MT i_AT L xs 87 [.ref x0] h (fun v h2 => ∃ r3 : Int32, v = some (.int r3) ∧ i_P i_MT i_AT L xs 94 16 [some (.ref x0)] [.int r3] h2 0 0 Q)))))) : i_P i_MT i_AT L xs 94 4 [some (.ref x0)] [] h 0 0 Q := by
  have hk := i_k94
  refine g_s1 (pc2 := 5) hk rfl rfl rfl rfl rfl ?_
  obtain ⟨v1, ev1, H⟩ := H
  refine g_step (pc2 := 8) hk rfl rfl rfl (s_get ev1) ?_
  refine g_s1 (pc2 := 9) (st2 := [.int (3 : Int32), .int v1]) hk rfl rfl rfl rfl rfl ?_
  refine g_icmp_eq hk rfl (fun hc => ?_) (fun hc => ?_)
  · have H := H.1 hc
    exact H
  · have H := H.2 hc
    refine g_s1 (pc2 := 13) hk rfl rfl rfl rfl rfl ?_
    obtain ⟨ho, H⟩ := H
    refine g_call hk rfl rfl i_k87.1 ⟨rfl, rfl⟩ rfl (i_rcv_v ho rfl (by decide)) rfl ?_
    exact H.mono (fun v h2 q => by obtain ⟨r, rfl, q⟩ := q; exact q)
theorem b94_16 {x0 : Nat} {s0 : Int32} {h : iH} {Q : Option Value → iH → Prop} (H : ((s0 = 0 → i_P i_MT i_AT L xs 94 24 [some (.ref x0)] [.int (0 : Int32)] h 0 0 Q) ∧ (¬ (s0 = 0) → i_P i_MT i_AT L xs 94 19 [some (.ref x0)] [] h 0 0 Q))) : i_P i_MT i_AT L xs 94 16 [some (.ref x0)] [.int s0] h 0 0 Q := by
  have hk := i_k94
  refine g_if_eq hk rfl (fun hc => ?_) (fun hc => ?_)
  · have H := H.1 hc
    refine g_s1 (pc2 := 24) (st2 := [.int (0 : Int32)]) hk rfl rfl rfl rfl rfl ?_
    exact H
  · have H := H.2 hc
    exact H
theorem b94_19 {x0 : Nat} {h : iH} {Q : Option Value → iH → Prop} (H : i_P i_MT i_AT L xs 94 24 [some (.ref x0)] [.int (1 : Int32)] h 0 0 Q) : i_P i_MT i_AT L xs 94 19 [some (.ref x0)] [] h 0 0 Q := by
  have hk := i_k94
  refine g_s1 (pc2 := 20) (st2 := [.int (1 : Int32)]) hk rfl rfl rfl rfl rfl ?_
  refine g_s1 (pc2 := 24) hk rfl rfl rfl rfl rfl ?_
  exact H
theorem b94_24 {x0 : Nat} {s0 : Int32} {h : iH} {Q : Option Value → iH → Prop} (H : (i_ret (some .boolean) s0 = true ∧ Q (some (.int s0)) h)) : i_P i_MT i_AT L xs 94 24 [some (.ref x0)] [.int s0] h 0 0 Q := by
  have hk := i_k94
  exact g_ireturn hk rfl (by decide) (by decide) H.1 H.2
/-! StillTown$Tape.takeNumber(II)Z -/
theorem e95 {x0 : Nat} {x1 : Int32} {x2 : Int32} {h : iH} {Q : Option Value → iH → Prop} (H : i_P i_MT i_AT L xs 95 0 [some (.ref x0), some (.int x1), some (.int x2)] [] h 0 0 Q) : i_C i_MT i_AT L xs 95 [.ref x0, .int x1, .int x2] h Q := ⟨i_m95, i_k95.1, Nat.le_of_ble_eq_true rfl, H⟩
theorem b95_0 {x0 : Nat} {x1 : Int32} {x2 : Int32} {h : iH} {Q : Option Value → iH → Prop} (H : (i_obj? h x0 7 ∧ i_C i_MT i_AT L xs 88 [.ref x0] h (fun v h1 => v = none ∧ i_P i_MT i_AT L xs 95 4 [some (.ref x0), some (.int x1), some (.int x2)] [] h1 0 0 Q))) : i_P i_MT i_AT L xs 95 0 [some (.ref x0), some (.int x1), some (.int x2)] [] h 0 0 Q := by
  have hk := i_k95
  refine g_s1 (pc2 := 1) hk rfl rfl rfl rfl rfl ?_
  obtain ⟨ho, H⟩ := H
  refine g_call hk rfl rfl i_k88.1 ⟨rfl, rfl⟩ rfl (i_rcv_v ho rfl (by decide)) rfl ?_
  exact H.mono (fun v h2 q => by obtain ⟨rfl, q⟩ := q; exact q)
theorem b95_4 {x0 : Nat} {x1 : Int32} {x2 : Int32} {h : iH} {Q : Option Value → iH → Prop} (H : (∃ v1 : Int32, i_fld h x0 7 6 = some (.int v1) ∧ ((v1 = (1 : Int32) → (∃ v2 : Int32, i_fld h x0 7 8 = some (.int v2) ∧ (i_C i_MT i_AT L xs 192 [.int v2, .int x1, .int x2] h (fun v h3 => ∃ r4 : Int32, v = some (.int r4) ∧ i_P i_MT i_AT L xs 95 26 [some (.ref x0), some (.int x1), some (.int x2)] [.int r4] h3 0 0 Q)))) ∧ (¬ (v1 = (1 : Int32)) → (i_obj? h x0 7 ∧ i_C i_MT i_AT L xs 87 [.ref x0] h (fun v h5 => ∃ r6 : Int32, v = some (.int r6) ∧ i_P i_MT i_AT L xs 95 16 [some (.ref x0), some (.int x1), some (.int x2)] [.int r6] h5 0 0 Q)))))) : i_P i_MT i_AT L xs 95 4 [some (.ref x0), some (.int x1), some (.int x2)] [] h 0 0 Q := by
  have hk := i_k95
  refine g_s1 (pc2 := 5) hk rfl rfl rfl rfl rfl ?_
  obtain ⟨v1, ev1, H⟩ := H
  refine g_step (pc2 := 8) hk rfl rfl rfl (s_get ev1) ?_
  refine g_s1 (pc2 := 9) (st2 := [.int (1 : Int32), .int v1]) hk rfl rfl rfl rfl rfl ?_
  refine g_icmp_eq hk rfl (fun hc => ?_) (fun hc => ?_)
  · have H := H.1 hc
    refine g_s1 (pc2 := 18) hk rfl rfl rfl rfl rfl ?_
    obtain ⟨v2, ev2, H⟩ := H
    refine g_step (pc2 := 21) hk rfl rfl rfl (s_get ev2) ?_
    refine g_s1 (pc2 := 22) hk rfl rfl rfl rfl rfl ?_
    refine g_s1 (pc2 := 23) hk rfl rfl rfl rfl rfl ?_
    refine g_call hk rfl rfl i_k192.1 ⟨rfl, rfl⟩ rfl (i_rcv_0 rfl) rfl ?_
    exact H.mono (fun v h2 q => by obtain ⟨r, rfl, q⟩ := q; exact q)
  · have H := H.2 hc
    refine g_s1 (pc2 := 13) hk rfl rfl rfl rfl rfl ?_
    obtain ⟨ho, H⟩ := H
    refine g_call hk rfl rfl i_k87.1 ⟨rfl, rfl⟩ rfl (i_rcv_v ho rfl (by decide)) rfl ?_
    exact H.mono (fun v h2 q => by obtain ⟨r, rfl, q⟩ := q; exact q)
theorem b95_16 {x0 : Nat} {x1 : Int32} {x2 : Int32} {s0 : Int32} {h : iH} {Q : Option Value → iH → Prop} (H : (i_ret (some .boolean) s0 = true ∧ Q (some (.int s0)) h)) : i_P i_MT i_AT L xs 95 16 [some (.ref x0), some (.int x1), some (.int x2)] [.int s0] h 0 0 Q := by
  have hk := i_k95
  exact g_ireturn hk rfl (by decide) (by decide) H.1 H.2
theorem b95_26 {x0 : Nat} {x1 : Int32} {x2 : Int32} {s0 : Int32} {h : iH} {Q : Option Value → iH → Prop} (H : ((¬ s0 = 0 → i_P i_MT i_AT L xs 95 37 [some (.ref x0), some (.int x1), some (.int x2)] [] h 0 0 Q) ∧ (¬ (¬ s0 = 0) → (i_obj? h x0 7 ∧ i_C i_MT i_AT L xs 86 [.ref x0, .int (4 : Int32)] h (fun v h1 => ∃ r2 : Int32, v = some (.int r2) ∧ i_P i_MT i_AT L xs 95 34 [some (.ref x0), some (.int x1), some (.int x2)] [.int r2] h1 0 0 Q))))) : i_P i_MT i_AT L xs 95 26 [some (.ref x0), some (.int x1), some (.int x2)] [.int s0] h 0 0 Q := by
  have hk := i_k95
  refine g_if_ne hk rfl (fun hc => ?_) (fun hc => ?_)
  · have H := H.1 hc
    exact H
  · have H := H.2 hc
    refine g_s1 (pc2 := 30) hk rfl rfl rfl rfl rfl ?_
    refine g_s1 (pc2 := 31) (st2 := [.int (4 : Int32), .ref x0]) hk rfl rfl rfl rfl rfl ?_
    obtain ⟨ho, H⟩ := H
    refine g_call hk rfl rfl i_k86.1 ⟨rfl, rfl⟩ rfl (i_rcv_v ho rfl (by decide)) rfl ?_
    exact H.mono (fun v h2 q => by obtain ⟨r, rfl, q⟩ := q; exact q)
theorem b95_34 {x0 : Nat} {x1 : Int32} {x2 : Int32} {s0 : Int32} {h : iH} {Q : Option Value → iH → Prop} (H : ((s0 = 0 → i_P i_MT i_AT L xs 95 42 [some (.ref x0), some (.int x1), some (.int x2)] [.int (0 : Int32)] h 0 0 Q) ∧ (¬ (s0 = 0) → i_P i_MT i_AT L xs 95 37 [some (.ref x0), some (.int x1), some (.int x2)] [] h 0 0 Q))) : i_P i_MT i_AT L xs 95 34 [some (.ref x0), some (.int x1), some (.int x2)] [.int s0] h 0 0 Q := by
  have hk := i_k95
  refine g_if_eq hk rfl (fun hc => ?_) (fun hc => ?_)
  · have H := H.1 hc
    refine g_s1 (pc2 := 42) (st2 := [.int (0 : Int32)]) hk rfl rfl rfl rfl rfl ?_
    exact H
  · have H := H.2 hc
    exact H
theorem b95_37 {x0 : Nat} {x1 : Int32} {x2 : Int32} {h : iH} {Q : Option Value → iH → Prop} (H : i_P i_MT i_AT L xs 95 42 [some (.ref x0), some (.int x1), some (.int x2)] [.int (1 : Int32)] h 0 0 Q) : i_P i_MT i_AT L xs 95 37 [some (.ref x0), some (.int x1), some (.int x2)] [] h 0 0 Q := by
  have hk := i_k95
  refine g_s1 (pc2 := 38) (st2 := [.int (1 : Int32)]) hk rfl rfl rfl rfl rfl ?_
  refine g_s1 (pc2 := 42) hk rfl rfl rfl rfl rfl ?_
  exact H
theorem b95_42 {x0 : Nat} {x1 : Int32} {x2 : Int32} {s0 : Int32} {h : iH} {Q : Option Value → iH → Prop} (H : (i_ret (some .boolean) s0 = true ∧ Q (some (.int s0)) h)) : i_P i_MT i_AT L xs 95 42 [some (.ref x0), some (.int x1), some (.int x2)] [.int s0] h 0 0 Q := by
  have hk := i_k95
  exact g_ireturn hk rfl (by decide) (by decide) H.1 H.2
/-! StillTown$Town.clear()V -/
theorem e97 {x0 : Nat} {h : iH} {Q : Option Value → iH → Prop} (H : i_P i_MT i_AT L xs 97 0 [some (.ref x0)] [] h 0 0 Q) : i_C i_MT i_AT L xs 97 [.ref x0] h Q := ⟨i_m97, i_k97.1, Nat.le_of_ble_eq_true rfl, H⟩
theorem b97_0 {x0 : Nat} {h : iH} {Q : Option Value → iH → Prop} (H : ((∃ o, i_fld h x0 8 0 = some o) ∧ i_P i_MT i_AT L xs 97 5 [some (.ref x0)] [] (i_sf h x0 0 (.int (0 : Int32))) 0 0 Q)) : i_P i_MT i_AT L xs 97 0 [some (.ref x0)] [] h 0 0 Q := by
  have hk := i_k97
  refine g_s1 (pc2 := 1) hk rfl rfl rfl rfl rfl ?_
  refine g_s1 (pc2 := 2) (st2 := [.int (0 : Int32), .ref x0]) hk rfl rfl rfl rfl rfl ?_
  obtain ⟨⟨o, ho⟩, H⟩ := H
  refine g_step (pc2 := 5) hk rfl rfl rfl (s_put ho rfl) ?_
  exact H
theorem b97_5 {x0 : Nat} {h : iH} {Q : Option Value → iH → Prop} (H : ((∃ o, i_fld h x0 8 1 = some o) ∧ i_P i_MT i_AT L xs 97 10 [some (.ref x0)] [] (i_sf h x0 1 (.int (0 : Int32))) 0 0 Q)) : i_P i_MT i_AT L xs 97 5 [some (.ref x0)] [] h 0 0 Q := by
  have hk := i_k97
  refine g_s1 (pc2 := 6) hk rfl rfl rfl rfl rfl ?_
  refine g_s1 (pc2 := 7) (st2 := [.int (0 : Int32), .ref x0]) hk rfl rfl rfl rfl rfl ?_
  obtain ⟨⟨o, ho⟩, H⟩ := H
  refine g_step (pc2 := 10) hk rfl rfl rfl (s_put ho rfl) ?_
  exact H
theorem b97_10 {x0 : Nat} {h : iH} {Q : Option Value → iH → Prop} (H : ((∃ o, i_fld h x0 8 2 = some o) ∧ i_P i_MT i_AT L xs 97 15 [some (.ref x0)] [] (i_sf h x0 2 (.long (0 : Int64))) 0 0 Q)) : i_P i_MT i_AT L xs 97 10 [some (.ref x0)] [] h 0 0 Q := by
  have hk := i_k97
  refine g_s1 (pc2 := 11) hk rfl rfl rfl rfl rfl ?_
  refine g_s1 (pc2 := 12) (st2 := [.long (0 : Int64), .ref x0]) hk rfl rfl rfl rfl rfl ?_
  obtain ⟨⟨o, ho⟩, H⟩ := H
  refine g_step (pc2 := 15) hk rfl rfl rfl (s_put ho rfl) ?_
  exact H
theorem b97_15 {x0 : Nat} {h : iH} {Q : Option Value → iH → Prop} (H : ((∃ o, i_fld h x0 8 3 = some o) ∧ i_P i_MT i_AT L xs 97 20 [some (.ref x0)] [] (i_sf h x0 3 (.long (0 : Int64))) 0 0 Q)) : i_P i_MT i_AT L xs 97 15 [some (.ref x0)] [] h 0 0 Q := by
  have hk := i_k97
  refine g_s1 (pc2 := 16) hk rfl rfl rfl rfl rfl ?_
  refine g_s1 (pc2 := 17) (st2 := [.long (0 : Int64), .ref x0]) hk rfl rfl rfl rfl rfl ?_
  obtain ⟨⟨o, ho⟩, H⟩ := H
  refine g_step (pc2 := 20) hk rfl rfl rfl (s_put ho rfl) ?_
  exact H
theorem b97_20 {x0 : Nat} {h : iH} {Q : Option Value → iH → Prop} (H : (∃ v1 : Nat, i_fld h x0 8 4 = some (.ref v1) ∧ (i_C i_MT i_AT L xs 349 [.ref v1, .int (0 : Int32)] h (fun v h2 => v = none ∧ i_P i_MT i_AT L xs 97 28 [some (.ref x0)] [] h2 0 0 Q)))) : i_P i_MT i_AT L xs 97 20 [some (.ref x0)] [] h 0 0 Q := by
  have hk := i_k97
  refine g_s1 (pc2 := 21) hk rfl rfl rfl rfl rfl ?_
  obtain ⟨v1, ev1, H⟩ := H
  refine g_step (pc2 := 24) hk rfl rfl rfl (s_get ev1) ?_
  refine g_s1 (pc2 := 25) (st2 := [.int (0 : Int32), .ref v1]) hk rfl rfl rfl rfl rfl ?_
  refine g_call hk rfl rfl i_k349.1 ⟨rfl, rfl⟩ rfl (i_rcv_0 rfl) rfl ?_
  exact H.mono (fun v h2 q => by obtain ⟨rfl, q⟩ := q; exact q)
theorem b97_28 {x0 : Nat} {h : iH} {Q : Option Value → iH → Prop} (H : ((∃ o, i_fld h x0 8 5 = some o) ∧ i_P i_MT i_AT L xs 97 33 [some (.ref x0)] [] (i_sf h x0 5 (.int (0 : Int32))) 0 0 Q)) : i_P i_MT i_AT L xs 97 28 [some (.ref x0)] [] h 0 0 Q := by
  have hk := i_k97
  refine g_s1 (pc2 := 29) hk rfl rfl rfl rfl rfl ?_
  refine g_s1 (pc2 := 30) (st2 := [.int (0 : Int32), .ref x0]) hk rfl rfl rfl rfl rfl ?_
  obtain ⟨⟨o, ho⟩, H⟩ := H
  refine g_step (pc2 := 33) hk rfl rfl rfl (s_put ho rfl) ?_
  exact H
theorem b97_33 {x0 : Nat} {h : iH} {Q : Option Value → iH → Prop} (H : ((∃ o, i_fld h x0 8 9 = some o) ∧ i_P i_MT i_AT L xs 97 38 [some (.ref x0)] [] (i_sf h x0 9 (.int (0 : Int32))) 0 0 Q)) : i_P i_MT i_AT L xs 97 33 [some (.ref x0)] [] h 0 0 Q := by
  have hk := i_k97
  refine g_s1 (pc2 := 34) hk rfl rfl rfl rfl rfl ?_
  refine g_s1 (pc2 := 35) (st2 := [.int (0 : Int32), .ref x0]) hk rfl rfl rfl rfl rfl ?_
  obtain ⟨⟨o, ho⟩, H⟩ := H
  refine g_step (pc2 := 38) hk rfl rfl rfl (s_put ho rfl) ?_
  exact H
theorem b97_38 {x0 : Nat} {h : iH} {Q : Option Value → iH → Prop} (H : (∃ v1 : Nat, i_fld h x0 8 11 = some (.ref v1) ∧ (∃ (n4 : Nat) (g5 : Nat → Int32), i_arI h 0 v1 = some (n4, g5) ∧ ¬ (0 : Int32) < 0 ∧ ¬ (0 : Int32) < 0 ∧ ¬ (4 : Int32) < 0 ∧ (0 : Int32).toNatClampNeg + (4 : Int32).toNatClampNeg ≤ 4 ∧ (0 : Int32).toNatClampNeg + (4 : Int32).toNatClampNeg ≤ n4 ∧ i_P i_MT i_AT L xs 97 51 [some (.ref x0)] [] (h.set v1 (.inl (0, n4, .inl (va_cpy i_SEEN g5 (0 : Int32).toNatClampNeg (0 : Int32).toNatClampNeg (4 : Int32).toNatClampNeg)))) 0 0 Q))) : i_P i_MT i_AT L xs 97 38 [some (.ref x0)] [] h 0 0 Q := by
  have hk := i_k97
  refine g_step (pc2 := 41) (st2 := [.retAddr 2]) hk rfl rfl rfl rfl ?_
  refine g_s1 (pc2 := 42) (st2 := [.int (0 : Int32), .retAddr 2]) hk rfl rfl rfl rfl rfl ?_
  refine g_s1 (pc2 := 43) hk rfl rfl rfl rfl rfl ?_
  obtain ⟨v1, ev1, H⟩ := H
  refine g_step (pc2 := 46) hk rfl rfl rfl (s_get ev1) ?_
  refine g_s1 (pc2 := 47) (st2 := [.int (0 : Int32), .ref v1, .int (0 : Int32), .retAddr 2]) hk rfl rfl rfl rfl rfl ?_
  refine g_s1 (pc2 := 48) (st2 := [.int (4 : Int32), .int (0 : Int32), .ref v1, .int (0 : Int32), .retAddr 2]) hk rfl rfl rfl rfl rfl ?_
  obtain ⟨n4, g5, eg5, h1, h2, h3, h4, h5, H⟩ := H
  refine g_step (pc2 := 51) hk rfl rfl rfl (s_copyX (L := L) (xs := xs) (j := 2) rfl eg5 h1 h2 h3 h4 h5 (by decide)) ?_
  exact H
theorem b97_51 {x0 : Nat} {h : iH} {Q : Option Value → iH → Prop} (H : (∃ v1 : Nat, i_fld h x0 8 12 = some (.ref v1) ∧ ((∃ o, i_fld h v1 3 0 = some o) ∧ i_P i_MT i_AT L xs 97 59 [some (.ref x0)] [] (i_sf h v1 0 (.int (0 : Int32))) 0 0 Q))) : i_P i_MT i_AT L xs 97 51 [some (.ref x0)] [] h 0 0 Q := by
  have hk := i_k97
  refine g_s1 (pc2 := 52) hk rfl rfl rfl rfl rfl ?_
  obtain ⟨v1, ev1, H⟩ := H
  refine g_step (pc2 := 55) hk rfl rfl rfl (s_get ev1) ?_
  refine g_s1 (pc2 := 56) (st2 := [.int (0 : Int32), .ref v1]) hk rfl rfl rfl rfl rfl ?_
  obtain ⟨⟨o, ho⟩, H⟩ := H
  refine g_step (pc2 := 59) hk rfl rfl rfl (s_put ho rfl) ?_
  exact H
theorem b97_59 {x0 : Nat} {h : iH} {Q : Option Value → iH → Prop} (H : (∃ v1 : Nat, i_fld h x0 8 13 = some (.ref v1) ∧ (i_C i_MT i_AT L xs 349 [.ref v1, .int (0 : Int32)] h (fun v h2 => v = none ∧ i_P i_MT i_AT L xs 97 67 [some (.ref x0)] [] h2 0 0 Q)))) : i_P i_MT i_AT L xs 97 59 [some (.ref x0)] [] h 0 0 Q := by
  have hk := i_k97
  refine g_s1 (pc2 := 60) hk rfl rfl rfl rfl rfl ?_
  obtain ⟨v1, ev1, H⟩ := H
  refine g_step (pc2 := 63) hk rfl rfl rfl (s_get ev1) ?_
  refine g_s1 (pc2 := 64) (st2 := [.int (0 : Int32), .ref v1]) hk rfl rfl rfl rfl rfl ?_
  refine g_call hk rfl rfl i_k349.1 ⟨rfl, rfl⟩ rfl (i_rcv_0 rfl) rfl ?_
  exact H.mono (fun v h2 q => by obtain ⟨rfl, q⟩ := q; exact q)
theorem b97_67 {x0 : Nat} {h : iH} {Q : Option Value → iH → Prop} (H : Q none h) : i_P i_MT i_AT L xs 97 67 [some (.ref x0)] [] h 0 0 Q := by
  have hk := i_k97
  exact g_return hk rfl (by decide) (by decide) rfl H
/-! StillTown$Town.copyFrom(LStillTown$Town;)V -/
theorem e98 {x0 : Nat} {x1 : Nat} {h : iH} {Q : Option Value → iH → Prop} (H : i_P i_MT i_AT L xs 98 0 [some (.ref x0), some (.ref x1)] [] h 0 0 Q) : i_C i_MT i_AT L xs 98 [.ref x0, .ref x1] h Q := ⟨i_m98, i_k98.1, Nat.le_of_ble_eq_true rfl, H⟩
theorem b98_0 {x0 : Nat} {x1 : Nat} {h : iH} {Q : Option Value → iH → Prop} (H : (∃ v1 : Int32, i_fld h x1 8 0 = some (.int v1) ∧ ((∃ o, i_fld h x0 8 0 = some o) ∧ i_P i_MT i_AT L xs 98 8 [some (.ref x0), some (.ref x1)] [] (i_sf h x0 0 (.int v1)) 0 0 Q))) : i_P i_MT i_AT L xs 98 0 [some (.ref x0), some (.ref x1)] [] h 0 0 Q := by
  have hk := i_k98
  refine g_s1 (pc2 := 1) hk rfl rfl rfl rfl rfl ?_
  refine g_s1 (pc2 := 2) hk rfl rfl rfl rfl rfl ?_
  obtain ⟨v1, ev1, H⟩ := H
  refine g_step (pc2 := 5) hk rfl rfl rfl (s_get ev1) ?_
  obtain ⟨⟨o, ho⟩, H⟩ := H
  refine g_step (pc2 := 8) hk rfl rfl rfl (s_put ho rfl) ?_
  exact H
theorem b98_8 {x0 : Nat} {x1 : Nat} {h : iH} {Q : Option Value → iH → Prop} (H : (∃ v1 : Int32, i_fld h x1 8 1 = some (.int v1) ∧ ((∃ o, i_fld h x0 8 1 = some o) ∧ i_P i_MT i_AT L xs 98 16 [some (.ref x0), some (.ref x1)] [] (i_sf h x0 1 (.int v1)) 0 0 Q))) : i_P i_MT i_AT L xs 98 8 [some (.ref x0), some (.ref x1)] [] h 0 0 Q := by
  have hk := i_k98
  refine g_s1 (pc2 := 9) hk rfl rfl rfl rfl rfl ?_
  refine g_s1 (pc2 := 10) hk rfl rfl rfl rfl rfl ?_
  obtain ⟨v1, ev1, H⟩ := H
  refine g_step (pc2 := 13) hk rfl rfl rfl (s_get ev1) ?_
  obtain ⟨⟨o, ho⟩, H⟩ := H
  refine g_step (pc2 := 16) hk rfl rfl rfl (s_put ho rfl) ?_
  exact H
theorem b98_16 {x0 : Nat} {x1 : Nat} {h : iH} {Q : Option Value → iH → Prop} (H : (∃ v1 : Int64, i_fld h x1 8 2 = some (.long v1) ∧ ((∃ o, i_fld h x0 8 2 = some o) ∧ i_P i_MT i_AT L xs 98 24 [some (.ref x0), some (.ref x1)] [] (i_sf h x0 2 (.long v1)) 0 0 Q))) : i_P i_MT i_AT L xs 98 16 [some (.ref x0), some (.ref x1)] [] h 0 0 Q := by
  have hk := i_k98
  refine g_s1 (pc2 := 17) hk rfl rfl rfl rfl rfl ?_
  refine g_s1 (pc2 := 18) hk rfl rfl rfl rfl rfl ?_
  obtain ⟨v1, ev1, H⟩ := H
  refine g_step (pc2 := 21) hk rfl rfl rfl (s_get ev1) ?_
  obtain ⟨⟨o, ho⟩, H⟩ := H
  refine g_step (pc2 := 24) hk rfl rfl rfl (s_put ho rfl) ?_
  exact H
theorem b98_24 {x0 : Nat} {x1 : Nat} {h : iH} {Q : Option Value → iH → Prop} (H : (∃ v1 : Int64, i_fld h x1 8 3 = some (.long v1) ∧ ((∃ o, i_fld h x0 8 3 = some o) ∧ i_P i_MT i_AT L xs 98 32 [some (.ref x0), some (.ref x1)] [] (i_sf h x0 3 (.long v1)) 0 0 Q))) : i_P i_MT i_AT L xs 98 24 [some (.ref x0), some (.ref x1)] [] h 0 0 Q := by
  have hk := i_k98
  refine g_s1 (pc2 := 25) hk rfl rfl rfl rfl rfl ?_
  refine g_s1 (pc2 := 26) hk rfl rfl rfl rfl rfl ?_
  obtain ⟨v1, ev1, H⟩ := H
  refine g_step (pc2 := 29) hk rfl rfl rfl (s_get ev1) ?_
  obtain ⟨⟨o, ho⟩, H⟩ := H
  refine g_step (pc2 := 32) hk rfl rfl rfl (s_put ho rfl) ?_
  exact H
theorem b98_32 {x0 : Nat} {x1 : Nat} {h : iH} {Q : Option Value → iH → Prop} (H : (∃ v1 : Nat, i_fld h x1 8 4 = some (.ref v1) ∧ (∃ v2 : Nat, i_fld h x0 8 4 = some (.ref v2) ∧ (∃ (n3 : Nat) (f4 : Nat → Int32) (n5 : Nat) (g6 : Nat → Int32), i_arI h 0 v1 = some (n3, f4) ∧ i_arI h 0 v2 = some (n5, g6) ∧ ¬ (0 : Int32) < 0 ∧ ¬ (0 : Int32) < 0 ∧ ¬ (48 : Int32) < 0 ∧ (0 : Int32).toNatClampNeg + (48 : Int32).toNatClampNeg ≤ n3 ∧ (0 : Int32).toNatClampNeg + (48 : Int32).toNatClampNeg ≤ n5 ∧ i_P i_MT i_AT L xs 98 47 [some (.ref x0), some (.ref x1)] [] (h.set v2 (.inl (0, n5, .inl (va_cpy f4 g6 (0 : Int32).toNatClampNeg (0 : Int32).toNatClampNeg (48 : Int32).toNatClampNeg)))) 0 0 Q)))) : i_P i_MT i_AT L xs 98 32 [some (.ref x0), some (.ref x1)] [] h 0 0 Q := by
  have hk := i_k98
  refine g_s1 (pc2 := 33) hk rfl rfl rfl rfl rfl ?_
  obtain ⟨v1, ev1, H⟩ := H
  refine g_step (pc2 := 36) hk rfl rfl rfl (s_get ev1) ?_
  refine g_s1 (pc2 := 37) (st2 := [.int (0 : Int32), .ref v1]) hk rfl rfl rfl rfl rfl ?_
  refine g_s1 (pc2 := 38) hk rfl rfl rfl rfl rfl ?_
  obtain ⟨v2, ev2, H⟩ := H
  refine g_step (pc2 := 41) hk rfl rfl rfl (s_get ev2) ?_
  refine g_s1 (pc2 := 42) (st2 := [.int (0 : Int32), .ref v2, .int (0 : Int32), .ref v1]) hk rfl rfl rfl rfl rfl ?_
  refine g_s1 (pc2 := 44) (st2 := [.int (48 : Int32), .int (0 : Int32), .ref v2, .int (0 : Int32), .ref v1]) hk rfl rfl rfl rfl rfl ?_
  obtain ⟨n3, f4, n5, g6, ef4, eg6, h1, h2, h3, h4, h5, H⟩ := H
  refine g_step (pc2 := 47) hk rfl rfl rfl (s_copyI (L := L) (xs := xs) ef4 eg6 h1 h2 h3 h4 h5 (by decide)) ?_
  exact H
theorem b98_47 {x0 : Nat} {x1 : Nat} {h : iH} {Q : Option Value → iH → Prop} (H : (∃ v1 : Int32, i_fld h x1 8 5 = some (.int v1) ∧ ((∃ o, i_fld h x0 8 5 = some o) ∧ i_P i_MT i_AT L xs 98 55 [some (.ref x0), some (.ref x1)] [] (i_sf h x0 5 (.int v1)) 0 0 Q))) : i_P i_MT i_AT L xs 98 47 [some (.ref x0), some (.ref x1)] [] h 0 0 Q := by
  have hk := i_k98
  refine g_s1 (pc2 := 48) hk rfl rfl rfl rfl rfl ?_
  refine g_s1 (pc2 := 49) hk rfl rfl rfl rfl rfl ?_
  obtain ⟨v1, ev1, H⟩ := H
  refine g_step (pc2 := 52) hk rfl rfl rfl (s_get ev1) ?_
  obtain ⟨⟨o, ho⟩, H⟩ := H
  refine g_step (pc2 := 55) hk rfl rfl rfl (s_put ho rfl) ?_
  exact H
theorem b98_55 {x0 : Nat} {x1 : Nat} {h : iH} {Q : Option Value → iH → Prop} (H : (∃ v1 : Nat, i_fld h x1 8 6 = some (.ref v1) ∧ (∃ v2 : Nat, i_fld h x0 8 6 = some (.ref v2) ∧ (∃ (n3 : Nat) (f4 : Nat → Int32) (n5 : Nat) (g6 : Nat → Int32), i_arI h 0 v1 = some (n3, f4) ∧ i_arI h 0 v2 = some (n5, g6) ∧ ¬ (0 : Int32) < 0 ∧ ¬ (0 : Int32) < 0 ∧ ¬ (4 : Int32) < 0 ∧ (0 : Int32).toNatClampNeg + (4 : Int32).toNatClampNeg ≤ n3 ∧ (0 : Int32).toNatClampNeg + (4 : Int32).toNatClampNeg ≤ n5 ∧ i_P i_MT i_AT L xs 98 69 [some (.ref x0), some (.ref x1)] [] (h.set v2 (.inl (0, n5, .inl (va_cpy f4 g6 (0 : Int32).toNatClampNeg (0 : Int32).toNatClampNeg (4 : Int32).toNatClampNeg)))) 0 0 Q)))) : i_P i_MT i_AT L xs 98 55 [some (.ref x0), some (.ref x1)] [] h 0 0 Q := by
  have hk := i_k98
  refine g_s1 (pc2 := 56) hk rfl rfl rfl rfl rfl ?_
  obtain ⟨v1, ev1, H⟩ := H
  refine g_step (pc2 := 59) hk rfl rfl rfl (s_get ev1) ?_
  refine g_s1 (pc2 := 60) (st2 := [.int (0 : Int32), .ref v1]) hk rfl rfl rfl rfl rfl ?_
  refine g_s1 (pc2 := 61) hk rfl rfl rfl rfl rfl ?_
  obtain ⟨v2, ev2, H⟩ := H
  refine g_step (pc2 := 64) hk rfl rfl rfl (s_get ev2) ?_
  refine g_s1 (pc2 := 65) (st2 := [.int (0 : Int32), .ref v2, .int (0 : Int32), .ref v1]) hk rfl rfl rfl rfl rfl ?_
  refine g_s1 (pc2 := 66) (st2 := [.int (4 : Int32), .int (0 : Int32), .ref v2, .int (0 : Int32), .ref v1]) hk rfl rfl rfl rfl rfl ?_
  obtain ⟨n3, f4, n5, g6, ef4, eg6, h1, h2, h3, h4, h5, H⟩ := H
  refine g_step (pc2 := 69) hk rfl rfl rfl (s_copyI (L := L) (xs := xs) ef4 eg6 h1 h2 h3 h4 h5 (by decide)) ?_
  exact H
theorem b98_69 {x0 : Nat} {x1 : Nat} {h : iH} {Q : Option Value → iH → Prop} (H : (∃ v1 : Nat, i_fld h x1 8 7 = some (.ref v1) ∧ (∃ v2 : Nat, i_fld h x0 8 7 = some (.ref v2) ∧ (∃ (n3 : Nat) (f4 : Nat → Int32) (n5 : Nat) (g6 : Nat → Int32), i_arI h 0 v1 = some (n3, f4) ∧ i_arI h 0 v2 = some (n5, g6) ∧ ¬ (0 : Int32) < 0 ∧ ¬ (0 : Int32) < 0 ∧ ¬ (4 : Int32) < 0 ∧ (0 : Int32).toNatClampNeg + (4 : Int32).toNatClampNeg ≤ n3 ∧ (0 : Int32).toNatClampNeg + (4 : Int32).toNatClampNeg ≤ n5 ∧ i_P i_MT i_AT L xs 98 83 [some (.ref x0), some (.ref x1)] [] (h.set v2 (.inl (0, n5, .inl (va_cpy f4 g6 (0 : Int32).toNatClampNeg (0 : Int32).toNatClampNeg (4 : Int32).toNatClampNeg)))) 0 0 Q)))) : i_P i_MT i_AT L xs 98 69 [some (.ref x0), some (.ref x1)] [] h 0 0 Q := by
  have hk := i_k98
  refine g_s1 (pc2 := 70) hk rfl rfl rfl rfl rfl ?_
  obtain ⟨v1, ev1, H⟩ := H
  refine g_step (pc2 := 73) hk rfl rfl rfl (s_get ev1) ?_
  refine g_s1 (pc2 := 74) (st2 := [.int (0 : Int32), .ref v1]) hk rfl rfl rfl rfl rfl ?_
  refine g_s1 (pc2 := 75) hk rfl rfl rfl rfl rfl ?_
  obtain ⟨v2, ev2, H⟩ := H
  refine g_step (pc2 := 78) hk rfl rfl rfl (s_get ev2) ?_
  refine g_s1 (pc2 := 79) (st2 := [.int (0 : Int32), .ref v2, .int (0 : Int32), .ref v1]) hk rfl rfl rfl rfl rfl ?_
  refine g_s1 (pc2 := 80) (st2 := [.int (4 : Int32), .int (0 : Int32), .ref v2, .int (0 : Int32), .ref v1]) hk rfl rfl rfl rfl rfl ?_
  obtain ⟨n3, f4, n5, g6, ef4, eg6, h1, h2, h3, h4, h5, H⟩ := H
  refine g_step (pc2 := 83) hk rfl rfl rfl (s_copyI (L := L) (xs := xs) ef4 eg6 h1 h2 h3 h4 h5 (by decide)) ?_
  exact H
theorem b98_83 {x0 : Nat} {x1 : Nat} {h : iH} {Q : Option Value → iH → Prop} (H : (∃ v1 : Nat, i_fld h x1 8 8 = some (.ref v1) ∧ (∃ v2 : Nat, i_fld h x0 8 8 = some (.ref v2) ∧ (∃ (n3 : Nat) (f4 : Nat → Int32) (n5 : Nat) (g6 : Nat → Int32), i_arI h 0 v1 = some (n3, f4) ∧ i_arI h 0 v2 = some (n5, g6) ∧ ¬ (0 : Int32) < 0 ∧ ¬ (0 : Int32) < 0 ∧ ¬ (32 : Int32) < 0 ∧ (0 : Int32).toNatClampNeg + (32 : Int32).toNatClampNeg ≤ n3 ∧ (0 : Int32).toNatClampNeg + (32 : Int32).toNatClampNeg ≤ n5 ∧ i_P i_MT i_AT L xs 98 98 [some (.ref x0), some (.ref x1)] [] (h.set v2 (.inl (0, n5, .inl (va_cpy f4 g6 (0 : Int32).toNatClampNeg (0 : Int32).toNatClampNeg (32 : Int32).toNatClampNeg)))) 0 0 Q)))) : i_P i_MT i_AT L xs 98 83 [some (.ref x0), some (.ref x1)] [] h 0 0 Q := by
  have hk := i_k98
  refine g_s1 (pc2 := 84) hk rfl rfl rfl rfl rfl ?_
  obtain ⟨v1, ev1, H⟩ := H
  refine g_step (pc2 := 87) hk rfl rfl rfl (s_get ev1) ?_
  refine g_s1 (pc2 := 88) (st2 := [.int (0 : Int32), .ref v1]) hk rfl rfl rfl rfl rfl ?_
  refine g_s1 (pc2 := 89) hk rfl rfl rfl rfl rfl ?_
  obtain ⟨v2, ev2, H⟩ := H
  refine g_step (pc2 := 92) hk rfl rfl rfl (s_get ev2) ?_
  refine g_s1 (pc2 := 93) (st2 := [.int (0 : Int32), .ref v2, .int (0 : Int32), .ref v1]) hk rfl rfl rfl rfl rfl ?_
  refine g_s1 (pc2 := 95) (st2 := [.int (32 : Int32), .int (0 : Int32), .ref v2, .int (0 : Int32), .ref v1]) hk rfl rfl rfl rfl rfl ?_
  obtain ⟨n3, f4, n5, g6, ef4, eg6, h1, h2, h3, h4, h5, H⟩ := H
  refine g_step (pc2 := 98) hk rfl rfl rfl (s_copyI (L := L) (xs := xs) ef4 eg6 h1 h2 h3 h4 h5 (by decide)) ?_
  exact H
theorem b98_98 {x0 : Nat} {x1 : Nat} {h : iH} {Q : Option Value → iH → Prop} (H : (∃ v1 : Int32, i_fld h x1 8 9 = some (.int v1) ∧ ((∃ o, i_fld h x0 8 9 = some o) ∧ i_P i_MT i_AT L xs 98 106 [some (.ref x0), some (.ref x1)] [] (i_sf h x0 9 (.int v1)) 0 0 Q))) : i_P i_MT i_AT L xs 98 98 [some (.ref x0), some (.ref x1)] [] h 0 0 Q := by
  have hk := i_k98
  refine g_s1 (pc2 := 99) hk rfl rfl rfl rfl rfl ?_
  refine g_s1 (pc2 := 100) hk rfl rfl rfl rfl rfl ?_
  obtain ⟨v1, ev1, H⟩ := H
  refine g_step (pc2 := 103) hk rfl rfl rfl (s_get ev1) ?_
  obtain ⟨⟨o, ho⟩, H⟩ := H
  refine g_step (pc2 := 106) hk rfl rfl rfl (s_put ho rfl) ?_
  exact H
theorem b98_106 {x0 : Nat} {x1 : Nat} {h : iH} {Q : Option Value → iH → Prop} (H : (∃ v1 : Nat, i_fld h x1 8 10 = some (.ref v1) ∧ (∃ v2 : Nat, i_fld h x0 8 10 = some (.ref v2) ∧ (∃ (n3 : Nat) (f4 : Nat → Int32) (n5 : Nat) (g6 : Nat → Int32), i_arI h 0 v1 = some (n3, f4) ∧ i_arI h 0 v2 = some (n5, g6) ∧ ¬ (0 : Int32) < 0 ∧ ¬ (0 : Int32) < 0 ∧ ¬ (8 : Int32) < 0 ∧ (0 : Int32).toNatClampNeg + (8 : Int32).toNatClampNeg ≤ n3 ∧ (0 : Int32).toNatClampNeg + (8 : Int32).toNatClampNeg ≤ n5 ∧ i_P i_MT i_AT L xs 98 121 [some (.ref x0), some (.ref x1)] [] (h.set v2 (.inl (0, n5, .inl (va_cpy f4 g6 (0 : Int32).toNatClampNeg (0 : Int32).toNatClampNeg (8 : Int32).toNatClampNeg)))) 0 0 Q)))) : i_P i_MT i_AT L xs 98 106 [some (.ref x0), some (.ref x1)] [] h 0 0 Q := by
  have hk := i_k98
  refine g_s1 (pc2 := 107) hk rfl rfl rfl rfl rfl ?_
  obtain ⟨v1, ev1, H⟩ := H
  refine g_step (pc2 := 110) hk rfl rfl rfl (s_get ev1) ?_
  refine g_s1 (pc2 := 111) (st2 := [.int (0 : Int32), .ref v1]) hk rfl rfl rfl rfl rfl ?_
  refine g_s1 (pc2 := 112) hk rfl rfl rfl rfl rfl ?_
  obtain ⟨v2, ev2, H⟩ := H
  refine g_step (pc2 := 115) hk rfl rfl rfl (s_get ev2) ?_
  refine g_s1 (pc2 := 116) (st2 := [.int (0 : Int32), .ref v2, .int (0 : Int32), .ref v1]) hk rfl rfl rfl rfl rfl ?_
  refine g_s1 (pc2 := 118) (st2 := [.int (8 : Int32), .int (0 : Int32), .ref v2, .int (0 : Int32), .ref v1]) hk rfl rfl rfl rfl rfl ?_
  obtain ⟨n3, f4, n5, g6, ef4, eg6, h1, h2, h3, h4, h5, H⟩ := H
  refine g_step (pc2 := 121) hk rfl rfl rfl (s_copyI (L := L) (xs := xs) ef4 eg6 h1 h2 h3 h4 h5 (by decide)) ?_
  exact H
theorem b98_121 {x0 : Nat} {x1 : Nat} {h : iH} {Q : Option Value → iH → Prop} (H : (∃ v1 : Nat, i_fld h x1 8 11 = some (.ref v1) ∧ (∃ v2 : Nat, i_fld h x0 8 11 = some (.ref v2) ∧ (∃ (n3 : Nat) (f4 : Nat → Int32) (n5 : Nat) (g6 : Nat → Int32), i_arI h 0 v1 = some (n3, f4) ∧ i_arI h 0 v2 = some (n5, g6) ∧ ¬ (0 : Int32) < 0 ∧ ¬ (0 : Int32) < 0 ∧ ¬ (4 : Int32) < 0 ∧ (0 : Int32).toNatClampNeg + (4 : Int32).toNatClampNeg ≤ n3 ∧ (0 : Int32).toNatClampNeg + (4 : Int32).toNatClampNeg ≤ n5 ∧ i_P i_MT i_AT L xs 98 135 [some (.ref x0), some (.ref x1)] [] (h.set v2 (.inl (0, n5, .inl (va_cpy f4 g6 (0 : Int32).toNatClampNeg (0 : Int32).toNatClampNeg (4 : Int32).toNatClampNeg)))) 0 0 Q)))) : i_P i_MT i_AT L xs 98 121 [some (.ref x0), some (.ref x1)] [] h 0 0 Q := by
  have hk := i_k98
  refine g_s1 (pc2 := 122) hk rfl rfl rfl rfl rfl ?_
  obtain ⟨v1, ev1, H⟩ := H
  refine g_step (pc2 := 125) hk rfl rfl rfl (s_get ev1) ?_
  refine g_s1 (pc2 := 126) (st2 := [.int (0 : Int32), .ref v1]) hk rfl rfl rfl rfl rfl ?_
  refine g_s1 (pc2 := 127) hk rfl rfl rfl rfl rfl ?_
  obtain ⟨v2, ev2, H⟩ := H
  refine g_step (pc2 := 130) hk rfl rfl rfl (s_get ev2) ?_
  refine g_s1 (pc2 := 131) (st2 := [.int (0 : Int32), .ref v2, .int (0 : Int32), .ref v1]) hk rfl rfl rfl rfl rfl ?_
  refine g_s1 (pc2 := 132) (st2 := [.int (4 : Int32), .int (0 : Int32), .ref v2, .int (0 : Int32), .ref v1]) hk rfl rfl rfl rfl rfl ?_
  obtain ⟨n3, f4, n5, g6, ef4, eg6, h1, h2, h3, h4, h5, H⟩ := H
  refine g_step (pc2 := 135) hk rfl rfl rfl (s_copyI (L := L) (xs := xs) ef4 eg6 h1 h2 h3 h4 h5 (by decide)) ?_
  exact H
theorem b98_135 {x0 : Nat} {x1 : Nat} {h : iH} {Q : Option Value → iH → Prop} (H : (∃ v1 : Nat, i_fld h x0 8 12 = some (.ref v1) ∧ (∃ v2 : Nat, i_fld h x1 8 12 = some (.ref v2) ∧ (i_obj? h v1 3 ∧ i_C i_MT i_AT L xs 37 [.ref v1, .ref v2] h (fun v h3 => v = none ∧ i_P i_MT i_AT L xs 98 146 [some (.ref x0), some (.ref x1)] [] h3 0 0 Q))))) : i_P i_MT i_AT L xs 98 135 [some (.ref x0), some (.ref x1)] [] h 0 0 Q := by
  have hk := i_k98
  refine g_s1 (pc2 := 136) hk rfl rfl rfl rfl rfl ?_
  obtain ⟨v1, ev1, H⟩ := H
  refine g_step (pc2 := 139) hk rfl rfl rfl (s_get ev1) ?_
  refine g_s1 (pc2 := 140) hk rfl rfl rfl rfl rfl ?_
  obtain ⟨v2, ev2, H⟩ := H
  refine g_step (pc2 := 143) hk rfl rfl rfl (s_get ev2) ?_
  obtain ⟨ho, H⟩ := H
  refine g_call hk rfl rfl i_k37.1 ⟨rfl, rfl⟩ rfl (i_rcv_v ho rfl (by decide)) rfl ?_
  exact H.mono (fun v h2 q => by obtain ⟨rfl, q⟩ := q; exact q)
theorem b98_146 {x0 : Nat} {x1 : Nat} {h : iH} {Q : Option Value → iH → Prop} (H : (∃ v1 : Nat, i_fld h x1 8 13 = some (.ref v1) ∧ (i_obj? h x0 8 ∧ i_C i_MT i_AT L xs 99 [.ref x0, .ref v1] h (fun v h2 => v = none ∧ i_P i_MT i_AT L xs 98 154 [some (.ref x0), some (.ref x1)] [] h2 0 0 Q)))) : i_P i_MT i_AT L xs 98 146 [some (.ref x0), some (.ref x1)] [] h 0 0 Q := by
  have hk := i_k98
  refine g_s1 (pc2 := 147) hk rfl rfl rfl rfl rfl ?_
  refine g_s1 (pc2 := 148) hk rfl rfl rfl rfl rfl ?_
  obtain ⟨v1, ev1, H⟩ := H
  refine g_step (pc2 := 151) hk rfl rfl rfl (s_get ev1) ?_
  obtain ⟨ho, H⟩ := H
  refine g_call hk rfl rfl i_k99.1 ⟨rfl, rfl⟩ rfl (i_rcv_v ho rfl (by decide)) rfl ?_
  exact H.mono (fun v h2 q => by obtain ⟨rfl, q⟩ := q; exact q)
theorem b98_154 {x0 : Nat} {x1 : Nat} {h : iH} {Q : Option Value → iH → Prop} (H : Q none h) : i_P i_MT i_AT L xs 98 154 [some (.ref x0), some (.ref x1)] [] h 0 0 Q := by
  have hk := i_k98
  exact g_return hk rfl (by decide) (by decide) rfl H
end
