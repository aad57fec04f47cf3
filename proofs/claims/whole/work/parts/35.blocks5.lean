/-! BLOCKS, 5: what it takes to go on from a label; by program -/
section
variable {L : Nat} {xs : Nat → Int32}
set_option maxRecDepth 20000
set_option maxHeartbeats 1000000
/-! StillTownModel.sees(III)Z -/
theorem e272 {x0 : Nat} {x1 : Int32} {x2 : Int32} {x3 : Int32} {h : iH} {Q : Option Value → iH → Prop} (H : i_P i_MT i_AT L xs 272 0 [some (.ref x0), some (.int x1), some (.int x2), some (.int x3)] [] h 0 0 Q) : i_C i_MT i_AT L xs 272 [.ref x0, .int x1, .int x2, .int x3] h Q := ⟨i_m272, i_k272.1, Nat.le_of_ble_eq_true rfl, H⟩
theorem b272_0 {x0 : Nat} {x1 : Int32} {x2 : Int32} {x3 : Int32} {h : iH} {Q : Option Value → iH → Prop} (H : (∃ v1 : Nat, i_fld h x0 12 29 = some (.ref v1) ∧ (∃ (n2 : Nat) (f3 : Nat → Int32), i_arI h 0 v1 = some (n2, f3) ∧ ¬ ((((61 : Int32) * x1) + x3) < 0 ∨ n2 ≤ (((61 : Int32) * x1) + x3).toNatClampNeg) ∧ (∃ v4 : Nat, i_fld h x0 12 30 = some (.ref v4) ∧ (∃ (n5 : Nat) (f6 : Nat → Int32), i_arI h 0 v4 = some (n5, f6) ∧ ¬ ((((61 : Int32) * x1) + x3) < 0 ∨ n5 ≤ (((61 : Int32) * x1) + x3).toNatClampNeg) ∧ (i_obj? h x0 12 ∧ i_C i_MT i_AT L xs 256 [.ref x0, .int x1, .int (2 : Int32)] h (fun v h7 => ∃ r8 : Int32, v = some (.int r8) ∧ i_P i_MT i_AT L xs 272 29 [some (.ref x0), some (.int x1), some (.int x2), some (.int x3)] [.int r8, .int (f6 (((61 : Int32) * x1) + x3).toNatClampNeg), .int (f3 (((61 : Int32) * x1) + x3).toNatClampNeg), .ref x0] h7 0 0 Q))))))) : i_P i_MT i_AT L xs 272 0 [some (.ref x0), some (.int x1), some (.int x2), some (.int x3)] [] h 0 0 Q := by
  have hk := i_k272
  refine g_s1 (pc2 := 1) hk rfl rfl rfl rfl rfl ?_
  refine g_s1 (pc2 := 2) hk rfl rfl rfl rfl rfl ?_
  obtain ⟨v1, ev1, H⟩ := H
  refine g_step (pc2 := 5) hk rfl rfl rfl (s_get ev1) ?_
  refine g_s1 (pc2 := 7) (st2 := [.int (61 : Int32), .ref v1, .ref x0]) hk rfl rfl rfl rfl rfl ?_
  refine g_s1 (pc2 := 8) hk rfl rfl rfl rfl rfl ?_
  refine g_s1 (pc2 := 9) hk rfl rfl rfl rfl rfl ?_
  refine g_s1 (pc2 := 10) hk rfl rfl rfl rfl rfl ?_
  refine g_s1 (pc2 := 11) hk rfl rfl rfl rfl rfl ?_
  obtain ⟨n2, f3, ef3, hi, H⟩ := H
  refine g_step (pc2 := 12) hk rfl rfl rfl (s_aget (L := L) (xs := xs) ef3 hi) ?_
  refine g_s1 (pc2 := 13) hk rfl rfl rfl rfl rfl ?_
  obtain ⟨v4, ev4, H⟩ := H
  refine g_step (pc2 := 16) hk rfl rfl rfl (s_get ev4) ?_
  refine g_s1 (pc2 := 18) (st2 := [.int (61 : Int32), .ref v4, .int (f3 (((61 : Int32) * x1) + x3).toNatClampNeg), .ref x0]) hk rfl rfl rfl rfl rfl ?_
  refine g_s1 (pc2 := 19) hk rfl rfl rfl rfl rfl ?_
  refine g_s1 (pc2 := 20) hk rfl rfl rfl rfl rfl ?_
  refine g_s1 (pc2 := 21) hk rfl rfl rfl rfl rfl ?_
  refine g_s1 (pc2 := 22) hk rfl rfl rfl rfl rfl ?_
  obtain ⟨n5, f6, ef6, hi, H⟩ := H
  refine g_step (pc2 := 23) hk rfl rfl rfl (s_aget (L := L) (xs := xs) ef6 hi) ?_
  refine g_s1 (pc2 := 24) hk rfl rfl rfl rfl rfl ?_
  refine g_s1 (pc2 := 25) hk rfl rfl rfl rfl rfl ?_
  refine g_s1 (pc2 := 26) (st2 := [.int (2 : Int32), .int x1, .ref x0, .int (f6 (((61 : Int32) * x1) + x3).toNatClampNeg), .int (f3 (((61 : Int32) * x1) + x3).toNatClampNeg), .ref x0]) hk rfl rfl rfl rfl rfl ?_
  obtain ⟨ho, H⟩ := H
  refine g_call hk rfl rfl i_k256.1 ⟨rfl, rfl⟩ rfl (i_rcv_v ho rfl (by decide)) rfl ?_
  exact H.mono (fun v h2 q => by obtain ⟨r, rfl, q⟩ := q; exact q)
theorem b272_29 {x0 : Nat} {x1 : Int32} {x2 : Int32} {x3 : Int32} {s0 : Nat} {s1 : Int32} {s2 : Int32} {s3 : Int32} {h : iH} {Q : Option Value → iH → Prop} (H : (i_obj? h s0 12 ∧ i_C i_MT i_AT L xs 271 [.ref s0, .int s1, .int s2, .int s3, .int x2, .int x3] h (fun v h1 => ∃ r2 : Int32, v = some (.int r2) ∧ i_P i_MT i_AT L xs 272 34 [some (.ref x0), some (.int x1), some (.int x2), some (.int x3)] [.int r2] h1 0 0 Q))) : i_P i_MT i_AT L xs 272 29 [some (.ref x0), some (.int x1), some (.int x2), some (.int x3)] [.int s3, .int s2, .int s1, .ref s0] h 0 0 Q := by
  have hk := i_k272
  refine g_s1 (pc2 := 30) hk rfl rfl rfl rfl rfl ?_
  refine g_s1 (pc2 := 31) hk rfl rfl rfl rfl rfl ?_
  obtain ⟨ho, H⟩ := H
  refine g_call hk rfl rfl i_k271.1 ⟨rfl, rfl⟩ rfl (i_rcv_v ho rfl (by decide)) rfl ?_
  exact H.mono (fun v h2 q => by obtain ⟨r, rfl, q⟩ := q; exact q)
theorem b272_34 {x0 : Nat} {x1 : Int32} {x2 : Int32} {x3 : Int32} {s0 : Int32} {h : iH} {Q : Option Value → iH → Prop} (H : (i_ret (some .boolean) s0 = true ∧ Q (some (.int s0)) h)) : i_P i_MT i_AT L xs 272 34 [some (.ref x0), some (.int x1), some (.int x2), some (.int x3)] [.int s0] h 0 0 Q := by
  have hk := i_k272
  exact g_ireturn hk rfl (by decide) (by decide) H.1 H.2
/-! StillTownModel.sight(II)J -/
theorem e273 {x0 : Nat} {x1 : Int32} {x2 : Int32} {h : iH} {Q : Option Value → iH → Prop} (H : i_P i_MT i_AT L xs 273 0 [some (.ref x0), some (.int x1), some (.int x2), none, none, none] [] h 0 0 Q) : i_C i_MT i_AT L xs 273 [.ref x0, .int x1, .int x2] h Q := ⟨i_m273, i_k273.1, Nat.le_of_ble_eq_true rfl, H⟩
theorem b273_0 {x0 : Nat} {x1 : Int32} {x2 : Int32} {x3 : Option Value} {x4 : Option Value} {x5 : Option Value} {h : iH} {Q : Option Value → iH → Prop} (H : (i_obj? h x0 12 ∧ i_C i_MT i_AT L xs 254 [.ref x0, .int x1] h (fun v h1 => ∃ r2 : Int32, v = some (.int r2) ∧ i_P i_MT i_AT L xs 273 5 [some (.ref x0), some (.int x1), some (.int x2), x3, x4, x5] [.int r2] h1 0 0 Q))) : i_P i_MT i_AT L xs 273 0 [some (.ref x0), some (.int x1), some (.int x2), x3, x4, x5] [] h 0 0 Q := by
  have hk := i_k273
  refine g_s1 (pc2 := 1) hk rfl rfl rfl rfl rfl ?_
  refine g_s1 (pc2 := 2) hk rfl rfl rfl rfl rfl ?_
  obtain ⟨ho, H⟩ := H
  refine g_call hk rfl rfl i_k254.1 ⟨rfl, rfl⟩ rfl (i_rcv_v ho rfl (by decide)) rfl ?_
  exact H.mono (fun v h2 q => by obtain ⟨r, rfl, q⟩ := q; exact q)
theorem b273_5 {x0 : Nat} {x1 : Int32} {x2 : Int32} {x3 : Option Value} {x4 : Option Value} {x5 : Option Value} {s0 : Int32} {h : iH} {Q : Option Value → iH → Prop} (H : ((s0 = 0 → i_P i_MT i_AT L xs 273 15 [some (.ref x0), some (.int x1), some (.int x2), x3, x4, x5] [] h 0 0 Q) ∧ (¬ (s0 = 0) → (i_C i_MT i_AT L xs 255 [.int x2] h (fun v h1 => ∃ r2 : Int32, v = some (.int r2) ∧ i_P i_MT i_AT L xs 273 12 [some (.ref x0), some (.int x1), some (.int x2), x3, x4, x5] [.int r2] h1 0 0 Q))))) : i_P i_MT i_AT L xs 273 5 [some (.ref x0), some (.int x1), some (.int x2), x3, x4, x5] [.int s0] h 0 0 Q := by
  have hk := i_k273
  refine g_if_eq hk rfl (fun hc => ?_) (fun hc => ?_)
  · have H := H.1 hc
    exact H
  · have H := H.2 hc
    refine g_s1 (pc2 := 9) hk rfl rfl rfl rfl rfl ?_
    refine g_call hk rfl rfl i_k255.1 ⟨rfl, rfl⟩ rfl (i_rcv_0 rfl) rfl ?_
    exact H.mono (fun v h2 q => by obtain ⟨r, rfl, q⟩ := q; exact q)
theorem b273_12 {x0 : Nat} {x1 : Int32} {x2 : Int32} {x3 : Option Value} {x4 : Option Value} {x5 : Option Value} {s0 : Int32} {h : iH} {Q : Option Value → iH → Prop} (H : ((¬ s0 = 0 → i_P i_MT i_AT L xs 273 27 [some (.ref x0), some (.int x1), some (.int x2), some (.long (0 : Int64)), none, some (.int (0 : Int32))] [] h 0 0 Q) ∧ (¬ (¬ s0 = 0) → i_P i_MT i_AT L xs 273 15 [some (.ref x0), some (.int x1), some (.int x2), x3, x4, x5] [] h 0 0 Q))) : i_P i_MT i_AT L xs 273 12 [some (.ref x0), some (.int x1), some (.int x2), x3, x4, x5] [.int s0] h 0 0 Q := by
  have hk := i_k273
  refine g_if_ne hk rfl (fun hc => ?_) (fun hc => ?_)
  · have H := H.1 hc
    refine g_s1 (pc2 := 23) (st2 := [.long (0 : Int64)]) hk rfl rfl rfl rfl rfl ?_
    refine g_s1 (pc2 := 24) (lo2 := [some (.ref x0), some (.int x1), some (.int x2), some (.long (0 : Int64)), none, x5]) hk rfl rfl rfl rfl rfl ?_
    refine g_s1 (pc2 := 25) (st2 := [.int (0 : Int32)]) hk rfl rfl rfl rfl rfl ?_
    refine g_s1 (pc2 := 27) (lo2 := [some (.ref x0), some (.int x1), some (.int x2), some (.long (0 : Int64)), none, some (.int (0 : Int32))]) hk rfl rfl rfl rfl rfl ?_
    exact H
  · have H := H.2 hc
    exact H
theorem b273_15 {x0 : Nat} {x1 : Int32} {x2 : Int32} {x3 : Option Value} {x4 : Option Value} {x5 : Option Value} {h : iH} {Q : Option Value → iH → Prop} (H : (i_obj? h x0 12 ∧ i_C i_MT i_AT L xs 201 [.ref x0, .int (1 : Int32)] h (fun v h1 => ∃ r2 : Int32, v = some (.int r2) ∧ i_P i_MT i_AT L xs 273 20 [some (.ref x0), some (.int x1), some (.int x2), x3, x4, x5] [.int r2] h1 0 0 Q))) : i_P i_MT i_AT L xs 273 15 [some (.ref x0), some (.int x1), some (.int x2), x3, x4, x5] [] h 0 0 Q := by
  have hk := i_k273
  refine g_s1 (pc2 := 16) hk rfl rfl rfl rfl rfl ?_
  refine g_s1 (pc2 := 17) (st2 := [.int (1 : Int32), .ref x0]) hk rfl rfl rfl rfl rfl ?_
  obtain ⟨ho, H⟩ := H
  refine g_call hk rfl rfl i_k201.1 ⟨rfl, rfl⟩ rfl (i_rcv_v ho rfl (by decide)) rfl ?_
  exact H.mono (fun v h2 q => by obtain ⟨r, rfl, q⟩ := q; exact q)
theorem b273_20 {x0 : Nat} {x1 : Int32} {x2 : Int32} {x3 : Option Value} {x4 : Option Value} {x5 : Option Value} {s0 : Int32} {h : iH} {Q : Option Value → iH → Prop} (H : Q (some (.long (s0.toInt64))) h) : i_P i_MT i_AT L xs 273 20 [some (.ref x0), some (.int x1), some (.int x2), x3, x4, x5] [.int s0] h 0 0 Q := by
  have hk := i_k273
  refine g_s1 (pc2 := 21) hk rfl rfl rfl rfl rfl ?_
  exact g_lreturn hk rfl (by decide) (by decide) rfl H
theorem b273_27 {x0 : Nat} {x1 : Int32} {x2 : Int32} {x3 : Int64} {x5 : Int32} {h : iH} {Q : Option Value → iH → Prop} (H : (i_obj? h x0 12 ∧ i_C i_MT i_AT L xs 248 [.ref x0] h (fun v h1 => ∃ r2 : Int32, v = some (.int r2) ∧ i_P i_MT i_AT L xs 273 33 [some (.ref x0), some (.int x1), some (.int x2), some (.long x3), none, some (.int x5)] [.int r2, .int x5] h1 0 0 Q))) : i_P i_MT i_AT L xs 273 27 [some (.ref x0), some (.int x1), some (.int x2), some (.long x3), none, some (.int x5)] [] h 0 0 Q := by
  have hk := i_k273
  refine g_s1 (pc2 := 29) hk rfl rfl rfl rfl rfl ?_
  refine g_s1 (pc2 := 30) hk rfl rfl rfl rfl rfl ?_
  obtain ⟨ho, H⟩ := H
  refine g_call hk rfl rfl i_k248.1 ⟨rfl, rfl⟩ rfl (i_rcv_v ho rfl (by decide)) rfl ?_
  exact H.mono (fun v h2 q => by obtain ⟨r, rfl, q⟩ := q; exact q)
theorem b273_33 {x0 : Nat} {x1 : Int32} {x2 : Int32} {x3 : Int64} {x5 : Int32} {s0 : Int32} {s1 : Int32} {h : iH} {Q : Option Value → iH → Prop} (H : ((s1 ≤ s0 → (i_obj? h x0 12 ∧ i_C i_MT i_AT L xs 203 [.ref x0, .long x3] h (fun v h1 => ∃ r2 : Int64, v = some (.long r2) ∧ i_P i_MT i_AT L xs 273 69 [some (.ref x0), some (.int x1), some (.int x2), some (.long x3), none, some (.int x5)] [.long r2] h1 0 0 Q))) ∧ (¬ (s1 ≤ s0) → (i_obj? h x0 12 ∧ i_C i_MT i_AT L xs 272 [.ref x0, .int x1, .int x5, .int x2] h (fun v h3 => ∃ r4 : Int32, v = some (.int r4) ∧ i_P i_MT i_AT L xs 273 45 [some (.ref x0), some (.int x1), some (.int x2), some (.long x3), none, some (.int x5)] [.int r4, .long x3] h3 0 0 Q))))) : i_P i_MT i_AT L xs 273 33 [some (.ref x0), some (.int x1), some (.int x2), some (.long x3), none, some (.int x5)] [.int s1, .int s0] h 0 0 Q := by
  have hk := i_k273
  refine g_icmp_ge hk rfl (fun hc => ?_) (fun hc => ?_)
  · have H := H.1 hc
    refine g_s1 (pc2 := 65) hk rfl rfl rfl rfl rfl ?_
    refine g_s1 (pc2 := 66) hk rfl rfl rfl rfl rfl ?_
    obtain ⟨ho, H⟩ := H
    refine g_call hk rfl rfl i_k203.1 ⟨rfl, rfl⟩ rfl (i_rcv_v ho rfl (by decide)) rfl ?_
    exact H.mono (fun v h2 q => by obtain ⟨r, rfl, q⟩ := q; exact q)
  · have H := H.2 hc
    refine g_s1 (pc2 := 37) hk rfl rfl rfl rfl rfl ?_
    refine g_s1 (pc2 := 38) hk rfl rfl rfl rfl rfl ?_
    refine g_s1 (pc2 := 39) hk rfl rfl rfl rfl rfl ?_
    refine g_s1 (pc2 := 41) hk rfl rfl rfl rfl rfl ?_
    refine g_s1 (pc2 := 42) hk rfl rfl rfl rfl rfl ?_
    obtain ⟨ho, H⟩ := H
    refine g_call hk rfl rfl i_k272.1 ⟨rfl, rfl⟩ rfl (i_rcv_v ho rfl (by decide)) rfl ?_
    exact H.mono (fun v h2 q => by obtain ⟨r, rfl, q⟩ := q; exact q)
theorem b273_45 {x0 : Nat} {x1 : Int32} {x2 : Int32} {x3 : Int64} {x5 : Int32} {s0 : Int64} {s1 : Int32} {h : iH} {Q : Option Value → iH → Prop} (H : ((s1 = 0 → i_P i_MT i_AT L xs 273 56 [some (.ref x0), some (.int x1), some (.int x2), some (.long x3), none, some (.int x5)] [.long (0 : Int64), .long s0] h 0 0 Q) ∧ (¬ (s1 = 0) → i_P i_MT i_AT L xs 273 56 [some (.ref x0), some (.int x1), some (.int x2), some (.long x3), none, some (.int x5)] [.long ((1 : Int64) <<< (x5.toInt64 &&& 63)), .long s0] h 0 0 Q))) : i_P i_MT i_AT L xs 273 45 [some (.ref x0), some (.int x1), some (.int x2), some (.long x3), none, some (.int x5)] [.int s1, .long s0] h 0 0 Q := by
  have hk := i_k273
  refine g_if_eq hk rfl (fun hc => ?_) (fun hc => ?_)
  · have H := H.1 hc
    refine g_s1 (pc2 := 56) (st2 := [.long (0 : Int64), .long s0]) hk rfl rfl rfl rfl rfl ?_
    exact H
  · have H := H.2 hc
    refine g_s1 (pc2 := 49) (st2 := [.long (1 : Int64), .long s0]) hk rfl rfl rfl rfl rfl ?_
    refine g_s1 (pc2 := 51) hk rfl rfl rfl rfl rfl ?_
    refine g_s1 (pc2 := 52) hk rfl rfl rfl rfl rfl ?_
    refine g_s1 (pc2 := 56) hk rfl rfl rfl rfl rfl ?_
    exact H
theorem b273_56 {x0 : Nat} {x1 : Int32} {x2 : Int32} {x3 : Int64} {x5 : Int32} {s0 : Int64} {s1 : Int64} {h : iH} {Q : Option Value → iH → Prop} (H : i_P i_MT i_AT L xs 273 27 [some (.ref x0), some (.int x1), some (.int x2), some (.long (s0 ||| s1)), none, some (.int (x5 + 1))] [] h 0 0 Q) : i_P i_MT i_AT L xs 273 56 [some (.ref x0), some (.int x1), some (.int x2), some (.long x3), none, some (.int x5)] [.long s1, .long s0] h 0 0 Q := by
  have hk := i_k273
  refine g_s1 (pc2 := 57) hk rfl rfl rfl rfl rfl ?_
  refine g_s1 (pc2 := 58) (lo2 := [some (.ref x0), some (.int x1), some (.int x2), some (.long (s0 ||| s1)), none, some (.int x5)]) hk rfl rfl rfl rfl rfl ?_
  refine g_s1 (pc2 := 61) (lo2 := [some (.ref x0), some (.int x1), some (.int x2), some (.long (s0 ||| s1)), none, some (.int (x5 + 1))]) hk rfl rfl rfl rfl rfl ?_
  refine g_s1 (pc2 := 27) hk rfl rfl rfl rfl rfl ?_
  exact H
theorem b273_69 {x0 : Nat} {x1 : Int32} {x2 : Int32} {x3 : Int64} {x5 : Int32} {s0 : Int64} {h : iH} {Q : Option Value → iH → Prop} (H : Q (some (.long s0)) h) : i_P i_MT i_AT L xs 273 69 [some (.ref x0), some (.int x1), some (.int x2), some (.long x3), none, some (.int x5)] [.long s0] h 0 0 Q := by
  have hk := i_k273
  exact g_lreturn hk rfl (by decide) (by decide) rfl H
/-! StillTownModel.hasMoved(II)Z -/
theorem e274 {x0 : Nat} {x1 : Int32} {x2 : Int32} {h : iH} {Q : Option Value → iH → Prop} (H : i_P i_MT i_AT L xs 274 0 [some (.ref x0), some (.int x1), some (.int x2), none] [] h 0 0 Q) : i_C i_MT i_AT L xs 274 [.ref x0, .int x1, .int x2] h Q := ⟨i_m274, i_k274.1, Nat.le_of_ble_eq_true rfl, H⟩
theorem b274_0 {x0 : Nat} {x1 : Int32} {x2 : Int32} {x3 : Option Value} {h : iH} {Q : Option Value → iH → Prop} (H : (∃ v1 : Nat, i_fld h x0 12 31 = some (.ref v1) ∧ (∃ (n2 : Nat) (f3 : Nat → Int32), i_arI h 0 v1 = some (n2, f3) ∧ ¬ ((((61 : Int32) * x1) + x2) < 0 ∨ n2 ≤ (((61 : Int32) * x1) + x2).toNatClampNeg) ∧ (((f3 (((61 : Int32) * x1) + x2).toNatClampNeg) = (1 : Int32) → i_P i_MT i_AT L xs 274 27 [some (.ref x0), some (.int x1), some (.int x2), some (.int (f3 (((61 : Int32) * x1) + x2).toNatClampNeg))] [] h 0 0 Q) ∧ (¬ ((f3 (((61 : Int32) * x1) + x2).toNatClampNeg) = (1 : Int32)) → (((f3 (((61 : Int32) * x1) + x2).toNatClampNeg) = (2 : Int32) → i_P i_MT i_AT L xs 274 27 [some (.ref x0), some (.int x1), some (.int x2), some (.int (f3 (((61 : Int32) * x1) + x2).toNatClampNeg))] [] h 0 0 Q) ∧ (¬ ((f3 (((61 : Int32) * x1) + x2).toNatClampNeg) = (2 : Int32)) → ((¬ (f3 (((61 : Int32) * x1) + x2).toNatClampNeg) = (3 : Int32) → i_P i_MT i_AT L xs 274 32 [some (.ref x0), some (.int x1), some (.int x2), some (.int (f3 (((61 : Int32) * x1) + x2).toNatClampNeg))] [.int (0 : Int32)] h 0 0 Q) ∧ (¬ (¬ (f3 (((61 : Int32) * x1) + x2).toNatClampNeg) = (3 : Int32)) → i_P i_MT i_AT L xs 274 27 [some (.ref x0), some (.int x1), some (.int x2), some (.int (f3 (((61 : Int32) * x1) + x2).toNatClampNeg))] [] h 0 0 Q))))))))) : i_P i_MT i_AT L xs 274 0 [some (.ref x0), some (.int x1), some (.int x2), x3] [] h 0 0 Q := by
  have hk := i_k274
  refine g_s1 (pc2 := 1) hk rfl rfl rfl rfl rfl ?_
  obtain ⟨v1, ev1, H⟩ := H
  refine g_step (pc2 := 4) hk rfl rfl rfl (s_get ev1) ?_
  refine g_s1 (pc2 := 6) (st2 := [.int (61 : Int32), .ref v1]) hk rfl rfl rfl rfl rfl ?_
  refine g_s1 (pc2 := 7) hk rfl rfl rfl rfl rfl ?_
  refine g_s1 (pc2 := 8) hk rfl rfl rfl rfl rfl ?_
  refine g_s1 (pc2 := 9) hk rfl rfl rfl rfl rfl ?_
  refine g_s1 (pc2 := 10) hk rfl rfl rfl rfl rfl ?_
  obtain ⟨n2, f3, ef3, hi, H⟩ := H
  refine g_step (pc2 := 11) hk rfl rfl rfl (s_aget (L := L) (xs := xs) ef3 hi) ?_
  refine g_s1 (pc2 := 12) (lo2 := [some (.ref x0), some (.int x1), some (.int x2), some (.int (f3 (((61 : Int32) * x1) + x2).toNatClampNeg))]) hk rfl rfl rfl rfl rfl ?_
  refine g_s1 (pc2 := 13) hk rfl rfl rfl rfl rfl ?_
  refine g_s1 (pc2 := 14) (st2 := [.int (1 : Int32), .int (f3 (((61 : Int32) * x1) + x2).toNatClampNeg)]) hk rfl rfl rfl rfl rfl ?_
  refine g_icmp_eq hk rfl (fun hc => ?_) (fun hc => ?_)
  · have H := H.1 hc
    exact H
  · have H := H.2 hc
    refine g_s1 (pc2 := 18) hk rfl rfl rfl rfl rfl ?_
    refine g_s1 (pc2 := 19) (st2 := [.int (2 : Int32), .int (f3 (((61 : Int32) * x1) + x2).toNatClampNeg)]) hk rfl rfl rfl rfl rfl ?_
    refine g_icmp_eq hk rfl (fun hc => ?_) (fun hc => ?_)
    · have H := H.1 hc
      exact H
    · have H := H.2 hc
      refine g_s1 (pc2 := 23) hk rfl rfl rfl rfl rfl ?_
      refine g_s1 (pc2 := 24) (st2 := [.int (3 : Int32), .int (f3 (((61 : Int32) * x1) + x2).toNatClampNeg)]) hk rfl rfl rfl rfl rfl ?_
      refine g_icmp_ne hk rfl (fun hc => ?_) (fun hc => ?_)
      · have H := H.1 hc
        refine g_s1 (pc2 := 32) (st2 := [.int (0 : Int32)]) hk rfl rfl rfl rfl rfl ?_
        exact H
      · have H := H.2 hc
        exact H
theorem b274_27 {x0 : Nat} {x1 : Int32} {x2 : Int32} {x3 : Int32} {h : iH} {Q : Option Value → iH → Prop} (H : i_P i_MT i_AT L xs 274 32 [some (.ref x0), some (.int x1), some (.int x2), some (.int x3)] [.int (1 : Int32)] h 0 0 Q) : i_P i_MT i_AT L xs 274 27 [some (.ref x0), some (.int x1), some (.int x2), some (.int x3)] [] h 0 0 Q := by
  have hk := i_k274
  refine g_s1 (pc2 := 28) (st2 := [.int (1 : Int32)]) hk rfl rfl rfl rfl rfl ?_
  refine g_s1 (pc2 := 32) hk rfl rfl rfl rfl rfl ?_
  exact H
theorem b274_32 {x0 : Nat} {x1 : Int32} {x2 : Int32} {x3 : Int32} {s0 : Int32} {h : iH} {Q : Option Value → iH → Prop} (H : (i_ret (some .boolean) s0 = true ∧ Q (some (.int s0)) h)) : i_P i_MT i_AT L xs 274 32 [some (.ref x0), some (.int x1), some (.int x2), some (.int x3)] [.int s0] h 0 0 Q := by
  have hk := i_k274
  exact g_ireturn hk rfl (by decide) (by decide) H.1 H.2
/-! StillTownModel.weighs(IIII)I -/
theorem e275 {x0 : Nat} {x1 : Int32} {x2 : Int32} {x3 : Int32} {x4 : Int32} {h : iH} {Q : Option Value → iH → Prop} (H : i_P i_MT i_AT L xs 275 0 [some (.ref x0), some (.int x1), some (.int x2), some (.int x3), some (.int x4), none] [] h 0 0 Q) : i_C i_MT i_AT L xs 275 [.ref x0, .int x1, .int x2, .int x3, .int x4] h Q := ⟨i_m275, i_k275.1, Nat.le_of_ble_eq_true rfl, H⟩
theorem b275_0 {x0 : Nat} {x1 : Int32} {x2 : Int32} {x3 : Int32} {x4 : Int32} {x5 : Option Value} {h : iH} {Q : Option Value → iH → Prop} (H : (i_obj? h x0 12 ∧ i_C i_MT i_AT L xs 272 [.ref x0, .int x1, .int x2, .int x4] h (fun v h1 => ∃ r2 : Int32, v = some (.int r2) ∧ i_P i_MT i_AT L xs 275 8 [some (.ref x0), some (.int x1), some (.int x2), some (.int x3), some (.int x4), x5] [.int r2] h1 0 0 Q))) : i_P i_MT i_AT L xs 275 0 [some (.ref x0), some (.int x1), some (.int x2), some (.int x3), some (.int x4), x5] [] h 0 0 Q := by
  have hk := i_k275
  refine g_s1 (pc2 := 1) hk rfl rfl rfl rfl rfl ?_
  refine g_s1 (pc2 := 2) hk rfl rfl rfl rfl rfl ?_
  refine g_s1 (pc2 := 3) hk rfl rfl rfl rfl rfl ?_
  refine g_s1 (pc2 := 5) hk rfl rfl rfl rfl rfl ?_
  obtain ⟨ho, H⟩ := H
  refine g_call hk rfl rfl i_k272.1 ⟨rfl, rfl⟩ rfl (i_rcv_v ho rfl (by decide)) rfl ?_
  exact H.mono (fun v h2 q => by obtain ⟨r, rfl, q⟩ := q; exact q)
theorem b275_8 {x0 : Nat} {x1 : Int32} {x2 : Int32} {x3 : Int32} {x4 : Int32} {x5 : Option Value} {s0 : Int32} {h : iH} {Q : Option Value → iH → Prop} (H : ((¬ s0 = 0 → ((¬ x3 = (1 : Int32) → ((¬ x3 = 0 → (∃ v1 : Nat, i_fld h x0 12 0 = some (.ref v1) ∧ (∃ (n2 : Nat) (f3 : Nat → Int32), i_arI h 0 v1 = some (n2, f3) ∧ ¬ ((((6 : Int32) + x3) - (2 : Int32)) < 0 ∨ n2 ≤ (((6 : Int32) + x3) - (2 : Int32)).toNatClampNeg) ∧ i_P i_MT i_AT L xs 275 62 [some (.ref x0), some (.int x1), some (.int x2), some (.int x3), some (.int x4), x5] [.int (f3 (((6 : Int32) + x3) - (2 : Int32)).toNatClampNeg)] h 0 0 Q))) ∧ (¬ (¬ x3 = 0) → (i_obj? h x0 12 ∧ i_C i_MT i_AT L xs 274 [.ref x0, .int x1, .int x4] h (fun v h4 => ∃ r5 : Int32, v = some (.int r5) ∧ i_P i_MT i_AT L xs 275 34 [some (.ref x0), some (.int x1), some (.int x2), some (.int x3), some (.int x4), x5] [.int r5] h4 0 0 Q))))) ∧ (¬ (¬ x3 = (1 : Int32)) → i_P i_MT i_AT L xs 275 62 [some (.ref x0), some (.int x1), some (.int x2), some (.int x3), some (.int x4), x5] [.int (16 : Int32)] h 0 0 Q))) ∧ (¬ (¬ s0 = 0) → Q (some (.int (0 : Int32))) h))) : i_P i_MT i_AT L xs 275 8 [some (.ref x0), some (.int x1), some (.int x2), some (.int x3), some (.int x4), x5] [.int s0] h 0 0 Q := by
  have hk := i_k275
  refine g_if_ne hk rfl (fun hc => ?_) (fun hc => ?_)
  · have H := H.1 hc
    refine g_s1 (pc2 := 14) hk rfl rfl rfl rfl rfl ?_
    refine g_s1 (pc2 := 15) (st2 := [.int (1 : Int32), .int x3]) hk rfl rfl rfl rfl rfl ?_
    refine g_icmp_ne hk rfl (fun hc => ?_) (fun hc => ?_)
    · have H := H.1 hc
      refine g_s1 (pc2 := 24) hk rfl rfl rfl rfl rfl ?_
      refine g_if_ne hk rfl (fun hc => ?_) (fun hc => ?_)
      · have H := H.1 hc
        refine g_s1 (pc2 := 52) hk rfl rfl rfl rfl rfl ?_
        obtain ⟨v1, ev1, H⟩ := H
        refine g_step (pc2 := 55) hk rfl rfl rfl (s_get ev1) ?_
        refine g_s1 (pc2 := 57) (st2 := [.int (6 : Int32), .ref v1]) hk rfl rfl rfl rfl rfl ?_
        refine g_s1 (pc2 := 58) hk rfl rfl rfl rfl rfl ?_
        refine g_s1 (pc2 := 59) hk rfl rfl rfl rfl rfl ?_
        refine g_s1 (pc2 := 60) (st2 := [.int (2 : Int32), .int ((6 : Int32) + x3), .ref v1]) hk rfl rfl rfl rfl rfl ?_
        refine g_s1 (pc2 := 61) hk rfl rfl rfl rfl rfl ?_
        obtain ⟨n2, f3, ef3, hi, H⟩ := H
        refine g_step (pc2 := 62) hk rfl rfl rfl (s_aget (L := L) (xs := xs) ef3 hi) ?_
        exact H
      · have H := H.2 hc
        refine g_s1 (pc2 := 28) hk rfl rfl rfl rfl rfl ?_
        refine g_s1 (pc2 := 29) hk rfl rfl rfl rfl rfl ?_
        refine g_s1 (pc2 := 31) hk rfl rfl rfl rfl rfl ?_
        obtain ⟨ho, H⟩ := H
        refine g_call hk rfl rfl i_k274.1 ⟨rfl, rfl⟩ rfl (i_rcv_v ho rfl (by decide)) rfl ?_
        exact H.mono (fun v h2 q => by obtain ⟨r, rfl, q⟩ := q; exact q)
    · have H := H.2 hc
      refine g_s1 (pc2 := 20) (st2 := [.int (16 : Int32)]) hk rfl rfl rfl rfl rfl ?_
      refine g_s1 (pc2 := 62) hk rfl rfl rfl rfl rfl ?_
      exact H
  · have H := H.2 hc
    refine g_s1 (pc2 := 12) (st2 := [.int (0 : Int32)]) hk rfl rfl rfl rfl rfl ?_
    exact g_ireturn hk rfl (by decide) (by decide) rfl H
theorem b275_34 {x0 : Nat} {x1 : Int32} {x2 : Int32} {x3 : Int32} {x4 : Int32} {x5 : Option Value} {s0 : Int32} {h : iH} {Q : Option Value → iH → Prop} (H : ((s0 = 0 → i_P i_MT i_AT L xs 275 62 [some (.ref x0), some (.int x1), some (.int x2), some (.int x3), some (.int x4), x5] [.int (0 : Int32)] h 0 0 Q) ∧ (¬ (s0 = 0) → (∃ v1 : Nat, i_fld h x0 12 0 = some (.ref v1) ∧ (∃ (n2 : Nat) (f3 : Nat → Int32), i_arI h 0 v1 = some (n2, f3) ∧ ¬ ((9 : Int32) < 0 ∨ n2 ≤ (9 : Int32).toNatClampNeg) ∧ i_P i_MT i_AT L xs 275 62 [some (.ref x0), some (.int x1), some (.int x2), some (.int x3), some (.int x4), x5] [.int (f3 (9 : Int32).toNatClampNeg)] h 0 0 Q))))) : i_P i_MT i_AT L xs 275 34 [some (.ref x0), some (.int x1), some (.int x2), some (.int x3), some (.int x4), x5] [.int s0] h 0 0 Q := by
  have hk := i_k275
  refine g_if_eq hk rfl (fun hc => ?_) (fun hc => ?_)
  · have H := H.1 hc
    refine g_s1 (pc2 := 48) (st2 := [.int (0 : Int32)]) hk rfl rfl rfl rfl rfl ?_
    refine g_s1 (pc2 := 62) hk rfl rfl rfl rfl rfl ?_
    exact H
  · have H := H.2 hc
    refine g_s1 (pc2 := 38) hk rfl rfl rfl rfl rfl ?_
    obtain ⟨v1, ev1, H⟩ := H
    refine g_step (pc2 := 41) hk rfl rfl rfl (s_get ev1) ?_
    refine g_s1 (pc2 := 43) (st2 := [.int (9 : Int32), .ref v1]) hk rfl rfl rfl rfl rfl ?_
    obtain ⟨n2, f3, ef3, hi, H⟩ := H
    refine g_step (pc2 := 44) hk rfl rfl rfl (s_aget (L := L) (xs := xs) ef3 hi) ?_
    refine g_s1 (pc2 := 62) hk rfl rfl rfl rfl rfl ?_
    exact H
theorem b275_62 {x0 : Nat} {x1 : Int32} {x2 : Int32} {x3 : Int32} {x4 : Int32} {x5 : Option Value} {s0 : Int32} {h : iH} {Q : Option Value → iH → Prop} (H : (i_obj? h x0 12 ∧ i_C i_MT i_AT L xs 259 [.ref x0, .int x2] h (fun v h1 => ∃ r2 : Int32, v = some (.int r2) ∧ i_P i_MT i_AT L xs 275 73 [some (.ref x0), some (.int x1), some (.int x2), some (.int x3), some (.int x4), some (.int s0)] [.int r2, .int (16 : Int32), .int s0] h1 0 0 Q))) : i_P i_MT i_AT L xs 275 62 [some (.ref x0), some (.int x1), some (.int x2), some (.int x3), some (.int x4), x5] [.int s0] h 0 0 Q := by
  have hk := i_k275
  refine g_s1 (pc2 := 64) (lo2 := [some (.ref x0), some (.int x1), some (.int x2), some (.int x3), some (.int x4), some (.int s0)]) hk rfl rfl rfl rfl rfl ?_
  refine g_s1 (pc2 := 66) hk rfl rfl rfl rfl rfl ?_
  refine g_s1 (pc2 := 68) (st2 := [.int (16 : Int32), .int s0]) hk rfl rfl rfl rfl rfl ?_
  refine g_s1 (pc2 := 69) hk rfl rfl rfl rfl rfl ?_
  refine g_s1 (pc2 := 70) hk rfl rfl rfl rfl rfl ?_
  obtain ⟨ho, H⟩ := H
  refine g_call hk rfl rfl i_k259.1 ⟨rfl, rfl⟩ rfl (i_rcv_v ho rfl (by decide)) rfl ?_
  exact H.mono (fun v h2 q => by obtain ⟨r, rfl, q⟩ := q; exact q)
theorem b275_73 {x0 : Nat} {x1 : Int32} {x2 : Int32} {x3 : Int32} {x4 : Int32} {x5 : Int32} {s0 : Int32} {s1 : Int32} {s2 : Int32} {h : iH} {Q : Option Value → iH → Prop} (H : (¬ (16 : Int32) = 0 ∧ Q (some (.int ((s0 * (s1 - s2)) / (16 : Int32)))) h)) : i_P i_MT i_AT L xs 275 73 [some (.ref x0), some (.int x1), some (.int x2), some (.int x3), some (.int x4), some (.int x5)] [.int s2, .int s1, .int s0] h 0 0 Q := by
  have hk := i_k275
  refine g_s1 (pc2 := 74) hk rfl rfl rfl rfl rfl ?_
  refine g_s1 (pc2 := 75) hk rfl rfl rfl rfl rfl ?_
  refine g_s1 (pc2 := 77) (st2 := [.int (16 : Int32), .int (s0 * (s1 - s2))]) hk rfl rfl rfl rfl rfl ?_
  obtain ⟨hz, H⟩ := H
  refine g_s1 (pc2 := 78) hk rfl rfl rfl rfl (s_if hz) ?_
  exact g_ireturn hk rfl (by decide) (by decide) rfl H
/-! StillTownModel.weightOf(III)I -/
theorem e276 {x0 : Nat} {x1 : Int32} {x2 : Int32} {x3 : Int32} {h : iH} {Q : Option Value → iH → Prop} (H : i_P i_MT i_AT L xs 276 0 [some (.ref x0), some (.int x1), some (.int x2), some (.int x3)] [] h 0 0 Q) : i_C i_MT i_AT L xs 276 [.ref x0, .int x1, .int x2, .int x3] h Q := ⟨i_m276, i_k276.1, Nat.le_of_ble_eq_true rfl, H⟩
theorem b276_0 {x0 : Nat} {x1 : Int32} {x2 : Int32} {x3 : Int32} {h : iH} {Q : Option Value → iH → Prop} (H : (∃ v1 : Nat, i_fld h x0 12 29 = some (.ref v1) ∧ (∃ (n2 : Nat) (f3 : Nat → Int32), i_arI h 0 v1 = some (n2, f3) ∧ ¬ ((((61 : Int32) * x2) + x3) < 0 ∨ n2 ≤ (((61 : Int32) * x2) + x3).toNatClampNeg) ∧ (∃ v4 : Nat, i_fld h x0 12 31 = some (.ref v4) ∧ (∃ (n5 : Nat) (f6 : Nat → Int32), i_arI h 0 v4 = some (n5, f6) ∧ ¬ ((((61 : Int32) * x2) + x3) < 0 ∨ n5 ≤ (((61 : Int32) * x2) + x3).toNatClampNeg) ∧ (i_obj? h x0 12 ∧ i_C i_MT i_AT L xs 275 [.ref x0, .int x1, .int (f3 (((61 : Int32) * x2) + x3).toNatClampNeg), .int (f6 (((61 : Int32) * x2) + x3).toNatClampNeg), .int x3] h (fun v h7 => ∃ r8 : Int32, v = some (.int r8) ∧ i_P i_MT i_AT L xs 276 28 [some (.ref x0), some (.int x1), some (.int x2), some (.int x3)] [.int r8] h7 0 0 Q))))))) : i_P i_MT i_AT L xs 276 0 [some (.ref x0), some (.int x1), some (.int x2), some (.int x3)] [] h 0 0 Q := by
  have hk := i_k276
  refine g_s1 (pc2 := 1) hk rfl rfl rfl rfl rfl ?_
  refine g_s1 (pc2 := 2) hk rfl rfl rfl rfl rfl ?_
  refine g_s1 (pc2 := 3) hk rfl rfl rfl rfl rfl ?_
  obtain ⟨v1, ev1, H⟩ := H
  refine g_step (pc2 := 6) hk rfl rfl rfl (s_get ev1) ?_
  refine g_s1 (pc2 := 8) (st2 := [.int (61 : Int32), .ref v1, .int x1, .ref x0]) hk rfl rfl rfl rfl rfl ?_
  refine g_s1 (pc2 := 9) hk rfl rfl rfl rfl rfl ?_
  refine g_s1 (pc2 := 10) hk rfl rfl rfl rfl rfl ?_
  refine g_s1 (pc2 := 11) hk rfl rfl rfl rfl rfl ?_
  refine g_s1 (pc2 := 12) hk rfl rfl rfl rfl rfl ?_
  obtain ⟨n2, f3, ef3, hi, H⟩ := H
  refine g_step (pc2 := 13) hk rfl rfl rfl (s_aget (L := L) (xs := xs) ef3 hi) ?_
  refine g_s1 (pc2 := 14) hk rfl rfl rfl rfl rfl ?_
  obtain ⟨v4, ev4, H⟩ := H
  refine g_step (pc2 := 17) hk rfl rfl rfl (s_get ev4) ?_
  refine g_s1 (pc2 := 19) (st2 := [.int (61 : Int32), .ref v4, .int (f3 (((61 : Int32) * x2) + x3).toNatClampNeg), .int x1, .ref x0]) hk rfl rfl rfl rfl rfl ?_
  refine g_s1 (pc2 := 20) hk rfl rfl rfl rfl rfl ?_
  refine g_s1 (pc2 := 21) hk rfl rfl rfl rfl rfl ?_
  refine g_s1 (pc2 := 22) hk rfl rfl rfl rfl rfl ?_
  refine g_s1 (pc2 := 23) hk rfl rfl rfl rfl rfl ?_
  obtain ⟨n5, f6, ef6, hi, H⟩ := H
  refine g_step (pc2 := 24) hk rfl rfl rfl (s_aget (L := L) (xs := xs) ef6 hi) ?_
  refine g_s1 (pc2 := 25) hk rfl rfl rfl rfl rfl ?_
  obtain ⟨ho, H⟩ := H
  refine g_call hk rfl rfl i_k275.1 ⟨rfl, rfl⟩ rfl (i_rcv_v ho rfl (by decide)) rfl ?_
  exact H.mono (fun v h2 q => by obtain ⟨r, rfl, q⟩ := q; exact q)
theorem b276_28 {x0 : Nat} {x1 : Int32} {x2 : Int32} {x3 : Int32} {s0 : Int32} {h : iH} {Q : Option Value → iH → Prop} (H : Q (some (.int s0)) h) : i_P i_MT i_AT L xs 276 28 [some (.ref x0), some (.int x1), some (.int x2), some (.int x3)] [.int s0] h 0 0 Q := by
  have hk := i_k276
  exact g_ireturn hk rfl (by decide) (by decide) rfl H
/-! StillTownModel.areTwo(II)Z -/
theorem e277 {x0 : Nat} {x1 : Int32} {x2 : Int32} {h : iH} {Q : Option Value → iH → Prop} (H : i_P i_MT i_AT L xs 277 0 [some (.ref x0), some (.int x1), some (.int x2)] [] h 0 0 Q) : i_C i_MT i_AT L xs 277 [.ref x0, .int x1, .int x2] h Q := ⟨i_m277, i_k277.1, Nat.le_of_ble_eq_true rfl, H⟩
theorem b277_0 {x0 : Nat} {x1 : Int32} {x2 : Int32} {h : iH} {Q : Option Value → iH → Prop} (H : (i_obj? h x0 12 ∧ i_C i_MT i_AT L xs 254 [.ref x0, .int x1] h (fun v h1 => ∃ r2 : Int32, v = some (.int r2) ∧ i_P i_MT i_AT L xs 277 5 [some (.ref x0), some (.int x1), some (.int x2)] [.int r2] h1 0 0 Q))) : i_P i_MT i_AT L xs 277 0 [some (.ref x0), some (.int x1), some (.int x2)] [] h 0 0 Q := by
  have hk := i_k277
  refine g_s1 (pc2 := 1) hk rfl rfl rfl rfl rfl ?_
  refine g_s1 (pc2 := 2) hk rfl rfl rfl rfl rfl ?_
  obtain ⟨ho, H⟩ := H
  refine g_call hk rfl rfl i_k254.1 ⟨rfl, rfl⟩ rfl (i_rcv_v ho rfl (by decide)) rfl ?_
  exact H.mono (fun v h2 q => by obtain ⟨r, rfl, q⟩ := q; exact q)
theorem b277_5 {x0 : Nat} {x1 : Int32} {x2 : Int32} {s0 : Int32} {h : iH} {Q : Option Value → iH → Prop} (H : ((s0 = 0 → i_P i_MT i_AT L xs 277 25 [some (.ref x0), some (.int x1), some (.int x2)] [] h 0 0 Q) ∧ (¬ (s0 = 0) → (i_obj? h x0 12 ∧ i_C i_MT i_AT L xs 254 [.ref x0, .int x2] h (fun v h1 => ∃ r2 : Int32, v = some (.int r2) ∧ i_P i_MT i_AT L xs 277 13 [some (.ref x0), some (.int x1), some (.int x2)] [.int r2] h1 0 0 Q))))) : i_P i_MT i_AT L xs 277 5 [some (.ref x0), some (.int x1), some (.int x2)] [.int s0] h 0 0 Q := by
  have hk := i_k277
  refine g_if_eq hk rfl (fun hc => ?_) (fun hc => ?_)
  · have H := H.1 hc
    exact H
  · have H := H.2 hc
    refine g_s1 (pc2 := 9) hk rfl rfl rfl rfl rfl ?_
    refine g_s1 (pc2 := 10) hk rfl rfl rfl rfl rfl ?_
    obtain ⟨ho, H⟩ := H
    refine g_call hk rfl rfl i_k254.1 ⟨rfl, rfl⟩ rfl (i_rcv_v ho rfl (by decide)) rfl ?_
    exact H.mono (fun v h2 q => by obtain ⟨r, rfl, q⟩ := q; exact q)
theorem b277_13 {x0 : Nat} {x1 : Int32} {x2 : Int32} {s0 : Int32} {h : iH} {Q : Option Value → iH → Prop} (H : ((s0 = 0 → i_P i_MT i_AT L xs 277 25 [some (.ref x0), some (.int x1), some (.int x2)] [] h 0 0 Q) ∧ (¬ (s0 = 0) → ((x1 = x2 → i_P i_MT i_AT L xs 277 25 [some (.ref x0), some (.int x1), some (.int x2)] [] h 0 0 Q) ∧ (¬ (x1 = x2) → i_P i_MT i_AT L xs 277 26 [some (.ref x0), some (.int x1), some (.int x2)] [.int (1 : Int32)] h 0 0 Q))))) : i_P i_MT i_AT L xs 277 13 [some (.ref x0), some (.int x1), some (.int x2)] [.int s0] h 0 0 Q := by
  have hk := i_k277
  refine g_if_eq hk rfl (fun hc => ?_) (fun hc => ?_)
  · have H := H.1 hc
    exact H
  · have H := H.2 hc
    refine g_s1 (pc2 := 17) hk rfl rfl rfl rfl rfl ?_
    refine g_s1 (pc2 := 18) hk rfl rfl rfl rfl rfl ?_
    refine g_icmp_eq hk rfl (fun hc => ?_) (fun hc => ?_)
    · have H := H.1 hc
      exact H
    · have H := H.2 hc
      refine g_s1 (pc2 := 22) (st2 := [.int (1 : Int32)]) hk rfl rfl rfl rfl rfl ?_
      refine g_s1 (pc2 := 26) hk rfl rfl rfl rfl rfl ?_
      exact H
theorem b277_25 {x0 : Nat} {x1 : Int32} {x2 : Int32} {h : iH} {Q : Option Value → iH → Prop} (H : i_P i_MT i_AT L xs 277 26 [some (.ref x0), some (.int x1), some (.int x2)] [.int (0 : Int32)] h 0 0 Q) : i_P i_MT i_AT L xs 277 25 [some (.ref x0), some (.int x1), some (.int x2)] [] h 0 0 Q := by
  have hk := i_k277
  refine g_s1 (pc2 := 26) (st2 := [.int (0 : Int32)]) hk rfl rfl rfl rfl rfl ?_
  exact H
theorem b277_26 {x0 : Nat} {x1 : Int32} {x2 : Int32} {s0 : Int32} {h : iH} {Q : Option Value → iH → Prop} (H : (i_ret (some .boolean) s0 = true ∧ Q (some (.int s0)) h)) : i_P i_MT i_AT L xs 277 26 [some (.ref x0), some (.int x1), some (.int x2)] [.int s0] h 0 0 Q := by
  have hk := i_k277
  exact g_ireturn hk rfl (by decide) (by decide) H.1 H.2
/-! StillTownModel.weight(III)I -/
theorem e278 {x0 : Nat} {x1 : Int32} {x2 : Int32} {x3 : Int32} {h : iH} {Q : Option Value → iH → Prop} (H : i_P i_MT i_AT L xs 278 0 [some (.ref x0), some (.int x1), some (.int x2), some (.int x3)] [] h 0 0 Q) : i_C i_MT i_AT L xs 278 [.ref x0, .int x1, .int x2, .int x3] h Q := ⟨i_m278, i_k278.1, Nat.le_of_ble_eq_true rfl, H⟩
theorem b278_0 {x0 : Nat} {x1 : Int32} {x2 : Int32} {x3 : Int32} {h : iH} {Q : Option Value → iH → Prop} (H : (i_obj? h x0 12 ∧ i_C i_MT i_AT L xs 277 [.ref x0, .int x1, .int x2] h (fun v h1 => ∃ r2 : Int32, v = some (.int r2) ∧ i_P i_MT i_AT L xs 278 6 [some (.ref x0), some (.int x1), some (.int x2), some (.int x3)] [.int r2] h1 0 0 Q))) : i_P i_MT i_AT L xs 278 0 [some (.ref x0), some (.int x1), some (.int x2), some (.int x3)] [] h 0 0 Q := by
  have hk := i_k278
  refine g_s1 (pc2 := 1) hk rfl rfl rfl rfl rfl ?_
  refine g_s1 (pc2 := 2) hk rfl rfl rfl rfl rfl ?_
  refine g_s1 (pc2 := 3) hk rfl rfl rfl rfl rfl ?_
  obtain ⟨ho, H⟩ := H
  refine g_call hk rfl rfl i_k277.1 ⟨rfl, rfl⟩ rfl (i_rcv_v ho rfl (by decide)) rfl ?_
  exact H.mono (fun v h2 q => by obtain ⟨r, rfl, q⟩ := q; exact q)
theorem b278_6 {x0 : Nat} {x1 : Int32} {x2 : Int32} {x3 : Int32} {s0 : Int32} {h : iH} {Q : Option Value → iH → Prop} (H : ((s0 = 0 → i_P i_MT i_AT L xs 278 34 [some (.ref x0), some (.int x1), some (.int x2), some (.int x3)] [] h 0 0 Q) ∧ (¬ (s0 = 0) → (i_C i_MT i_AT L xs 255 [.int x3] h (fun v h1 => ∃ r2 : Int32, v = some (.int r2) ∧ i_P i_MT i_AT L xs 278 13 [some (.ref x0), some (.int x1), some (.int x2), some (.int x3)] [.int r2] h1 0 0 Q))))) : i_P i_MT i_AT L xs 278 6 [some (.ref x0), some (.int x1), some (.int x2), some (.int x3)] [.int s0] h 0 0 Q := by
  have hk := i_k278
  refine g_if_eq hk rfl (fun hc => ?_) (fun hc => ?_)
  · have H := H.1 hc
    exact H
  · have H := H.2 hc
    refine g_s1 (pc2 := 10) hk rfl rfl rfl rfl rfl ?_
    refine g_call hk rfl rfl i_k255.1 ⟨rfl, rfl⟩ rfl (i_rcv_0 rfl) rfl ?_
    exact H.mono (fun v h2 q => by obtain ⟨r, rfl, q⟩ := q; exact q)
theorem b278_13 {x0 : Nat} {x1 : Int32} {x2 : Int32} {x3 : Int32} {s0 : Int32} {h : iH} {Q : Option Value → iH → Prop} (H : ((s0 = 0 → i_P i_MT i_AT L xs 278 34 [some (.ref x0), some (.int x1), some (.int x2), some (.int x3)] [] h 0 0 Q) ∧ (¬ (s0 = 0) → ((x3 ≤ 0 → i_P i_MT i_AT L xs 278 34 [some (.ref x0), some (.int x1), some (.int x2), some (.int x3)] [] h 0 0 Q) ∧ (¬ (x3 ≤ 0) → (i_obj? h x0 12 ∧ i_C i_MT i_AT L xs 276 [.ref x0, .int x1, .int x2, .int x3] h (fun v h1 => ∃ r2 : Int32, v = some (.int r2) ∧ i_P i_MT i_AT L xs 278 28 [some (.ref x0), some (.int x1), some (.int x2), some (.int x3)] [.int r2, .ref x0] h1 0 0 Q))))))) : i_P i_MT i_AT L xs 278 13 [some (.ref x0), some (.int x1), some (.int x2), some (.int x3)] [.int s0] h 0 0 Q := by
  have hk := i_k278
  refine g_if_eq hk rfl (fun hc => ?_) (fun hc => ?_)
  · have H := H.1 hc
    exact H
  · have H := H.2 hc
    refine g_s1 (pc2 := 17) hk rfl rfl rfl rfl rfl ?_
    refine g_if_le hk rfl (fun hc => ?_) (fun hc => ?_)
    · have H := H.1 hc
      exact H
    · have H := H.2 hc
      refine g_s1 (pc2 := 21) hk rfl rfl rfl rfl rfl ?_
      refine g_s1 (pc2 := 22) hk rfl rfl rfl rfl rfl ?_
      refine g_s1 (pc2 := 23) hk rfl rfl rfl rfl rfl ?_
      refine g_s1 (pc2 := 24) hk rfl rfl rfl rfl rfl ?_
      refine g_s1 (pc2 := 25) hk rfl rfl rfl rfl rfl ?_
      obtain ⟨ho, H⟩ := H
      refine g_call hk rfl rfl i_k276.1 ⟨rfl, rfl⟩ rfl (i_rcv_v ho rfl (by decide)) rfl ?_
      exact H.mono (fun v h2 q => by obtain ⟨r, rfl, q⟩ := q; exact q)
theorem b278_28 {x0 : Nat} {x1 : Int32} {x2 : Int32} {x3 : Int32} {s0 : Nat} {s1 : Int32} {h : iH} {Q : Option Value → iH → Prop} (H : (i_obj? h s0 12 ∧ i_C i_MT i_AT L xs 202 [.ref s0, .int s1] h (fun v h1 => ∃ r2 : Int32, v = some (.int r2) ∧ i_P i_MT i_AT L xs 278 31 [some (.ref x0), some (.int x1), some (.int x2), some (.int x3)] [.int r2] h1 0 0 Q))) : i_P i_MT i_AT L xs 278 28 [some (.ref x0), some (.int x1), some (.int x2), some (.int x3)] [.int s1, .ref s0] h 0 0 Q := by
  have hk := i_k278
  obtain ⟨ho, H⟩ := H
  refine g_call hk rfl rfl i_k202.1 ⟨rfl, rfl⟩ rfl (i_rcv_v ho rfl (by decide)) rfl ?_
  exact H.mono (fun v h2 q => by obtain ⟨r, rfl, q⟩ := q; exact q)
theorem b278_31 {x0 : Nat} {x1 : Int32} {x2 : Int32} {x3 : Int32} {s0 : Int32} {h : iH} {Q : Option Value → iH → Prop} (H : i_P i_MT i_AT L xs 278 39 [some (.ref x0), some (.int x1), some (.int x2), some (.int x3)] [.int s0] h 0 0 Q) : i_P i_MT i_AT L xs 278 31 [some (.ref x0), some (.int x1), some (.int x2), some (.int x3)] [.int s0] h 0 0 Q := by
  have hk := i_k278
  refine g_s1 (pc2 := 39) hk rfl rfl rfl rfl rfl ?_
  exact H
theorem b278_34 {x0 : Nat} {x1 : Int32} {x2 : Int32} {x3 : Int32} {h : iH} {Q : Option Value → iH → Prop} (H : (i_obj? h x0 12 ∧ i_C i_MT i_AT L xs 201 [.ref x0, .int (1 : Int32)] h (fun v h1 => ∃ r2 : Int32, v = some (.int r2) ∧ i_P i_MT i_AT L xs 278 39 [some (.ref x0), some (.int x1), some (.int x2), some (.int x3)] [.int r2] h1 0 0 Q))) : i_P i_MT i_AT L xs 278 34 [some (.ref x0), some (.int x1), some (.int x2), some (.int x3)] [] h 0 0 Q := by
  have hk := i_k278
  refine g_s1 (pc2 := 35) hk rfl rfl rfl rfl rfl ?_
  refine g_s1 (pc2 := 36) (st2 := [.int (1 : Int32), .ref x0]) hk rfl rfl rfl rfl rfl ?_
  obtain ⟨ho, H⟩ := H
  refine g_call hk rfl rfl i_k201.1 ⟨rfl, rfl⟩ rfl (i_rcv_v ho rfl (by decide)) rfl ?_
  exact H.mono (fun v h2 q => by obtain ⟨r, rfl, q⟩ := q; exact q)
theorem b278_39 {x0 : Nat} {x1 : Int32} {x2 : Int32} {x3 : Int32} {s0 : Int32} {h : iH} {Q : Option Value → iH → Prop} (H : Q (some (.int s0)) h) : i_P i_MT i_AT L xs 278 39 [some (.ref x0), some (.int x1), some (.int x2), some (.int x3)] [.int s0] h 0 0 Q := by
  have hk := i_k278
  exact g_ireturn hk rfl (by decide) (by decide) rfl H
/-! StillTownModel.unseen(III)I -/
theorem e279 {x0 : Nat} {x1 : Int32} {x2 : Int32} {x3 : Int32} {h : iH} {Q : Option Value → iH → Prop} (H : i_P i_MT i_AT L xs 279 0 [some (.ref x0), some (.int x1), some (.int x2), some (.int x3), none, none] [] h 0 0 Q) : i_C i_MT i_AT L xs 279 [.ref x0, .int x1, .int x2, .int x3] h Q := ⟨i_m279, i_k279.1, Nat.le_of_ble_eq_true rfl, H⟩
theorem b279_0 {x0 : Nat} {x1 : Int32} {x2 : Int32} {x3 : Int32} {x4 : Option Value} {x5 : Option Value} {h : iH} {Q : Option Value → iH → Prop} (H : (i_obj? h x0 12 ∧ i_C i_MT i_AT L xs 277 [.ref x0, .int x1, .int x2] h (fun v h1 => ∃ r2 : Int32, v = some (.int r2) ∧ i_P i_MT i_AT L xs 279 6 [some (.ref x0), some (.int x1), some (.int x2), some (.int x3), x4, x5] [.int r2] h1 0 0 Q))) : i_P i_MT i_AT L xs 279 0 [some (.ref x0), some (.int x1), some (.int x2), some (.int x3), x4, x5] [] h 0 0 Q := by
  have hk := i_k279
  refine g_s1 (pc2 := 1) hk rfl rfl rfl rfl rfl ?_
  refine g_s1 (pc2 := 2) hk rfl rfl rfl rfl rfl ?_
  refine g_s1 (pc2 := 3) hk rfl rfl rfl rfl rfl ?_
  obtain ⟨ho, H⟩ := H
  refine g_call hk rfl rfl i_k277.1 ⟨rfl, rfl⟩ rfl (i_rcv_v ho rfl (by decide)) rfl ?_
  exact H.mono (fun v h2 q => by obtain ⟨r, rfl, q⟩ := q; exact q)
theorem b279_6 {x0 : Nat} {x1 : Int32} {x2 : Int32} {x3 : Int32} {x4 : Option Value} {x5 : Option Value} {s0 : Int32} {h : iH} {Q : Option Value → iH → Prop} (H : ((s0 = 0 → i_P i_MT i_AT L xs 279 16 [some (.ref x0), some (.int x1), some (.int x2), some (.int x3), x4, x5] [] h 0 0 Q) ∧ (¬ (s0 = 0) → (i_C i_MT i_AT L xs 255 [.int x3] h (fun v h1 => ∃ r2 : Int32, v = some (.int r2) ∧ i_P i_MT i_AT L xs 279 13 [some (.ref x0), some (.int x1), some (.int x2), some (.int x3), x4, x5] [.int r2] h1 0 0 Q))))) : i_P i_MT i_AT L xs 279 6 [some (.ref x0), some (.int x1), some (.int x2), some (.int x3), x4, x5] [.int s0] h 0 0 Q := by
  have hk := i_k279
  refine g_if_eq hk rfl (fun hc => ?_) (fun hc => ?_)
  · have H := H.1 hc
    exact H
  · have H := H.2 hc
    refine g_s1 (pc2 := 10) hk rfl rfl rfl rfl rfl ?_
    refine g_call hk rfl rfl i_k255.1 ⟨rfl, rfl⟩ rfl (i_rcv_0 rfl) rfl ?_
    exact H.mono (fun v h2 q => by obtain ⟨r, rfl, q⟩ := q; exact q)
theorem b279_13 {x0 : Nat} {x1 : Int32} {x2 : Int32} {x3 : Int32} {x4 : Option Value} {x5 : Option Value} {s0 : Int32} {h : iH} {Q : Option Value → iH → Prop} (H : ((¬ s0 = 0 → i_P i_MT i_AT L xs 279 30 [some (.ref x0), some (.int x1), some (.int x2), some (.int x3), some (.int (1000000 : Int32)), some (.int (1 : Int32))] [] h 0 0 Q) ∧ (¬ (¬ s0 = 0) → i_P i_MT i_AT L xs 279 16 [some (.ref x0), some (.int x1), some (.int x2), some (.int x3), x4, x5] [] h 0 0 Q))) : i_P i_MT i_AT L xs 279 13 [some (.ref x0), some (.int x1), some (.int x2), some (.int x3), x4, x5] [.int s0] h 0 0 Q := by
  have hk := i_k279
  refine g_if_ne hk rfl (fun hc => ?_) (fun hc => ?_)
  · have H := H.1 hc
    refine g_step (pc2 := 25) (st2 := [.int (1000000 : Int32)]) hk rfl rfl rfl rfl ?_
    refine g_s1 (pc2 := 27) (lo2 := [some (.ref x0), some (.int x1), some (.int x2), some (.int x3), some (.int (1000000 : Int32)), x5]) hk rfl rfl rfl rfl rfl ?_
    refine g_s1 (pc2 := 28) (st2 := [.int (1 : Int32)]) hk rfl rfl rfl rfl rfl ?_
    refine g_s1 (pc2 := 30) (lo2 := [some (.ref x0), some (.int x1), some (.int x2), some (.int x3), some (.int (1000000 : Int32)), some (.int (1 : Int32))]) hk rfl rfl rfl rfl rfl ?_
    exact H
  · have H := H.2 hc
    exact H
theorem b279_16 {x0 : Nat} {x1 : Int32} {x2 : Int32} {x3 : Int32} {x4 : Option Value} {x5 : Option Value} {h : iH} {Q : Option Value → iH → Prop} (H : (i_obj? h x0 12 ∧ i_C i_MT i_AT L xs 201 [.ref x0, .int (1 : Int32)] h (fun v h1 => ∃ r2 : Int32, v = some (.int r2) ∧ i_P i_MT i_AT L xs 279 21 [some (.ref x0), some (.int x1), some (.int x2), some (.int x3), x4, x5] [.int r2] h1 0 0 Q))) : i_P i_MT i_AT L xs 279 16 [some (.ref x0), some (.int x1), some (.int x2), some (.int x3), x4, x5] [] h 0 0 Q := by
  have hk := i_k279
  refine g_s1 (pc2 := 17) hk rfl rfl rfl rfl rfl ?_
  refine g_s1 (pc2 := 18) (st2 := [.int (1 : Int32), .ref x0]) hk rfl rfl rfl rfl rfl ?_
  obtain ⟨ho, H⟩ := H
  refine g_call hk rfl rfl i_k201.1 ⟨rfl, rfl⟩ rfl (i_rcv_v ho rfl (by decide)) rfl ?_
  exact H.mono (fun v h2 q => by obtain ⟨r, rfl, q⟩ := q; exact q)
theorem b279_21 {x0 : Nat} {x1 : Int32} {x2 : Int32} {x3 : Int32} {x4 : Option Value} {x5 : Option Value} {s0 : Int32} {h : iH} {Q : Option Value → iH → Prop} (H : Q (some (.int s0)) h) : i_P i_MT i_AT L xs 279 21 [some (.ref x0), some (.int x1), some (.int x2), some (.int x3), x4, x5] [.int s0] h 0 0 Q := by
  have hk := i_k279
  exact g_ireturn hk rfl (by decide) (by decide) rfl H
theorem b279_30 {x0 : Nat} {x1 : Int32} {x2 : Int32} {x3 : Int32} {x4 : Int32} {x5 : Int32} {h : iH} {Q : Option Value → iH → Prop} (H : ((x3 < x5 → (i_obj? h x0 12 ∧ i_C i_MT i_AT L xs 202 [.ref x0, .int x4] h (fun v h1 => ∃ r2 : Int32, v = some (.int r2) ∧ i_P i_MT i_AT L xs 279 67 [some (.ref x0), some (.int x1), some (.int x2), some (.int x3), some (.int x4), some (.int x5)] [.int r2] h1 0 0 Q))) ∧ (¬ (x3 < x5) → (i_obj? h x0 12 ∧ i_C i_MT i_AT L xs 276 [.ref x0, .int x2, .int x1, .int x5] h (fun v h3 => ∃ r4 : Int32, v = some (.int r4) ∧ i_P i_MT i_AT L xs 279 48 [some (.ref x0), some (.int x1), some (.int x2), some (.int x3), some (.int x4), some (.int x5)] [.int r4, .int (16 : Int32), .int x4] h3 0 0 Q))))) : i_P i_MT i_AT L xs 279 30 [some (.ref x0), some (.int x1), some (.int x2), some (.int x3), some (.int x4), some (.int x5)] [] h 0 0 Q := by
  have hk := i_k279
  refine g_s1 (pc2 := 32) hk rfl rfl rfl rfl rfl ?_
  refine g_s1 (pc2 := 33) hk rfl rfl rfl rfl rfl ?_
  refine g_icmp_gt hk rfl (fun hc => ?_) (fun hc => ?_)
  · have H := H.1 hc
    refine g_s1 (pc2 := 62) hk rfl rfl rfl rfl rfl ?_
    refine g_s1 (pc2 := 64) hk rfl rfl rfl rfl rfl ?_
    obtain ⟨ho, H⟩ := H
    refine g_call hk rfl rfl i_k202.1 ⟨rfl, rfl⟩ rfl (i_rcv_v ho rfl (by decide)) rfl ?_
    exact H.mono (fun v h2 q => by obtain ⟨r, rfl, q⟩ := q; exact q)
  · have H := H.2 hc
    refine g_s1 (pc2 := 38) hk rfl rfl rfl rfl rfl ?_
    refine g_s1 (pc2 := 40) (st2 := [.int (16 : Int32), .int x4]) hk rfl rfl rfl rfl rfl ?_
    refine g_s1 (pc2 := 41) hk rfl rfl rfl rfl rfl ?_
    refine g_s1 (pc2 := 42) hk rfl rfl rfl rfl rfl ?_
    refine g_s1 (pc2 := 43) hk rfl rfl rfl rfl rfl ?_
    refine g_s1 (pc2 := 45) hk rfl rfl rfl rfl rfl ?_
    obtain ⟨ho, H⟩ := H
    refine g_call hk rfl rfl i_k276.1 ⟨rfl, rfl⟩ rfl (i_rcv_v ho rfl (by decide)) rfl ?_
    exact H.mono (fun v h2 q => by obtain ⟨r, rfl, q⟩ := q; exact q)
theorem b279_48 {x0 : Nat} {x1 : Int32} {x2 : Int32} {x3 : Int32} {x4 : Int32} {x5 : Int32} {s0 : Int32} {s1 : Int32} {s2 : Int32} {h : iH} {Q : Option Value → iH → Prop} (H : (¬ (16 : Int32) = 0 ∧ i_P i_MT i_AT L xs 279 30 [some (.ref x0), some (.int x1), some (.int x2), some (.int x3), some (.int ((s0 * (s1 - s2)) / (16 : Int32))), some (.int (x5 + 1))] [] h 0 0 Q)) : i_P i_MT i_AT L xs 279 48 [some (.ref x0), some (.int x1), some (.int x2), some (.int x3), some (.int x4), some (.int x5)] [.int s2, .int s1, .int s0] h 0 0 Q := by
  have hk := i_k279
  refine g_s1 (pc2 := 49) hk rfl rfl rfl rfl rfl ?_
  refine g_s1 (pc2 := 50) hk rfl rfl rfl rfl rfl ?_
  refine g_s1 (pc2 := 52) (st2 := [.int (16 : Int32), .int (s0 * (s1 - s2))]) hk rfl rfl rfl rfl rfl ?_
  obtain ⟨hz, H⟩ := H
  refine g_s1 (pc2 := 53) hk rfl rfl rfl rfl (s_if hz) ?_
  refine g_s1 (pc2 := 55) (lo2 := [some (.ref x0), some (.int x1), some (.int x2), some (.int x3), some (.int ((s0 * (s1 - s2)) / (16 : Int32))), some (.int x5)]) hk rfl rfl rfl rfl rfl ?_
  refine g_s1 (pc2 := 58) (lo2 := [some (.ref x0), some (.int x1), some (.int x2), some (.int x3), some (.int ((s0 * (s1 - s2)) / (16 : Int32))), some (.int (x5 + 1))]) hk rfl rfl rfl rfl rfl ?_
  refine g_s1 (pc2 := 30) hk rfl rfl rfl rfl rfl ?_
  exact H
theorem b279_67 {x0 : Nat} {x1 : Int32} {x2 : Int32} {x3 : Int32} {x4 : Int32} {x5 : Int32} {s0 : Int32} {h : iH} {Q : Option Value → iH → Prop} (H : Q (some (.int s0)) h) : i_P i_MT i_AT L xs 279 67 [some (.ref x0), some (.int x1), some (.int x2), some (.int x3), some (.int x4), some (.int x5)] [.int s0] h 0 0 Q := by
  have hk := i_k279
  exact g_ireturn hk rfl (by decide) (by decide) rfl H
/-! StillTownModel.near(III)I -/
theorem e280 {x0 : Nat} {x1 : Int32} {x2 : Int32} {x3 : Int32} {h : iH} {Q : Option Value → iH → Prop} (H : i_P i_MT i_AT L xs 280 0 [some (.ref x0), some (.int x1), some (.int x2), some (.int x3), none, none] [] h 0 0 Q) : i_C i_MT i_AT L xs 280 [.ref x0, .int x1, .int x2, .int x3] h Q := ⟨i_m280, i_k280.1, Nat.le_of_ble_eq_true rfl, H⟩
theorem b280_0 {x0 : Nat} {x1 : Int32} {x2 : Int32} {x3 : Int32} {x4 : Option Value} {x5 : Option Value} {h : iH} {Q : Option Value → iH → Prop} (H : (i_obj? h x0 12 ∧ i_C i_MT i_AT L xs 277 [.ref x0, .int x1, .int x2] h (fun v h1 => ∃ r2 : Int32, v = some (.int r2) ∧ i_P i_MT i_AT L xs 280 6 [some (.ref x0), some (.int x1), some (.int x2), some (.int x3), x4, x5] [.int r2] h1 0 0 Q))) : i_P i_MT i_AT L xs 280 0 [some (.ref x0), some (.int x1), some (.int x2), some (.int x3), x4, x5] [] h 0 0 Q := by
  have hk := i_k280
  refine g_s1 (pc2 := 1) hk rfl rfl rfl rfl rfl ?_
  refine g_s1 (pc2 := 2) hk rfl rfl rfl rfl rfl ?_
  refine g_s1 (pc2 := 3) hk rfl rfl rfl rfl rfl ?_
  obtain ⟨ho, H⟩ := H
  refine g_call hk rfl rfl i_k277.1 ⟨rfl, rfl⟩ rfl (i_rcv_v ho rfl (by decide)) rfl ?_
  exact H.mono (fun v h2 q => by obtain ⟨r, rfl, q⟩ := q; exact q)
theorem b280_6 {x0 : Nat} {x1 : Int32} {x2 : Int32} {x3 : Int32} {x4 : Option Value} {x5 : Option Value} {s0 : Int32} {h : iH} {Q : Option Value → iH → Prop} (H : ((s0 = 0 → i_P i_MT i_AT L xs 280 16 [some (.ref x0), some (.int x1), some (.int x2), some (.int x3), x4, x5] [] h 0 0 Q) ∧ (¬ (s0 = 0) → (i_C i_MT i_AT L xs 255 [.int x3] h (fun v h1 => ∃ r2 : Int32, v = some (.int r2) ∧ i_P i_MT i_AT L xs 280 13 [some (.ref x0), some (.int x1), some (.int x2), some (.int x3), x4, x5] [.int r2] h1 0 0 Q))))) : i_P i_MT i_AT L xs 280 6 [some (.ref x0), some (.int x1), some (.int x2), some (.int x3), x4, x5] [.int s0] h 0 0 Q := by
  have hk := i_k280
  refine g_if_eq hk rfl (fun hc => ?_) (fun hc => ?_)
  · have H := H.1 hc
    exact H
  · have H := H.2 hc
    refine g_s1 (pc2 := 10) hk rfl rfl rfl rfl rfl ?_
    refine g_call hk rfl rfl i_k255.1 ⟨rfl, rfl⟩ rfl (i_rcv_0 rfl) rfl ?_
    exact H.mono (fun v h2 q => by obtain ⟨r, rfl, q⟩ := q; exact q)
theorem b280_13 {x0 : Nat} {x1 : Int32} {x2 : Int32} {x3 : Int32} {x4 : Option Value} {x5 : Option Value} {s0 : Int32} {h : iH} {Q : Option Value → iH → Prop} (H : ((¬ s0 = 0 → i_P i_MT i_AT L xs 280 28 [some (.ref x0), some (.int x1), some (.int x2), some (.int x3), some (.int (0 : Int32)), some (.int (1 : Int32))] [] h 0 0 Q) ∧ (¬ (¬ s0 = 0) → i_P i_MT i_AT L xs 280 16 [some (.ref x0), some (.int x1), some (.int x2), some (.int x3), x4, x5] [] h 0 0 Q))) : i_P i_MT i_AT L xs 280 13 [some (.ref x0), some (.int x1), some (.int x2), some (.int x3), x4, x5] [.int s0] h 0 0 Q := by
  have hk := i_k280
  refine g_if_ne hk rfl (fun hc => ?_) (fun hc => ?_)
  · have H := H.1 hc
    refine g_s1 (pc2 := 23) (st2 := [.int (0 : Int32)]) hk rfl rfl rfl rfl rfl ?_
    refine g_s1 (pc2 := 25) (lo2 := [some (.ref x0), some (.int x1), some (.int x2), some (.int x3), some (.int (0 : Int32)), x5]) hk rfl rfl rfl rfl rfl ?_
    refine g_s1 (pc2 := 26) (st2 := [.int (1 : Int32)]) hk rfl rfl rfl rfl rfl ?_
    refine g_s1 (pc2 := 28) (lo2 := [some (.ref x0), some (.int x1), some (.int x2), some (.int x3), some (.int (0 : Int32)), some (.int (1 : Int32))]) hk rfl rfl rfl rfl rfl ?_
    exact H
  · have H := H.2 hc
    exact H
theorem b280_16 {x0 : Nat} {x1 : Int32} {x2 : Int32} {x3 : Int32} {x4 : Option Value} {x5 : Option Value} {h : iH} {Q : Option Value → iH → Prop} (H : (i_obj? h x0 12 ∧ i_C i_MT i_AT L xs 201 [.ref x0, .int (1 : Int32)] h (fun v h1 => ∃ r2 : Int32, v = some (.int r2) ∧ i_P i_MT i_AT L xs 280 21 [some (.ref x0), some (.int x1), some (.int x2), some (.int x3), x4, x5] [.int r2] h1 0 0 Q))) : i_P i_MT i_AT L xs 280 16 [some (.ref x0), some (.int x1), some (.int x2), some (.int x3), x4, x5] [] h 0 0 Q := by
  have hk := i_k280
  refine g_s1 (pc2 := 17) hk rfl rfl rfl rfl rfl ?_
  refine g_s1 (pc2 := 18) (st2 := [.int (1 : Int32), .ref x0]) hk rfl rfl rfl rfl rfl ?_
  obtain ⟨ho, H⟩ := H
  refine g_call hk rfl rfl i_k201.1 ⟨rfl, rfl⟩ rfl (i_rcv_v ho rfl (by decide)) rfl ?_
  exact H.mono (fun v h2 q => by obtain ⟨r, rfl, q⟩ := q; exact q)
theorem b280_21 {x0 : Nat} {x1 : Int32} {x2 : Int32} {x3 : Int32} {x4 : Option Value} {x5 : Option Value} {s0 : Int32} {h : iH} {Q : Option Value → iH → Prop} (H : Q (some (.int s0)) h) : i_P i_MT i_AT L xs 280 21 [some (.ref x0), some (.int x1), some (.int x2), some (.int x3), x4, x5] [.int s0] h 0 0 Q := by
  have hk := i_k280
  exact g_ireturn hk rfl (by decide) (by decide) rfl H
theorem b280_28 {x0 : Nat} {x1 : Int32} {x2 : Int32} {x3 : Int32} {x4 : Int32} {x5 : Int32} {h : iH} {Q : Option Value → iH → Prop} (H : ((x3 < x5 → (i_obj? h x0 12 ∧ i_C i_MT i_AT L xs 202 [.ref x0, .int x4] h (fun v h1 => ∃ r2 : Int32, v = some (.int r2) ∧ i_P i_MT i_AT L xs 280 104 [some (.ref x0), some (.int x1), some (.int x2), some (.int x3), some (.int x4), some (.int x5)] [.int r2] h1 0 0 Q))) ∧ (¬ (x3 < x5) → (∃ v3 : Nat, i_fld h x0 12 29 = some (.ref v3) ∧ (∃ (n4 : Nat) (f5 : Nat → Int32), i_arI h 0 v3 = some (n4, f5) ∧ ¬ ((((61 : Int32) * x1) + x5) < 0 ∨ n4 ≤ (((61 : Int32) * x1) + x5).toNatClampNeg) ∧ (∃ v6 : Nat, i_fld h x0 12 29 = some (.ref v6) ∧ (∃ (n7 : Nat) (f8 : Nat → Int32), i_arI h 0 v6 = some (n7, f8) ∧ ¬ ((((61 : Int32) * x2) + x5) < 0 ∨ n7 ≤ (((61 : Int32) * x2) + x5).toNatClampNeg) ∧ (i_obj? h x0 12 ∧ i_C i_MT i_AT L xs 268 [.ref x0, .int (f5 (((61 : Int32) * x1) + x5).toNatClampNeg), .int (f8 (((61 : Int32) * x2) + x5).toNatClampNeg)] h (fun v h9 => ∃ r10 : Int32, v = some (.int r10) ∧ i_P i_MT i_AT L xs 280 64 [some (.ref x0), some (.int x1), some (.int x2), some (.int x3), some (.int x4), some (.int x5)] [.int r10, .int x4] h9 0 0 Q))))))))) : i_P i_MT i_AT L xs 280 28 [some (.ref x0), some (.int x1), some (.int x2), some (.int x3), some (.int x4), some (.int x5)] [] h 0 0 Q := by
  have hk := i_k280
  refine g_s1 (pc2 := 30) hk rfl rfl rfl rfl rfl ?_
  refine g_s1 (pc2 := 31) hk rfl rfl rfl rfl rfl ?_
  refine g_icmp_gt hk rfl (fun hc => ?_) (fun hc => ?_)
  · have H := H.1 hc
    refine g_s1 (pc2 := 99) hk rfl rfl rfl rfl rfl ?_
    refine g_s1 (pc2 := 101) hk rfl rfl rfl rfl rfl ?_
    obtain ⟨ho, H⟩ := H
    refine g_call hk rfl rfl i_k202.1 ⟨rfl, rfl⟩ rfl (i_rcv_v ho rfl (by decide)) rfl ?_
    exact H.mono (fun v h2 q => by obtain ⟨r, rfl, q⟩ := q; exact q)
  · have H := H.2 hc
    refine g_s1 (pc2 := 36) hk rfl rfl rfl rfl rfl ?_
    refine g_s1 (pc2 := 37) hk rfl rfl rfl rfl rfl ?_
    refine g_s1 (pc2 := 38) hk rfl rfl rfl rfl rfl ?_
    obtain ⟨v3, ev3, H⟩ := H
    refine g_step (pc2 := 41) hk rfl rfl rfl (s_get ev3) ?_
    refine g_s1 (pc2 := 43) (st2 := [.int (61 : Int32), .ref v3, .ref x0, .int x4]) hk rfl rfl rfl rfl rfl ?_
    refine g_s1 (pc2 := 44) hk rfl rfl rfl rfl rfl ?_
    refine g_s1 (pc2 := 45) hk rfl rfl rfl rfl rfl ?_
    refine g_s1 (pc2 := 47) hk rfl rfl rfl rfl rfl ?_
    refine g_s1 (pc2 := 48) hk rfl rfl rfl rfl rfl ?_
    obtain ⟨n4, f5, ef5, hi, H⟩ := H
    refine g_step (pc2 := 49) hk rfl rfl rfl (s_aget (L := L) (xs := xs) ef5 hi) ?_
    refine g_s1 (pc2 := 50) hk rfl rfl rfl rfl rfl ?_
    obtain ⟨v6, ev6, H⟩ := H
    refine g_step (pc2 := 53) hk rfl rfl rfl (s_get ev6) ?_
    refine g_s1 (pc2 := 55) (st2 := [.int (61 : Int32), .ref v6, .int (f5 (((61 : Int32) * x1) + x5).toNatClampNeg), .ref x0, .int x4]) hk rfl rfl rfl rfl rfl ?_
    refine g_s1 (pc2 := 56) hk rfl rfl rfl rfl rfl ?_
    refine g_s1 (pc2 := 57) hk rfl rfl rfl rfl rfl ?_
    refine g_s1 (pc2 := 59) hk rfl rfl rfl rfl rfl ?_
    refine g_s1 (pc2 := 60) hk rfl rfl rfl rfl rfl ?_
    obtain ⟨n7, f8, ef8, hi, H⟩ := H
    refine g_step (pc2 := 61) hk rfl rfl rfl (s_aget (L := L) (xs := xs) ef8 hi) ?_
    obtain ⟨ho, H⟩ := H
    refine g_call hk rfl rfl i_k268.1 ⟨rfl, rfl⟩ rfl (i_rcv_v ho rfl (by decide)) rfl ?_
    exact H.mono (fun v h2 q => by obtain ⟨r, rfl, q⟩ := q; exact q)
theorem b280_64 {x0 : Nat} {x1 : Int32} {x2 : Int32} {x3 : Int32} {x4 : Int32} {x5 : Int32} {s0 : Int32} {s1 : Int32} {h : iH} {Q : Option Value → iH → Prop} (H : (i_obj? h x0 12 ∧ i_C i_MT i_AT L xs 256 [.ref x0, .int x2, .int (2 : Int32)] h (fun v h1 => ∃ r2 : Int32, v = some (.int r2) ∧ i_P i_MT i_AT L xs 280 70 [some (.ref x0), some (.int x1), some (.int x2), some (.int x3), some (.int x4), some (.int x5)] [.int r2, .int s1, .int s0] h1 0 0 Q))) : i_P i_MT i_AT L xs 280 64 [some (.ref x0), some (.int x1), some (.int x2), some (.int x3), some (.int x4), some (.int x5)] [.int s1, .int s0] h 0 0 Q := by
  have hk := i_k280
  refine g_s1 (pc2 := 65) hk rfl rfl rfl rfl rfl ?_
  refine g_s1 (pc2 := 66) hk rfl rfl rfl rfl rfl ?_
  refine g_s1 (pc2 := 67) (st2 := [.int (2 : Int32), .int x2, .ref x0, .int s1, .int s0]) hk rfl rfl rfl rfl rfl ?_
  obtain ⟨ho, H⟩ := H
  refine g_call hk rfl rfl i_k256.1 ⟨rfl, rfl⟩ rfl (i_rcv_v ho rfl (by decide)) rfl ?_
  exact H.mono (fun v h2 q => by obtain ⟨r, rfl, q⟩ := q; exact q)
theorem b280_70 {x0 : Nat} {x1 : Int32} {x2 : Int32} {x3 : Int32} {x4 : Int32} {x5 : Int32} {s0 : Int32} {s1 : Int32} {s2 : Int32} {h : iH} {Q : Option Value → iH → Prop} (H : ((s2 < s1 → i_P i_MT i_AT L xs 280 88 [some (.ref x0), some (.int x1), some (.int x2), some (.int x3), some (.int x4), some (.int x5)] [.int s0] h 0 0 Q) ∧ (¬ (s2 < s1) → (i_obj? h x0 12 ∧ i_C i_MT i_AT L xs 276 [.ref x0, .int x2, .int x1, .int x5] h (fun v h1 => ∃ r2 : Int32, v = some (.int r2) ∧ i_P i_MT i_AT L xs 280 81 [some (.ref x0), some (.int x1), some (.int x2), some (.int x3), some (.int x4), some (.int x5)] [.int r2, .int s0] h1 0 0 Q))))) : i_P i_MT i_AT L xs 280 70 [some (.ref x0), some (.int x1), some (.int x2), some (.int x3), some (.int x4), some (.int x5)] [.int s2, .int s1, .int s0] h 0 0 Q := by
  have hk := i_k280
  refine g_icmp_gt hk rfl (fun hc => ?_) (fun hc => ?_)
  · have H := H.1 hc
    exact H
  · have H := H.2 hc
    refine g_s1 (pc2 := 74) hk rfl rfl rfl rfl rfl ?_
    refine g_s1 (pc2 := 75) hk rfl rfl rfl rfl rfl ?_
    refine g_s1 (pc2 := 76) hk rfl rfl rfl rfl rfl ?_
    refine g_s1 (pc2 := 78) hk rfl rfl rfl rfl rfl ?_
    obtain ⟨ho, H⟩ := H
    refine g_call hk rfl rfl i_k276.1 ⟨rfl, rfl⟩ rfl (i_rcv_v ho rfl (by decide)) rfl ?_
    exact H.mono (fun v h2 q => by obtain ⟨r, rfl, q⟩ := q; exact q)
theorem b280_81 {x0 : Nat} {x1 : Int32} {x2 : Int32} {x3 : Int32} {x4 : Int32} {x5 : Int32} {s0 : Int32} {s1 : Int32} {h : iH} {Q : Option Value → iH → Prop} (H : ((¬ s1 = 0 → i_P i_MT i_AT L xs 280 88 [some (.ref x0), some (.int x1), some (.int x2), some (.int x3), some (.int x4), some (.int x5)] [.int s0] h 0 0 Q) ∧ (¬ (¬ s1 = 0) → i_P i_MT i_AT L xs 280 89 [some (.ref x0), some (.int x1), some (.int x2), some (.int x3), some (.int x4), some (.int x5)] [.int (1 : Int32), .int s0] h 0 0 Q))) : i_P i_MT i_AT L xs 280 81 [some (.ref x0), some (.int x1), some (.int x2), some (.int x3), some (.int x4), some (.int x5)] [.int s1, .int s0] h 0 0 Q := by
  have hk := i_k280
  refine g_if_ne hk rfl (fun hc => ?_) (fun hc => ?_)
  · have H := H.1 hc
    exact H
  · have H := H.2 hc
    refine g_s1 (pc2 := 85) (st2 := [.int (1 : Int32), .int s0]) hk rfl rfl rfl rfl rfl ?_
    refine g_s1 (pc2 := 89) hk rfl rfl rfl rfl rfl ?_
    exact H
theorem b280_88 {x0 : Nat} {x1 : Int32} {x2 : Int32} {x3 : Int32} {x4 : Int32} {x5 : Int32} {s0 : Int32} {h : iH} {Q : Option Value → iH → Prop} (H : i_P i_MT i_AT L xs 280 89 [some (.ref x0), some (.int x1), some (.int x2), some (.int x3), some (.int x4), some (.int x5)] [.int (0 : Int32), .int s0] h 0 0 Q) : i_P i_MT i_AT L xs 280 88 [some (.ref x0), some (.int x1), some (.int x2), some (.int x3), some (.int x4), some (.int x5)] [.int s0] h 0 0 Q := by
  have hk := i_k280
  refine g_s1 (pc2 := 89) (st2 := [.int (0 : Int32), .int s0]) hk rfl rfl rfl rfl rfl ?_
  exact H
theorem b280_89 {x0 : Nat} {x1 : Int32} {x2 : Int32} {x3 : Int32} {x4 : Int32} {x5 : Int32} {s0 : Int32} {s1 : Int32} {h : iH} {Q : Option Value → iH → Prop} (H : i_P i_MT i_AT L xs 280 28 [some (.ref x0), some (.int x1), some (.int x2), some (.int x3), some (.int (s0 + s1)), some (.int (x5 + 1))] [] h 0 0 Q) : i_P i_MT i_AT L xs 280 89 [some (.ref x0), some (.int x1), some (.int x2), some (.int x3), some (.int x4), some (.int x5)] [.int s1, .int s0] h 0 0 Q := by
  have hk := i_k280
  refine g_s1 (pc2 := 90) hk rfl rfl rfl rfl rfl ?_
  refine g_s1 (pc2 := 92) (lo2 := [some (.ref x0), some (.int x1), some (.int x2), some (.int x3), some (.int (s0 + s1)), some (.int x5)]) hk rfl rfl rfl rfl rfl ?_
  refine g_s1 (pc2 := 95) (lo2 := [some (.ref x0), some (.int x1), some (.int x2), some (.int x3), some (.int (s0 + s1)), some (.int (x5 + 1))]) hk rfl rfl rfl rfl rfl ?_
  refine g_s1 (pc2 := 28) hk rfl rfl rfl rfl rfl ?_
  exact H
theorem b280_104 {x0 : Nat} {x1 : Int32} {x2 : Int32} {x3 : Int32} {x4 : Int32} {x5 : Int32} {s0 : Int32} {h : iH} {Q : Option Value → iH → Prop} (H : Q (some (.int s0)) h) : i_P i_MT i_AT L xs 280 104 [some (.ref x0), some (.int x1), some (.int x2), some (.int x3), some (.int x4), some (.int x5)] [.int s0] h 0 0 Q := by
  have hk := i_k280
  exact g_ireturn hk rfl (by decide) (by decide) rfl H
/-! StillTownModel.first(III)I -/
theorem e281 {x0 : Nat} {x1 : Int32} {x2 : Int32} {x3 : Int32} {h : iH} {Q : Option Value → iH → Prop} (H : i_P i_MT i_AT L xs 281 0 [some (.ref x0), some (.int x1), some (.int x2), some (.int x3), none] [] h 0 0 Q) : i_C i_MT i_AT L xs 281 [.ref x0, .int x1, .int x2, .int x3] h Q := ⟨i_m281, i_k281.1, Nat.le_of_ble_eq_true rfl, H⟩
theorem b281_0 {x0 : Nat} {x1 : Int32} {x2 : Int32} {x3 : Int32} {x4 : Option Value} {h : iH} {Q : Option Value → iH → Prop} (H : (i_obj? h x0 12 ∧ i_C i_MT i_AT L xs 277 [.ref x0, .int x1, .int x2] h (fun v h1 => ∃ r2 : Int32, v = some (.int r2) ∧ i_P i_MT i_AT L xs 281 6 [some (.ref x0), some (.int x1), some (.int x2), some (.int x3), x4] [.int r2] h1 0 0 Q))) : i_P i_MT i_AT L xs 281 0 [some (.ref x0), some (.int x1), some (.int x2), some (.int x3), x4] [] h 0 0 Q := by
  have hk := i_k281
  refine g_s1 (pc2 := 1) hk rfl rfl rfl rfl rfl ?_
  refine g_s1 (pc2 := 2) hk rfl rfl rfl rfl rfl ?_
  refine g_s1 (pc2 := 3) hk rfl rfl rfl rfl rfl ?_
  obtain ⟨ho, H⟩ := H
  refine g_call hk rfl rfl i_k277.1 ⟨rfl, rfl⟩ rfl (i_rcv_v ho rfl (by decide)) rfl ?_
  exact H.mono (fun v h2 q => by obtain ⟨r, rfl, q⟩ := q; exact q)
theorem b281_6 {x0 : Nat} {x1 : Int32} {x2 : Int32} {x3 : Int32} {x4 : Option Value} {s0 : Int32} {h : iH} {Q : Option Value → iH → Prop} (H : ((s0 = 0 → i_P i_MT i_AT L xs 281 21 [some (.ref x0), some (.int x1), some (.int x2), some (.int x3), x4] [] h 0 0 Q) ∧ (¬ (s0 = 0) → (i_C i_MT i_AT L xs 212 [.long (x3.toInt64), .long (1 : Int64), .long (16 : Int64)] h (fun v h1 => ∃ r2 : Int32, v = some (.int r2) ∧ i_P i_MT i_AT L xs 281 18 [some (.ref x0), some (.int x1), some (.int x2), some (.int x3), x4] [.int r2] h1 0 0 Q))))) : i_P i_MT i_AT L xs 281 6 [some (.ref x0), some (.int x1), some (.int x2), some (.int x3), x4] [.int s0] h 0 0 Q := by
  have hk := i_k281
  refine g_if_eq hk rfl (fun hc => ?_) (fun hc => ?_)
  · have H := H.1 hc
    exact H
  · have H := H.2 hc
    refine g_s1 (pc2 := 10) hk rfl rfl rfl rfl rfl ?_
    refine g_s1 (pc2 := 11) hk rfl rfl rfl rfl rfl ?_
    refine g_s1 (pc2 := 12) (st2 := [.long (1 : Int64), .long (x3.toInt64)]) hk rfl rfl rfl rfl rfl ?_
    refine g_step (pc2 := 15) (st2 := [.long (16 : Int64), .long (1 : Int64), .long (x3.toInt64)]) hk rfl rfl rfl rfl ?_
    refine g_call hk rfl rfl i_k212.1 ⟨rfl, rfl⟩ rfl (i_rcv_0 rfl) rfl ?_
    exact H.mono (fun v h2 q => by obtain ⟨r, rfl, q⟩ := q; exact q)
theorem b281_18 {x0 : Nat} {x1 : Int32} {x2 : Int32} {x3 : Int32} {x4 : Option Value} {s0 : Int32} {h : iH} {Q : Option Value → iH → Prop} (H : ((¬ s0 = 0 → i_P i_MT i_AT L xs 281 30 [some (.ref x0), some (.int x1), some (.int x2), some (.int x3), some (.int (1 : Int32))] [] h 0 0 Q) ∧ (¬ (¬ s0 = 0) → i_P i_MT i_AT L xs 281 21 [some (.ref x0), some (.int x1), some (.int x2), some (.int x3), x4] [] h 0 0 Q))) : i_P i_MT i_AT L xs 281 18 [some (.ref x0), some (.int x1), some (.int x2), some (.int x3), x4] [.int s0] h 0 0 Q := by
  have hk := i_k281
  refine g_if_ne hk rfl (fun hc => ?_) (fun hc => ?_)
  · have H := H.1 hc
    refine g_s1 (pc2 := 28) (st2 := [.int (1 : Int32)]) hk rfl rfl rfl rfl rfl ?_
    refine g_s1 (pc2 := 30) (lo2 := [some (.ref x0), some (.int x1), some (.int x2), some (.int x3), some (.int (1 : Int32))]) hk rfl rfl rfl rfl rfl ?_
    exact H
  · have H := H.2 hc
    exact H
theorem b281_21 {x0 : Nat} {x1 : Int32} {x2 : Int32} {x3 : Int32} {x4 : Option Value} {h : iH} {Q : Option Value → iH → Prop} (H : (i_obj? h x0 12 ∧ i_C i_MT i_AT L xs 201 [.ref x0, .int (1 : Int32)] h (fun v h1 => ∃ r2 : Int32, v = some (.int r2) ∧ i_P i_MT i_AT L xs 281 26 [some (.ref x0), some (.int x1), some (.int x2), some (.int x3), x4] [.int r2] h1 0 0 Q))) : i_P i_MT i_AT L xs 281 21 [some (.ref x0), some (.int x1), some (.int x2), some (.int x3), x4] [] h 0 0 Q := by
  have hk := i_k281
  refine g_s1 (pc2 := 22) hk rfl rfl rfl rfl rfl ?_
  refine g_s1 (pc2 := 23) (st2 := [.int (1 : Int32), .ref x0]) hk rfl rfl rfl rfl rfl ?_
  obtain ⟨ho, H⟩ := H
  refine g_call hk rfl rfl i_k201.1 ⟨rfl, rfl⟩ rfl (i_rcv_v ho rfl (by decide)) rfl ?_
  exact H.mono (fun v h2 q => by obtain ⟨r, rfl, q⟩ := q; exact q)
theorem b281_26 {x0 : Nat} {x1 : Int32} {x2 : Int32} {x3 : Int32} {x4 : Option Value} {s0 : Int32} {h : iH} {Q : Option Value → iH → Prop} (H : Q (some (.int s0)) h) : i_P i_MT i_AT L xs 281 26 [some (.ref x0), some (.int x1), some (.int x2), some (.int x3), x4] [.int s0] h 0 0 Q := by
  have hk := i_k281
  exact g_ireturn hk rfl (by decide) (by decide) rfl H
theorem b281_30 {x0 : Nat} {x1 : Int32} {x2 : Int32} {x3 : Int32} {x4 : Int32} {h : iH} {Q : Option Value → iH → Prop} (H : (((60 : Int32) < x4 → (i_obj? h x0 12 ∧ i_C i_MT i_AT L xs 201 [.ref x0, .int (6 : Int32)] h (fun v h1 => ∃ r2 : Int32, v = some (.int r2) ∧ i_P i_MT i_AT L xs 281 68 [some (.ref x0), some (.int x1), some (.int x2), some (.int x3), some (.int x4)] [.int r2] h1 0 0 Q))) ∧ (¬ ((60 : Int32) < x4) → (i_obj? h x0 12 ∧ i_C i_MT i_AT L xs 276 [.ref x0, .int x1, .int x2, .int x4] h (fun v h3 => ∃ r4 : Int32, v = some (.int r4) ∧ i_P i_MT i_AT L xs 281 45 [some (.ref x0), some (.int x1), some (.int x2), some (.int x3), some (.int x4)] [.int r4] h3 0 0 Q))))) : i_P i_MT i_AT L xs 281 30 [some (.ref x0), some (.int x1), some (.int x2), some (.int x3), some (.int x4)] [] h 0 0 Q := by
  have hk := i_k281
  refine g_s1 (pc2 := 32) hk rfl rfl rfl rfl rfl ?_
  refine g_s1 (pc2 := 34) (st2 := [.int (60 : Int32), .int x4]) hk rfl rfl rfl rfl rfl ?_
  refine g_icmp_gt hk rfl (fun hc => ?_) (fun hc => ?_)
  · have H := H.1 hc
    refine g_s1 (pc2 := 63) hk rfl rfl rfl rfl rfl ?_
    refine g_s1 (pc2 := 65) (st2 := [.int (6 : Int32), .ref x0]) hk rfl rfl rfl rfl rfl ?_
    obtain ⟨ho, H⟩ := H
    refine g_call hk rfl rfl i_k201.1 ⟨rfl, rfl⟩ rfl (i_rcv_v ho rfl (by decide)) rfl ?_
    exact H.mono (fun v h2 q => by obtain ⟨r, rfl, q⟩ := q; exact q)
  · have H := H.2 hc
    refine g_s1 (pc2 := 38) hk rfl rfl rfl rfl rfl ?_
    refine g_s1 (pc2 := 39) hk rfl rfl rfl rfl rfl ?_
    refine g_s1 (pc2 := 40) hk rfl rfl rfl rfl rfl ?_
    refine g_s1 (pc2 := 42) hk rfl rfl rfl rfl rfl ?_
    obtain ⟨ho, H⟩ := H
    refine g_call hk rfl rfl i_k276.1 ⟨rfl, rfl⟩ rfl (i_rcv_v ho rfl (by decide)) rfl ?_
    exact H.mono (fun v h2 q => by obtain ⟨r, rfl, q⟩ := q; exact q)
theorem b281_45 {x0 : Nat} {x1 : Int32} {x2 : Int32} {x3 : Int32} {x4 : Int32} {s0 : Int32} {h : iH} {Q : Option Value → iH → Prop} (H : ((s0 < x3 → i_P i_MT i_AT L xs 281 30 [some (.ref x0), some (.int x1), some (.int x2), some (.int x3), some (.int (x4 + 1))] [] h 0 0 Q) ∧ (¬ (s0 < x3) → (i_obj? h x0 12 ∧ i_C i_MT i_AT L xs 202 [.ref x0, .int x4] h (fun v h1 => ∃ r2 : Int32, v = some (.int r2) ∧ i_P i_MT i_AT L xs 281 55 [some (.ref x0), some (.int x1), some (.int x2), some (.int x3), some (.int x4)] [.int r2] h1 0 0 Q))))) : i_P i_MT i_AT L xs 281 45 [some (.ref x0), some (.int x1), some (.int x2), some (.int x3), some (.int x4)] [.int s0] h 0 0 Q := by
  have hk := i_k281
  refine g_s1 (pc2 := 46) hk rfl rfl rfl rfl rfl ?_
  refine g_icmp_lt hk rfl (fun hc => ?_) (fun hc => ?_)
  · have H := H.1 hc
    refine g_s1 (pc2 := 59) (lo2 := [some (.ref x0), some (.int x1), some (.int x2), some (.int x3), some (.int (x4 + 1))]) hk rfl rfl rfl rfl rfl ?_
    refine g_s1 (pc2 := 30) hk rfl rfl rfl rfl rfl ?_
    exact H
  · have H := H.2 hc
    refine g_s1 (pc2 := 50) hk rfl rfl rfl rfl rfl ?_
    refine g_s1 (pc2 := 52) hk rfl rfl rfl rfl rfl ?_
    obtain ⟨ho, H⟩ := H
    refine g_call hk rfl rfl i_k202.1 ⟨rfl, rfl⟩ rfl (i_rcv_v ho rfl (by decide)) rfl ?_
    exact H.mono (fun v h2 q => by obtain ⟨r, rfl, q⟩ := q; exact q)
theorem b281_55 {x0 : Nat} {x1 : Int32} {x2 : Int32} {x3 : Int32} {x4 : Int32} {s0 : Int32} {h : iH} {Q : Option Value → iH → Prop} (H : Q (some (.int s0)) h) : i_P i_MT i_AT L xs 281 55 [some (.ref x0), some (.int x1), some (.int x2), some (.int x3), some (.int x4)] [.int s0] h 0 0 Q := by
  have hk := i_k281
  exact g_ireturn hk rfl (by decide) (by decide) rfl H
theorem b281_68 {x0 : Nat} {x1 : Int32} {x2 : Int32} {x3 : Int32} {x4 : Int32} {s0 : Int32} {h : iH} {Q : Option Value → iH → Prop} (H : Q (some (.int s0)) h) : i_P i_MT i_AT L xs 281 68 [some (.ref x0), some (.int x1), some (.int x2), some (.int x3), some (.int x4)] [.int s0] h 0 0 Q := by
  have hk := i_k281
  exact g_ireturn hk rfl (by decide) (by decide) rfl H
/-! StillTownModel.watches(II)Z -/
theorem e282 {x0 : Nat} {x1 : Int32} {x2 : Int32} {h : iH} {Q : Option Value → iH → Prop} (H : i_P i_MT i_AT L xs 282 0 [some (.ref x0), some (.int x1), some (.int x2)] [] h 0 0 Q) : i_C i_MT i_AT L xs 282 [.ref x0, .int x1, .int x2] h Q := ⟨i_m282, i_k282.1, Nat.le_of_ble_eq_true rfl, H⟩
theorem b282_0 {x0 : Nat} {x1 : Int32} {x2 : Int32} {h : iH} {Q : Option Value → iH → Prop} (H : (i_obj? h x0 12 ∧ i_C i_MT i_AT L xs 256 [.ref x0, .int x2, .int (3 : Int32)] h (fun v h1 => ∃ r2 : Int32, v = some (.int r2) ∧ i_P i_MT i_AT L xs 282 6 [some (.ref x0), some (.int x1), some (.int x2)] [.int r2] h1 0 0 Q))) : i_P i_MT i_AT L xs 282 0 [some (.ref x0), some (.int x1), some (.int x2)] [] h 0 0 Q := by
  have hk := i_k282
  refine g_s1 (pc2 := 1) hk rfl rfl rfl rfl rfl ?_
  refine g_s1 (pc2 := 2) hk rfl rfl rfl rfl rfl ?_
  refine g_s1 (pc2 := 3) (st2 := [.int (3 : Int32), .int x2, .ref x0]) hk rfl rfl rfl rfl rfl ?_
  obtain ⟨ho, H⟩ := H
  refine g_call hk rfl rfl i_k256.1 ⟨rfl, rfl⟩ rfl (i_rcv_v ho rfl (by decide)) rfl ?_
  exact H.mono (fun v h2 q => by obtain ⟨r, rfl, q⟩ := q; exact q)
theorem b282_6 {x0 : Nat} {x1 : Int32} {x2 : Int32} {s0 : Int32} {h : iH} {Q : Option Value → iH → Prop} (H : ((¬ ((s0 >>> (x1 &&& 31)) &&& (1 : Int32)) = (1 : Int32) → i_P i_MT i_AT L xs 282 19 [some (.ref x0), some (.int x1), some (.int x2)] [.int (0 : Int32)] h 0 0 Q) ∧ (¬ (¬ ((s0 >>> (x1 &&& 31)) &&& (1 : Int32)) = (1 : Int32)) → i_P i_MT i_AT L xs 282 19 [some (.ref x0), some (.int x1), some (.int x2)] [.int (1 : Int32)] h 0 0 Q))) : i_P i_MT i_AT L xs 282 6 [some (.ref x0), some (.int x1), some (.int x2)] [.int s0] h 0 0 Q := by
  have hk := i_k282
  refine g_s1 (pc2 := 7) hk rfl rfl rfl rfl rfl ?_
  refine g_s1 (pc2 := 8) hk rfl rfl rfl rfl rfl ?_
  refine g_s1 (pc2 := 9) (st2 := [.int (1 : Int32), .int (s0 >>> (x1 &&& 31))]) hk rfl rfl rfl rfl rfl ?_
  refine g_s1 (pc2 := 10) hk rfl rfl rfl rfl rfl ?_
  refine g_s1 (pc2 := 11) (st2 := [.int (1 : Int32), .int ((s0 >>> (x1 &&& 31)) &&& (1 : Int32))]) hk rfl rfl rfl rfl rfl ?_
  refine g_icmp_ne hk rfl (fun hc => ?_) (fun hc => ?_)
  · have H := H.1 hc
    refine g_s1 (pc2 := 19) (st2 := [.int (0 : Int32)]) hk rfl rfl rfl rfl rfl ?_
    exact H
  · have H := H.2 hc
    refine g_s1 (pc2 := 15) (st2 := [.int (1 : Int32)]) hk rfl rfl rfl rfl rfl ?_
    refine g_s1 (pc2 := 19) hk rfl rfl rfl rfl rfl ?_
    exact H
theorem b282_19 {x0 : Nat} {x1 : Int32} {x2 : Int32} {s0 : Int32} {h : iH} {Q : Option Value → iH → Prop} (H : (i_ret (some .boolean) s0 = true ∧ Q (some (.int s0)) h)) : i_P i_MT i_AT L xs 282 19 [some (.ref x0), some (.int x1), some (.int x2)] [.int s0] h 0 0 Q := by
  have hk := i_k282
  exact g_ireturn hk rfl (by decide) (by decide) H.1 H.2
/-! StillTownModel.judged(I)I -/
theorem e283 {x0 : Nat} {x1 : Int32} {h : iH} {Q : Option Value → iH → Prop} (H : i_P i_MT i_AT L xs 283 0 [some (.ref x0), some (.int x1), none, none, none] [] h 0 0 Q) : i_C i_MT i_AT L xs 283 [.ref x0, .int x1] h Q := ⟨i_m283, i_k283.1, Nat.le_of_ble_eq_true rfl, H⟩
theorem b283_0 {x0 : Nat} {x1 : Int32} {x2 : Option Value} {x3 : Option Value} {x4 : Option Value} {h : iH} {Q : Option Value → iH → Prop} (H : ((x1 < 0 → i_P i_MT i_AT L xs 283 9 [some (.ref x0), some (.int x1), x2, x3, x4] [] h 0 0 Q) ∧ (¬ (x1 < 0) → ((x1 ≤ (2 : Int32) → i_P i_MT i_AT L xs 283 17 [some (.ref x0), some (.int x1), some (.int (1 : Int32)), x3, x4] [] h 0 0 Q) ∧ (¬ (x1 ≤ (2 : Int32)) → i_P i_MT i_AT L xs 283 9 [some (.ref x0), some (.int x1), x2, x3, x4] [] h 0 0 Q))))) : i_P i_MT i_AT L xs 283 0 [some (.ref x0), some (.int x1), x2, x3, x4] [] h 0 0 Q := by
  have hk := i_k283
  refine g_s1 (pc2 := 1) hk rfl rfl rfl rfl rfl ?_
  refine g_if_lt hk rfl (fun hc => ?_) (fun hc => ?_)
  · have H := H.1 hc
    exact H
  · have H := H.2 hc
    refine g_s1 (pc2 := 5) hk rfl rfl rfl rfl rfl ?_
    refine g_s1 (pc2 := 6) (st2 := [.int (2 : Int32), .int x1]) hk rfl rfl rfl rfl rfl ?_
    refine g_icmp_le hk rfl (fun hc => ?_) (fun hc => ?_)
    · have H := H.1 hc
      refine g_s1 (pc2 := 16) (st2 := [.int (1 : Int32)]) hk rfl rfl rfl rfl rfl ?_
      refine g_s1 (pc2 := 17) (lo2 := [some (.ref x0), some (.int x1), some (.int (1 : Int32)), x3, x4]) hk rfl rfl rfl rfl rfl ?_
      exact H
    · have H := H.2 hc
      exact H
theorem b283_9 {x0 : Nat} {x1 : Int32} {x2 : Option Value} {x3 : Option Value} {x4 : Option Value} {h : iH} {Q : Option Value → iH → Prop} (H : (i_obj? h x0 12 ∧ i_C i_MT i_AT L xs 201 [.ref x0, .int (1 : Int32)] h (fun v h1 => ∃ r2 : Int32, v = some (.int r2) ∧ i_P i_MT i_AT L xs 283 14 [some (.ref x0), some (.int x1), x2, x3, x4] [.int r2] h1 0 0 Q))) : i_P i_MT i_AT L xs 283 9 [some (.ref x0), some (.int x1), x2, x3, x4] [] h 0 0 Q := by
  have hk := i_k283
  refine g_s1 (pc2 := 10) hk rfl rfl rfl rfl rfl ?_
  refine g_s1 (pc2 := 11) (st2 := [.int (1 : Int32), .ref x0]) hk rfl rfl rfl rfl rfl ?_
  obtain ⟨ho, H⟩ := H
  refine g_call hk rfl rfl i_k201.1 ⟨rfl, rfl⟩ rfl (i_rcv_v ho rfl (by decide)) rfl ?_
  exact H.mono (fun v h2 q => by obtain ⟨r, rfl, q⟩ := q; exact q)
theorem b283_14 {x0 : Nat} {x1 : Int32} {x2 : Option Value} {x3 : Option Value} {x4 : Option Value} {s0 : Int32} {h : iH} {Q : Option Value → iH → Prop} (H : Q (some (.int s0)) h) : i_P i_MT i_AT L xs 283 14 [some (.ref x0), some (.int x1), x2, x3, x4] [.int s0] h 0 0 Q := by
  have hk := i_k283
  exact g_ireturn hk rfl (by decide) (by decide) rfl H
theorem b283_17 {x0 : Nat} {x1 : Int32} {x2 : Int32} {x3 : Option Value} {x4 : Option Value} {h : iH} {Q : Option Value → iH → Prop} (H : (((60 : Int32) < x2 → (i_obj? h x0 12 ∧ i_C i_MT i_AT L xs 201 [.ref x0, .int (6 : Int32)] h (fun v h1 => ∃ r2 : Int32, v = some (.int r2) ∧ i_P i_MT i_AT L xs 283 118 [some (.ref x0), some (.int x1), some (.int x2), x3, x4] [.int r2] h1 0 0 Q))) ∧ (¬ ((60 : Int32) < x2) → i_P i_MT i_AT L xs 283 25 [some (.ref x0), some (.int x1), some (.int x2), some (.int (0 : Int32)), x4] [] h 0 0 Q))) : i_P i_MT i_AT L xs 283 17 [some (.ref x0), some (.int x1), some (.int x2), x3, x4] [] h 0 0 Q := by
  have hk := i_k283
  refine g_s1 (pc2 := 18) hk rfl rfl rfl rfl rfl ?_
  refine g_s1 (pc2 := 20) (st2 := [.int (60 : Int32), .int x2]) hk rfl rfl rfl rfl rfl ?_
  refine g_icmp_gt hk rfl (fun hc => ?_) (fun hc => ?_)
  · have H := H.1 hc
    refine g_s1 (pc2 := 113) hk rfl rfl rfl rfl rfl ?_
    refine g_s1 (pc2 := 115) (st2 := [.int (6 : Int32), .ref x0]) hk rfl rfl rfl rfl rfl ?_
    obtain ⟨ho, H⟩ := H
    refine g_call hk rfl rfl i_k201.1 ⟨rfl, rfl⟩ rfl (i_rcv_v ho rfl (by decide)) rfl ?_
    exact H.mono (fun v h2 q => by obtain ⟨r, rfl, q⟩ := q; exact q)
  · have H := H.2 hc
    refine g_s1 (pc2 := 24) (st2 := [.int (0 : Int32)]) hk rfl rfl rfl rfl rfl ?_
    refine g_s1 (pc2 := 25) (lo2 := [some (.ref x0), some (.int x1), some (.int x2), some (.int (0 : Int32)), x4]) hk rfl rfl rfl rfl rfl ?_
    exact H
theorem b283_25 {x0 : Nat} {x1 : Int32} {x2 : Int32} {x3 : Int32} {x4 : Option Value} {h : iH} {Q : Option Value → iH → Prop} (H : (∃ v1 : Nat, i_fld h x0 12 0 = some (.ref v1) ∧ (∃ (n2 : Nat) (f3 : Nat → Int32), i_arI h 0 v1 = some (n2, f3) ∧ ¬ ((5 : Int32) < 0 ∨ n2 ≤ (5 : Int32).toNatClampNeg) ∧ (((f3 (5 : Int32).toNatClampNeg) ≤ x3 → i_P i_MT i_AT L xs 283 17 [some (.ref x0), some (.int x1), some (.int (x2 + 1)), some (.int x3), x4] [] h 0 0 Q) ∧ (¬ ((f3 (5 : Int32).toNatClampNeg) ≤ x3) → i_P i_MT i_AT L xs 283 38 [some (.ref x0), some (.int x1), some (.int x2), some (.int x3), some (.int (0 : Int32))] [] h 0 0 Q))))) : i_P i_MT i_AT L xs 283 25 [some (.ref x0), some (.int x1), some (.int x2), some (.int x3), x4] [] h 0 0 Q := by
  have hk := i_k283
  refine g_s1 (pc2 := 26) hk rfl rfl rfl rfl rfl ?_
  refine g_s1 (pc2 := 27) hk rfl rfl rfl rfl rfl ?_
  obtain ⟨v1, ev1, H⟩ := H
  refine g_step (pc2 := 30) hk rfl rfl rfl (s_get ev1) ?_
  refine g_s1 (pc2 := 31) (st2 := [.int (5 : Int32), .ref v1, .int x3]) hk rfl rfl rfl rfl rfl ?_
  obtain ⟨n2, f3, ef3, hi, H⟩ := H
  refine g_step (pc2 := 32) hk rfl rfl rfl (s_aget (L := L) (xs := xs) ef3 hi) ?_
  refine g_icmp_ge hk rfl (fun hc => ?_) (fun hc => ?_)
  · have H := H.1 hc
    refine g_s1 (pc2 := 109) (lo2 := [some (.ref x0), some (.int x1), some (.int (x2 + 1)), some (.int x3), x4]) hk rfl rfl rfl rfl rfl ?_
    refine g_s1 (pc2 := 17) hk rfl rfl rfl rfl rfl ?_
    exact H
  · have H := H.2 hc
    refine g_s1 (pc2 := 36) (st2 := [.int (0 : Int32)]) hk rfl rfl rfl rfl rfl ?_
    refine g_s1 (pc2 := 38) (lo2 := [some (.ref x0), some (.int x1), some (.int x2), some (.int x3), some (.int (0 : Int32))]) hk rfl rfl rfl rfl rfl ?_
    exact H
theorem b283_38 {x0 : Nat} {x1 : Int32} {x2 : Int32} {x3 : Int32} {x4 : Int32} {h : iH} {Q : Option Value → iH → Prop} (H : (∃ v1 : Nat, i_fld h x0 12 0 = some (.ref v1) ∧ (∃ (n2 : Nat) (f3 : Nat → Int32), i_arI h 0 v1 = some (n2, f3) ∧ ¬ ((5 : Int32) < 0 ∨ n2 ≤ (5 : Int32).toNatClampNeg) ∧ (((f3 (5 : Int32).toNatClampNeg) ≤ x4 → i_P i_MT i_AT L xs 283 25 [some (.ref x0), some (.int x1), some (.int x2), some (.int (x3 + 1)), some (.int x4)] [] h 0 0 Q) ∧ (¬ ((f3 (5 : Int32).toNatClampNeg) ≤ x4) → (i_obj? h x0 12 ∧ i_C i_MT i_AT L xs 282 [.ref x0, .int x4, .int x3] h (fun v h4 => ∃ r5 : Int32, v = some (.int r5) ∧ i_P i_MT i_AT L xs 283 56 [some (.ref x0), some (.int x1), some (.int x2), some (.int x3), some (.int x4)] [.int r5] h4 0 0 Q))))))) : i_P i_MT i_AT L xs 283 38 [some (.ref x0), some (.int x1), some (.int x2), some (.int x3), some (.int x4)] [] h 0 0 Q := by
  have hk := i_k283
  refine g_s1 (pc2 := 40) hk rfl rfl rfl rfl rfl ?_
  refine g_s1 (pc2 := 41) hk rfl rfl rfl rfl rfl ?_
  obtain ⟨v1, ev1, H⟩ := H
  refine g_step (pc2 := 44) hk rfl rfl rfl (s_get ev1) ?_
  refine g_s1 (pc2 := 45) (st2 := [.int (5 : Int32), .ref v1, .int x4]) hk rfl rfl rfl rfl rfl ?_
  obtain ⟨n2, f3, ef3, hi, H⟩ := H
  refine g_step (pc2 := 46) hk rfl rfl rfl (s_aget (L := L) (xs := xs) ef3 hi) ?_
  refine g_icmp_ge hk rfl (fun hc => ?_) (fun hc => ?_)
  · have H := H.1 hc
    refine g_s1 (pc2 := 103) (lo2 := [some (.ref x0), some (.int x1), some (.int x2), some (.int (x3 + 1)), some (.int x4)]) hk rfl rfl rfl rfl rfl ?_
    refine g_s1 (pc2 := 25) hk rfl rfl rfl rfl rfl ?_
    exact H
  · have H := H.2 hc
    refine g_s1 (pc2 := 50) hk rfl rfl rfl rfl rfl ?_
    refine g_s1 (pc2 := 52) hk rfl rfl rfl rfl rfl ?_
    refine g_s1 (pc2 := 53) hk rfl rfl rfl rfl rfl ?_
    obtain ⟨ho, H⟩ := H
    refine g_call hk rfl rfl i_k282.1 ⟨rfl, rfl⟩ rfl (i_rcv_v ho rfl (by decide)) rfl ?_
    exact H.mono (fun v h2 q => by obtain ⟨r, rfl, q⟩ := q; exact q)
theorem b283_56 {x0 : Nat} {x1 : Int32} {x2 : Int32} {x3 : Int32} {x4 : Int32} {s0 : Int32} {h : iH} {Q : Option Value → iH → Prop} (H : ((s0 = 0 → i_P i_MT i_AT L xs 283 94 [some (.ref x0), some (.int x1), some (.int x2), some (.int x3), some (.int x4)] [] h 0 0 Q) ∧ (¬ (s0 = 0) → (i_obj? h x0 12 ∧ i_C i_MT i_AT L xs 276 [.ref x0, .int x4, .int x3, .int x2] h (fun v h1 => ∃ r2 : Int32, v = some (.int r2) ∧ i_P i_MT i_AT L xs 283 67 [some (.ref x0), some (.int x1), some (.int x2), some (.int x3), some (.int x4)] [.int r2] h1 0 0 Q))))) : i_P i_MT i_AT L xs 283 56 [some (.ref x0), some (.int x1), some (.int x2), some (.int x3), some (.int x4)] [.int s0] h 0 0 Q := by
  have hk := i_k283
  refine g_if_eq hk rfl (fun hc => ?_) (fun hc => ?_)
  · have H := H.1 hc
    exact H
  · have H := H.2 hc
    refine g_s1 (pc2 := 60) hk rfl rfl rfl rfl rfl ?_
    refine g_s1 (pc2 := 62) hk rfl rfl rfl rfl rfl ?_
    refine g_s1 (pc2 := 63) hk rfl rfl rfl rfl rfl ?_
    refine g_s1 (pc2 := 64) hk rfl rfl rfl rfl rfl ?_
    obtain ⟨ho, H⟩ := H
    refine g_call hk rfl rfl i_k276.1 ⟨rfl, rfl⟩ rfl (i_rcv_v ho rfl (by decide)) rfl ?_
    exact H.mono (fun v h2 q => by obtain ⟨r, rfl, q⟩ := q; exact q)
theorem b283_67 {x0 : Nat} {x1 : Int32} {x2 : Int32} {x3 : Int32} {x4 : Int32} {s0 : Int32} {h : iH} {Q : Option Value → iH → Prop} (H : ((s0 ≤ 0 → i_P i_MT i_AT L xs 283 94 [some (.ref x0), some (.int x1), some (.int x2), some (.int x3), some (.int x4)] [] h 0 0 Q) ∧ (¬ (s0 ≤ 0) → ((¬ x1 = 0 → ((¬ x1 = (1 : Int32) → i_P i_MT i_AT L xs 283 90 [some (.ref x0), some (.int x1), some (.int x2), some (.int x3), some (.int x4)] [.int x4, .ref x0] h 0 0 Q) ∧ (¬ (¬ x1 = (1 : Int32)) → i_P i_MT i_AT L xs 283 90 [some (.ref x0), some (.int x1), some (.int x2), some (.int x3), some (.int x4)] [.int x3, .ref x0] h 0 0 Q))) ∧ (¬ (¬ x1 = 0) → i_P i_MT i_AT L xs 283 90 [some (.ref x0), some (.int x1), some (.int x2), some (.int x3), some (.int x4)] [.int x2, .ref x0] h 0 0 Q))))) : i_P i_MT i_AT L xs 283 67 [some (.ref x0), some (.int x1), some (.int x2), some (.int x3), some (.int x4)] [.int s0] h 0 0 Q := by
  have hk := i_k283
  refine g_if_le hk rfl (fun hc => ?_) (fun hc => ?_)
  · have H := H.1 hc
    exact H
  · have H := H.2 hc
    refine g_s1 (pc2 := 71) hk rfl rfl rfl rfl rfl ?_
    refine g_s1 (pc2 := 72) hk rfl rfl rfl rfl rfl ?_
    refine g_if_ne hk rfl (fun hc => ?_) (fun hc => ?_)
    · have H := H.1 hc
      refine g_s1 (pc2 := 80) hk rfl rfl rfl rfl rfl ?_
      refine g_s1 (pc2 := 81) (st2 := [.int (1 : Int32), .int x1, .ref x0]) hk rfl rfl rfl rfl rfl ?_
      refine g_icmp_ne hk rfl (fun hc => ?_) (fun hc => ?_)
      · have H := H.1 hc
        refine g_s1 (pc2 := 90) hk rfl rfl rfl rfl rfl ?_
        exact H
      · have H := H.2 hc
        refine g_s1 (pc2 := 85) hk rfl rfl rfl rfl rfl ?_
        refine g_s1 (pc2 := 90) hk rfl rfl rfl rfl rfl ?_
        exact H
    · have H := H.2 hc
      refine g_s1 (pc2 := 76) hk rfl rfl rfl rfl rfl ?_
      refine g_s1 (pc2 := 90) hk rfl rfl rfl rfl rfl ?_
      exact H
theorem b283_90 {x0 : Nat} {x1 : Int32} {x2 : Int32} {x3 : Int32} {x4 : Int32} {s0 : Nat} {s1 : Int32} {h : iH} {Q : Option Value → iH → Prop} (H : (i_obj? h s0 12 ∧ i_C i_MT i_AT L xs 202 [.ref s0, .int s1] h (fun v h1 => ∃ r2 : Int32, v = some (.int r2) ∧ i_P i_MT i_AT L xs 283 93 [some (.ref x0), some (.int x1), some (.int x2), some (.int x3), some (.int x4)] [.int r2] h1 0 0 Q))) : i_P i_MT i_AT L xs 283 90 [some (.ref x0), some (.int x1), some (.int x2), some (.int x3), some (.int x4)] [.int s1, .ref s0] h 0 0 Q := by
  have hk := i_k283
  obtain ⟨ho, H⟩ := H
  refine g_call hk rfl rfl i_k202.1 ⟨rfl, rfl⟩ rfl (i_rcv_v ho rfl (by decide)) rfl ?_
  exact H.mono (fun v h2 q => by obtain ⟨r, rfl, q⟩ := q; exact q)
theorem b283_93 {x0 : Nat} {x1 : Int32} {x2 : Int32} {x3 : Int32} {x4 : Int32} {s0 : Int32} {h : iH} {Q : Option Value → iH → Prop} (H : Q (some (.int s0)) h) : i_P i_MT i_AT L xs 283 93 [some (.ref x0), some (.int x1), some (.int x2), some (.int x3), some (.int x4)] [.int s0] h 0 0 Q := by
  have hk := i_k283
  exact g_ireturn hk rfl (by decide) (by decide) rfl H
theorem b283_94 {x0 : Nat} {x1 : Int32} {x2 : Int32} {x3 : Int32} {x4 : Int32} {h : iH} {Q : Option Value → iH → Prop} (H : i_P i_MT i_AT L xs 283 38 [some (.ref x0), some (.int x1), some (.int x2), some (.int x3), some (.int (x4 + 1))] [] h 0 0 Q) : i_P i_MT i_AT L xs 283 94 [some (.ref x0), some (.int x1), some (.int x2), some (.int x3), some (.int x4)] [] h 0 0 Q := by
  have hk := i_k283
  refine g_s1 (pc2 := 97) (lo2 := [some (.ref x0), some (.int x1), some (.int x2), some (.int x3), some (.int (x4 + 1))]) hk rfl rfl rfl rfl rfl ?_
  refine g_s1 (pc2 := 38) hk rfl rfl rfl rfl rfl ?_
  exact H
theorem b283_118 {x0 : Nat} {x1 : Int32} {x2 : Int32} {x3 : Option Value} {x4 : Option Value} {s0 : Int32} {h : iH} {Q : Option Value → iH → Prop} (H : Q (some (.int s0)) h) : i_P i_MT i_AT L xs 283 118 [some (.ref x0), some (.int x1), some (.int x2), x3, x4] [.int s0] h 0 0 Q := by
  have hk := i_k283
  exact g_ireturn hk rfl (by decide) (by decide) rfl H
/-! StillTownModel.isUnseen(IIII)Z -/
theorem e284 {x0 : Nat} {x1 : Int32} {x2 : Int32} {x3 : Int32} {x4 : Int32} {h : iH} {Q : Option Value → iH → Prop} (H : i_P i_MT i_AT L xs 284 0 [some (.ref x0), some (.int x1), some (.int x2), some (.int x3), some (.int x4), none] [] h 0 0 Q) : i_C i_MT i_AT L xs 284 [.ref x0, .int x1, .int x2, .int x3, .int x4] h Q := ⟨i_m284, i_k284.1, Nat.le_of_ble_eq_true rfl, H⟩
theorem b284_0 {x0 : Nat} {x1 : Int32} {x2 : Int32} {x3 : Int32} {x4 : Int32} {x5 : Option Value} {h : iH} {Q : Option Value → iH → Prop} (H : i_P i_MT i_AT L xs 284 3 [some (.ref x0), some (.int x1), some (.int x2), some (.int x3), some (.int x4), some (.int (0 : Int32))] [] h 0 0 Q) : i_P i_MT i_AT L xs 284 0 [some (.ref x0), some (.int x1), some (.int x2), some (.int x3), some (.int x4), x5] [] h 0 0 Q := by
  have hk := i_k284
  refine g_s1 (pc2 := 1) (st2 := [.int (0 : Int32)]) hk rfl rfl rfl rfl rfl ?_
  refine g_s1 (pc2 := 3) (lo2 := [some (.ref x0), some (.int x1), some (.int x2), some (.int x3), some (.int x4), some (.int (0 : Int32))]) hk rfl rfl rfl rfl rfl ?_
  exact H
theorem b284_3 {x0 : Nat} {x1 : Int32} {x2 : Int32} {x3 : Int32} {x4 : Int32} {x5 : Int32} {h : iH} {Q : Option Value → iH → Prop} (H : (∃ v1 : Nat, i_fld h x0 12 0 = some (.ref v1) ∧ (∃ (n2 : Nat) (f3 : Nat → Int32), i_arI h 0 v1 = some (n2, f3) ∧ ¬ ((5 : Int32) < 0 ∨ n2 ≤ (5 : Int32).toNatClampNeg) ∧ (((f3 (5 : Int32).toNatClampNeg) ≤ x5 → Q (some (.int 1)) h) ∧ (¬ ((f3 (5 : Int32).toNatClampNeg) ≤ x5) → (i_obj? h x0 12 ∧ i_C i_MT i_AT L xs 282 [.ref x0, .int x5, .int x1] h (fun v h4 => ∃ r5 : Int32, v = some (.int r5) ∧ i_P i_MT i_AT L xs 284 21 [some (.ref x0), some (.int x1), some (.int x2), some (.int x3), some (.int x4), some (.int x5)] [.int r5] h4 0 0 Q))))))) : i_P i_MT i_AT L xs 284 3 [some (.ref x0), some (.int x1), some (.int x2), some (.int x3), some (.int x4), some (.int x5)] [] h 0 0 Q := by
  have hk := i_k284
  refine g_s1 (pc2 := 5) hk rfl rfl rfl rfl rfl ?_
  refine g_s1 (pc2 := 6) hk rfl rfl rfl rfl rfl ?_
  obtain ⟨v1, ev1, H⟩ := H
  refine g_step (pc2 := 9) hk rfl rfl rfl (s_get ev1) ?_
  refine g_s1 (pc2 := 10) (st2 := [.int (5 : Int32), .ref v1, .int x5]) hk rfl rfl rfl rfl rfl ?_
  obtain ⟨n2, f3, ef3, hi, H⟩ := H
  refine g_step (pc2 := 11) hk rfl rfl rfl (s_aget (L := L) (xs := xs) ef3 hi) ?_
  refine g_icmp_ge hk rfl (fun hc => ?_) (fun hc => ?_)
  · have H := H.1 hc
    refine g_s1 (pc2 := 46) (st2 := [.int (1 : Int32)]) hk rfl rfl rfl rfl rfl ?_
    exact g_ireturn hk rfl (by decide) (by decide) rfl H
  · have H := H.2 hc
    refine g_s1 (pc2 := 15) hk rfl rfl rfl rfl rfl ?_
    refine g_s1 (pc2 := 17) hk rfl rfl rfl rfl rfl ?_
    refine g_s1 (pc2 := 18) hk rfl rfl rfl rfl rfl ?_
    obtain ⟨ho, H⟩ := H
    refine g_call hk rfl rfl i_k282.1 ⟨rfl, rfl⟩ rfl (i_rcv_v ho rfl (by decide)) rfl ?_
    exact H.mono (fun v h2 q => by obtain ⟨r, rfl, q⟩ := q; exact q)
theorem b284_21 {x0 : Nat} {x1 : Int32} {x2 : Int32} {x3 : Int32} {x4 : Int32} {x5 : Int32} {s0 : Int32} {h : iH} {Q : Option Value → iH → Prop} (H : ((s0 = 0 → i_P i_MT i_AT L xs 284 39 [some (.ref x0), some (.int x1), some (.int x2), some (.int x3), some (.int x4), some (.int x5)] [] h 0 0 Q) ∧ (¬ (s0 = 0) → (i_obj? h x0 12 ∧ i_C i_MT i_AT L xs 275 [.ref x0, .int x5, .int x2, .int x3, .int x4] h (fun v h1 => ∃ r2 : Int32, v = some (.int r2) ∧ i_P i_MT i_AT L xs 284 34 [some (.ref x0), some (.int x1), some (.int x2), some (.int x3), some (.int x4), some (.int x5)] [.int r2] h1 0 0 Q))))) : i_P i_MT i_AT L xs 284 21 [some (.ref x0), some (.int x1), some (.int x2), some (.int x3), some (.int x4), some (.int x5)] [.int s0] h 0 0 Q := by
  have hk := i_k284
  refine g_if_eq hk rfl (fun hc => ?_) (fun hc => ?_)
  · have H := H.1 hc
    exact H
  · have H := H.2 hc
    refine g_s1 (pc2 := 25) hk rfl rfl rfl rfl rfl ?_
    refine g_s1 (pc2 := 27) hk rfl rfl rfl rfl rfl ?_
    refine g_s1 (pc2 := 28) hk rfl rfl rfl rfl rfl ?_
    refine g_s1 (pc2 := 29) hk rfl rfl rfl rfl rfl ?_
    refine g_s1 (pc2 := 31) hk rfl rfl rfl rfl rfl ?_
    obtain ⟨ho, H⟩ := H
    refine g_call hk rfl rfl i_k275.1 ⟨rfl, rfl⟩ rfl (i_rcv_v ho rfl (by decide)) rfl ?_
    exact H.mono (fun v h2 q => by obtain ⟨r, rfl, q⟩ := q; exact q)
theorem b284_34 {x0 : Nat} {x1 : Int32} {x2 : Int32} {x3 : Int32} {x4 : Int32} {x5 : Int32} {s0 : Int32} {h : iH} {Q : Option Value → iH → Prop} (H : ((s0 ≤ 0 → i_P i_MT i_AT L xs 284 39 [some (.ref x0), some (.int x1), some (.int x2), some (.int x3), some (.int x4), some (.int x5)] [] h 0 0 Q) ∧ (¬ (s0 ≤ 0) → Q (some (.int 0)) h))) : i_P i_MT i_AT L xs 284 34 [some (.ref x0), some (.int x1), some (.int x2), some (.int x3), some (.int x4), some (.int x5)] [.int s0] h 0 0 Q := by
  have hk := i_k284
  refine g_if_le hk rfl (fun hc => ?_) (fun hc => ?_)
  · have H := H.1 hc
    exact H
  · have H := H.2 hc
    refine g_s1 (pc2 := 38) (st2 := [.int (0 : Int32)]) hk rfl rfl rfl rfl rfl ?_
    exact g_ireturn hk rfl (by decide) (by decide) rfl H
theorem b284_39 {x0 : Nat} {x1 : Int32} {x2 : Int32} {x3 : Int32} {x4 : Int32} {x5 : Int32} {h : iH} {Q : Option Value → iH → Prop} (H : i_P i_MT i_AT L xs 284 3 [some (.ref x0), some (.int x1), some (.int x2), some (.int x3), some (.int x4), some (.int (x5 + 1))] [] h 0 0 Q) : i_P i_MT i_AT L xs 284 39 [some (.ref x0), some (.int x1), some (.int x2), some (.int x3), some (.int x4), some (.int x5)] [] h 0 0 Q := by
  have hk := i_k284
  refine g_s1 (pc2 := 42) (lo2 := [some (.ref x0), some (.int x1), some (.int x2), some (.int x3), some (.int x4), some (.int (x5 + 1))]) hk rfl rfl rfl rfl rfl ?_
  refine g_s1 (pc2 := 3) hk rfl rfl rfl rfl rfl ?_
  exact H
/-! StillTownModel.isNext(II)Z -/
theorem e285 {x0 : Nat} {x1 : Int32} {x2 : Int32} {h : iH} {Q : Option Value → iH → Prop} (H : i_P i_MT i_AT L xs 285 0 [some (.ref x0), some (.int x1), some (.int x2)] [] h 0 0 Q) : i_C i_MT i_AT L xs 285 [.ref x0, .int x1, .int x2] h Q := ⟨i_m285, i_k285.1, Nat.le_of_ble_eq_true rfl, H⟩
theorem b285_0 {x0 : Nat} {x1 : Int32} {x2 : Int32} {h : iH} {Q : Option Value → iH → Prop} (H : (i_obj? h x0 12 ∧ i_C i_MT i_AT L xs 268 [.ref x0, .int x1, .int x2] h (fun v h1 => ∃ r2 : Int32, v = some (.int r2) ∧ i_P i_MT i_AT L xs 285 6 [some (.ref x0), some (.int x1), some (.int x2)] [.int r2] h1 0 0 Q))) : i_P i_MT i_AT L xs 285 0 [some (.ref x0), some (.int x1), some (.int x2)] [] h 0 0 Q := by
  have hk := i_k285
  refine g_s1 (pc2 := 1) hk rfl rfl rfl rfl rfl ?_
  refine g_s1 (pc2 := 2) hk rfl rfl rfl rfl rfl ?_
  refine g_s1 (pc2 := 3) hk rfl rfl rfl rfl rfl ?_
  obtain ⟨ho, H⟩ := H
  refine g_call hk rfl rfl i_k268.1 ⟨rfl, rfl⟩ rfl (i_rcv_v ho rfl (by decide)) rfl ?_
  exact H.mono (fun v h2 q => by obtain ⟨r, rfl, q⟩ := q; exact q)
theorem b285_6 {x0 : Nat} {x1 : Int32} {x2 : Int32} {s0 : Int32} {h : iH} {Q : Option Value → iH → Prop} (H : ((¬ s0 = (1 : Int32) → i_P i_MT i_AT L xs 285 15 [some (.ref x0), some (.int x1), some (.int x2)] [.int (0 : Int32)] h 0 0 Q) ∧ (¬ (¬ s0 = (1 : Int32)) → i_P i_MT i_AT L xs 285 15 [some (.ref x0), some (.int x1), some (.int x2)] [.int (1 : Int32)] h 0 0 Q))) : i_P i_MT i_AT L xs 285 6 [some (.ref x0), some (.int x1), some (.int x2)] [.int s0] h 0 0 Q := by
  have hk := i_k285
  refine g_s1 (pc2 := 7) (st2 := [.int (1 : Int32), .int s0]) hk rfl rfl rfl rfl rfl ?_
  refine g_icmp_ne hk rfl (fun hc => ?_) (fun hc => ?_)
  · have H := H.1 hc
    refine g_s1 (pc2 := 15) (st2 := [.int (0 : Int32)]) hk rfl rfl rfl rfl rfl ?_
    exact H
  · have H := H.2 hc
    refine g_s1 (pc2 := 11) (st2 := [.int (1 : Int32)]) hk rfl rfl rfl rfl rfl ?_
    refine g_s1 (pc2 := 15) hk rfl rfl rfl rfl rfl ?_
    exact H
theorem b285_15 {x0 : Nat} {x1 : Int32} {x2 : Int32} {s0 : Int32} {h : iH} {Q : Option Value → iH → Prop} (H : (i_ret (some .boolean) s0 = true ∧ Q (some (.int s0)) h)) : i_P i_MT i_AT L xs 285 15 [some (.ref x0), some (.int x1), some (.int x2)] [.int s0] h 0 0 Q := by
  have hk := i_k285
  exact g_ireturn hk rfl (by decide) (by decide) H.1 H.2
/-! StillTownModel.mayCome(IIII)Z -/
theorem e286 {x0 : Nat} {x1 : Int32} {x2 : Int32} {x3 : Int32} {x4 : Int32} {h : iH} {Q : Option Value → iH → Prop} (H : i_P i_MT i_AT L xs 286 0 [some (.ref x0), some (.int x1), some (.int x2), some (.int x3), some (.int x4)] [] h 0 0 Q) : i_C i_MT i_AT L xs 286 [.ref x0, .int x1, .int x2, .int x3, .int x4] h Q := ⟨i_m286, i_k286.1, Nat.le_of_ble_eq_true rfl, H⟩
theorem b286_0 {x0 : Nat} {x1 : Int32} {x2 : Int32} {x3 : Int32} {x4 : Int32} {h : iH} {Q : Option Value → iH → Prop} (H : ((¬ x2 = x3 → (i_obj? h x0 12 ∧ i_C i_MT i_AT L xs 285 [.ref x0, .int x2, .int x3] h (fun v h1 => ∃ r2 : Int32, v = some (.int r2) ∧ i_P i_MT i_AT L xs 286 21 [some (.ref x0), some (.int x1), some (.int x2), some (.int x3), some (.int x4)] [.int r2] h1 0 0 Q))) ∧ (¬ (¬ x2 = x3) → (i_obj? h x0 12 ∧ i_C i_MT i_AT L xs 284 [.ref x0, .int x1, .int x3, .int (0 : Int32), .int x4] h (fun v h3 => ∃ r4 : Int32, v = some (.int r4) ∧ i_P i_MT i_AT L xs 286 14 [some (.ref x0), some (.int x1), some (.int x2), some (.int x3), some (.int x4)] [.int r4] h3 0 0 Q))))) : i_P i_MT i_AT L xs 286 0 [some (.ref x0), some (.int x1), some (.int x2), some (.int x3), some (.int x4)] [] h 0 0 Q := by
  have hk := i_k286
  refine g_s1 (pc2 := 1) hk rfl rfl rfl rfl rfl ?_
  refine g_s1 (pc2 := 2) hk rfl rfl rfl rfl rfl ?_
  refine g_icmp_ne hk rfl (fun hc => ?_) (fun hc => ?_)
  · have H := H.1 hc
    refine g_s1 (pc2 := 16) hk rfl rfl rfl rfl rfl ?_
    refine g_s1 (pc2 := 17) hk rfl rfl rfl rfl rfl ?_
    refine g_s1 (pc2 := 18) hk rfl rfl rfl rfl rfl ?_
    obtain ⟨ho, H⟩ := H
    refine g_call hk rfl rfl i_k285.1 ⟨rfl, rfl⟩ rfl (i_rcv_v ho rfl (by decide)) rfl ?_
    exact H.mono (fun v h2 q => by obtain ⟨r, rfl, q⟩ := q; exact q)
  · have H := H.2 hc
    refine g_s1 (pc2 := 6) hk rfl rfl rfl rfl rfl ?_
    refine g_s1 (pc2 := 7) hk rfl rfl rfl rfl rfl ?_
    refine g_s1 (pc2 := 8) hk rfl rfl rfl rfl rfl ?_
    refine g_s1 (pc2 := 9) (st2 := [.int (0 : Int32), .int x3, .int x1, .ref x0]) hk rfl rfl rfl rfl rfl ?_
    refine g_s1 (pc2 := 11) hk rfl rfl rfl rfl rfl ?_
    obtain ⟨ho, H⟩ := H
    refine g_call hk rfl rfl i_k284.1 ⟨rfl, rfl⟩ rfl (i_rcv_v ho rfl (by decide)) rfl ?_
    exact H.mono (fun v h2 q => by obtain ⟨r, rfl, q⟩ := q; exact q)
theorem b286_14 {x0 : Nat} {x1 : Int32} {x2 : Int32} {x3 : Int32} {x4 : Int32} {s0 : Int32} {h : iH} {Q : Option Value → iH → Prop} (H : (i_ret (some .boolean) s0 = true ∧ Q (some (.int s0)) h)) : i_P i_MT i_AT L xs 286 14 [some (.ref x0), some (.int x1), some (.int x2), some (.int x3), some (.int x4)] [.int s0] h 0 0 Q := by
  have hk := i_k286
  exact g_ireturn hk rfl (by decide) (by decide) H.1 H.2
theorem b286_21 {x0 : Nat} {x1 : Int32} {x2 : Int32} {x3 : Int32} {x4 : Int32} {s0 : Int32} {h : iH} {Q : Option Value → iH → Prop} (H : ((s0 = 0 → i_P i_MT i_AT L xs 286 60 [some (.ref x0), some (.int x1), some (.int x2), some (.int x3), some (.int x4)] [] h 0 0 Q) ∧ (¬ (s0 = 0) → (i_obj? h x0 12 ∧ i_C i_MT i_AT L xs 250 [.ref x0, .int x3] h (fun v h1 => ∃ r2 : Int32, v = some (.int r2) ∧ i_P i_MT i_AT L xs 286 29 [some (.ref x0), some (.int x1), some (.int x2), some (.int x3), some (.int x4)] [.int r2] h1 0 0 Q))))) : i_P i_MT i_AT L xs 286 21 [some (.ref x0), some (.int x1), some (.int x2), some (.int x3), some (.int x4)] [.int s0] h 0 0 Q := by
  have hk := i_k286
  refine g_if_eq hk rfl (fun hc => ?_) (fun hc => ?_)
  · have H := H.1 hc
    exact H
  · have H := H.2 hc
    refine g_s1 (pc2 := 25) hk rfl rfl rfl rfl rfl ?_
    refine g_s1 (pc2 := 26) hk rfl rfl rfl rfl rfl ?_
    obtain ⟨ho, H⟩ := H
    refine g_call hk rfl rfl i_k250.1 ⟨rfl, rfl⟩ rfl (i_rcv_v ho rfl (by decide)) rfl ?_
    exact H.mono (fun v h2 q => by obtain ⟨r, rfl, q⟩ := q; exact q)
theorem b286_29 {x0 : Nat} {x1 : Int32} {x2 : Int32} {x3 : Int32} {x4 : Int32} {s0 : Int32} {h : iH} {Q : Option Value → iH → Prop} (H : ((s0 = 0 → i_P i_MT i_AT L xs 286 60 [some (.ref x0), some (.int x1), some (.int x2), some (.int x3), some (.int x4)] [] h 0 0 Q) ∧ (¬ (s0 = 0) → (i_obj? h x0 12 ∧ i_C i_MT i_AT L xs 284 [.ref x0, .int x1, .int x3, .int (2 : Int32), .int x4] h (fun v h1 => ∃ r2 : Int32, v = some (.int r2) ∧ i_P i_MT i_AT L xs 286 41 [some (.ref x0), some (.int x1), some (.int x2), some (.int x3), some (.int x4)] [.int r2] h1 0 0 Q))))) : i_P i_MT i_AT L xs 286 29 [some (.ref x0), some (.int x1), some (.int x2), some (.int x3), some (.int x4)] [.int s0] h 0 0 Q := by
  have hk := i_k286
  refine g_if_eq hk rfl (fun hc => ?_) (fun hc => ?_)
  · have H := H.1 hc
    exact H
  · have H := H.2 hc
    refine g_s1 (pc2 := 33) hk rfl rfl rfl rfl rfl ?_
    refine g_s1 (pc2 := 34) hk rfl rfl rfl rfl rfl ?_
    refine g_s1 (pc2 := 35) hk rfl rfl rfl rfl rfl ?_
    refine g_s1 (pc2 := 36) (st2 := [.int (2 : Int32), .int x3, .int x1, .ref x0]) hk rfl rfl rfl rfl rfl ?_
    refine g_s1 (pc2 := 38) hk rfl rfl rfl rfl rfl ?_
    obtain ⟨ho, H⟩ := H
    refine g_call hk rfl rfl i_k284.1 ⟨rfl, rfl⟩ rfl (i_rcv_v ho rfl (by decide)) rfl ?_
    exact H.mono (fun v h2 q => by obtain ⟨r, rfl, q⟩ := q; exact q)
theorem b286_41 {x0 : Nat} {x1 : Int32} {x2 : Int32} {x3 : Int32} {x4 : Int32} {s0 : Int32} {h : iH} {Q : Option Value → iH → Prop} (H : ((¬ s0 = 0 → i_P i_MT i_AT L xs 286 56 [some (.ref x0), some (.int x1), some (.int x2), some (.int x3), some (.int x4)] [] h 0 0 Q) ∧ (¬ (¬ s0 = 0) → (i_obj? h x0 12 ∧ i_C i_MT i_AT L xs 284 [.ref x0, .int x1, .int x3, .int (1 : Int32), .int x4] h (fun v h1 => ∃ r2 : Int32, v = some (.int r2) ∧ i_P i_MT i_AT L xs 286 53 [some (.ref x0), some (.int x1), some (.int x2), some (.int x3), some (.int x4)] [.int r2] h1 0 0 Q))))) : i_P i_MT i_AT L xs 286 41 [some (.ref x0), some (.int x1), some (.int x2), some (.int x3), some (.int x4)] [.int s0] h 0 0 Q := by
  have hk := i_k286
  refine g_if_ne hk rfl (fun hc => ?_) (fun hc => ?_)
  · have H := H.1 hc
    exact H
  · have H := H.2 hc
    refine g_s1 (pc2 := 45) hk rfl rfl rfl rfl rfl ?_
    refine g_s1 (pc2 := 46) hk rfl rfl rfl rfl rfl ?_
    refine g_s1 (pc2 := 47) hk rfl rfl rfl rfl rfl ?_
    refine g_s1 (pc2 := 48) (st2 := [.int (1 : Int32), .int x3, .int x1, .ref x0]) hk rfl rfl rfl rfl rfl ?_
    refine g_s1 (pc2 := 50) hk rfl rfl rfl rfl rfl ?_
    obtain ⟨ho, H⟩ := H
    refine g_call hk rfl rfl i_k284.1 ⟨rfl, rfl⟩ rfl (i_rcv_v ho rfl (by decide)) rfl ?_
    exact H.mono (fun v h2 q => by obtain ⟨r, rfl, q⟩ := q; exact q)
theorem b286_53 {x0 : Nat} {x1 : Int32} {x2 : Int32} {x3 : Int32} {x4 : Int32} {s0 : Int32} {h : iH} {Q : Option Value → iH → Prop} (H : ((s0 = 0 → i_P i_MT i_AT L xs 286 60 [some (.ref x0), some (.int x1), some (.int x2), some (.int x3), some (.int x4)] [] h 0 0 Q) ∧ (¬ (s0 = 0) → i_P i_MT i_AT L xs 286 56 [some (.ref x0), some (.int x1), some (.int x2), some (.int x3), some (.int x4)] [] h 0 0 Q))) : i_P i_MT i_AT L xs 286 53 [some (.ref x0), some (.int x1), some (.int x2), some (.int x3), some (.int x4)] [.int s0] h 0 0 Q := by
  have hk := i_k286
  refine g_if_eq hk rfl (fun hc => ?_) (fun hc => ?_)
  · have H := H.1 hc
    exact H
  · have H := H.2 hc
    exact H
theorem b286_56 {x0 : Nat} {x1 : Int32} {x2 : Int32} {x3 : Int32} {x4 : Int32} {h : iH} {Q : Option Value → iH → Prop} (H : i_P i_MT i_AT L xs 286 61 [some (.ref x0), some (.int x1), some (.int x2), some (.int x3), some (.int x4)] [.int (1 : Int32)] h 0 0 Q) : i_P i_MT i_AT L xs 286 56 [some (.ref x0), some (.int x1), some (.int x2), some (.int x3), some (.int x4)] [] h 0 0 Q := by
  have hk := i_k286
  refine g_s1 (pc2 := 57) (st2 := [.int (1 : Int32)]) hk rfl rfl rfl rfl rfl ?_
  refine g_s1 (pc2 := 61) hk rfl rfl rfl rfl rfl ?_
  exact H
theorem b286_60 {x0 : Nat} {x1 : Int32} {x2 : Int32} {x3 : Int32} {x4 : Int32} {h : iH} {Q : Option Value → iH → Prop} (H : i_P i_MT i_AT L xs 286 61 [some (.ref x0), some (.int x1), some (.int x2), some (.int x3), some (.int x4)] [.int (0 : Int32)] h 0 0 Q) : i_P i_MT i_AT L xs 286 60 [some (.ref x0), some (.int x1), some (.int x2), some (.int x3), some (.int x4)] [] h 0 0 Q := by
  have hk := i_k286
  refine g_s1 (pc2 := 61) (st2 := [.int (0 : Int32)]) hk rfl rfl rfl rfl rfl ?_
  exact H
theorem b286_61 {x0 : Nat} {x1 : Int32} {x2 : Int32} {x3 : Int32} {x4 : Int32} {s0 : Int32} {h : iH} {Q : Option Value → iH → Prop} (H : (i_ret (some .boolean) s0 = true ∧ Q (some (.int s0)) h)) : i_P i_MT i_AT L xs 286 61 [some (.ref x0), some (.int x1), some (.int x2), some (.int x3), some (.int x4)] [.int s0] h 0 0 Q := by
  have hk := i_k286
  exact g_ireturn hk rfl (by decide) (by decide) H.1 H.2
/-! StillTownModel.way(II)I -/
theorem e287 {x0 : Nat} {x1 : Int32} {x2 : Int32} {h : iH} {Q : Option Value → iH → Prop} (H : i_P i_MT i_AT L xs 287 0 [some (.ref x0), some (.int x1), some (.int x2), none, none, none, none, none, none] [] h 0 0 Q) : i_C i_MT i_AT L xs 287 [.ref x0, .int x1, .int x2] h Q := ⟨i_m287, i_k287.1, Nat.le_of_ble_eq_true rfl, H⟩
theorem b287_0 {x0 : Nat} {x1 : Int32} {x2 : Int32} {x3 : Option Value} {x4 : Option Value} {x5 : Option Value} {x6 : Option Value} {x7 : Option Value} {x8 : Option Value} {h : iH} {Q : Option Value → iH → Prop} (H : (i_obj? h x0 12 ∧ i_C i_MT i_AT L xs 254 [.ref x0, .int x1] h (fun v h1 => ∃ r2 : Int32, v = some (.int r2) ∧ i_P i_MT i_AT L xs 287 5 [some (.ref x0), some (.int x1), some (.int x2), x3, x4, x5, x6, x7, x8] [.int r2] h1 0 0 Q))) : i_P i_MT i_AT L xs 287 0 [some (.ref x0), some (.int x1), some (.int x2), x3, x4, x5, x6, x7, x8] [] h 0 0 Q := by
  have hk := i_k287
  refine g_s1 (pc2 := 1) hk rfl rfl rfl rfl rfl ?_
  refine g_s1 (pc2 := 2) hk rfl rfl rfl rfl rfl ?_
  obtain ⟨ho, H⟩ := H
  refine g_call hk rfl rfl i_k254.1 ⟨rfl, rfl⟩ rfl (i_rcv_v ho rfl (by decide)) rfl ?_
  exact H.mono (fun v h2 q => by obtain ⟨r, rfl, q⟩ := q; exact q)
theorem b287_5 {x0 : Nat} {x1 : Int32} {x2 : Int32} {x3 : Option Value} {x4 : Option Value} {x5 : Option Value} {x6 : Option Value} {x7 : Option Value} {x8 : Option Value} {s0 : Int32} {h : iH} {Q : Option Value → iH → Prop} (H : ((s0 = 0 → i_P i_MT i_AT L xs 287 25 [some (.ref x0), some (.int x1), some (.int x2), x3, x4, x5, x6, x7, x8] [] h 0 0 Q) ∧ (¬ (s0 = 0) → (i_obj? h x0 12 ∧ i_C i_MT i_AT L xs 249 [.ref x0, .long (x2.toInt64)] h (fun v h1 => ∃ r2 : Int32, v = some (.int r2) ∧ i_P i_MT i_AT L xs 287 14 [some (.ref x0), some (.int x1), some (.int x2), x3, x4, x5, x6, x7, x8] [.int r2] h1 0 0 Q))))) : i_P i_MT i_AT L xs 287 5 [some (.ref x0), some (.int x1), some (.int x2), x3, x4, x5, x6, x7, x8] [.int s0] h 0 0 Q := by
  have hk := i_k287
  refine g_if_eq hk rfl (fun hc => ?_) (fun hc => ?_)
  · have H := H.1 hc
    exact H
  · have H := H.2 hc
    refine g_s1 (pc2 := 9) hk rfl rfl rfl rfl rfl ?_
    refine g_s1 (pc2 := 10) hk rfl rfl rfl rfl rfl ?_
    refine g_s1 (pc2 := 11) hk rfl rfl rfl rfl rfl ?_
    obtain ⟨ho, H⟩ := H
    refine g_call hk rfl rfl i_k249.1 ⟨rfl, rfl⟩ rfl (i_rcv_v ho rfl (by decide)) rfl ?_
    exact H.mono (fun v h2 q => by obtain ⟨r, rfl, q⟩ := q; exact q)
theorem b287_14 {x0 : Nat} {x1 : Int32} {x2 : Int32} {x3 : Option Value} {x4 : Option Value} {x5 : Option Value} {x6 : Option Value} {x7 : Option Value} {x8 : Option Value} {s0 : Int32} {h : iH} {Q : Option Value → iH → Prop} (H : ((s0 = 0 → i_P i_MT i_AT L xs 287 25 [some (.ref x0), some (.int x1), some (.int x2), x3, x4, x5, x6, x7, x8] [] h 0 0 Q) ∧ (¬ (s0 = 0) → (i_obj? h x0 12 ∧ i_C i_MT i_AT L xs 250 [.ref x0, .int x2] h (fun v h1 => ∃ r2 : Int32, v = some (.int r2) ∧ i_P i_MT i_AT L xs 287 22 [some (.ref x0), some (.int x1), some (.int x2), x3, x4, x5, x6, x7, x8] [.int r2] h1 0 0 Q))))) : i_P i_MT i_AT L xs 287 14 [some (.ref x0), some (.int x1), some (.int x2), x3, x4, x5, x6, x7, x8] [.int s0] h 0 0 Q := by
  have hk := i_k287
  refine g_if_eq hk rfl (fun hc => ?_) (fun hc => ?_)
  · have H := H.1 hc
    exact H
  · have H := H.2 hc
    refine g_s1 (pc2 := 18) hk rfl rfl rfl rfl rfl ?_
    refine g_s1 (pc2 := 19) hk rfl rfl rfl rfl rfl ?_
    obtain ⟨ho, H⟩ := H
    refine g_call hk rfl rfl i_k250.1 ⟨rfl, rfl⟩ rfl (i_rcv_v ho rfl (by decide)) rfl ?_
    exact H.mono (fun v h2 q => by obtain ⟨r, rfl, q⟩ := q; exact q)
theorem b287_22 {x0 : Nat} {x1 : Int32} {x2 : Int32} {x3 : Option Value} {x4 : Option Value} {x5 : Option Value} {x6 : Option Value} {x7 : Option Value} {x8 : Option Value} {s0 : Int32} {h : iH} {Q : Option Value → iH → Prop} (H : ((¬ s0 = 0 → (i_obj? h x0 12 ∧ i_C i_MT i_AT L xs 248 [.ref x0] h (fun v h1 => ∃ r2 : Int32, v = some (.int r2) ∧ i_P i_MT i_AT L xs 287 35 [some (.ref x0), some (.int x1), some (.int x2), x3, x4, x5, x6, x7, x8] [.int r2] h1 0 0 Q))) ∧ (¬ (¬ s0 = 0) → i_P i_MT i_AT L xs 287 25 [some (.ref x0), some (.int x1), some (.int x2), x3, x4, x5, x6, x7, x8] [] h 0 0 Q))) : i_P i_MT i_AT L xs 287 22 [some (.ref x0), some (.int x1), some (.int x2), x3, x4, x5, x6, x7, x8] [.int s0] h 0 0 Q := by
  have hk := i_k287
  refine g_if_ne hk rfl (fun hc => ?_) (fun hc => ?_)
  · have H := H.1 hc
    refine g_s1 (pc2 := 32) hk rfl rfl rfl rfl rfl ?_
    obtain ⟨ho, H⟩ := H
    refine g_call hk rfl rfl i_k248.1 ⟨rfl, rfl⟩ rfl (i_rcv_v ho rfl (by decide)) rfl ?_
    exact H.mono (fun v h2 q => by obtain ⟨r, rfl, q⟩ := q; exact q)
  · have H := H.2 hc
    exact H
theorem b287_25 {x0 : Nat} {x1 : Int32} {x2 : Int32} {x3 : Option Value} {x4 : Option Value} {x5 : Option Value} {x6 : Option Value} {x7 : Option Value} {x8 : Option Value} {h : iH} {Q : Option Value → iH → Prop} (H : (i_obj? h x0 12 ∧ i_C i_MT i_AT L xs 201 [.ref x0, .int (1 : Int32)] h (fun v h1 => ∃ r2 : Int32, v = some (.int r2) ∧ i_P i_MT i_AT L xs 287 30 [some (.ref x0), some (.int x1), some (.int x2), x3, x4, x5, x6, x7, x8] [.int r2] h1 0 0 Q))) : i_P i_MT i_AT L xs 287 25 [some (.ref x0), some (.int x1), some (.int x2), x3, x4, x5, x6, x7, x8] [] h 0 0 Q := by
  have hk := i_k287
  refine g_s1 (pc2 := 26) hk rfl rfl rfl rfl rfl ?_
  refine g_s1 (pc2 := 27) (st2 := [.int (1 : Int32), .ref x0]) hk rfl rfl rfl rfl rfl ?_
  obtain ⟨ho, H⟩ := H
  refine g_call hk rfl rfl i_k201.1 ⟨rfl, rfl⟩ rfl (i_rcv_v ho rfl (by decide)) rfl ?_
  exact H.mono (fun v h2 q => by obtain ⟨r, rfl, q⟩ := q; exact q)
theorem b287_30 {x0 : Nat} {x1 : Int32} {x2 : Int32} {x3 : Option Value} {x4 : Option Value} {x5 : Option Value} {x6 : Option Value} {x7 : Option Value} {x8 : Option Value} {s0 : Int32} {h : iH} {Q : Option Value → iH → Prop} (H : Q (some (.int s0)) h) : i_P i_MT i_AT L xs 287 30 [some (.ref x0), some (.int x1), some (.int x2), x3, x4, x5, x6, x7, x8] [.int s0] h 0 0 Q := by
  have hk := i_k287
  exact g_ireturn hk rfl (by decide) (by decide) rfl H
theorem b287_35 {x0 : Nat} {x1 : Int32} {x2 : Int32} {x3 : Option Value} {x4 : Option Value} {x5 : Option Value} {x6 : Option Value} {x7 : Option Value} {x8 : Option Value} {s0 : Int32} {h : iH} {Q : Option Value → iH → Prop} (H : i_P i_MT i_AT L xs 287 39 [some (.ref x0), some (.int x1), some (.int x2), some (.int s0), some (.int (0 : Int32)), x5, x6, x7, x8] [] h 0 0 Q) : i_P i_MT i_AT L xs 287 35 [some (.ref x0), some (.int x1), some (.int x2), x3, x4, x5, x6, x7, x8] [.int s0] h 0 0 Q := by
  have hk := i_k287
  refine g_s1 (pc2 := 36) (lo2 := [some (.ref x0), some (.int x1), some (.int x2), some (.int s0), x4, x5, x6, x7, x8]) hk rfl rfl rfl rfl rfl ?_
  refine g_s1 (pc2 := 37) (st2 := [.int (0 : Int32)]) hk rfl rfl rfl rfl rfl ?_
  refine g_s1 (pc2 := 39) (lo2 := [some (.ref x0), some (.int x1), some (.int x2), some (.int s0), some (.int (0 : Int32)), x5, x6, x7, x8]) hk rfl rfl rfl rfl rfl ?_
  exact H
theorem b287_39 {x0 : Nat} {x1 : Int32} {x2 : Int32} {x3 : Int32} {x4 : Int32} {x5 : Option Value} {x6 : Option Value} {x7 : Option Value} {x8 : Option Value} {h : iH} {Q : Option Value → iH → Prop} (H : ((x3 ≤ x4 → i_P i_MT i_AT L xs 287 83 [some (.ref x0), some (.int x1), some (.int x2), some (.int x3), some (.int (0 : Int32)), x5, x6, x7, x8] [] h 0 0 Q) ∧ (¬ (x3 ≤ x4) → (∃ v1 : Nat, i_fld h x0 12 33 = some (.ref v1) ∧ (∃ v2 : Nat, i_fld h x0 12 0 = some (.ref v2) ∧ (∃ (n3 : Nat) (f4 : Nat → Int32), i_arI h 0 v2 = some (n3, f4) ∧ ¬ (((154 : Int32) + ((5 : Int32) * x1)) < 0 ∨ n3 ≤ ((154 : Int32) + ((5 : Int32) * x1)).toNatClampNeg) ∧ ((¬ x4 = (f4 ((154 : Int32) + ((5 : Int32) * x1)).toNatClampNeg) → i_P i_MT i_AT L xs 287 73 [some (.ref x0), some (.int x1), some (.int x2), some (.int x3), some (.int x4), x5, x6, x7, x8] [.int (0 : Int32), .int x4, .ref v1] h 0 0 Q) ∧ (¬ (¬ x4 = (f4 ((154 : Int32) + ((5 : Int32) * x1)).toNatClampNeg)) → i_P i_MT i_AT L xs 287 73 [some (.ref x0), some (.int x1), some (.int x2), some (.int x3), some (.int x4), x5, x6, x7, x8] [.int (1 : Int32), .int x4, .ref v1] h 0 0 Q)))))))) : i_P i_MT i_AT L xs 287 39 [some (.ref x0), some (.int x1), some (.int x2), some (.int x3), some (.int x4), x5, x6, x7, x8] [] h 0 0 Q := by
  have hk := i_k287
  refine g_s1 (pc2 := 41) hk rfl rfl rfl rfl rfl ?_
  refine g_s1 (pc2 := 42) hk rfl rfl rfl rfl rfl ?_
  refine g_icmp_ge hk rfl (fun hc => ?_) (fun hc => ?_)
  · have H := H.1 hc
    refine g_s1 (pc2 := 81) (st2 := [.int (0 : Int32)]) hk rfl rfl rfl rfl rfl ?_
    refine g_s1 (pc2 := 83) (lo2 := [some (.ref x0), some (.int x1), some (.int x2), some (.int x3), some (.int (0 : Int32)), x5, x6, x7, x8]) hk rfl rfl rfl rfl rfl ?_
    exact H
  · have H := H.2 hc
    refine g_s1 (pc2 := 46) hk rfl rfl rfl rfl rfl ?_
    obtain ⟨v1, ev1, H⟩ := H
    refine g_step (pc2 := 49) hk rfl rfl rfl (s_get ev1) ?_
    refine g_s1 (pc2 := 51) hk rfl rfl rfl rfl rfl ?_
    refine g_s1 (pc2 := 53) hk rfl rfl rfl rfl rfl ?_
    refine g_s1 (pc2 := 54) hk rfl rfl rfl rfl rfl ?_
    obtain ⟨v2, ev2, H⟩ := H
    refine g_step (pc2 := 57) hk rfl rfl rfl (s_get ev2) ?_
    refine g_s1 (pc2 := 60) (st2 := [.int (154 : Int32), .ref v2, .int x4, .int x4, .ref v1]) hk rfl rfl rfl rfl rfl ?_
    refine g_s1 (pc2 := 61) (st2 := [.int (5 : Int32), .int (154 : Int32), .ref v2, .int x4, .int x4, .ref v1]) hk rfl rfl rfl rfl rfl ?_
    refine g_s1 (pc2 := 62) hk rfl rfl rfl rfl rfl ?_
    refine g_s1 (pc2 := 63) hk rfl rfl rfl rfl rfl ?_
    refine g_s1 (pc2 := 64) hk rfl rfl rfl rfl rfl ?_
    obtain ⟨n3, f4, ef4, hi, H⟩ := H
    refine g_step (pc2 := 65) hk rfl rfl rfl (s_aget (L := L) (xs := xs) ef4 hi) ?_
    refine g_icmp_ne hk rfl (fun hc => ?_) (fun hc => ?_)
    · have H := H.1 hc
      refine g_s1 (pc2 := 73) (st2 := [.int (0 : Int32), .int x4, .ref v1]) hk rfl rfl rfl rfl rfl ?_
      exact H
    · have H := H.2 hc
      refine g_s1 (pc2 := 69) (st2 := [.int (1 : Int32), .int x4, .ref v1]) hk rfl rfl rfl rfl rfl ?_
      refine g_s1 (pc2 := 73) hk rfl rfl rfl rfl rfl ?_
      exact H
theorem b287_73 {x0 : Nat} {x1 : Int32} {x2 : Int32} {x3 : Int32} {x4 : Int32} {x5 : Option Value} {x6 : Option Value} {x7 : Option Value} {x8 : Option Value} {s0 : Nat} {s1 : Int32} {s2 : Int32} {h : iH} {Q : Option Value → iH → Prop} (H : (∃ (n1 : Nat) (f2 : Nat → Int32), i_arI h 2 s0 = some (n1, f2) ∧ ¬ (s1 < 0 ∨ n1 ≤ s1.toNatClampNeg) ∧ i_P i_MT i_AT L xs 287 74 [some (.ref x0), some (.int x1), some (.int x2), some (.int x3), some (.int x4), x5, x6, x7, x8] [] (i_siI h s0 s1.toNatClampNeg (vp_nar .boolean s2)) 0 0 Q)) : i_P i_MT i_AT L xs 287 73 [some (.ref x0), some (.int x1), some (.int x2), some (.int x3), some (.int x4), x5, x6, x7, x8] [.int s2, .int s1, .ref s0] h 0 0 Q := by
  have hk := i_k287
  obtain ⟨n1, f2, ef2, hi, H⟩ := H
  refine g_step (pc2 := 74) hk rfl rfl rfl (s_zput ef2 hi) ?_
  exact H
theorem b287_74 {x0 : Nat} {x1 : Int32} {x2 : Int32} {x3 : Int32} {x4 : Int32} {x5 : Option Value} {x6 : Option Value} {x7 : Option Value} {x8 : Option Value} {h : iH} {Q : Option Value → iH → Prop} (H : i_P i_MT i_AT L xs 287 39 [some (.ref x0), some (.int x1), some (.int x2), some (.int x3), some (.int (x4 + 1)), x5, x6, x7, x8] [] h 0 0 Q) : i_P i_MT i_AT L xs 287 74 [some (.ref x0), some (.int x1), some (.int x2), some (.int x3), some (.int x4), x5, x6, x7, x8] [] h 0 0 Q := by
  have hk := i_k287
  refine g_s1 (pc2 := 77) (lo2 := [some (.ref x0), some (.int x1), some (.int x2), some (.int x3), some (.int (x4 + 1)), x5, x6, x7, x8]) hk rfl rfl rfl rfl rfl ?_
  refine g_s1 (pc2 := 39) hk rfl rfl rfl rfl rfl ?_
  exact H
theorem b287_83 {x0 : Nat} {x1 : Int32} {x2 : Int32} {x3 : Int32} {x4 : Int32} {x5 : Option Value} {x6 : Option Value} {x7 : Option Value} {x8 : Option Value} {h : iH} {Q : Option Value → iH → Prop} (H : (((60 : Int32) < x4 → i_P i_MT i_AT L xs 287 228 [some (.ref x0), some (.int x1), some (.int x2), some (.int x3), some (.int x4), x5, x6, x7, x8] [] h 0 0 Q) ∧ (¬ ((60 : Int32) < x4) → (∃ v1 : Nat, i_fld h x0 12 33 = some (.ref v1) ∧ (∃ (n2 : Nat) (f3 : Nat → Int32), i_arI h 2 v1 = some (n2, f3) ∧ ¬ ((((48 : Int32) * x4) + x2) < 0 ∨ n2 ≤ (((48 : Int32) * x4) + x2).toNatClampNeg) ∧ ((¬ (f3 (((48 : Int32) * x4) + x2).toNatClampNeg) = 0 → i_P i_MT i_AT L xs 287 228 [some (.ref x0), some (.int x1), some (.int x2), some (.int x3), some (.int x4), x5, x6, x7, x8] [] h 0 0 Q) ∧ (¬ (¬ (f3 (((48 : Int32) * x4) + x2).toNatClampNeg) = 0) → i_P i_MT i_AT L xs 287 111 [some (.ref x0), some (.int x1), some (.int x2), some (.int x3), some (.int (x4 + 1)), some (.int (0 : Int32)), x6, x7, x8] [] h 0 0 Q))))))) : i_P i_MT i_AT L xs 287 83 [some (.ref x0), some (.int x1), some (.int x2), some (.int x3), some (.int x4), x5, x6, x7, x8] [] h 0 0 Q := by
  have hk := i_k287
  refine g_s1 (pc2 := 85) hk rfl rfl rfl rfl rfl ?_
  refine g_s1 (pc2 := 87) (st2 := [.int (60 : Int32), .int x4]) hk rfl rfl rfl rfl rfl ?_
  refine g_icmp_gt hk rfl (fun hc => ?_) (fun hc => ?_)
  · have H := H.1 hc
    exact H
  · have H := H.2 hc
    refine g_s1 (pc2 := 91) hk rfl rfl rfl rfl rfl ?_
    obtain ⟨v1, ev1, H⟩ := H
    refine g_step (pc2 := 94) hk rfl rfl rfl (s_get ev1) ?_
    refine g_s1 (pc2 := 96) (st2 := [.int (48 : Int32), .ref v1]) hk rfl rfl rfl rfl rfl ?_
    refine g_s1 (pc2 := 98) hk rfl rfl rfl rfl rfl ?_
    refine g_s1 (pc2 := 99) hk rfl rfl rfl rfl rfl ?_
    refine g_s1 (pc2 := 100) hk rfl rfl rfl rfl rfl ?_
    refine g_s1 (pc2 := 101) hk rfl rfl rfl rfl rfl ?_
    obtain ⟨n2, f3, ef3, hi, H⟩ := H
    refine g_step (pc2 := 102) hk rfl rfl rfl (s_bget (t := 2) (by decide) ef3 hi) ?_
    refine g_if_ne hk rfl (fun hc => ?_) (fun hc => ?_)
    · have H := H.1 hc
      exact H
    · have H := H.2 hc
      refine g_s1 (pc2 := 108) (lo2 := [some (.ref x0), some (.int x1), some (.int x2), some (.int x3), some (.int (x4 + 1)), x5, x6, x7, x8]) hk rfl rfl rfl rfl rfl ?_
      refine g_s1 (pc2 := 109) (st2 := [.int (0 : Int32)]) hk rfl rfl rfl rfl rfl ?_
      refine g_s1 (pc2 := 111) (lo2 := [some (.ref x0), some (.int x1), some (.int x2), some (.int x3), some (.int (x4 + 1)), some (.int (0 : Int32)), x6, x7, x8]) hk rfl rfl rfl rfl rfl ?_
      exact H
theorem b287_111 {x0 : Nat} {x1 : Int32} {x2 : Int32} {x3 : Int32} {x4 : Int32} {x5 : Int32} {x6 : Option Value} {x7 : Option Value} {x8 : Option Value} {h : iH} {Q : Option Value → iH → Prop} (H : ((x3 ≤ x5 → i_P i_MT i_AT L xs 287 225 [some (.ref x0), some (.int x1), some (.int x2), some (.int x3), some (.int x4), some (.int x5), x6, x7, x8] [] h 0 0 Q) ∧ (¬ (x3 ≤ x5) → (((60 : Int32) < x4 → i_P i_MT i_AT L xs 287 225 [some (.ref x0), some (.int x1), some (.int x2), some (.int x3), some (.int x4), some (.int x5), x6, x7, x8] [] h 0 0 Q) ∧ (¬ ((60 : Int32) < x4) → i_P i_MT i_AT L xs 287 130 [some (.ref x0), some (.int x1), some (.int x2), some (.int x3), some (.int x4), some (.int x5), some (.int (0 : Int32)), some (.int (0 : Int32)), x8] [] h 0 0 Q))))) : i_P i_MT i_AT L xs 287 111 [some (.ref x0), some (.int x1), some (.int x2), some (.int x3), some (.int x4), some (.int x5), x6, x7, x8] [] h 0 0 Q := by
  have hk := i_k287
  refine g_s1 (pc2 := 113) hk rfl rfl rfl rfl rfl ?_
  refine g_s1 (pc2 := 114) hk rfl rfl rfl rfl rfl ?_
  refine g_icmp_ge hk rfl (fun hc => ?_) (fun hc => ?_)
  · have H := H.1 hc
    exact H
  · have H := H.2 hc
    refine g_s1 (pc2 := 119) hk rfl rfl rfl rfl rfl ?_
    refine g_s1 (pc2 := 121) (st2 := [.int (60 : Int32), .int x4]) hk rfl rfl rfl rfl rfl ?_
    refine g_icmp_gt hk rfl (fun hc => ?_) (fun hc => ?_)
    · have H := H.1 hc
      exact H
    · have H := H.2 hc
      refine g_s1 (pc2 := 125) (st2 := [.int (0 : Int32)]) hk rfl rfl rfl rfl rfl ?_
      refine g_s1 (pc2 := 127) (lo2 := [some (.ref x0), some (.int x1), some (.int x2), some (.int x3), some (.int x4), some (.int x5), some (.int (0 : Int32)), x7, x8]) hk rfl rfl rfl rfl rfl ?_
      refine g_s1 (pc2 := 128) (st2 := [.int (0 : Int32)]) hk rfl rfl rfl rfl rfl ?_
      refine g_s1 (pc2 := 130) (lo2 := [some (.ref x0), some (.int x1), some (.int x2), some (.int x3), some (.int x4), some (.int x5), some (.int (0 : Int32)), some (.int (0 : Int32)), x8]) hk rfl rfl rfl rfl rfl ?_
      exact H
theorem b287_130 {x0 : Nat} {x1 : Int32} {x2 : Int32} {x3 : Int32} {x4 : Int32} {x5 : Int32} {x6 : Int32} {x7 : Int32} {x8 : Option Value} {h : iH} {Q : Option Value → iH → Prop} (H : ((x3 ≤ x7 → (∃ v1 : Nat, i_fld h x0 12 33 = some (.ref v1) ∧ (∃ (n2 : Nat) (f3 : Nat → Int32), i_arI h 2 v1 = some (n2, f3) ∧ ¬ ((((48 : Int32) * x4) + x5) < 0 ∨ n2 ≤ (((48 : Int32) * x4) + x5).toNatClampNeg) ∧ i_P i_MT i_AT L xs 287 219 [some (.ref x0), some (.int x1), some (.int x2), some (.int x3), some (.int x4), some (.int x5), some (.int x6), some (.int x7), x8] [] (i_siI h v1 (((48 : Int32) * x4) + x5).toNatClampNeg (vp_nar .boolean x6)) 0 0 Q))) ∧ (¬ (x3 ≤ x7) → ((¬ x6 = 0 → i_P i_MT i_AT L xs 287 191 [some (.ref x0), some (.int x1), some (.int x2), some (.int x3), some (.int x4), some (.int x5), some (.int x6), some (.int x7), x8] [] h 0 0 Q) ∧ (¬ (¬ x6 = 0) → (∃ v4 : Nat, i_fld h x0 12 33 = some (.ref v4) ∧ (∃ (n5 : Nat) (f6 : Nat → Int32), i_arI h 2 v4 = some (n5, f6) ∧ ¬ ((((48 : Int32) * (x4 - (1 : Int32))) + x7) < 0 ∨ n5 ≤ (((48 : Int32) * (x4 - (1 : Int32))) + x7).toNatClampNeg) ∧ (((f6 (((48 : Int32) * (x4 - (1 : Int32))) + x7).toNatClampNeg) = 0 → i_P i_MT i_AT L xs 287 195 [some (.ref x0), some (.int x1), some (.int x2), some (.int x3), some (.int x4), some (.int x5), some (.int x6), some (.int x7), x8] [] h 0 0 Q) ∧ (¬ ((f6 (((48 : Int32) * (x4 - (1 : Int32))) + x7).toNatClampNeg) = 0) → ((x7 = x5 → i_P i_MT i_AT L xs 287 177 [some (.ref x0), some (.int x1), some (.int x2), some (.int x3), some (.int x4), some (.int x5), some (.int x6), some (.int x7), x8] [] h 0 0 Q) ∧ (¬ (x7 = x5) → (i_obj? h x0 12 ∧ i_C i_MT i_AT L xs 285 [.ref x0, .int x7, .int x5] h (fun v h7 => ∃ r8 : Int32, v = some (.int r8) ∧ i_P i_MT i_AT L xs 287 174 [some (.ref x0), some (.int x1), some (.int x2), some (.int x3), some (.int x4), some (.int x5), some (.int x6), some (.int x7), x8] [.int r8] h7 0 0 Q))))))))))))) : i_P i_MT i_AT L xs 287 130 [some (.ref x0), some (.int x1), some (.int x2), some (.int x3), some (.int x4), some (.int x5), some (.int x6), some (.int x7), x8] [] h 0 0 Q := by
  have hk := i_k287
  refine g_s1 (pc2 := 132) hk rfl rfl rfl rfl rfl ?_
  refine g_s1 (pc2 := 133) hk rfl rfl rfl rfl rfl ?_
  refine g_icmp_ge hk rfl (fun hc => ?_) (fun hc => ?_)
  · have H := H.1 hc
    refine g_s1 (pc2 := 205) hk rfl rfl rfl rfl rfl ?_
    obtain ⟨v1, ev1, H⟩ := H
    refine g_step (pc2 := 208) hk rfl rfl rfl (s_get ev1) ?_
    refine g_s1 (pc2 := 210) (st2 := [.int (48 : Int32), .ref v1]) hk rfl rfl rfl rfl rfl ?_
    refine g_s1 (pc2 := 212) hk rfl rfl rfl rfl rfl ?_
    refine g_s1 (pc2 := 213) hk rfl rfl rfl rfl rfl ?_
    refine g_s1 (pc2 := 215) hk rfl rfl rfl rfl rfl ?_
    refine g_s1 (pc2 := 216) hk rfl rfl rfl rfl rfl ?_
    refine g_s1 (pc2 := 218) hk rfl rfl rfl rfl rfl ?_
    obtain ⟨n2, f3, ef3, hi, H⟩ := H
    refine g_step (pc2 := 219) hk rfl rfl rfl (s_zput ef3 hi) ?_
    exact H
  · have H := H.2 hc
    refine g_s1 (pc2 := 138) hk rfl rfl rfl rfl rfl ?_
    refine g_if_ne hk rfl (fun hc => ?_) (fun hc => ?_)
    · have H := H.1 hc
      exact H
    · have H := H.2 hc
      refine g_s1 (pc2 := 142) hk rfl rfl rfl rfl rfl ?_
      obtain ⟨v4, ev4, H⟩ := H
      refine g_step (pc2 := 145) hk rfl rfl rfl (s_get ev4) ?_
      refine g_s1 (pc2 := 147) (st2 := [.int (48 : Int32), .ref v4]) hk rfl rfl rfl rfl rfl ?_
      refine g_s1 (pc2 := 149) hk rfl rfl rfl rfl rfl ?_
      refine g_s1 (pc2 := 150) (st2 := [.int (1 : Int32), .int x4, .int (48 : Int32), .ref v4]) hk rfl rfl rfl rfl rfl ?_
      refine g_s1 (pc2 := 151) hk rfl rfl rfl rfl rfl ?_
      refine g_s1 (pc2 := 152) hk rfl rfl rfl rfl rfl ?_
      refine g_s1 (pc2 := 154) hk rfl rfl rfl rfl rfl ?_
      refine g_s1 (pc2 := 155) hk rfl rfl rfl rfl rfl ?_
      obtain ⟨n5, f6, ef6, hi, H⟩ := H
      refine g_step (pc2 := 156) hk rfl rfl rfl (s_bget (t := 2) (by decide) ef6 hi) ?_
      refine g_if_eq hk rfl (fun hc => ?_) (fun hc => ?_)
      · have H := H.1 hc
        exact H
      · have H := H.2 hc
        refine g_s1 (pc2 := 161) hk rfl rfl rfl rfl rfl ?_
        refine g_s1 (pc2 := 163) hk rfl rfl rfl rfl rfl ?_
        refine g_icmp_eq hk rfl (fun hc => ?_) (fun hc => ?_)
        · have H := H.1 hc
          exact H
        · have H := H.2 hc
          refine g_s1 (pc2 := 167) hk rfl rfl rfl rfl rfl ?_
          refine g_s1 (pc2 := 169) hk rfl rfl rfl rfl rfl ?_
          refine g_s1 (pc2 := 171) hk rfl rfl rfl rfl rfl ?_
          obtain ⟨ho, H⟩ := H
          refine g_call hk rfl rfl i_k285.1 ⟨rfl, rfl⟩ rfl (i_rcv_v ho rfl (by decide)) rfl ?_
          exact H.mono (fun v h2 q => by obtain ⟨r, rfl, q⟩ := q; exact q)
theorem b287_174 {x0 : Nat} {x1 : Int32} {x2 : Int32} {x3 : Int32} {x4 : Int32} {x5 : Int32} {x6 : Int32} {x7 : Int32} {x8 : Option Value} {s0 : Int32} {h : iH} {Q : Option Value → iH → Prop} (H : ((s0 = 0 → i_P i_MT i_AT L xs 287 195 [some (.ref x0), some (.int x1), some (.int x2), some (.int x3), some (.int x4), some (.int x5), some (.int x6), some (.int x7), x8] [] h 0 0 Q) ∧ (¬ (s0 = 0) → i_P i_MT i_AT L xs 287 177 [some (.ref x0), some (.int x1), some (.int x2), some (.int x3), some (.int x4), some (.int x5), some (.int x6), some (.int x7), x8] [] h 0 0 Q))) : i_P i_MT i_AT L xs 287 174 [some (.ref x0), some (.int x1), some (.int x2), some (.int x3), some (.int x4), some (.int x5), some (.int x6), some (.int x7), x8] [.int s0] h 0 0 Q := by
  have hk := i_k287
  refine g_if_eq hk rfl (fun hc => ?_) (fun hc => ?_)
  · have H := H.1 hc
    exact H
  · have H := H.2 hc
    exact H
theorem b287_177 {x0 : Nat} {x1 : Int32} {x2 : Int32} {x3 : Int32} {x4 : Int32} {x5 : Int32} {x6 : Int32} {x7 : Int32} {x8 : Option Value} {h : iH} {Q : Option Value → iH → Prop} (H : (i_obj? h x0 12 ∧ i_C i_MT i_AT L xs 286 [.ref x0, .int x1, .int x7, .int x5, .int x4] h (fun v h1 => ∃ r2 : Int32, v = some (.int r2) ∧ i_P i_MT i_AT L xs 287 188 [some (.ref x0), some (.int x1), some (.int x2), some (.int x3), some (.int x4), some (.int x5), some (.int x6), some (.int x7), x8] [.int r2] h1 0 0 Q))) : i_P i_MT i_AT L xs 287 177 [some (.ref x0), some (.int x1), some (.int x2), some (.int x3), some (.int x4), some (.int x5), some (.int x6), some (.int x7), x8] [] h 0 0 Q := by
  have hk := i_k287
  refine g_s1 (pc2 := 178) hk rfl rfl rfl rfl rfl ?_
  refine g_s1 (pc2 := 179) hk rfl rfl rfl rfl rfl ?_
  refine g_s1 (pc2 := 181) hk rfl rfl rfl rfl rfl ?_
  refine g_s1 (pc2 := 183) hk rfl rfl rfl rfl rfl ?_
  refine g_s1 (pc2 := 185) hk rfl rfl rfl rfl rfl ?_
  obtain ⟨ho, H⟩ := H
  refine g_call hk rfl rfl i_k286.1 ⟨rfl, rfl⟩ rfl (i_rcv_v ho rfl (by decide)) rfl ?_
  exact H.mono (fun v h2 q => by obtain ⟨r, rfl, q⟩ := q; exact q)
theorem b287_188 {x0 : Nat} {x1 : Int32} {x2 : Int32} {x3 : Int32} {x4 : Int32} {x5 : Int32} {x6 : Int32} {x7 : Int32} {x8 : Option Value} {s0 : Int32} {h : iH} {Q : Option Value → iH → Prop} (H : ((s0 = 0 → i_P i_MT i_AT L xs 287 195 [some (.ref x0), some (.int x1), some (.int x2), some (.int x3), some (.int x4), some (.int x5), some (.int x6), some (.int x7), x8] [] h 0 0 Q) ∧ (¬ (s0 = 0) → i_P i_MT i_AT L xs 287 191 [some (.ref x0), some (.int x1), some (.int x2), some (.int x3), some (.int x4), some (.int x5), some (.int x6), some (.int x7), x8] [] h 0 0 Q))) : i_P i_MT i_AT L xs 287 188 [some (.ref x0), some (.int x1), some (.int x2), some (.int x3), some (.int x4), some (.int x5), some (.int x6), some (.int x7), x8] [.int s0] h 0 0 Q := by
  have hk := i_k287
  refine g_if_eq hk rfl (fun hc => ?_) (fun hc => ?_)
  · have H := H.1 hc
    exact H
  · have H := H.2 hc
    exact H
theorem b287_191 {x0 : Nat} {x1 : Int32} {x2 : Int32} {x3 : Int32} {x4 : Int32} {x5 : Int32} {x6 : Int32} {x7 : Int32} {x8 : Option Value} {h : iH} {Q : Option Value → iH → Prop} (H : i_P i_MT i_AT L xs 287 196 [some (.ref x0), some (.int x1), some (.int x2), some (.int x3), some (.int x4), some (.int x5), some (.int x6), some (.int x7), x8] [.int (1 : Int32)] h 0 0 Q) : i_P i_MT i_AT L xs 287 191 [some (.ref x0), some (.int x1), some (.int x2), some (.int x3), some (.int x4), some (.int x5), some (.int x6), some (.int x7), x8] [] h 0 0 Q := by
  have hk := i_k287
  refine g_s1 (pc2 := 192) (st2 := [.int (1 : Int32)]) hk rfl rfl rfl rfl rfl ?_
  refine g_s1 (pc2 := 196) hk rfl rfl rfl rfl rfl ?_
  exact H
theorem b287_195 {x0 : Nat} {x1 : Int32} {x2 : Int32} {x3 : Int32} {x4 : Int32} {x5 : Int32} {x6 : Int32} {x7 : Int32} {x8 : Option Value} {h : iH} {Q : Option Value → iH → Prop} (H : i_P i_MT i_AT L xs 287 196 [some (.ref x0), some (.int x1), some (.int x2), some (.int x3), some (.int x4), some (.int x5), some (.int x6), some (.int x7), x8] [.int (0 : Int32)] h 0 0 Q) : i_P i_MT i_AT L xs 287 195 [some (.ref x0), some (.int x1), some (.int x2), some (.int x3), some (.int x4), some (.int x5), some (.int x6), some (.int x7), x8] [] h 0 0 Q := by
  have hk := i_k287
  refine g_s1 (pc2 := 196) (st2 := [.int (0 : Int32)]) hk rfl rfl rfl rfl rfl ?_
  exact H
theorem b287_196 {x0 : Nat} {x1 : Int32} {x2 : Int32} {x3 : Int32} {x4 : Int32} {x5 : Int32} {x6 : Int32} {x7 : Int32} {x8 : Option Value} {s0 : Int32} {h : iH} {Q : Option Value → iH → Prop} (H : i_P i_MT i_AT L xs 287 130 [some (.ref x0), some (.int x1), some (.int x2), some (.int x3), some (.int x4), some (.int x5), some (.int s0), some (.int (x7 + 1)), x8] [] h 0 0 Q) : i_P i_MT i_AT L xs 287 196 [some (.ref x0), some (.int x1), some (.int x2), some (.int x3), some (.int x4), some (.int x5), some (.int x6), some (.int x7), x8] [.int s0] h 0 0 Q := by
  have hk := i_k287
  refine g_s1 (pc2 := 198) (lo2 := [some (.ref x0), some (.int x1), some (.int x2), some (.int x3), some (.int x4), some (.int x5), some (.int s0), some (.int x7), x8]) hk rfl rfl rfl rfl rfl ?_
  refine g_s1 (pc2 := 201) (lo2 := [some (.ref x0), some (.int x1), some (.int x2), some (.int x3), some (.int x4), some (.int x5), some (.int s0), some (.int (x7 + 1)), x8]) hk rfl rfl rfl rfl rfl ?_
  refine g_s1 (pc2 := 130) hk rfl rfl rfl rfl rfl ?_
  exact H
theorem b287_219 {x0 : Nat} {x1 : Int32} {x2 : Int32} {x3 : Int32} {x4 : Int32} {x5 : Int32} {x6 : Int32} {x7 : Int32} {x8 : Option Value} {h : iH} {Q : Option Value → iH → Prop} (H : i_P i_MT i_AT L xs 287 111 [some (.ref x0), some (.int x1), some (.int x2), some (.int x3), some (.int x4), some (.int (x5 + 1)), some (.int x6), some (.int x7), x8] [] h 0 0 Q) : i_P i_MT i_AT L xs 287 219 [some (.ref x0), some (.int x1), some (.int x2), some (.int x3), some (.int x4), some (.int x5), some (.int x6), some (.int x7), x8] [] h 0 0 Q := by
  have hk := i_k287
  refine g_s1 (pc2 := 222) (lo2 := [some (.ref x0), some (.int x1), some (.int x2), some (.int x3), some (.int x4), some (.int (x5 + 1)), some (.int x6), some (.int x7), x8]) hk rfl rfl rfl rfl rfl ?_
  refine g_s1 (pc2 := 111) hk rfl rfl rfl rfl rfl ?_
  exact H
theorem b287_225 {x0 : Nat} {x1 : Int32} {x2 : Int32} {x3 : Int32} {x4 : Int32} {x5 : Int32} {x6 : Option Value} {x7 : Option Value} {x8 : Option Value} {h : iH} {Q : Option Value → iH → Prop} (H : i_P i_MT i_AT L xs 287 83 [some (.ref x0), some (.int x1), some (.int x2), some (.int x3), some (.int x4), some (.int x5), x6, x7, x8] [] h 0 0 Q) : i_P i_MT i_AT L xs 287 225 [some (.ref x0), some (.int x1), some (.int x2), some (.int x3), some (.int x4), some (.int x5), x6, x7, x8] [] h 0 0 Q := by
  have hk := i_k287
  refine g_s1 (pc2 := 83) hk rfl rfl rfl rfl rfl ?_
  exact H
theorem b287_228 {x0 : Nat} {x1 : Int32} {x2 : Int32} {x3 : Int32} {x4 : Int32} {x5 : Option Value} {x6 : Option Value} {x7 : Option Value} {x8 : Option Value} {h : iH} {Q : Option Value → iH → Prop} (H : ((x4 ≤ (60 : Int32) → i_P i_MT i_AT L xs 287 245 [some (.ref x0), some (.int x1), some (.int x2), some (.int x3), some (.int x4), some (.int (0 : Int32)), x6, x7, x8] [] h 0 0 Q) ∧ (¬ (x4 ≤ (60 : Int32)) → (i_obj? h x0 12 ∧ i_C i_MT i_AT L xs 201 [.ref x0, .int (6 : Int32)] h (fun v h1 => ∃ r2 : Int32, v = some (.int r2) ∧ i_P i_MT i_AT L xs 287 241 [some (.ref x0), some (.int x1), some (.int x2), some (.int x3), some (.int x4), x5, x6, x7, x8] [.int r2] h1 0 0 Q))))) : i_P i_MT i_AT L xs 287 228 [some (.ref x0), some (.int x1), some (.int x2), some (.int x3), some (.int x4), x5, x6, x7, x8] [] h 0 0 Q := by
  have hk := i_k287
  refine g_s1 (pc2 := 230) hk rfl rfl rfl rfl rfl ?_
  refine g_s1 (pc2 := 232) (st2 := [.int (60 : Int32), .int x4]) hk rfl rfl rfl rfl rfl ?_
  refine g_icmp_le hk rfl (fun hc => ?_) (fun hc => ?_)
  · have H := H.1 hc
    refine g_s1 (pc2 := 243) (st2 := [.int (0 : Int32)]) hk rfl rfl rfl rfl rfl ?_
    refine g_s1 (pc2 := 245) (lo2 := [some (.ref x0), some (.int x1), some (.int x2), some (.int x3), some (.int x4), some (.int (0 : Int32)), x6, x7, x8]) hk rfl rfl rfl rfl rfl ?_
    exact H
  · have H := H.2 hc
    refine g_s1 (pc2 := 236) hk rfl rfl rfl rfl rfl ?_
    refine g_s1 (pc2 := 238) (st2 := [.int (6 : Int32), .ref x0]) hk rfl rfl rfl rfl rfl ?_
    obtain ⟨ho, H⟩ := H
    refine g_call hk rfl rfl i_k201.1 ⟨rfl, rfl⟩ rfl (i_rcv_v ho rfl (by decide)) rfl ?_
    exact H.mono (fun v h2 q => by obtain ⟨r, rfl, q⟩ := q; exact q)
theorem b287_241 {x0 : Nat} {x1 : Int32} {x2 : Int32} {x3 : Int32} {x4 : Int32} {x5 : Option Value} {x6 : Option Value} {x7 : Option Value} {x8 : Option Value} {s0 : Int32} {h : iH} {Q : Option Value → iH → Prop} (H : Q (some (.int s0)) h) : i_P i_MT i_AT L xs 287 241 [some (.ref x0), some (.int x1), some (.int x2), some (.int x3), some (.int x4), x5, x6, x7, x8] [.int s0] h 0 0 Q := by
  have hk := i_k287
  exact g_ireturn hk rfl (by decide) (by decide) rfl H
theorem b287_245 {x0 : Nat} {x1 : Int32} {x2 : Int32} {x3 : Int32} {x4 : Int32} {x5 : Int32} {x6 : Option Value} {x7 : Option Value} {x8 : Option Value} {h : iH} {Q : Option Value → iH → Prop} (H : ((x3 ≤ x5 → i_P i_MT i_AT L xs 287 287 [some (.ref x0), some (.int x1), some (.int x2), some (.int x3), some (.int x4), some (.int (x4 - (1 : Int32))), x6, x7, x8] [] h 0 0 Q) ∧ (¬ (x3 ≤ x5) → (∃ v1 : Nat, i_fld h x0 12 34 = some (.ref v1) ∧ ((¬ x5 = x2 → i_P i_MT i_AT L xs 287 274 [some (.ref x0), some (.int x1), some (.int x2), some (.int x3), some (.int x4), some (.int x5), x6, x7, x8] [.int (0 : Int32), .int (((48 : Int32) * x4) + x5), .ref v1] h 0 0 Q) ∧ (¬ (¬ x5 = x2) → i_P i_MT i_AT L xs 287 274 [some (.ref x0), some (.int x1), some (.int x2), some (.int x3), some (.int x4), some (.int x5), x6, x7, x8] [.int (1 : Int32), .int (((48 : Int32) * x4) + x5), .ref v1] h 0 0 Q)))))) : i_P i_MT i_AT L xs 287 245 [some (.ref x0), some (.int x1), some (.int x2), some (.int x3), some (.int x4), some (.int x5), x6, x7, x8] [] h 0 0 Q := by
  have hk := i_k287
  refine g_s1 (pc2 := 247) hk rfl rfl rfl rfl rfl ?_
  refine g_s1 (pc2 := 248) hk rfl rfl rfl rfl rfl ?_
  refine g_icmp_ge hk rfl (fun hc => ?_) (fun hc => ?_)
  · have H := H.1 hc
    refine g_s1 (pc2 := 283) hk rfl rfl rfl rfl rfl ?_
    refine g_s1 (pc2 := 284) (st2 := [.int (1 : Int32), .int x4]) hk rfl rfl rfl rfl rfl ?_
    refine g_s1 (pc2 := 285) hk rfl rfl rfl rfl rfl ?_
    refine g_s1 (pc2 := 287) (lo2 := [some (.ref x0), some (.int x1), some (.int x2), some (.int x3), some (.int x4), some (.int (x4 - (1 : Int32))), x6, x7, x8]) hk rfl rfl rfl rfl rfl ?_
    exact H
  · have H := H.2 hc
    refine g_s1 (pc2 := 252) hk rfl rfl rfl rfl rfl ?_
    obtain ⟨v1, ev1, H⟩ := H
    refine g_step (pc2 := 255) hk rfl rfl rfl (s_get ev1) ?_
    refine g_s1 (pc2 := 257) (st2 := [.int (48 : Int32), .ref v1]) hk rfl rfl rfl rfl rfl ?_
    refine g_s1 (pc2 := 259) hk rfl rfl rfl rfl rfl ?_
    refine g_s1 (pc2 := 260) hk rfl rfl rfl rfl rfl ?_
    refine g_s1 (pc2 := 262) hk rfl rfl rfl rfl rfl ?_
    refine g_s1 (pc2 := 263) hk rfl rfl rfl rfl rfl ?_
    refine g_s1 (pc2 := 265) hk rfl rfl rfl rfl rfl ?_
    refine g_s1 (pc2 := 266) hk rfl rfl rfl rfl rfl ?_
    refine g_icmp_ne hk rfl (fun hc => ?_) (fun hc => ?_)
    · have H := H.1 hc
      refine g_s1 (pc2 := 274) (st2 := [.int (0 : Int32), .int (((48 : Int32) * x4) + x5), .ref v1]) hk rfl rfl rfl rfl rfl ?_
      exact H
    · have H := H.2 hc
      refine g_s1 (pc2 := 270) (st2 := [.int (1 : Int32), .int (((48 : Int32) * x4) + x5), .ref v1]) hk rfl rfl rfl rfl rfl ?_
      refine g_s1 (pc2 := 274) hk rfl rfl rfl rfl rfl ?_
      exact H
theorem b287_274 {x0 : Nat} {x1 : Int32} {x2 : Int32} {x3 : Int32} {x4 : Int32} {x5 : Int32} {x6 : Option Value} {x7 : Option Value} {x8 : Option Value} {s0 : Nat} {s1 : Int32} {s2 : Int32} {h : iH} {Q : Option Value → iH → Prop} (H : (∃ (n1 : Nat) (f2 : Nat → Int32), i_arI h 2 s0 = some (n1, f2) ∧ ¬ (s1 < 0 ∨ n1 ≤ s1.toNatClampNeg) ∧ i_P i_MT i_AT L xs 287 275 [some (.ref x0), some (.int x1), some (.int x2), some (.int x3), some (.int x4), some (.int x5), x6, x7, x8] [] (i_siI h s0 s1.toNatClampNeg (vp_nar .boolean s2)) 0 0 Q)) : i_P i_MT i_AT L xs 287 274 [some (.ref x0), some (.int x1), some (.int x2), some (.int x3), some (.int x4), some (.int x5), x6, x7, x8] [.int s2, .int s1, .ref s0] h 0 0 Q := by
  have hk := i_k287
  obtain ⟨n1, f2, ef2, hi, H⟩ := H
  refine g_step (pc2 := 275) hk rfl rfl rfl (s_zput ef2 hi) ?_
  exact H
theorem b287_275 {x0 : Nat} {x1 : Int32} {x2 : Int32} {x3 : Int32} {x4 : Int32} {x5 : Int32} {x6 : Option Value} {x7 : Option Value} {x8 : Option Value} {h : iH} {Q : Option Value → iH → Prop} (H : i_P i_MT i_AT L xs 287 245 [some (.ref x0), some (.int x1), some (.int x2), some (.int x3), some (.int x4), some (.int (x5 + 1)), x6, x7, x8] [] h 0 0 Q) : i_P i_MT i_AT L xs 287 275 [some (.ref x0), some (.int x1), some (.int x2), some (.int x3), some (.int x4), some (.int x5), x6, x7, x8] [] h 0 0 Q := by
  have hk := i_k287
  refine g_s1 (pc2 := 278) (lo2 := [some (.ref x0), some (.int x1), some (.int x2), some (.int x3), some (.int x4), some (.int (x5 + 1)), x6, x7, x8]) hk rfl rfl rfl rfl rfl ?_
  refine g_s1 (pc2 := 245) hk rfl rfl rfl rfl rfl ?_
  exact H
theorem b287_287 {x0 : Nat} {x1 : Int32} {x2 : Int32} {x3 : Int32} {x4 : Int32} {x5 : Int32} {x6 : Option Value} {x7 : Option Value} {x8 : Option Value} {h : iH} {Q : Option Value → iH → Prop} (H : ((x5 < 0 → (∃ v1 : Nat, i_fld h x0 12 35 = some (.ref v1) ∧ (∃ v2 : Nat, i_fld h x0 12 0 = some (.ref v2) ∧ (∃ (n3 : Nat) (f4 : Nat → Int32), i_arI h 0 v2 = some (n3, f4) ∧ ¬ (((154 : Int32) + ((5 : Int32) * x1)) < 0 ∨ n3 ≤ ((154 : Int32) + ((5 : Int32) * x1)).toNatClampNeg) ∧ (∃ (n5 : Nat) (f6 : Nat → Int32), i_arI h 0 v1 = some (n5, f6) ∧ ¬ ((0 : Int32) < 0 ∨ n5 ≤ (0 : Int32).toNatClampNeg) ∧ i_P i_MT i_AT L xs 287 428 [some (.ref x0), some (.int x1), some (.int x2), some (.int x3), some (.int x4), some (.int x5), x6, x7, x8] [] (i_siI h v1 (0 : Int32).toNatClampNeg (f4 ((154 : Int32) + ((5 : Int32) * x1)).toNatClampNeg)) 0 0 Q))))) ∧ (¬ (x5 < 0) → i_P i_MT i_AT L xs 287 295 [some (.ref x0), some (.int x1), some (.int x2), some (.int x3), some (.int x4), some (.int x5), some (.int (0 : Int32)), x7, x8] [] h 0 0 Q))) : i_P i_MT i_AT L xs 287 287 [some (.ref x0), some (.int x1), some (.int x2), some (.int x3), some (.int x4), some (.int x5), x6, x7, x8] [] h 0 0 Q := by
  have hk := i_k287
  refine g_s1 (pc2 := 289) hk rfl rfl rfl rfl rfl ?_
  refine g_if_lt hk rfl (fun hc => ?_) (fun hc => ?_)
  · have H := H.1 hc
    refine g_s1 (pc2 := 411) hk rfl rfl rfl rfl rfl ?_
    obtain ⟨v1, ev1, H⟩ := H
    refine g_step (pc2 := 414) hk rfl rfl rfl (s_get ev1) ?_
    refine g_s1 (pc2 := 415) (st2 := [.int (0 : Int32), .ref v1]) hk rfl rfl rfl rfl rfl ?_
    refine g_s1 (pc2 := 416) hk rfl rfl rfl rfl rfl ?_
    obtain ⟨v2, ev2, H⟩ := H
    refine g_step (pc2 := 419) hk rfl rfl rfl (s_get ev2) ?_
    refine g_s1 (pc2 := 422) (st2 := [.int (154 : Int32), .ref v2, .int (0 : Int32), .ref v1]) hk rfl rfl rfl rfl rfl ?_
    refine g_s1 (pc2 := 423) (st2 := [.int (5 : Int32), .int (154 : Int32), .ref v2, .int (0 : Int32), .ref v1]) hk rfl rfl rfl rfl rfl ?_
    refine g_s1 (pc2 := 424) hk rfl rfl rfl rfl rfl ?_
    refine g_s1 (pc2 := 425) hk rfl rfl rfl rfl rfl ?_
    refine g_s1 (pc2 := 426) hk rfl rfl rfl rfl rfl ?_
    obtain ⟨n3, f4, ef4, hi, H⟩ := H
    refine g_step (pc2 := 427) hk rfl rfl rfl (s_aget (L := L) (xs := xs) ef4 hi) ?_
    obtain ⟨n5, f6, ef6, hi, H⟩ := H
    refine g_step (pc2 := 428) hk rfl rfl rfl (s_aput ef6 hi) ?_
    exact H
  · have H := H.2 hc
    refine g_s1 (pc2 := 293) (st2 := [.int (0 : Int32)]) hk rfl rfl rfl rfl rfl ?_
    refine g_s1 (pc2 := 295) (lo2 := [some (.ref x0), some (.int x1), some (.int x2), some (.int x3), some (.int x4), some (.int x5), some (.int (0 : Int32)), x7, x8]) hk rfl rfl rfl rfl rfl ?_
    exact H
theorem b287_295 {x0 : Nat} {x1 : Int32} {x2 : Int32} {x3 : Int32} {x4 : Int32} {x5 : Int32} {x6 : Int32} {x7 : Option Value} {x8 : Option Value} {h : iH} {Q : Option Value → iH → Prop} (H : ((x3 ≤ x6 → i_P i_MT i_AT L xs 287 287 [some (.ref x0), some (.int x1), some (.int x2), some (.int x3), some (.int x4), some (.int (x5 + (-1))), some (.int x6), x7, x8] [] h 0 0 Q) ∧ (¬ (x3 ≤ x6) → i_P i_MT i_AT L xs 287 307 [some (.ref x0), some (.int x1), some (.int x2), some (.int x3), some (.int x4), some (.int x5), some (.int x6), some (.int (0 : Int32)), some (.int (0 : Int32))] [] h 0 0 Q))) : i_P i_MT i_AT L xs 287 295 [some (.ref x0), some (.int x1), some (.int x2), some (.int x3), some (.int x4), some (.int x5), some (.int x6), x7, x8] [] h 0 0 Q := by
  have hk := i_k287
  refine g_s1 (pc2 := 297) hk rfl rfl rfl rfl rfl ?_
  refine g_s1 (pc2 := 298) hk rfl rfl rfl rfl rfl ?_
  refine g_icmp_ge hk rfl (fun hc => ?_) (fun hc => ?_)
  · have H := H.1 hc
    refine g_s1 (pc2 := 407) (lo2 := [some (.ref x0), some (.int x1), some (.int x2), some (.int x3), some (.int x4), some (.int (x5 + (-1))), some (.int x6), x7, x8]) hk rfl rfl rfl rfl rfl ?_
    refine g_s1 (pc2 := 287) hk rfl rfl rfl rfl rfl ?_
    exact H
  · have H := H.2 hc
    refine g_s1 (pc2 := 302) (st2 := [.int (0 : Int32)]) hk rfl rfl rfl rfl rfl ?_
    refine g_s1 (pc2 := 304) (lo2 := [some (.ref x0), some (.int x1), some (.int x2), some (.int x3), some (.int x4), some (.int x5), some (.int x6), some (.int (0 : Int32)), x8]) hk rfl rfl rfl rfl rfl ?_
    refine g_s1 (pc2 := 305) (st2 := [.int (0 : Int32)]) hk rfl rfl rfl rfl rfl ?_
    refine g_s1 (pc2 := 307) (lo2 := [some (.ref x0), some (.int x1), some (.int x2), some (.int x3), some (.int x4), some (.int x5), some (.int x6), some (.int (0 : Int32)), some (.int (0 : Int32))]) hk rfl rfl rfl rfl rfl ?_
    exact H
theorem b287_307 {x0 : Nat} {x1 : Int32} {x2 : Int32} {x3 : Int32} {x4 : Int32} {x5 : Int32} {x6 : Int32} {x7 : Int32} {x8 : Int32} {h : iH} {Q : Option Value → iH → Prop} (H : ((x3 ≤ x8 → (∃ v1 : Nat, i_fld h x0 12 34 = some (.ref v1) ∧ (∃ (n2 : Nat) (f3 : Nat → Int32), i_arI h 2 v1 = some (n2, f3) ∧ ¬ ((((48 : Int32) * x5) + x6) < 0 ∨ n2 ≤ (((48 : Int32) * x5) + x6).toNatClampNeg) ∧ i_P i_MT i_AT L xs 287 398 [some (.ref x0), some (.int x1), some (.int x2), some (.int x3), some (.int x4), some (.int x5), some (.int x6), some (.int x7), some (.int x8)] [] (i_siI h v1 (((48 : Int32) * x5) + x6).toNatClampNeg (vp_nar .boolean x7)) 0 0 Q))) ∧ (¬ (x3 ≤ x8) → ((¬ x7 = 0 → i_P i_MT i_AT L xs 287 370 [some (.ref x0), some (.int x1), some (.int x2), some (.int x3), some (.int x4), some (.int x5), some (.int x6), some (.int x7), some (.int x8)] [] h 0 0 Q) ∧ (¬ (¬ x7 = 0) → (∃ v4 : Nat, i_fld h x0 12 34 = some (.ref v4) ∧ (∃ (n5 : Nat) (f6 : Nat → Int32), i_arI h 2 v4 = some (n5, f6) ∧ ¬ ((((48 : Int32) * (x5 + (1 : Int32))) + x8) < 0 ∨ n5 ≤ (((48 : Int32) * (x5 + (1 : Int32))) + x8).toNatClampNeg) ∧ (((f6 (((48 : Int32) * (x5 + (1 : Int32))) + x8).toNatClampNeg) = 0 → i_P i_MT i_AT L xs 287 374 [some (.ref x0), some (.int x1), some (.int x2), some (.int x3), some (.int x4), some (.int x5), some (.int x6), some (.int x7), some (.int x8)] [] h 0 0 Q) ∧ (¬ ((f6 (((48 : Int32) * (x5 + (1 : Int32))) + x8).toNatClampNeg) = 0) → ((x6 = x8 → i_P i_MT i_AT L xs 287 354 [some (.ref x0), some (.int x1), some (.int x2), some (.int x3), some (.int x4), some (.int x5), some (.int x6), some (.int x7), some (.int x8)] [] h 0 0 Q) ∧ (¬ (x6 = x8) → (i_obj? h x0 12 ∧ i_C i_MT i_AT L xs 285 [.ref x0, .int x6, .int x8] h (fun v h7 => ∃ r8 : Int32, v = some (.int r8) ∧ i_P i_MT i_AT L xs 287 351 [some (.ref x0), some (.int x1), some (.int x2), some (.int x3), some (.int x4), some (.int x5), some (.int x6), some (.int x7), some (.int x8)] [.int r8] h7 0 0 Q))))))))))))) : i_P i_MT i_AT L xs 287 307 [some (.ref x0), some (.int x1), some (.int x2), some (.int x3), some (.int x4), some (.int x5), some (.int x6), some (.int x7), some (.int x8)] [] h 0 0 Q := by
  have hk := i_k287
  refine g_s1 (pc2 := 309) hk rfl rfl rfl rfl rfl ?_
  refine g_s1 (pc2 := 310) hk rfl rfl rfl rfl rfl ?_
  refine g_icmp_ge hk rfl (fun hc => ?_) (fun hc => ?_)
  · have H := H.1 hc
    refine g_s1 (pc2 := 384) hk rfl rfl rfl rfl rfl ?_
    obtain ⟨v1, ev1, H⟩ := H
    refine g_step (pc2 := 387) hk rfl rfl rfl (s_get ev1) ?_
    refine g_s1 (pc2 := 389) (st2 := [.int (48 : Int32), .ref v1]) hk rfl rfl rfl rfl rfl ?_
    refine g_s1 (pc2 := 391) hk rfl rfl rfl rfl rfl ?_
    refine g_s1 (pc2 := 392) hk rfl rfl rfl rfl rfl ?_
    refine g_s1 (pc2 := 394) hk rfl rfl rfl rfl rfl ?_
    refine g_s1 (pc2 := 395) hk rfl rfl rfl rfl rfl ?_
    refine g_s1 (pc2 := 397) hk rfl rfl rfl rfl rfl ?_
    obtain ⟨n2, f3, ef3, hi, H⟩ := H
    refine g_step (pc2 := 398) hk rfl rfl rfl (s_zput ef3 hi) ?_
    exact H
  · have H := H.2 hc
    refine g_s1 (pc2 := 315) hk rfl rfl rfl rfl rfl ?_
    refine g_if_ne hk rfl (fun hc => ?_) (fun hc => ?_)
    · have H := H.1 hc
      exact H
    · have H := H.2 hc
      refine g_s1 (pc2 := 319) hk rfl rfl rfl rfl rfl ?_
      obtain ⟨v4, ev4, H⟩ := H
      refine g_step (pc2 := 322) hk rfl rfl rfl (s_get ev4) ?_
      refine g_s1 (pc2 := 324) (st2 := [.int (48 : Int32), .ref v4]) hk rfl rfl rfl rfl rfl ?_
      refine g_s1 (pc2 := 326) hk rfl rfl rfl rfl rfl ?_
      refine g_s1 (pc2 := 327) (st2 := [.int (1 : Int32), .int x5, .int (48 : Int32), .ref v4]) hk rfl rfl rfl rfl rfl ?_
      refine g_s1 (pc2 := 328) hk rfl rfl rfl rfl rfl ?_
      refine g_s1 (pc2 := 329) hk rfl rfl rfl rfl rfl ?_
      refine g_s1 (pc2 := 331) hk rfl rfl rfl rfl rfl ?_
      refine g_s1 (pc2 := 332) hk rfl rfl rfl rfl rfl ?_
      obtain ⟨n5, f6, ef6, hi, H⟩ := H
      refine g_step (pc2 := 333) hk rfl rfl rfl (s_bget (t := 2) (by decide) ef6 hi) ?_
      refine g_if_eq hk rfl (fun hc => ?_) (fun hc => ?_)
      · have H := H.1 hc
        exact H
      · have H := H.2 hc
        refine g_s1 (pc2 := 338) hk rfl rfl rfl rfl rfl ?_
        refine g_s1 (pc2 := 340) hk rfl rfl rfl rfl rfl ?_
        refine g_icmp_eq hk rfl (fun hc => ?_) (fun hc => ?_)
        · have H := H.1 hc
          exact H
        · have H := H.2 hc
          refine g_s1 (pc2 := 344) hk rfl rfl rfl rfl rfl ?_
          refine g_s1 (pc2 := 346) hk rfl rfl rfl rfl rfl ?_
          refine g_s1 (pc2 := 348) hk rfl rfl rfl rfl rfl ?_
          obtain ⟨ho, H⟩ := H
          refine g_call hk rfl rfl i_k285.1 ⟨rfl, rfl⟩ rfl (i_rcv_v ho rfl (by decide)) rfl ?_
          exact H.mono (fun v h2 q => by obtain ⟨r, rfl, q⟩ := q; exact q)
theorem b287_351 {x0 : Nat} {x1 : Int32} {x2 : Int32} {x3 : Int32} {x4 : Int32} {x5 : Int32} {x6 : Int32} {x7 : Int32} {x8 : Int32} {s0 : Int32} {h : iH} {Q : Option Value → iH → Prop} (H : ((s0 = 0 → i_P i_MT i_AT L xs 287 374 [some (.ref x0), some (.int x1), some (.int x2), some (.int x3), some (.int x4), some (.int x5), some (.int x6), some (.int x7), some (.int x8)] [] h 0 0 Q) ∧ (¬ (s0 = 0) → i_P i_MT i_AT L xs 287 354 [some (.ref x0), some (.int x1), some (.int x2), some (.int x3), some (.int x4), some (.int x5), some (.int x6), some (.int x7), some (.int x8)] [] h 0 0 Q))) : i_P i_MT i_AT L xs 287 351 [some (.ref x0), some (.int x1), some (.int x2), some (.int x3), some (.int x4), some (.int x5), some (.int x6), some (.int x7), some (.int x8)] [.int s0] h 0 0 Q := by
  have hk := i_k287
  refine g_if_eq hk rfl (fun hc => ?_) (fun hc => ?_)
  · have H := H.1 hc
    exact H
  · have H := H.2 hc
    exact H
theorem b287_354 {x0 : Nat} {x1 : Int32} {x2 : Int32} {x3 : Int32} {x4 : Int32} {x5 : Int32} {x6 : Int32} {x7 : Int32} {x8 : Int32} {h : iH} {Q : Option Value → iH → Prop} (H : (i_obj? h x0 12 ∧ i_C i_MT i_AT L xs 286 [.ref x0, .int x1, .int x6, .int x8, .int (x5 + (1 : Int32))] h (fun v h1 => ∃ r2 : Int32, v = some (.int r2) ∧ i_P i_MT i_AT L xs 287 367 [some (.ref x0), some (.int x1), some (.int x2), some (.int x3), some (.int x4), some (.int x5), some (.int x6), some (.int x7), some (.int x8)] [.int r2] h1 0 0 Q))) : i_P i_MT i_AT L xs 287 354 [some (.ref x0), some (.int x1), some (.int x2), some (.int x3), some (.int x4), some (.int x5), some (.int x6), some (.int x7), some (.int x8)] [] h 0 0 Q := by
  have hk := i_k287
  refine g_s1 (pc2 := 355) hk rfl rfl rfl rfl rfl ?_
  refine g_s1 (pc2 := 356) hk rfl rfl rfl rfl rfl ?_
  refine g_s1 (pc2 := 358) hk rfl rfl rfl rfl rfl ?_
  refine g_s1 (pc2 := 360) hk rfl rfl rfl rfl rfl ?_
  refine g_s1 (pc2 := 362) hk rfl rfl rfl rfl rfl ?_
  refine g_s1 (pc2 := 363) (st2 := [.int (1 : Int32), .int x5, .int x8, .int x6, .int x1, .ref x0]) hk rfl rfl rfl rfl rfl ?_
  refine g_s1 (pc2 := 364) hk rfl rfl rfl rfl rfl ?_
  obtain ⟨ho, H⟩ := H
  refine g_call hk rfl rfl i_k286.1 ⟨rfl, rfl⟩ rfl (i_rcv_v ho rfl (by decide)) rfl ?_
  exact H.mono (fun v h2 q => by obtain ⟨r, rfl, q⟩ := q; exact q)
theorem b287_367 {x0 : Nat} {x1 : Int32} {x2 : Int32} {x3 : Int32} {x4 : Int32} {x5 : Int32} {x6 : Int32} {x7 : Int32} {x8 : Int32} {s0 : Int32} {h : iH} {Q : Option Value → iH → Prop} (H : ((s0 = 0 → i_P i_MT i_AT L xs 287 374 [some (.ref x0), some (.int x1), some (.int x2), some (.int x3), some (.int x4), some (.int x5), some (.int x6), some (.int x7), some (.int x8)] [] h 0 0 Q) ∧ (¬ (s0 = 0) → i_P i_MT i_AT L xs 287 370 [some (.ref x0), some (.int x1), some (.int x2), some (.int x3), some (.int x4), some (.int x5), some (.int x6), some (.int x7), some (.int x8)] [] h 0 0 Q))) : i_P i_MT i_AT L xs 287 367 [some (.ref x0), some (.int x1), some (.int x2), some (.int x3), some (.int x4), some (.int x5), some (.int x6), some (.int x7), some (.int x8)] [.int s0] h 0 0 Q := by
  have hk := i_k287
  refine g_if_eq hk rfl (fun hc => ?_) (fun hc => ?_)
  · have H := H.1 hc
    exact H
  · have H := H.2 hc
    exact H
theorem b287_370 {x0 : Nat} {x1 : Int32} {x2 : Int32} {x3 : Int32} {x4 : Int32} {x5 : Int32} {x6 : Int32} {x7 : Int32} {x8 : Int32} {h : iH} {Q : Option Value → iH → Prop} (H : i_P i_MT i_AT L xs 287 375 [some (.ref x0), some (.int x1), some (.int x2), some (.int x3), some (.int x4), some (.int x5), some (.int x6), some (.int x7), some (.int x8)] [.int (1 : Int32)] h 0 0 Q) : i_P i_MT i_AT L xs 287 370 [some (.ref x0), some (.int x1), some (.int x2), some (.int x3), some (.int x4), some (.int x5), some (.int x6), some (.int x7), some (.int x8)] [] h 0 0 Q := by
  have hk := i_k287
  refine g_s1 (pc2 := 371) (st2 := [.int (1 : Int32)]) hk rfl rfl rfl rfl rfl ?_
  refine g_s1 (pc2 := 375) hk rfl rfl rfl rfl rfl ?_
  exact H
theorem b287_374 {x0 : Nat} {x1 : Int32} {x2 : Int32} {x3 : Int32} {x4 : Int32} {x5 : Int32} {x6 : Int32} {x7 : Int32} {x8 : Int32} {h : iH} {Q : Option Value → iH → Prop} (H : i_P i_MT i_AT L xs 287 375 [some (.ref x0), some (.int x1), some (.int x2), some (.int x3), some (.int x4), some (.int x5), some (.int x6), some (.int x7), some (.int x8)] [.int (0 : Int32)] h 0 0 Q) : i_P i_MT i_AT L xs 287 374 [some (.ref x0), some (.int x1), some (.int x2), some (.int x3), some (.int x4), some (.int x5), some (.int x6), some (.int x7), some (.int x8)] [] h 0 0 Q := by
  have hk := i_k287
  refine g_s1 (pc2 := 375) (st2 := [.int (0 : Int32)]) hk rfl rfl rfl rfl rfl ?_
  exact H
theorem b287_375 {x0 : Nat} {x1 : Int32} {x2 : Int32} {x3 : Int32} {x4 : Int32} {x5 : Int32} {x6 : Int32} {x7 : Int32} {x8 : Int32} {s0 : Int32} {h : iH} {Q : Option Value → iH → Prop} (H : i_P i_MT i_AT L xs 287 307 [some (.ref x0), some (.int x1), some (.int x2), some (.int x3), some (.int x4), some (.int x5), some (.int x6), some (.int s0), some (.int (x8 + 1))] [] h 0 0 Q) : i_P i_MT i_AT L xs 287 375 [some (.ref x0), some (.int x1), some (.int x2), some (.int x3), some (.int x4), some (.int x5), some (.int x6), some (.int x7), some (.int x8)] [.int s0] h 0 0 Q := by
  have hk := i_k287
  refine g_s1 (pc2 := 377) (lo2 := [some (.ref x0), some (.int x1), some (.int x2), some (.int x3), some (.int x4), some (.int x5), some (.int x6), some (.int s0), some (.int x8)]) hk rfl rfl rfl rfl rfl ?_
  refine g_s1 (pc2 := 380) (lo2 := [some (.ref x0), some (.int x1), some (.int x2), some (.int x3), some (.int x4), some (.int x5), some (.int x6), some (.int s0), some (.int (x8 + 1))]) hk rfl rfl rfl rfl rfl ?_
  refine g_s1 (pc2 := 307) hk rfl rfl rfl rfl rfl ?_
  exact H
theorem b287_398 {x0 : Nat} {x1 : Int32} {x2 : Int32} {x3 : Int32} {x4 : Int32} {x5 : Int32} {x6 : Int32} {x7 : Int32} {x8 : Int32} {h : iH} {Q : Option Value → iH → Prop} (H : i_P i_MT i_AT L xs 287 295 [some (.ref x0), some (.int x1), some (.int x2), some (.int x3), some (.int x4), some (.int x5), some (.int (x6 + 1)), some (.int x7), some (.int x8)] [] h 0 0 Q) : i_P i_MT i_AT L xs 287 398 [some (.ref x0), some (.int x1), some (.int x2), some (.int x3), some (.int x4), some (.int x5), some (.int x6), some (.int x7), some (.int x8)] [] h 0 0 Q := by
  have hk := i_k287
  refine g_s1 (pc2 := 401) (lo2 := [some (.ref x0), some (.int x1), some (.int x2), some (.int x3), some (.int x4), some (.int x5), some (.int (x6 + 1)), some (.int x7), some (.int x8)]) hk rfl rfl rfl rfl rfl ?_
  refine g_s1 (pc2 := 295) hk rfl rfl rfl rfl rfl ?_
  exact H
theorem b287_428 {x0 : Nat} {x1 : Int32} {x2 : Int32} {x3 : Int32} {x4 : Int32} {x5 : Int32} {x6 : Option Value} {x7 : Option Value} {x8 : Option Value} {h : iH} {Q : Option Value → iH → Prop} (H : i_P i_MT i_AT L xs 287 431 [some (.ref x0), some (.int x1), some (.int x2), some (.int x3), some (.int x4), some (.int (1 : Int32)), x6, x7, x8] [] h 0 0 Q) : i_P i_MT i_AT L xs 287 428 [some (.ref x0), some (.int x1), some (.int x2), some (.int x3), some (.int x4), some (.int x5), x6, x7, x8] [] h 0 0 Q := by
  have hk := i_k287
  refine g_s1 (pc2 := 429) (st2 := [.int (1 : Int32)]) hk rfl rfl rfl rfl rfl ?_
  refine g_s1 (pc2 := 431) (lo2 := [some (.ref x0), some (.int x1), some (.int x2), some (.int x3), some (.int x4), some (.int (1 : Int32)), x6, x7, x8]) hk rfl rfl rfl rfl rfl ?_
  exact H
theorem b287_431 {x0 : Nat} {x1 : Int32} {x2 : Int32} {x3 : Int32} {x4 : Int32} {x5 : Int32} {x6 : Option Value} {x7 : Option Value} {x8 : Option Value} {h : iH} {Q : Option Value → iH → Prop} (H : ((x4 < x5 → ((∃ o, i_fld h x0 12 36 = some o) ∧ i_P i_MT i_AT L xs 287 537 [some (.ref x0), some (.int x1), some (.int x2), some (.int x3), some (.int x4), some (.int x5), x6, x7, x8] [] (i_sf h x0 36 (.int x4)) 0 0 Q)) ∧ (¬ (x4 < x5) → i_P i_MT i_AT L xs 287 441 [some (.ref x0), some (.int x1), some (.int x2), some (.int x3), some (.int x4), some (.int x5), some (.int (0 : Int32)), x7, x8] [] h 0 0 Q))) : i_P i_MT i_AT L xs 287 431 [some (.ref x0), some (.int x1), some (.int x2), some (.int x3), some (.int x4), some (.int x5), x6, x7, x8] [] h 0 0 Q := by
  have hk := i_k287
  refine g_s1 (pc2 := 433) hk rfl rfl rfl rfl rfl ?_
  refine g_s1 (pc2 := 435) hk rfl rfl rfl rfl rfl ?_
  refine g_icmp_gt hk rfl (fun hc => ?_) (fun hc => ?_)
  · have H := H.1 hc
    refine g_s1 (pc2 := 532) hk rfl rfl rfl rfl rfl ?_
    refine g_s1 (pc2 := 534) hk rfl rfl rfl rfl rfl ?_
    obtain ⟨⟨o, ho⟩, H⟩ := H
    refine g_step (pc2 := 537) hk rfl rfl rfl (s_put ho rfl) ?_
    exact H
  · have H := H.2 hc
    refine g_s1 (pc2 := 439) (st2 := [.int (0 : Int32)]) hk rfl rfl rfl rfl rfl ?_
    refine g_s1 (pc2 := 441) (lo2 := [some (.ref x0), some (.int x1), some (.int x2), some (.int x3), some (.int x4), some (.int x5), some (.int (0 : Int32)), x7, x8]) hk rfl rfl rfl rfl rfl ?_
    exact H
theorem b287_441 {x0 : Nat} {x1 : Int32} {x2 : Int32} {x3 : Int32} {x4 : Int32} {x5 : Int32} {x6 : Int32} {x7 : Option Value} {x8 : Option Value} {h : iH} {Q : Option Value → iH → Prop} (H : (∃ v1 : Nat, i_fld h x0 12 34 = some (.ref v1) ∧ (∃ (n2 : Nat) (f3 : Nat → Int32), i_arI h 2 v1 = some (n2, f3) ∧ ¬ ((((48 : Int32) * x5) + x6) < 0 ∨ n2 ≤ (((48 : Int32) * x5) + x6).toNatClampNeg) ∧ (((f3 (((48 : Int32) * x5) + x6).toNatClampNeg) = 0 → i_P i_MT i_AT L xs 287 510 [some (.ref x0), some (.int x1), some (.int x2), some (.int x3), some (.int x4), some (.int x5), some (.int x6), x7, x8] [] h 0 0 Q) ∧ (¬ ((f3 (((48 : Int32) * x5) + x6).toNatClampNeg) = 0) → (∃ v4 : Nat, i_fld h x0 12 35 = some (.ref v4) ∧ (∃ (n5 : Nat) (f6 : Nat → Int32), i_arI h 0 v4 = some (n5, f6) ∧ ¬ ((x5 - (1 : Int32)) < 0 ∨ n5 ≤ (x5 - (1 : Int32)).toNatClampNeg) ∧ ((x6 = (f6 (x5 - (1 : Int32)).toNatClampNeg) → i_P i_MT i_AT L xs 287 489 [some (.ref x0), some (.int x1), some (.int x2), some (.int x3), some (.int x4), some (.int x5), some (.int x6), x7, x8] [] h 0 0 Q) ∧ (¬ (x6 = (f6 (x5 - (1 : Int32)).toNatClampNeg)) → (∃ v7 : Nat, i_fld h x0 12 35 = some (.ref v7) ∧ (∃ (n8 : Nat) (f9 : Nat → Int32), i_arI h 0 v7 = some (n8, f9) ∧ ¬ ((x5 - (1 : Int32)) < 0 ∨ n8 ≤ (x5 - (1 : Int32)).toNatClampNeg) ∧ (i_obj? h x0 12 ∧ i_C i_MT i_AT L xs 285 [.ref x0, .int x6, .int (f9 (x5 - (1 : Int32)).toNatClampNeg)] h (fun v h10 => ∃ r11 : Int32, v = some (.int r11) ∧ i_P i_MT i_AT L xs 287 486 [some (.ref x0), some (.int x1), some (.int x2), some (.int x3), some (.int x4), some (.int x5), some (.int x6), x7, x8] [.int r11] h10 0 0 Q))))))))))))) : i_P i_MT i_AT L xs 287 441 [some (.ref x0), some (.int x1), some (.int x2), some (.int x3), some (.int x4), some (.int x5), some (.int x6), x7, x8] [] h 0 0 Q := by
  have hk := i_k287
  refine g_s1 (pc2 := 442) hk rfl rfl rfl rfl rfl ?_
  obtain ⟨v1, ev1, H⟩ := H
  refine g_step (pc2 := 445) hk rfl rfl rfl (s_get ev1) ?_
  refine g_s1 (pc2 := 447) (st2 := [.int (48 : Int32), .ref v1]) hk rfl rfl rfl rfl rfl ?_
  refine g_s1 (pc2 := 449) hk rfl rfl rfl rfl rfl ?_
  refine g_s1 (pc2 := 450) hk rfl rfl rfl rfl rfl ?_
  refine g_s1 (pc2 := 452) hk rfl rfl rfl rfl rfl ?_
  refine g_s1 (pc2 := 453) hk rfl rfl rfl rfl rfl ?_
  obtain ⟨n2, f3, ef3, hi, H⟩ := H
  refine g_step (pc2 := 454) hk rfl rfl rfl (s_bget (t := 2) (by decide) ef3 hi) ?_
  refine g_if_eq hk rfl (fun hc => ?_) (fun hc => ?_)
  · have H := H.1 hc
    exact H
  · have H := H.2 hc
    refine g_s1 (pc2 := 459) hk rfl rfl rfl rfl rfl ?_
    refine g_s1 (pc2 := 460) hk rfl rfl rfl rfl rfl ?_
    obtain ⟨v4, ev4, H⟩ := H
    refine g_step (pc2 := 463) hk rfl rfl rfl (s_get ev4) ?_
    refine g_s1 (pc2 := 465) hk rfl rfl rfl rfl rfl ?_
    refine g_s1 (pc2 := 466) (st2 := [.int (1 : Int32), .int x5, .ref v4, .int x6]) hk rfl rfl rfl rfl rfl ?_
    refine g_s1 (pc2 := 467) hk rfl rfl rfl rfl rfl ?_
    obtain ⟨n5, f6, ef6, hi, H⟩ := H
    refine g_step (pc2 := 468) hk rfl rfl rfl (s_aget (L := L) (xs := xs) ef6 hi) ?_
    refine g_icmp_eq hk rfl (fun hc => ?_) (fun hc => ?_)
    · have H := H.1 hc
      exact H
    · have H := H.2 hc
      refine g_s1 (pc2 := 472) hk rfl rfl rfl rfl rfl ?_
      refine g_s1 (pc2 := 474) hk rfl rfl rfl rfl rfl ?_
      refine g_s1 (pc2 := 475) hk rfl rfl rfl rfl rfl ?_
      obtain ⟨v7, ev7, H⟩ := H
      refine g_step (pc2 := 478) hk rfl rfl rfl (s_get ev7) ?_
      refine g_s1 (pc2 := 480) hk rfl rfl rfl rfl rfl ?_
      refine g_s1 (pc2 := 481) (st2 := [.int (1 : Int32), .int x5, .ref v7, .int x6, .ref x0]) hk rfl rfl rfl rfl rfl ?_
      refine g_s1 (pc2 := 482) hk rfl rfl rfl rfl rfl ?_
      obtain ⟨n8, f9, ef9, hi, H⟩ := H
      refine g_step (pc2 := 483) hk rfl rfl rfl (s_aget (L := L) (xs := xs) ef9 hi) ?_
      obtain ⟨ho, H⟩ := H
      refine g_call hk rfl rfl i_k285.1 ⟨rfl, rfl⟩ rfl (i_rcv_v ho rfl (by decide)) rfl ?_
      exact H.mono (fun v h2 q => by obtain ⟨r, rfl, q⟩ := q; exact q)
theorem b287_486 {x0 : Nat} {x1 : Int32} {x2 : Int32} {x3 : Int32} {x4 : Int32} {x5 : Int32} {x6 : Int32} {x7 : Option Value} {x8 : Option Value} {s0 : Int32} {h : iH} {Q : Option Value → iH → Prop} (H : ((s0 = 0 → i_P i_MT i_AT L xs 287 510 [some (.ref x0), some (.int x1), some (.int x2), some (.int x3), some (.int x4), some (.int x5), some (.int x6), x7, x8] [] h 0 0 Q) ∧ (¬ (s0 = 0) → i_P i_MT i_AT L xs 287 489 [some (.ref x0), some (.int x1), some (.int x2), some (.int x3), some (.int x4), some (.int x5), some (.int x6), x7, x8] [] h 0 0 Q))) : i_P i_MT i_AT L xs 287 486 [some (.ref x0), some (.int x1), some (.int x2), some (.int x3), some (.int x4), some (.int x5), some (.int x6), x7, x8] [.int s0] h 0 0 Q := by
  have hk := i_k287
  refine g_if_eq hk rfl (fun hc => ?_) (fun hc => ?_)
  · have H := H.1 hc
    exact H
  · have H := H.2 hc
    exact H
theorem b287_489 {x0 : Nat} {x1 : Int32} {x2 : Int32} {x3 : Int32} {x4 : Int32} {x5 : Int32} {x6 : Int32} {x7 : Option Value} {x8 : Option Value} {h : iH} {Q : Option Value → iH → Prop} (H : (∃ v1 : Nat, i_fld h x0 12 35 = some (.ref v1) ∧ (∃ (n2 : Nat) (f3 : Nat → Int32), i_arI h 0 v1 = some (n2, f3) ∧ ¬ ((x5 - (1 : Int32)) < 0 ∨ n2 ≤ (x5 - (1 : Int32)).toNatClampNeg) ∧ (i_obj? h x0 12 ∧ i_C i_MT i_AT L xs 286 [.ref x0, .int x1, .int (f3 (x5 - (1 : Int32)).toNatClampNeg), .int x6, .int x5] h (fun v h4 => ∃ r5 : Int32, v = some (.int r5) ∧ i_P i_MT i_AT L xs 287 507 [some (.ref x0), some (.int x1), some (.int x2), some (.int x3), some (.int x4), some (.int x5), some (.int x6), x7, x8] [.int r5] h4 0 0 Q))))) : i_P i_MT i_AT L xs 287 489 [some (.ref x0), some (.int x1), some (.int x2), some (.int x3), some (.int x4), some (.int x5), some (.int x6), x7, x8] [] h 0 0 Q := by
  have hk := i_k287
  refine g_s1 (pc2 := 490) hk rfl rfl rfl rfl rfl ?_
  refine g_s1 (pc2 := 491) hk rfl rfl rfl rfl rfl ?_
  refine g_s1 (pc2 := 492) hk rfl rfl rfl rfl rfl ?_
  obtain ⟨v1, ev1, H⟩ := H
  refine g_step (pc2 := 495) hk rfl rfl rfl (s_get ev1) ?_
  refine g_s1 (pc2 := 497) hk rfl rfl rfl rfl rfl ?_
  refine g_s1 (pc2 := 498) (st2 := [.int (1 : Int32), .int x5, .ref v1, .int x1, .ref x0]) hk rfl rfl rfl rfl rfl ?_
  refine g_s1 (pc2 := 499) hk rfl rfl rfl rfl rfl ?_
  obtain ⟨n2, f3, ef3, hi, H⟩ := H
  refine g_step (pc2 := 500) hk rfl rfl rfl (s_aget (L := L) (xs := xs) ef3 hi) ?_
  refine g_s1 (pc2 := 502) hk rfl rfl rfl rfl rfl ?_
  refine g_s1 (pc2 := 504) hk rfl rfl rfl rfl rfl ?_
  obtain ⟨ho, H⟩ := H
  refine g_call hk rfl rfl i_k286.1 ⟨rfl, rfl⟩ rfl (i_rcv_v ho rfl (by decide)) rfl ?_
  exact H.mono (fun v h2 q => by obtain ⟨r, rfl, q⟩ := q; exact q)
theorem b287_507 {x0 : Nat} {x1 : Int32} {x2 : Int32} {x3 : Int32} {x4 : Int32} {x5 : Int32} {x6 : Int32} {x7 : Option Value} {x8 : Option Value} {s0 : Int32} {h : iH} {Q : Option Value → iH → Prop} (H : ((¬ s0 = 0 → (∃ v1 : Nat, i_fld h x0 12 35 = some (.ref v1) ∧ (∃ (n2 : Nat) (f3 : Nat → Int32), i_arI h 0 v1 = some (n2, f3) ∧ ¬ (x5 < 0 ∨ n2 ≤ x5.toNatClampNeg) ∧ i_P i_MT i_AT L xs 287 525 [some (.ref x0), some (.int x1), some (.int x2), some (.int x3), some (.int x4), some (.int x5), some (.int x6), x7, x8] [] (i_siI h v1 x5.toNatClampNeg x6) 0 0 Q))) ∧ (¬ (¬ s0 = 0) → i_P i_MT i_AT L xs 287 510 [some (.ref x0), some (.int x1), some (.int x2), some (.int x3), some (.int x4), some (.int x5), some (.int x6), x7, x8] [] h 0 0 Q))) : i_P i_MT i_AT L xs 287 507 [some (.ref x0), some (.int x1), some (.int x2), some (.int x3), some (.int x4), some (.int x5), some (.int x6), x7, x8] [.int s0] h 0 0 Q := by
  have hk := i_k287
  refine g_if_ne hk rfl (fun hc => ?_) (fun hc => ?_)
  · have H := H.1 hc
    refine g_s1 (pc2 := 517) hk rfl rfl rfl rfl rfl ?_
    obtain ⟨v1, ev1, H⟩ := H
    refine g_step (pc2 := 520) hk rfl rfl rfl (s_get ev1) ?_
    refine g_s1 (pc2 := 522) hk rfl rfl rfl rfl rfl ?_
    refine g_s1 (pc2 := 524) hk rfl rfl rfl rfl rfl ?_
    obtain ⟨n2, f3, ef3, hi, H⟩ := H
    refine g_step (pc2 := 525) hk rfl rfl rfl (s_aput ef3 hi) ?_
    exact H
  · have H := H.2 hc
    exact H
theorem b287_510 {x0 : Nat} {x1 : Int32} {x2 : Int32} {x3 : Int32} {x4 : Int32} {x5 : Int32} {x6 : Int32} {x7 : Option Value} {x8 : Option Value} {h : iH} {Q : Option Value → iH → Prop} (H : i_P i_MT i_AT L xs 287 441 [some (.ref x0), some (.int x1), some (.int x2), some (.int x3), some (.int x4), some (.int x5), some (.int (x6 + 1)), x7, x8] [] h 0 0 Q) : i_P i_MT i_AT L xs 287 510 [some (.ref x0), some (.int x1), some (.int x2), some (.int x3), some (.int x4), some (.int x5), some (.int x6), x7, x8] [] h 0 0 Q := by
  have hk := i_k287
  refine g_s1 (pc2 := 513) (lo2 := [some (.ref x0), some (.int x1), some (.int x2), some (.int x3), some (.int x4), some (.int x5), some (.int (x6 + 1)), x7, x8]) hk rfl rfl rfl rfl rfl ?_
  refine g_s1 (pc2 := 441) hk rfl rfl rfl rfl rfl ?_
  exact H
theorem b287_525 {x0 : Nat} {x1 : Int32} {x2 : Int32} {x3 : Int32} {x4 : Int32} {x5 : Int32} {x6 : Int32} {x7 : Option Value} {x8 : Option Value} {h : iH} {Q : Option Value → iH → Prop} (H : i_P i_MT i_AT L xs 287 431 [some (.ref x0), some (.int x1), some (.int x2), some (.int x3), some (.int x4), some (.int (x5 + 1)), some (.int x6), x7, x8] [] h 0 0 Q) : i_P i_MT i_AT L xs 287 525 [some (.ref x0), some (.int x1), some (.int x2), some (.int x3), some (.int x4), some (.int x5), some (.int x6), x7, x8] [] h 0 0 Q := by
  have hk := i_k287
  refine g_s1 (pc2 := 528) (lo2 := [some (.ref x0), some (.int x1), some (.int x2), some (.int x3), some (.int x4), some (.int (x5 + 1)), some (.int x6), x7, x8]) hk rfl rfl rfl rfl rfl ?_
  refine g_s1 (pc2 := 431) hk rfl rfl rfl rfl rfl ?_
  exact H
theorem b287_537 {x0 : Nat} {x1 : Int32} {x2 : Int32} {x3 : Int32} {x4 : Int32} {x5 : Int32} {x6 : Option Value} {x7 : Option Value} {x8 : Option Value} {h : iH} {Q : Option Value → iH → Prop} (H : (i_obj? h x0 12 ∧ i_C i_MT i_AT L xs 202 [.ref x0, .int x4] h (fun v h1 => ∃ r2 : Int32, v = some (.int r2) ∧ i_P i_MT i_AT L xs 287 543 [some (.ref x0), some (.int x1), some (.int x2), some (.int x3), some (.int x4), some (.int x5), x6, x7, x8] [.int r2] h1 0 0 Q))) : i_P i_MT i_AT L xs 287 537 [some (.ref x0), some (.int x1), some (.int x2), some (.int x3), some (.int x4), some (.int x5), x6, x7, x8] [] h 0 0 Q := by
  have hk := i_k287
  refine g_s1 (pc2 := 538) hk rfl rfl rfl rfl rfl ?_
  refine g_s1 (pc2 := 540) hk rfl rfl rfl rfl rfl ?_
  obtain ⟨ho, H⟩ := H
  refine g_call hk rfl rfl i_k202.1 ⟨rfl, rfl⟩ rfl (i_rcv_v ho rfl (by decide)) rfl ?_
  exact H.mono (fun v h2 q => by obtain ⟨r, rfl, q⟩ := q; exact q)
theorem b287_543 {x0 : Nat} {x1 : Int32} {x2 : Int32} {x3 : Int32} {x4 : Int32} {x5 : Int32} {x6 : Option Value} {x7 : Option Value} {x8 : Option Value} {s0 : Int32} {h : iH} {Q : Option Value → iH → Prop} (H : Q (some (.int s0)) h) : i_P i_MT i_AT L xs 287 543 [some (.ref x0), some (.int x1), some (.int x2), some (.int x3), some (.int x4), some (.int x5), x6, x7, x8] [.int s0] h 0 0 Q := by
  have hk := i_k287
  exact g_ireturn hk rfl (by decide) (by decide) rfl H
/-! StillTownModel.wayCell(I)I -/
theorem e288 {x0 : Nat} {x1 : Int32} {h : iH} {Q : Option Value → iH → Prop} (H : i_P i_MT i_AT L xs 288 0 [some (.ref x0), some (.int x1)] [] h 0 0 Q) : i_C i_MT i_AT L xs 288 [.ref x0, .int x1] h Q := ⟨i_m288, i_k288.1, Nat.le_of_ble_eq_true rfl, H⟩
theorem b288_0 {x0 : Nat} {x1 : Int32} {h : iH} {Q : Option Value → iH → Prop} (H : ((x1 < 0 → i_P i_MT i_AT L xs 288 12 [some (.ref x0), some (.int x1)] [] h 0 0 Q) ∧ (¬ (x1 < 0) → (∃ v1 : Int32, i_fld h x0 12 36 = some (.int v1) ∧ ((x1 ≤ v1 → (∃ v2 : Nat, i_fld h x0 12 35 = some (.ref v2) ∧ (∃ (n3 : Nat) (f4 : Nat → Int32), i_arI h 0 v2 = some (n3, f4) ∧ ¬ (x1 < 0 ∨ n3 ≤ x1.toNatClampNeg) ∧ (i_obj? h x0 12 ∧ i_C i_MT i_AT L xs 202 [.ref x0, .int (f4 x1.toNatClampNeg)] h (fun v h5 => ∃ r6 : Int32, v = some (.int r6) ∧ i_P i_MT i_AT L xs 288 31 [some (.ref x0), some (.int x1)] [.int r6] h5 0 0 Q))))) ∧ (¬ (x1 ≤ v1) → i_P i_MT i_AT L xs 288 12 [some (.ref x0), some (.int x1)] [] h 0 0 Q)))))) : i_P i_MT i_AT L xs 288 0 [some (.ref x0), some (.int x1)] [] h 0 0 Q := by
  have hk := i_k288
  refine g_s1 (pc2 := 1) hk rfl rfl rfl rfl rfl ?_
  refine g_if_lt hk rfl (fun hc => ?_) (fun hc => ?_)
  · have H := H.1 hc
    exact H
  · have H := H.2 hc
    refine g_s1 (pc2 := 5) hk rfl rfl rfl rfl rfl ?_
    refine g_s1 (pc2 := 6) hk rfl rfl rfl rfl rfl ?_
    obtain ⟨v1, ev1, H⟩ := H
    refine g_step (pc2 := 9) hk rfl rfl rfl (s_get ev1) ?_
    refine g_icmp_le hk rfl (fun hc => ?_) (fun hc => ?_)
    · have H := H.1 hc
      refine g_s1 (pc2 := 22) hk rfl rfl rfl rfl rfl ?_
      refine g_s1 (pc2 := 23) hk rfl rfl rfl rfl rfl ?_
      obtain ⟨v2, ev2, H⟩ := H
      refine g_step (pc2 := 26) hk rfl rfl rfl (s_get ev2) ?_
      refine g_s1 (pc2 := 27) hk rfl rfl rfl rfl rfl ?_
      obtain ⟨n3, f4, ef4, hi, H⟩ := H
      refine g_step (pc2 := 28) hk rfl rfl rfl (s_aget (L := L) (xs := xs) ef4 hi) ?_
      obtain ⟨ho, H⟩ := H
      refine g_call hk rfl rfl i_k202.1 ⟨rfl, rfl⟩ rfl (i_rcv_v ho rfl (by decide)) rfl ?_
      exact H.mono (fun v h2 q => by obtain ⟨r, rfl, q⟩ := q; exact q)
    · have H := H.2 hc
      exact H
theorem b288_12 {x0 : Nat} {x1 : Int32} {h : iH} {Q : Option Value → iH → Prop} (H : (i_obj? h x0 12 ∧ i_C i_MT i_AT L xs 201 [.ref x0, .int (6 : Int32)] h (fun v h1 => ∃ r2 : Int32, v = some (.int r2) ∧ i_P i_MT i_AT L xs 288 18 [some (.ref x0), some (.int x1)] [.int r2] h1 0 0 Q))) : i_P i_MT i_AT L xs 288 12 [some (.ref x0), some (.int x1)] [] h 0 0 Q := by
  have hk := i_k288
  refine g_s1 (pc2 := 13) hk rfl rfl rfl rfl rfl ?_
  refine g_s1 (pc2 := 15) (st2 := [.int (6 : Int32), .ref x0]) hk rfl rfl rfl rfl rfl ?_
  obtain ⟨ho, H⟩ := H
  refine g_call hk rfl rfl i_k201.1 ⟨rfl, rfl⟩ rfl (i_rcv_v ho rfl (by decide)) rfl ?_
  exact H.mono (fun v h2 q => by obtain ⟨r, rfl, q⟩ := q; exact q)
theorem b288_18 {x0 : Nat} {x1 : Int32} {s0 : Int32} {h : iH} {Q : Option Value → iH → Prop} (H : i_P i_MT i_AT L xs 288 31 [some (.ref x0), some (.int x1)] [.int s0] h 0 0 Q) : i_P i_MT i_AT L xs 288 18 [some (.ref x0), some (.int x1)] [.int s0] h 0 0 Q := by
  have hk := i_k288
  refine g_s1 (pc2 := 31) hk rfl rfl rfl rfl rfl ?_
  exact H
theorem b288_31 {x0 : Nat} {x1 : Int32} {s0 : Int32} {h : iH} {Q : Option Value → iH → Prop} (H : Q (some (.int s0)) h) : i_P i_MT i_AT L xs 288 31 [some (.ref x0), some (.int x1)] [.int s0] h 0 0 Q := by
  have hk := i_k288
  exact g_ireturn hk rfl (by decide) (by decide) rfl H
/-! StillTownModel.behind(IIIII)I -/
theorem e289 {x0 : Nat} {x1 : Int32} {x2 : Int32} {x3 : Int32} {x4 : Int32} {x5 : Int32} {h : iH} {Q : Option Value → iH → Prop} (H : i_P i_MT i_AT L xs 289 0 [some (.ref x0), some (.int x1), some (.int x2), some (.int x3), some (.int x4), some (.int x5), none, none] [] h 0 0 Q) : i_C i_MT i_AT L xs 289 [.ref x0, .int x1, .int x2, .int x3, .int x4, .int x5] h Q := ⟨i_m289, i_k289.1, Nat.le_of_ble_eq_true rfl, H⟩
theorem b289_0 {x0 : Nat} {x1 : Int32} {x2 : Int32} {x3 : Int32} {x4 : Int32} {x5 : Int32} {x6 : Option Value} {x7 : Option Value} {h : iH} {Q : Option Value → iH → Prop} (H : i_P i_MT i_AT L xs 289 6 [some (.ref x0), some (.int x1), some (.int x2), some (.int x3), some (.int x4), some (.int x5), some (.int x1), some (.int (0 : Int32))] [] h 0 0 Q) : i_P i_MT i_AT L xs 289 0 [some (.ref x0), some (.int x1), some (.int x2), some (.int x3), some (.int x4), some (.int x5), x6, x7] [] h 0 0 Q := by
  have hk := i_k289
  refine g_s1 (pc2 := 1) hk rfl rfl rfl rfl rfl ?_
  refine g_s1 (pc2 := 3) (lo2 := [some (.ref x0), some (.int x1), some (.int x2), some (.int x3), some (.int x4), some (.int x5), some (.int x1), x7]) hk rfl rfl rfl rfl rfl ?_
  refine g_s1 (pc2 := 4) (st2 := [.int (0 : Int32)]) hk rfl rfl rfl rfl rfl ?_
  refine g_s1 (pc2 := 6) (lo2 := [some (.ref x0), some (.int x1), some (.int x2), some (.int x3), some (.int x4), some (.int x5), some (.int x1), some (.int (0 : Int32))]) hk rfl rfl rfl rfl rfl ?_
  exact H
theorem b289_6 {x0 : Nat} {x1 : Int32} {x2 : Int32} {x3 : Int32} {x4 : Int32} {x5 : Int32} {x6 : Int32} {x7 : Int32} {h : iH} {Q : Option Value → iH → Prop} (H : (∃ v1 : Nat, i_fld h x0 12 0 = some (.ref v1) ∧ (∃ (n2 : Nat) (f3 : Nat → Int32), i_arI h 0 v1 = some (n2, f3) ∧ ¬ ((5 : Int32) < 0 ∨ n2 ≤ (5 : Int32).toNatClampNeg) ∧ (((f3 (5 : Int32).toNatClampNeg) ≤ x7 → Q (some (.int x6)) h) ∧ (¬ ((f3 (5 : Int32).toNatClampNeg) ≤ x7) → (i_obj? h x0 12 ∧ i_C i_MT i_AT L xs 282 [.ref x0, .int x7, .int x2] h (fun v h4 => ∃ r5 : Int32, v = some (.int r5) ∧ i_P i_MT i_AT L xs 289 24 [some (.ref x0), some (.int x1), some (.int x2), some (.int x3), some (.int x4), some (.int x5), some (.int x6), some (.int x7)] [.int r5] h4 0 0 Q))))))) : i_P i_MT i_AT L xs 289 6 [some (.ref x0), some (.int x1), some (.int x2), some (.int x3), some (.int x4), some (.int x5), some (.int x6), some (.int x7)] [] h 0 0 Q := by
  have hk := i_k289
  refine g_s1 (pc2 := 8) hk rfl rfl rfl rfl rfl ?_
  refine g_s1 (pc2 := 9) hk rfl rfl rfl rfl rfl ?_
  obtain ⟨v1, ev1, H⟩ := H
  refine g_step (pc2 := 12) hk rfl rfl rfl (s_get ev1) ?_
  refine g_s1 (pc2 := 13) (st2 := [.int (5 : Int32), .ref v1, .int x7]) hk rfl rfl rfl rfl rfl ?_
  obtain ⟨n2, f3, ef3, hi, H⟩ := H
  refine g_step (pc2 := 14) hk rfl rfl rfl (s_aget (L := L) (xs := xs) ef3 hi) ?_
  refine g_icmp_ge hk rfl (fun hc => ?_) (fun hc => ?_)
  · have H := H.1 hc
    refine g_s1 (pc2 := 57) hk rfl rfl rfl rfl rfl ?_
    exact g_ireturn hk rfl (by decide) (by decide) rfl H
  · have H := H.2 hc
    refine g_s1 (pc2 := 18) hk rfl rfl rfl rfl rfl ?_
    refine g_s1 (pc2 := 20) hk rfl rfl rfl rfl rfl ?_
    refine g_s1 (pc2 := 21) hk rfl rfl rfl rfl rfl ?_
    obtain ⟨ho, H⟩ := H
    refine g_call hk rfl rfl i_k282.1 ⟨rfl, rfl⟩ rfl (i_rcv_v ho rfl (by decide)) rfl ?_
    exact H.mono (fun v h2 q => by obtain ⟨r, rfl, q⟩ := q; exact q)
theorem b289_24 {x0 : Nat} {x1 : Int32} {x2 : Int32} {x3 : Int32} {x4 : Int32} {x5 : Int32} {x6 : Int32} {x7 : Int32} {s0 : Int32} {h : iH} {Q : Option Value → iH → Prop} (H : ((s0 = 0 → i_P i_MT i_AT L xs 289 49 [some (.ref x0), some (.int x1), some (.int x2), some (.int x3), some (.int x4), some (.int x5), some (.int x6), some (.int x7)] [] h 0 0 Q) ∧ (¬ (s0 = 0) → (i_obj? h x0 12 ∧ i_C i_MT i_AT L xs 275 [.ref x0, .int x7, .int x3, .int x4, .int x5] h (fun v h1 => ∃ r2 : Int32, v = some (.int r2) ∧ i_P i_MT i_AT L xs 289 42 [some (.ref x0), some (.int x1), some (.int x2), some (.int x3), some (.int x4), some (.int x5), some (.int x6), some (.int x7)] [.int r2, .int (16 : Int32), .int x6] h1 0 0 Q))))) : i_P i_MT i_AT L xs 289 24 [some (.ref x0), some (.int x1), some (.int x2), some (.int x3), some (.int x4), some (.int x5), some (.int x6), some (.int x7)] [.int s0] h 0 0 Q := by
  have hk := i_k289
  refine g_if_eq hk rfl (fun hc => ?_) (fun hc => ?_)
  · have H := H.1 hc
    exact H
  · have H := H.2 hc
    refine g_s1 (pc2 := 29) hk rfl rfl rfl rfl rfl ?_
    refine g_s1 (pc2 := 31) (st2 := [.int (16 : Int32), .int x6]) hk rfl rfl rfl rfl rfl ?_
    refine g_s1 (pc2 := 32) hk rfl rfl rfl rfl rfl ?_
    refine g_s1 (pc2 := 34) hk rfl rfl rfl rfl rfl ?_
    refine g_s1 (pc2 := 35) hk rfl rfl rfl rfl rfl ?_
    refine g_s1 (pc2 := 37) hk rfl rfl rfl rfl rfl ?_
    refine g_s1 (pc2 := 39) hk rfl rfl rfl rfl rfl ?_
    obtain ⟨ho, H⟩ := H
    refine g_call hk rfl rfl i_k275.1 ⟨rfl, rfl⟩ rfl (i_rcv_v ho rfl (by decide)) rfl ?_
    exact H.mono (fun v h2 q => by obtain ⟨r, rfl, q⟩ := q; exact q)
theorem b289_42 {x0 : Nat} {x1 : Int32} {x2 : Int32} {x3 : Int32} {x4 : Int32} {x5 : Int32} {x6 : Int32} {x7 : Int32} {s0 : Int32} {s1 : Int32} {s2 : Int32} {h : iH} {Q : Option Value → iH → Prop} (H : (¬ (16 : Int32) = 0 ∧ i_P i_MT i_AT L xs 289 49 [some (.ref x0), some (.int x1), some (.int x2), some (.int x3), some (.int x4), some (.int x5), some (.int ((s0 * (s1 - s2)) / (16 : Int32))), some (.int x7)] [] h 0 0 Q)) : i_P i_MT i_AT L xs 289 42 [some (.ref x0), some (.int x1), some (.int x2), some (.int x3), some (.int x4), some (.int x5), some (.int x6), some (.int x7)] [.int s2, .int s1, .int s0] h 0 0 Q := by
  have hk := i_k289
  refine g_s1 (pc2 := 43) hk rfl rfl rfl rfl rfl ?_
  refine g_s1 (pc2 := 44) hk rfl rfl rfl rfl rfl ?_
  refine g_s1 (pc2 := 46) (st2 := [.int (16 : Int32), .int (s0 * (s1 - s2))]) hk rfl rfl rfl rfl rfl ?_
  obtain ⟨hz, H⟩ := H
  refine g_s1 (pc2 := 47) hk rfl rfl rfl rfl (s_if hz) ?_
  refine g_s1 (pc2 := 49) (lo2 := [some (.ref x0), some (.int x1), some (.int x2), some (.int x3), some (.int x4), some (.int x5), some (.int ((s0 * (s1 - s2)) / (16 : Int32))), some (.int x7)]) hk rfl rfl rfl rfl rfl ?_
  exact H
theorem b289_49 {x0 : Nat} {x1 : Int32} {x2 : Int32} {x3 : Int32} {x4 : Int32} {x5 : Int32} {x6 : Int32} {x7 : Int32} {h : iH} {Q : Option Value → iH → Prop} (H : i_P i_MT i_AT L xs 289 6 [some (.ref x0), some (.int x1), some (.int x2), some (.int x3), some (.int x4), some (.int x5), some (.int x6), some (.int (x7 + 1))] [] h 0 0 Q) : i_P i_MT i_AT L xs 289 49 [some (.ref x0), some (.int x1), some (.int x2), some (.int x3), some (.int x4), some (.int x5), some (.int x6), some (.int x7)] [] h 0 0 Q := by
  have hk := i_k289
  refine g_s1 (pc2 := 52) (lo2 := [some (.ref x0), some (.int x1), some (.int x2), some (.int x3), some (.int x4), some (.int x5), some (.int x6), some (.int (x7 + 1))]) hk rfl rfl rfl rfl rfl ?_
  refine g_s1 (pc2 := 6) hk rfl rfl rfl rfl rfl ?_
  exact H
/-! StillTownModel.likeliest(III)I -/
theorem e290 {x0 : Nat} {x1 : Int32} {x2 : Int32} {x3 : Int32} {h : iH} {Q : Option Value → iH → Prop} (H : i_P i_MT i_AT L xs 290 0 [some (.ref x0), some (.int x1), some (.int x2), some (.int x3), none, none, none, none, none, none] [] h 0 0 Q) : i_C i_MT i_AT L xs 290 [.ref x0, .int x1, .int x2, .int x3] h Q := ⟨i_m290, i_k290.1, Nat.le_of_ble_eq_true rfl, H⟩
theorem b290_0 {x0 : Nat} {x1 : Int32} {x2 : Int32} {x3 : Int32} {x4 : Option Value} {x5 : Option Value} {x6 : Option Value} {x7 : Option Value} {x8 : Option Value} {x9 : Option Value} {h : iH} {Q : Option Value → iH → Prop} (H : (i_obj? h x0 12 ∧ i_C i_MT i_AT L xs 254 [.ref x0, .int x1] h (fun v h1 => ∃ r2 : Int32, v = some (.int r2) ∧ i_P i_MT i_AT L xs 290 5 [some (.ref x0), some (.int x1), some (.int x2), some (.int x3), x4, x5, x6, x7, x8, x9] [.int r2] h1 0 0 Q))) : i_P i_MT i_AT L xs 290 0 [some (.ref x0), some (.int x1), some (.int x2), some (.int x3), x4, x5, x6, x7, x8, x9] [] h 0 0 Q := by
  have hk := i_k290
  refine g_s1 (pc2 := 1) hk rfl rfl rfl rfl rfl ?_
  refine g_s1 (pc2 := 2) hk rfl rfl rfl rfl rfl ?_
  obtain ⟨ho, H⟩ := H
  refine g_call hk rfl rfl i_k254.1 ⟨rfl, rfl⟩ rfl (i_rcv_v ho rfl (by decide)) rfl ?_
  exact H.mono (fun v h2 q => by obtain ⟨r, rfl, q⟩ := q; exact q)
theorem b290_5 {x0 : Nat} {x1 : Int32} {x2 : Int32} {x3 : Int32} {x4 : Option Value} {x5 : Option Value} {x6 : Option Value} {x7 : Option Value} {x8 : Option Value} {x9 : Option Value} {s0 : Int32} {h : iH} {Q : Option Value → iH → Prop} (H : ((s0 = 0 → i_P i_MT i_AT L xs 290 37 [some (.ref x0), some (.int x1), some (.int x2), some (.int x3), x4, x5, x6, x7, x8, x9] [] h 0 0 Q) ∧ (¬ (s0 = 0) → (i_obj? h x0 12 ∧ i_C i_MT i_AT L xs 249 [.ref x0, .long (x2.toInt64)] h (fun v h1 => ∃ r2 : Int32, v = some (.int r2) ∧ i_P i_MT i_AT L xs 290 14 [some (.ref x0), some (.int x1), some (.int x2), some (.int x3), x4, x5, x6, x7, x8, x9] [.int r2] h1 0 0 Q))))) : i_P i_MT i_AT L xs 290 5 [some (.ref x0), some (.int x1), some (.int x2), some (.int x3), x4, x5, x6, x7, x8, x9] [.int s0] h 0 0 Q := by
  have hk := i_k290
  refine g_if_eq hk rfl (fun hc => ?_) (fun hc => ?_)
  · have H := H.1 hc
    exact H
  · have H := H.2 hc
    refine g_s1 (pc2 := 9) hk rfl rfl rfl rfl rfl ?_
    refine g_s1 (pc2 := 10) hk rfl rfl rfl rfl rfl ?_
    refine g_s1 (pc2 := 11) hk rfl rfl rfl rfl rfl ?_
    obtain ⟨ho, H⟩ := H
    refine g_call hk rfl rfl i_k249.1 ⟨rfl, rfl⟩ rfl (i_rcv_v ho rfl (by decide)) rfl ?_
    exact H.mono (fun v h2 q => by obtain ⟨r, rfl, q⟩ := q; exact q)
theorem b290_14 {x0 : Nat} {x1 : Int32} {x2 : Int32} {x3 : Int32} {x4 : Option Value} {x5 : Option Value} {x6 : Option Value} {x7 : Option Value} {x8 : Option Value} {x9 : Option Value} {s0 : Int32} {h : iH} {Q : Option Value → iH → Prop} (H : ((s0 = 0 → i_P i_MT i_AT L xs 290 37 [some (.ref x0), some (.int x1), some (.int x2), some (.int x3), x4, x5, x6, x7, x8, x9] [] h 0 0 Q) ∧ (¬ (s0 = 0) → (i_obj? h x0 12 ∧ i_C i_MT i_AT L xs 250 [.ref x0, .int x2] h (fun v h1 => ∃ r2 : Int32, v = some (.int r2) ∧ i_P i_MT i_AT L xs 290 22 [some (.ref x0), some (.int x1), some (.int x2), some (.int x3), x4, x5, x6, x7, x8, x9] [.int r2] h1 0 0 Q))))) : i_P i_MT i_AT L xs 290 14 [some (.ref x0), some (.int x1), some (.int x2), some (.int x3), x4, x5, x6, x7, x8, x9] [.int s0] h 0 0 Q := by
  have hk := i_k290
  refine g_if_eq hk rfl (fun hc => ?_) (fun hc => ?_)
  · have H := H.1 hc
    exact H
  · have H := H.2 hc
    refine g_s1 (pc2 := 18) hk rfl rfl rfl rfl rfl ?_
    refine g_s1 (pc2 := 19) hk rfl rfl rfl rfl rfl ?_
    obtain ⟨ho, H⟩ := H
    refine g_call hk rfl rfl i_k250.1 ⟨rfl, rfl⟩ rfl (i_rcv_v ho rfl (by decide)) rfl ?_
    exact H.mono (fun v h2 q => by obtain ⟨r, rfl, q⟩ := q; exact q)
theorem b290_22 {x0 : Nat} {x1 : Int32} {x2 : Int32} {x3 : Int32} {x4 : Option Value} {x5 : Option Value} {x6 : Option Value} {x7 : Option Value} {x8 : Option Value} {x9 : Option Value} {s0 : Int32} {h : iH} {Q : Option Value → iH → Prop} (H : ((s0 = 0 → i_P i_MT i_AT L xs 290 37 [some (.ref x0), some (.int x1), some (.int x2), some (.int x3), x4, x5, x6, x7, x8, x9] [] h 0 0 Q) ∧ (¬ (s0 = 0) → (i_C i_MT i_AT L xs 212 [.long (x3.toInt64), .long (1 : Int64), .long (60 : Int64)] h (fun v h1 => ∃ r2 : Int32, v = some (.int r2) ∧ i_P i_MT i_AT L xs 290 34 [some (.ref x0), some (.int x1), some (.int x2), some (.int x3), x4, x5, x6, x7, x8, x9] [.int r2] h1 0 0 Q))))) : i_P i_MT i_AT L xs 290 22 [some (.ref x0), some (.int x1), some (.int x2), some (.int x3), x4, x5, x6, x7, x8, x9] [.int s0] h 0 0 Q := by
  have hk := i_k290
  refine g_if_eq hk rfl (fun hc => ?_) (fun hc => ?_)
  · have H := H.1 hc
    exact H
  · have H := H.2 hc
    refine g_s1 (pc2 := 26) hk rfl rfl rfl rfl rfl ?_
    refine g_s1 (pc2 := 27) hk rfl rfl rfl rfl rfl ?_
    refine g_s1 (pc2 := 28) (st2 := [.long (1 : Int64), .long (x3.toInt64)]) hk rfl rfl rfl rfl rfl ?_
    refine g_step (pc2 := 31) (st2 := [.long (60 : Int64), .long (1 : Int64), .long (x3.toInt64)]) hk rfl rfl rfl rfl ?_
    refine g_call hk rfl rfl i_k212.1 ⟨rfl, rfl⟩ rfl (i_rcv_0 rfl) rfl ?_
    exact H.mono (fun v h2 q => by obtain ⟨r, rfl, q⟩ := q; exact q)
theorem b290_34 {x0 : Nat} {x1 : Int32} {x2 : Int32} {x3 : Int32} {x4 : Option Value} {x5 : Option Value} {x6 : Option Value} {x7 : Option Value} {x8 : Option Value} {x9 : Option Value} {s0 : Int32} {h : iH} {Q : Option Value → iH → Prop} (H : ((¬ s0 = 0 → (i_obj? h x0 12 ∧ i_C i_MT i_AT L xs 248 [.ref x0] h (fun v h1 => ∃ r2 : Int32, v = some (.int r2) ∧ i_P i_MT i_AT L xs 290 47 [some (.ref x0), some (.int x1), some (.int x2), some (.int x3), x4, x5, x6, x7, x8, x9] [.int r2] h1 0 0 Q))) ∧ (¬ (¬ s0 = 0) → i_P i_MT i_AT L xs 290 37 [some (.ref x0), some (.int x1), some (.int x2), some (.int x3), x4, x5, x6, x7, x8, x9] [] h 0 0 Q))) : i_P i_MT i_AT L xs 290 34 [some (.ref x0), some (.int x1), some (.int x2), some (.int x3), x4, x5, x6, x7, x8, x9] [.int s0] h 0 0 Q := by
  have hk := i_k290
  refine g_if_ne hk rfl (fun hc => ?_) (fun hc => ?_)
  · have H := H.1 hc
    refine g_s1 (pc2 := 44) hk rfl rfl rfl rfl rfl ?_
    obtain ⟨ho, H⟩ := H
    refine g_call hk rfl rfl i_k248.1 ⟨rfl, rfl⟩ rfl (i_rcv_v ho rfl (by decide)) rfl ?_
    exact H.mono (fun v h2 q => by obtain ⟨r, rfl, q⟩ := q; exact q)
  · have H := H.2 hc
    exact H
theorem b290_37 {x0 : Nat} {x1 : Int32} {x2 : Int32} {x3 : Int32} {x4 : Option Value} {x5 : Option Value} {x6 : Option Value} {x7 : Option Value} {x8 : Option Value} {x9 : Option Value} {h : iH} {Q : Option Value → iH → Prop} (H : (i_obj? h x0 12 ∧ i_C i_MT i_AT L xs 201 [.ref x0, .int (1 : Int32)] h (fun v h1 => ∃ r2 : Int32, v = some (.int r2) ∧ i_P i_MT i_AT L xs 290 42 [some (.ref x0), some (.int x1), some (.int x2), some (.int x3), x4, x5, x6, x7, x8, x9] [.int r2] h1 0 0 Q))) : i_P i_MT i_AT L xs 290 37 [some (.ref x0), some (.int x1), some (.int x2), some (.int x3), x4, x5, x6, x7, x8, x9] [] h 0 0 Q := by
  have hk := i_k290
  refine g_s1 (pc2 := 38) hk rfl rfl rfl rfl rfl ?_
  refine g_s1 (pc2 := 39) (st2 := [.int (1 : Int32), .ref x0]) hk rfl rfl rfl rfl rfl ?_
  obtain ⟨ho, H⟩ := H
  refine g_call hk rfl rfl i_k201.1 ⟨rfl, rfl⟩ rfl (i_rcv_v ho rfl (by decide)) rfl ?_
  exact H.mono (fun v h2 q => by obtain ⟨r, rfl, q⟩ := q; exact q)
theorem b290_42 {x0 : Nat} {x1 : Int32} {x2 : Int32} {x3 : Int32} {x4 : Option Value} {x5 : Option Value} {x6 : Option Value} {x7 : Option Value} {x8 : Option Value} {x9 : Option Value} {s0 : Int32} {h : iH} {Q : Option Value → iH → Prop} (H : Q (some (.int s0)) h) : i_P i_MT i_AT L xs 290 42 [some (.ref x0), some (.int x1), some (.int x2), some (.int x3), x4, x5, x6, x7, x8, x9] [.int s0] h 0 0 Q := by
  have hk := i_k290
  exact g_ireturn hk rfl (by decide) (by decide) rfl H
theorem b290_47 {x0 : Nat} {x1 : Int32} {x2 : Int32} {x3 : Int32} {x4 : Option Value} {x5 : Option Value} {x6 : Option Value} {x7 : Option Value} {x8 : Option Value} {x9 : Option Value} {s0 : Int32} {h : iH} {Q : Option Value → iH → Prop} (H : i_P i_MT i_AT L xs 290 52 [some (.ref x0), some (.int x1), some (.int x2), some (.int x3), some (.int s0), some (.int (0 : Int32)), x6, x7, x8, x9] [] h 0 0 Q) : i_P i_MT i_AT L xs 290 47 [some (.ref x0), some (.int x1), some (.int x2), some (.int x3), x4, x5, x6, x7, x8, x9] [.int s0] h 0 0 Q := by
  have hk := i_k290
  refine g_s1 (pc2 := 49) (lo2 := [some (.ref x0), some (.int x1), some (.int x2), some (.int x3), some (.int s0), x5, x6, x7, x8, x9]) hk rfl rfl rfl rfl rfl ?_
  refine g_s1 (pc2 := 50) (st2 := [.int (0 : Int32)]) hk rfl rfl rfl rfl rfl ?_
  refine g_s1 (pc2 := 52) (lo2 := [some (.ref x0), some (.int x1), some (.int x2), some (.int x3), some (.int s0), some (.int (0 : Int32)), x6, x7, x8, x9]) hk rfl rfl rfl rfl rfl ?_
  exact H
theorem b290_52 {x0 : Nat} {x1 : Int32} {x2 : Int32} {x3 : Int32} {x4 : Int32} {x5 : Int32} {x6 : Option Value} {x7 : Option Value} {x8 : Option Value} {x9 : Option Value} {h : iH} {Q : Option Value → iH → Prop} (H : ((x4 ≤ x5 → i_P i_MT i_AT L xs 290 99 [some (.ref x0), some (.int x1), some (.int x2), some (.int x3), some (.int x4), some (.int (1 : Int32)), x6, x7, x8, x9] [] h 0 0 Q) ∧ (¬ (x4 ≤ x5) → (∃ v1 : Nat, i_fld h x0 12 37 = some (.ref v1) ∧ (∃ v2 : Nat, i_fld h x0 12 0 = some (.ref v2) ∧ (∃ (n3 : Nat) (f4 : Nat → Int32), i_arI h 0 v2 = some (n3, f4) ∧ ¬ (((154 : Int32) + ((5 : Int32) * x1)) < 0 ∨ n3 ≤ ((154 : Int32) + ((5 : Int32) * x1)).toNatClampNeg) ∧ ((¬ x5 = (f4 ((154 : Int32) + ((5 : Int32) * x1)).toNatClampNeg) → i_P i_MT i_AT L xs 290 89 [some (.ref x0), some (.int x1), some (.int x2), some (.int x3), some (.int x4), some (.int x5), x6, x7, x8, x9] [.int (-1 : Int32), .int x5, .ref v1] h 0 0 Q) ∧ (¬ (¬ x5 = (f4 ((154 : Int32) + ((5 : Int32) * x1)).toNatClampNeg)) → i_P i_MT i_AT L xs 290 89 [some (.ref x0), some (.int x1), some (.int x2), some (.int x3), some (.int x4), some (.int x5), x6, x7, x8, x9] [.int (1000000 : Int32), .int x5, .ref v1] h 0 0 Q)))))))) : i_P i_MT i_AT L xs 290 52 [some (.ref x0), some (.int x1), some (.int x2), some (.int x3), some (.int x4), some (.int x5), x6, x7, x8, x9] [] h 0 0 Q := by
  have hk := i_k290
  refine g_s1 (pc2 := 54) hk rfl rfl rfl rfl rfl ?_
  refine g_s1 (pc2 := 56) hk rfl rfl rfl rfl rfl ?_
  refine g_icmp_ge hk rfl (fun hc => ?_) (fun hc => ?_)
  · have H := H.1 hc
    refine g_s1 (pc2 := 97) (st2 := [.int (1 : Int32)]) hk rfl rfl rfl rfl rfl ?_
    refine g_s1 (pc2 := 99) (lo2 := [some (.ref x0), some (.int x1), some (.int x2), some (.int x3), some (.int x4), some (.int (1 : Int32)), x6, x7, x8, x9]) hk rfl rfl rfl rfl rfl ?_
    exact H
  · have H := H.2 hc
    refine g_s1 (pc2 := 60) hk rfl rfl rfl rfl rfl ?_
    obtain ⟨v1, ev1, H⟩ := H
    refine g_step (pc2 := 63) hk rfl rfl rfl (s_get ev1) ?_
    refine g_s1 (pc2 := 65) hk rfl rfl rfl rfl rfl ?_
    refine g_s1 (pc2 := 67) hk rfl rfl rfl rfl rfl ?_
    refine g_s1 (pc2 := 68) hk rfl rfl rfl rfl rfl ?_
    obtain ⟨v2, ev2, H⟩ := H
    refine g_step (pc2 := 71) hk rfl rfl rfl (s_get ev2) ?_
    refine g_s1 (pc2 := 74) (st2 := [.int (154 : Int32), .ref v2, .int x5, .int x5, .ref v1]) hk rfl rfl rfl rfl rfl ?_
    refine g_s1 (pc2 := 75) (st2 := [.int (5 : Int32), .int (154 : Int32), .ref v2, .int x5, .int x5, .ref v1]) hk rfl rfl rfl rfl rfl ?_
    refine g_s1 (pc2 := 76) hk rfl rfl rfl rfl rfl ?_
    refine g_s1 (pc2 := 77) hk rfl rfl rfl rfl rfl ?_
    refine g_s1 (pc2 := 78) hk rfl rfl rfl rfl rfl ?_
    obtain ⟨n3, f4, ef4, hi, H⟩ := H
    refine g_step (pc2 := 79) hk rfl rfl rfl (s_aget (L := L) (xs := xs) ef4 hi) ?_
    refine g_icmp_ne hk rfl (fun hc => ?_) (fun hc => ?_)
    · have H := H.1 hc
      refine g_s1 (pc2 := 89) (st2 := [.int (-1 : Int32), .int x5, .ref v1]) hk rfl rfl rfl rfl rfl ?_
      exact H
    · have H := H.2 hc
      refine g_step (pc2 := 85) (st2 := [.int (1000000 : Int32), .int x5, .ref v1]) hk rfl rfl rfl rfl ?_
      refine g_s1 (pc2 := 89) hk rfl rfl rfl rfl rfl ?_
      exact H
theorem b290_89 {x0 : Nat} {x1 : Int32} {x2 : Int32} {x3 : Int32} {x4 : Int32} {x5 : Int32} {x6 : Option Value} {x7 : Option Value} {x8 : Option Value} {x9 : Option Value} {s0 : Nat} {s1 : Int32} {s2 : Int32} {h : iH} {Q : Option Value → iH → Prop} (H : (∃ (n1 : Nat) (f2 : Nat → Int32), i_arI h 0 s0 = some (n1, f2) ∧ ¬ (s1 < 0 ∨ n1 ≤ s1.toNatClampNeg) ∧ i_P i_MT i_AT L xs 290 90 [some (.ref x0), some (.int x1), some (.int x2), some (.int x3), some (.int x4), some (.int x5), x6, x7, x8, x9] [] (i_siI h s0 s1.toNatClampNeg s2) 0 0 Q)) : i_P i_MT i_AT L xs 290 89 [some (.ref x0), some (.int x1), some (.int x2), some (.int x3), some (.int x4), some (.int x5), x6, x7, x8, x9] [.int s2, .int s1, .ref s0] h 0 0 Q := by
  have hk := i_k290
  obtain ⟨n1, f2, ef2, hi, H⟩ := H
  refine g_step (pc2 := 90) hk rfl rfl rfl (s_aput ef2 hi) ?_
  exact H
theorem b290_90 {x0 : Nat} {x1 : Int32} {x2 : Int32} {x3 : Int32} {x4 : Int32} {x5 : Int32} {x6 : Option Value} {x7 : Option Value} {x8 : Option Value} {x9 : Option Value} {h : iH} {Q : Option Value → iH → Prop} (H : i_P i_MT i_AT L xs 290 52 [some (.ref x0), some (.int x1), some (.int x2), some (.int x3), some (.int x4), some (.int (x5 + 1)), x6, x7, x8, x9] [] h 0 0 Q) : i_P i_MT i_AT L xs 290 90 [some (.ref x0), some (.int x1), some (.int x2), some (.int x3), some (.int x4), some (.int x5), x6, x7, x8, x9] [] h 0 0 Q := by
  have hk := i_k290
  refine g_s1 (pc2 := 93) (lo2 := [some (.ref x0), some (.int x1), some (.int x2), some (.int x3), some (.int x4), some (.int (x5 + 1)), x6, x7, x8, x9]) hk rfl rfl rfl rfl rfl ?_
  refine g_s1 (pc2 := 52) hk rfl rfl rfl rfl rfl ?_
  exact H
theorem b290_99 {x0 : Nat} {x1 : Int32} {x2 : Int32} {x3 : Int32} {x4 : Int32} {x5 : Int32} {x6 : Option Value} {x7 : Option Value} {x8 : Option Value} {x9 : Option Value} {h : iH} {Q : Option Value → iH → Prop} (H : ((x3 < x5 → (∃ v1 : Nat, i_fld h x0 12 37 = some (.ref v1) ∧ (∃ (n2 : Nat) (f3 : Nat → Int32), i_arI h 0 v1 = some (n2, f3) ∧ ¬ (x2 < 0 ∨ n2 ≤ x2.toNatClampNeg) ∧ ((¬ (f3 x2.toNatClampNeg) = (-1 : Int32) → (∃ v4 : Nat, i_fld h x0 12 37 = some (.ref v4) ∧ (∃ (n5 : Nat) (f6 : Nat → Int32), i_arI h 0 v4 = some (n5, f6) ∧ ¬ (x2 < 0 ∨ n5 ≤ x2.toNatClampNeg) ∧ (i_obj? h x0 12 ∧ i_C i_MT i_AT L xs 202 [.ref x0, .int (f6 x2.toNatClampNeg)] h (fun v h7 => ∃ r8 : Int32, v = some (.int r8) ∧ i_P i_MT i_AT L xs 290 322 [some (.ref x0), some (.int x1), some (.int x2), some (.int x3), some (.int x4), some (.int x5), x6, x7, x8, x9] [.int r8] h7 0 0 Q))))) ∧ (¬ (¬ (f3 x2.toNatClampNeg) = (-1 : Int32)) → (i_obj? h x0 12 ∧ i_C i_MT i_AT L xs 201 [.ref x0, .int (6 : Int32)] h (fun v h9 => ∃ r10 : Int32, v = some (.int r10) ∧ i_P i_MT i_AT L xs 290 309 [some (.ref x0), some (.int x1), some (.int x2), some (.int x3), some (.int x4), some (.int x5), x6, x7, x8, x9] [.int r10] h9 0 0 Q))))))) ∧ (¬ (x3 < x5) → i_P i_MT i_AT L xs 290 108 [some (.ref x0), some (.int x1), some (.int x2), some (.int x3), some (.int x4), some (.int x5), some (.int (0 : Int32)), x7, x8, x9] [] h 0 0 Q))) : i_P i_MT i_AT L xs 290 99 [some (.ref x0), some (.int x1), some (.int x2), some (.int x3), some (.int x4), some (.int x5), x6, x7, x8, x9] [] h 0 0 Q := by
  have hk := i_k290
  refine g_s1 (pc2 := 101) hk rfl rfl rfl rfl rfl ?_
  refine g_s1 (pc2 := 102) hk rfl rfl rfl rfl rfl ?_
  refine g_icmp_gt hk rfl (fun hc => ?_) (fun hc => ?_)
  · have H := H.1 hc
    refine g_s1 (pc2 := 294) hk rfl rfl rfl rfl rfl ?_
    obtain ⟨v1, ev1, H⟩ := H
    refine g_step (pc2 := 297) hk rfl rfl rfl (s_get ev1) ?_
    refine g_s1 (pc2 := 298) hk rfl rfl rfl rfl rfl ?_
    obtain ⟨n2, f3, ef3, hi, H⟩ := H
    refine g_step (pc2 := 299) hk rfl rfl rfl (s_aget (L := L) (xs := xs) ef3 hi) ?_
    refine g_s1 (pc2 := 300) (st2 := [.int (-1 : Int32), .int (f3 x2.toNatClampNeg)]) hk rfl rfl rfl rfl rfl ?_
    refine g_icmp_ne hk rfl (fun hc => ?_) (fun hc => ?_)
    · have H := H.1 hc
      refine g_s1 (pc2 := 313) hk rfl rfl rfl rfl rfl ?_
      refine g_s1 (pc2 := 314) hk rfl rfl rfl rfl rfl ?_
      obtain ⟨v4, ev4, H⟩ := H
      refine g_step (pc2 := 317) hk rfl rfl rfl (s_get ev4) ?_
      refine g_s1 (pc2 := 318) hk rfl rfl rfl rfl rfl ?_
      obtain ⟨n5, f6, ef6, hi, H⟩ := H
      refine g_step (pc2 := 319) hk rfl rfl rfl (s_aget (L := L) (xs := xs) ef6 hi) ?_
      obtain ⟨ho, H⟩ := H
      refine g_call hk rfl rfl i_k202.1 ⟨rfl, rfl⟩ rfl (i_rcv_v ho rfl (by decide)) rfl ?_
      exact H.mono (fun v h2 q => by obtain ⟨r, rfl, q⟩ := q; exact q)
    · have H := H.2 hc
      refine g_s1 (pc2 := 304) hk rfl rfl rfl rfl rfl ?_
      refine g_s1 (pc2 := 306) (st2 := [.int (6 : Int32), .ref x0]) hk rfl rfl rfl rfl rfl ?_
      obtain ⟨ho, H⟩ := H
      refine g_call hk rfl rfl i_k201.1 ⟨rfl, rfl⟩ rfl (i_rcv_v ho rfl (by decide)) rfl ?_
      exact H.mono (fun v h2 q => by obtain ⟨r, rfl, q⟩ := q; exact q)
  · have H := H.2 hc
    refine g_s1 (pc2 := 106) (st2 := [.int (0 : Int32)]) hk rfl rfl rfl rfl rfl ?_
    refine g_s1 (pc2 := 108) (lo2 := [some (.ref x0), some (.int x1), some (.int x2), some (.int x3), some (.int x4), some (.int x5), some (.int (0 : Int32)), x7, x8, x9]) hk rfl rfl rfl rfl rfl ?_
    exact H
theorem b290_108 {x0 : Nat} {x1 : Int32} {x2 : Int32} {x3 : Int32} {x4 : Int32} {x5 : Int32} {x6 : Int32} {x7 : Option Value} {x8 : Option Value} {x9 : Option Value} {h : iH} {Q : Option Value → iH → Prop} (H : ((x4 ≤ x6 → i_P i_MT i_AT L xs 290 138 [some (.ref x0), some (.int x1), some (.int x2), some (.int x3), some (.int x4), some (.int x5), some (.int (0 : Int32)), x7, x8, x9] [] h 0 0 Q) ∧ (¬ (x4 ≤ x6) → (∃ v1 : Nat, i_fld h x0 12 38 = some (.ref v1) ∧ (∃ v2 : Nat, i_fld h x0 12 37 = some (.ref v2) ∧ (∃ (n3 : Nat) (f4 : Nat → Int32), i_arI h 0 v2 = some (n3, f4) ∧ ¬ (x6 < 0 ∨ n3 ≤ x6.toNatClampNeg) ∧ (∃ (n5 : Nat) (f6 : Nat → Int32), i_arI h 0 v1 = some (n5, f6) ∧ ¬ (x6 < 0 ∨ n5 ≤ x6.toNatClampNeg) ∧ i_P i_MT i_AT L xs 290 129 [some (.ref x0), some (.int x1), some (.int x2), some (.int x3), some (.int x4), some (.int x5), some (.int x6), x7, x8, x9] [] (i_siI h v1 x6.toNatClampNeg (f4 x6.toNatClampNeg)) 0 0 Q))))))) : i_P i_MT i_AT L xs 290 108 [some (.ref x0), some (.int x1), some (.int x2), some (.int x3), some (.int x4), some (.int x5), some (.int x6), x7, x8, x9] [] h 0 0 Q := by
  have hk := i_k290
  refine g_s1 (pc2 := 110) hk rfl rfl rfl rfl rfl ?_
  refine g_s1 (pc2 := 112) hk rfl rfl rfl rfl rfl ?_
  refine g_icmp_ge hk rfl (fun hc => ?_) (fun hc => ?_)
  · have H := H.1 hc
    refine g_s1 (pc2 := 136) (st2 := [.int (0 : Int32)]) hk rfl rfl rfl rfl rfl ?_
    refine g_s1 (pc2 := 138) (lo2 := [some (.ref x0), some (.int x1), some (.int x2), some (.int x3), some (.int x4), some (.int x5), some (.int (0 : Int32)), x7, x8, x9]) hk rfl rfl rfl rfl rfl ?_
    exact H
  · have H := H.2 hc
    refine g_s1 (pc2 := 116) hk rfl rfl rfl rfl rfl ?_
    obtain ⟨v1, ev1, H⟩ := H
    refine g_step (pc2 := 119) hk rfl rfl rfl (s_get ev1) ?_
    refine g_s1 (pc2 := 121) hk rfl rfl rfl rfl rfl ?_
    refine g_s1 (pc2 := 122) hk rfl rfl rfl rfl rfl ?_
    obtain ⟨v2, ev2, H⟩ := H
    refine g_step (pc2 := 125) hk rfl rfl rfl (s_get ev2) ?_
    refine g_s1 (pc2 := 127) hk rfl rfl rfl rfl rfl ?_
    obtain ⟨n3, f4, ef4, hi, H⟩ := H
    refine g_step (pc2 := 128) hk rfl rfl rfl (s_aget (L := L) (xs := xs) ef4 hi) ?_
    obtain ⟨n5, f6, ef6, hi, H⟩ := H
    refine g_step (pc2 := 129) hk rfl rfl rfl (s_aput ef6 hi) ?_
    exact H
theorem b290_129 {x0 : Nat} {x1 : Int32} {x2 : Int32} {x3 : Int32} {x4 : Int32} {x5 : Int32} {x6 : Int32} {x7 : Option Value} {x8 : Option Value} {x9 : Option Value} {h : iH} {Q : Option Value → iH → Prop} (H : i_P i_MT i_AT L xs 290 108 [some (.ref x0), some (.int x1), some (.int x2), some (.int x3), some (.int x4), some (.int x5), some (.int (x6 + 1)), x7, x8, x9] [] h 0 0 Q) : i_P i_MT i_AT L xs 290 129 [some (.ref x0), some (.int x1), some (.int x2), some (.int x3), some (.int x4), some (.int x5), some (.int x6), x7, x8, x9] [] h 0 0 Q := by
  have hk := i_k290
  refine g_s1 (pc2 := 132) (lo2 := [some (.ref x0), some (.int x1), some (.int x2), some (.int x3), some (.int x4), some (.int x5), some (.int (x6 + 1)), x7, x8, x9]) hk rfl rfl rfl rfl rfl ?_
  refine g_s1 (pc2 := 108) hk rfl rfl rfl rfl rfl ?_
  exact H
theorem b290_138 {x0 : Nat} {x1 : Int32} {x2 : Int32} {x3 : Int32} {x4 : Int32} {x5 : Int32} {x6 : Int32} {x7 : Option Value} {x8 : Option Value} {x9 : Option Value} {h : iH} {Q : Option Value → iH → Prop} (H : ((x4 ≤ x6 → i_P i_MT i_AT L xs 290 99 [some (.ref x0), some (.int x1), some (.int x2), some (.int x3), some (.int x4), some (.int (x5 + 1)), some (.int x6), x7, x8, x9] [] h 0 0 Q) ∧ (¬ (x4 ≤ x6) → (∃ v1 : Nat, i_fld h x0 12 38 = some (.ref v1) ∧ (∃ (n2 : Nat) (f3 : Nat → Int32), i_arI h 0 v1 = some (n2, f3) ∧ ¬ (x6 < 0 ∨ n2 ≤ x6.toNatClampNeg) ∧ ((¬ (f3 x6.toNatClampNeg) = (-1 : Int32) → (∃ v4 : Nat, i_fld h x0 12 38 = some (.ref v4) ∧ (∃ (n5 : Nat) (f6 : Nat → Int32), i_arI h 0 v4 = some (n5, f6) ∧ ¬ (x6 < 0 ∨ n5 ≤ x6.toNatClampNeg) ∧ (i_obj? h x0 12 ∧ i_C i_MT i_AT L xs 289 [.ref x0, .int (f6 x6.toNatClampNeg), .int x1, .int x6, .int (0 : Int32), .int x5] h (fun v h7 => ∃ r8 : Int32, v = some (.int r8) ∧ i_P i_MT i_AT L xs 290 177 [some (.ref x0), some (.int x1), some (.int x2), some (.int x3), some (.int x4), some (.int x5), some (.int x6), x7, x8, x9] [.int r8] h7 0 0 Q))))) ∧ (¬ (¬ (f3 x6.toNatClampNeg) = (-1 : Int32)) → i_P i_MT i_AT L xs 290 177 [some (.ref x0), some (.int x1), some (.int x2), some (.int x3), some (.int x4), some (.int x5), some (.int x6), x7, x8, x9] [.int (-1 : Int32)] h 0 0 Q))))))) : i_P i_MT i_AT L xs 290 138 [some (.ref x0), some (.int x1), some (.int x2), some (.int x3), some (.int x4), some (.int x5), some (.int x6), x7, x8, x9] [] h 0 0 Q := by
  have hk := i_k290
  refine g_s1 (pc2 := 140) hk rfl rfl rfl rfl rfl ?_
  refine g_s1 (pc2 := 142) hk rfl rfl rfl rfl rfl ?_
  refine g_icmp_ge hk rfl (fun hc => ?_) (fun hc => ?_)
  · have H := H.1 hc
    refine g_s1 (pc2 := 290) (lo2 := [some (.ref x0), some (.int x1), some (.int x2), some (.int x3), some (.int x4), some (.int (x5 + 1)), some (.int x6), x7, x8, x9]) hk rfl rfl rfl rfl rfl ?_
    refine g_s1 (pc2 := 99) hk rfl rfl rfl rfl rfl ?_
    exact H
  · have H := H.2 hc
    refine g_s1 (pc2 := 146) hk rfl rfl rfl rfl rfl ?_
    obtain ⟨v1, ev1, H⟩ := H
    refine g_step (pc2 := 149) hk rfl rfl rfl (s_get ev1) ?_
    refine g_s1 (pc2 := 151) hk rfl rfl rfl rfl rfl ?_
    obtain ⟨n2, f3, ef3, hi, H⟩ := H
    refine g_step (pc2 := 152) hk rfl rfl rfl (s_aget (L := L) (xs := xs) ef3 hi) ?_
    refine g_s1 (pc2 := 153) (st2 := [.int (-1 : Int32), .int (f3 x6.toNatClampNeg)]) hk rfl rfl rfl rfl rfl ?_
    refine g_icmp_ne hk rfl (fun hc => ?_) (fun hc => ?_)
    · have H := H.1 hc
      refine g_s1 (pc2 := 161) hk rfl rfl rfl rfl rfl ?_
      refine g_s1 (pc2 := 162) hk rfl rfl rfl rfl rfl ?_
      obtain ⟨v4, ev4, H⟩ := H
      refine g_step (pc2 := 165) hk rfl rfl rfl (s_get ev4) ?_
      refine g_s1 (pc2 := 167) hk rfl rfl rfl rfl rfl ?_
      obtain ⟨n5, f6, ef6, hi, H⟩ := H
      refine g_step (pc2 := 168) hk rfl rfl rfl (s_aget (L := L) (xs := xs) ef6 hi) ?_
      refine g_s1 (pc2 := 169) hk rfl rfl rfl rfl rfl ?_
      refine g_s1 (pc2 := 171) hk rfl rfl rfl rfl rfl ?_
      refine g_s1 (pc2 := 172) (st2 := [.int (0 : Int32), .int x6, .int x1, .int (f6 x6.toNatClampNeg), .ref x0]) hk rfl rfl rfl rfl rfl ?_
      refine g_s1 (pc2 := 174) hk rfl rfl rfl rfl rfl ?_
      obtain ⟨ho, H⟩ := H
      refine g_call hk rfl rfl i_k289.1 ⟨rfl, rfl⟩ rfl (i_rcv_v ho rfl (by decide)) rfl ?_
      exact H.mono (fun v h2 q => by obtain ⟨r, rfl, q⟩ := q; exact q)
    · have H := H.2 hc
      refine g_s1 (pc2 := 157) (st2 := [.int (-1 : Int32)]) hk rfl rfl rfl rfl rfl ?_
      refine g_s1 (pc2 := 177) hk rfl rfl rfl rfl rfl ?_
      exact H
theorem b290_177 {x0 : Nat} {x1 : Int32} {x2 : Int32} {x3 : Int32} {x4 : Int32} {x5 : Int32} {x6 : Int32} {x7 : Option Value} {x8 : Option Value} {x9 : Option Value} {s0 : Int32} {h : iH} {Q : Option Value → iH → Prop} (H : i_P i_MT i_AT L xs 290 185 [some (.ref x0), some (.int x1), some (.int x2), some (.int x3), some (.int x4), some (.int x5), some (.int x6), some (.int s0), some (.int (-1 : Int32)), some (.int (0 : Int32))] [] h 0 0 Q) : i_P i_MT i_AT L xs 290 177 [some (.ref x0), some (.int x1), some (.int x2), some (.int x3), some (.int x4), some (.int x5), some (.int x6), x7, x8, x9] [.int s0] h 0 0 Q := by
  have hk := i_k290
  refine g_s1 (pc2 := 179) (lo2 := [some (.ref x0), some (.int x1), some (.int x2), some (.int x3), some (.int x4), some (.int x5), some (.int x6), some (.int s0), x8, x9]) hk rfl rfl rfl rfl rfl ?_
  refine g_s1 (pc2 := 180) (st2 := [.int (-1 : Int32)]) hk rfl rfl rfl rfl rfl ?_
  refine g_s1 (pc2 := 182) (lo2 := [some (.ref x0), some (.int x1), some (.int x2), some (.int x3), some (.int x4), some (.int x5), some (.int x6), some (.int s0), some (.int (-1 : Int32)), x9]) hk rfl rfl rfl rfl rfl ?_
  refine g_s1 (pc2 := 183) (st2 := [.int (0 : Int32)]) hk rfl rfl rfl rfl rfl ?_
  refine g_s1 (pc2 := 185) (lo2 := [some (.ref x0), some (.int x1), some (.int x2), some (.int x3), some (.int x4), some (.int x5), some (.int x6), some (.int s0), some (.int (-1 : Int32)), some (.int (0 : Int32))]) hk rfl rfl rfl rfl rfl ?_
  exact H
theorem b290_185 {x0 : Nat} {x1 : Int32} {x2 : Int32} {x3 : Int32} {x4 : Int32} {x5 : Int32} {x6 : Int32} {x7 : Int32} {x8 : Int32} {x9 : Int32} {h : iH} {Q : Option Value → iH → Prop} (H : ((x4 ≤ x9 → ((x8 = (-1 : Int32) → i_P i_MT i_AT L xs 290 272 [some (.ref x0), some (.int x1), some (.int x2), some (.int x3), some (.int x4), some (.int x5), some (.int x6), some (.int x7), some (.int x8), some (.int x9)] [] h 0 0 Q) ∧ (¬ (x8 = (-1 : Int32)) → (i_obj? h x0 12 ∧ i_C i_MT i_AT L xs 250 [.ref x0, .int x6] h (fun v h1 => ∃ r2 : Int32, v = some (.int r2) ∧ i_P i_MT i_AT L xs 290 235 [some (.ref x0), some (.int x1), some (.int x2), some (.int x3), some (.int x4), some (.int x5), some (.int x6), some (.int x7), some (.int x8), some (.int x9)] [.int r2] h1 0 0 Q))))) ∧ (¬ (x4 ≤ x9) → (i_obj? h x0 12 ∧ i_C i_MT i_AT L xs 285 [.ref x0, .int x9, .int x6] h (fun v h3 => ∃ r4 : Int32, v = some (.int r4) ∧ i_P i_MT i_AT L xs 290 200 [some (.ref x0), some (.int x1), some (.int x2), some (.int x3), some (.int x4), some (.int x5), some (.int x6), some (.int x7), some (.int x8), some (.int x9)] [.int r4] h3 0 0 Q))))) : i_P i_MT i_AT L xs 290 185 [some (.ref x0), some (.int x1), some (.int x2), some (.int x3), some (.int x4), some (.int x5), some (.int x6), some (.int x7), some (.int x8), some (.int x9)] [] h 0 0 Q := by
  have hk := i_k290
  refine g_s1 (pc2 := 187) hk rfl rfl rfl rfl rfl ?_
  refine g_s1 (pc2 := 189) hk rfl rfl rfl rfl rfl ?_
  refine g_icmp_ge hk rfl (fun hc => ?_) (fun hc => ?_)
  · have H := H.1 hc
    refine g_s1 (pc2 := 225) hk rfl rfl rfl rfl rfl ?_
    refine g_s1 (pc2 := 226) (st2 := [.int (-1 : Int32), .int x8]) hk rfl rfl rfl rfl rfl ?_
    refine g_icmp_eq hk rfl (fun hc => ?_) (fun hc => ?_)
    · have H := H.1 hc
      exact H
    · have H := H.2 hc
      refine g_s1 (pc2 := 230) hk rfl rfl rfl rfl rfl ?_
      refine g_s1 (pc2 := 232) hk rfl rfl rfl rfl rfl ?_
      obtain ⟨ho, H⟩ := H
      refine g_call hk rfl rfl i_k250.1 ⟨rfl, rfl⟩ rfl (i_rcv_v ho rfl (by decide)) rfl ?_
      exact H.mono (fun v h2 q => by obtain ⟨r, rfl, q⟩ := q; exact q)
  · have H := H.2 hc
    refine g_s1 (pc2 := 193) hk rfl rfl rfl rfl rfl ?_
    refine g_s1 (pc2 := 195) hk rfl rfl rfl rfl rfl ?_
    refine g_s1 (pc2 := 197) hk rfl rfl rfl rfl rfl ?_
    obtain ⟨ho, H⟩ := H
    refine g_call hk rfl rfl i_k285.1 ⟨rfl, rfl⟩ rfl (i_rcv_v ho rfl (by decide)) rfl ?_
    exact H.mono (fun v h2 q => by obtain ⟨r, rfl, q⟩ := q; exact q)
theorem b290_200 {x0 : Nat} {x1 : Int32} {x2 : Int32} {x3 : Int32} {x4 : Int32} {x5 : Int32} {x6 : Int32} {x7 : Int32} {x8 : Int32} {x9 : Int32} {s0 : Int32} {h : iH} {Q : Option Value → iH → Prop} (H : ((s0 = 0 → i_P i_MT i_AT L xs 290 217 [some (.ref x0), some (.int x1), some (.int x2), some (.int x3), some (.int x4), some (.int x5), some (.int x6), some (.int x7), some (.int x8), some (.int x9)] [] h 0 0 Q) ∧ (¬ (s0 = 0) → (∃ v1 : Nat, i_fld h x0 12 38 = some (.ref v1) ∧ (∃ (n2 : Nat) (f3 : Nat → Int32), i_arI h 0 v1 = some (n2, f3) ∧ ¬ (x9 < 0 ∨ n2 ≤ x9.toNatClampNeg) ∧ (i_C i_MT i_AT L xs 336 [.int x8, .int (f3 x9.toNatClampNeg)] h (fun v h4 => ∃ r5 : Int32, v = some (.int r5) ∧ i_P i_MT i_AT L xs 290 215 [some (.ref x0), some (.int x1), some (.int x2), some (.int x3), some (.int x4), some (.int x5), some (.int x6), some (.int x7), some (.int x8), some (.int x9)] [.int r5] h4 0 0 Q))))))) : i_P i_MT i_AT L xs 290 200 [some (.ref x0), some (.int x1), some (.int x2), some (.int x3), some (.int x4), some (.int x5), some (.int x6), some (.int x7), some (.int x8), some (.int x9)] [.int s0] h 0 0 Q := by
  have hk := i_k290
  refine g_if_eq hk rfl (fun hc => ?_) (fun hc => ?_)
  · have H := H.1 hc
    exact H
  · have H := H.2 hc
    refine g_s1 (pc2 := 205) hk rfl rfl rfl rfl rfl ?_
    refine g_s1 (pc2 := 206) hk rfl rfl rfl rfl rfl ?_
    obtain ⟨v1, ev1, H⟩ := H
    refine g_step (pc2 := 209) hk rfl rfl rfl (s_get ev1) ?_
    refine g_s1 (pc2 := 211) hk rfl rfl rfl rfl rfl ?_
    obtain ⟨n2, f3, ef3, hi, H⟩ := H
    refine g_step (pc2 := 212) hk rfl rfl rfl (s_aget (L := L) (xs := xs) ef3 hi) ?_
    refine g_call hk rfl rfl i_k336.1 ⟨rfl, rfl⟩ rfl (i_rcv_0 rfl) rfl ?_
    exact H.mono (fun v h2 q => by obtain ⟨r, rfl, q⟩ := q; exact q)
theorem b290_215 {x0 : Nat} {x1 : Int32} {x2 : Int32} {x3 : Int32} {x4 : Int32} {x5 : Int32} {x6 : Int32} {x7 : Int32} {x8 : Int32} {x9 : Int32} {s0 : Int32} {h : iH} {Q : Option Value → iH → Prop} (H : i_P i_MT i_AT L xs 290 217 [some (.ref x0), some (.int x1), some (.int x2), some (.int x3), some (.int x4), some (.int x5), some (.int x6), some (.int x7), some (.int s0), some (.int x9)] [] h 0 0 Q) : i_P i_MT i_AT L xs 290 215 [some (.ref x0), some (.int x1), some (.int x2), some (.int x3), some (.int x4), some (.int x5), some (.int x6), some (.int x7), some (.int x8), some (.int x9)] [.int s0] h 0 0 Q := by
  have hk := i_k290
  refine g_s1 (pc2 := 217) (lo2 := [some (.ref x0), some (.int x1), some (.int x2), some (.int x3), some (.int x4), some (.int x5), some (.int x6), some (.int x7), some (.int s0), some (.int x9)]) hk rfl rfl rfl rfl rfl ?_
  exact H
theorem b290_217 {x0 : Nat} {x1 : Int32} {x2 : Int32} {x3 : Int32} {x4 : Int32} {x5 : Int32} {x6 : Int32} {x7 : Int32} {x8 : Int32} {x9 : Int32} {h : iH} {Q : Option Value → iH → Prop} (H : i_P i_MT i_AT L xs 290 185 [some (.ref x0), some (.int x1), some (.int x2), some (.int x3), some (.int x4), some (.int x5), some (.int x6), some (.int x7), some (.int x8), some (.int (x9 + 1))] [] h 0 0 Q) : i_P i_MT i_AT L xs 290 217 [some (.ref x0), some (.int x1), some (.int x2), some (.int x3), some (.int x4), some (.int x5), some (.int x6), some (.int x7), some (.int x8), some (.int x9)] [] h 0 0 Q := by
  have hk := i_k290
  refine g_s1 (pc2 := 220) (lo2 := [some (.ref x0), some (.int x1), some (.int x2), some (.int x3), some (.int x4), some (.int x5), some (.int x6), some (.int x7), some (.int x8), some (.int (x9 + 1))]) hk rfl rfl rfl rfl rfl ?_
  refine g_s1 (pc2 := 185) hk rfl rfl rfl rfl rfl ?_
  exact H
theorem b290_235 {x0 : Nat} {x1 : Int32} {x2 : Int32} {x3 : Int32} {x4 : Int32} {x5 : Int32} {x6 : Int32} {x7 : Int32} {x8 : Int32} {x9 : Int32} {s0 : Int32} {h : iH} {Q : Option Value → iH → Prop} (H : ((s0 = 0 → i_P i_MT i_AT L xs 290 272 [some (.ref x0), some (.int x1), some (.int x2), some (.int x3), some (.int x4), some (.int x5), some (.int x6), some (.int x7), some (.int x8), some (.int x9)] [] h 0 0 Q) ∧ (¬ (s0 = 0) → (i_obj? h x0 12 ∧ i_C i_MT i_AT L xs 289 [.ref x0, .int x8, .int x1, .int x6, .int (2 : Int32), .int x5] h (fun v h1 => ∃ r2 : Int32, v = some (.int r2) ∧ i_P i_MT i_AT L xs 290 252 [some (.ref x0), some (.int x1), some (.int x2), some (.int x3), some (.int x4), some (.int x5), some (.int x6), some (.int x7), some (.int x8), some (.int x9)] [.int r2, .int x7] h1 0 0 Q))))) : i_P i_MT i_AT L xs 290 235 [some (.ref x0), some (.int x1), some (.int x2), some (.int x3), some (.int x4), some (.int x5), some (.int x6), some (.int x7), some (.int x8), some (.int x9)] [.int s0] h 0 0 Q := by
  have hk := i_k290
  refine g_if_eq hk rfl (fun hc => ?_) (fun hc => ?_)
  · have H := H.1 hc
    exact H
  · have H := H.2 hc
    refine g_s1 (pc2 := 240) hk rfl rfl rfl rfl rfl ?_
    refine g_s1 (pc2 := 241) hk rfl rfl rfl rfl rfl ?_
    refine g_s1 (pc2 := 243) hk rfl rfl rfl rfl rfl ?_
    refine g_s1 (pc2 := 244) hk rfl rfl rfl rfl rfl ?_
    refine g_s1 (pc2 := 246) hk rfl rfl rfl rfl rfl ?_
    refine g_s1 (pc2 := 247) (st2 := [.int (2 : Int32), .int x6, .int x1, .int x8, .ref x0, .int x7]) hk rfl rfl rfl rfl rfl ?_
    refine g_s1 (pc2 := 249) hk rfl rfl rfl rfl rfl ?_
    obtain ⟨ho, H⟩ := H
    refine g_call hk rfl rfl i_k289.1 ⟨rfl, rfl⟩ rfl (i_rcv_v ho rfl (by decide)) rfl ?_
    exact H.mono (fun v h2 q => by obtain ⟨r, rfl, q⟩ := q; exact q)
theorem b290_252 {x0 : Nat} {x1 : Int32} {x2 : Int32} {x3 : Int32} {x4 : Int32} {x5 : Int32} {x6 : Int32} {x7 : Int32} {x8 : Int32} {x9 : Int32} {s0 : Int32} {s1 : Int32} {h : iH} {Q : Option Value → iH → Prop} (H : (i_obj? h x0 12 ∧ i_C i_MT i_AT L xs 289 [.ref x0, .int x8, .int x1, .int x6, .int (1 : Int32), .int x5] h (fun v h1 => ∃ r2 : Int32, v = some (.int r2) ∧ i_P i_MT i_AT L xs 290 264 [some (.ref x0), some (.int x1), some (.int x2), some (.int x3), some (.int x4), some (.int x5), some (.int x6), some (.int x7), some (.int x8), some (.int x9)] [.int r2, .int s1, .int s0] h1 0 0 Q))) : i_P i_MT i_AT L xs 290 252 [some (.ref x0), some (.int x1), some (.int x2), some (.int x3), some (.int x4), some (.int x5), some (.int x6), some (.int x7), some (.int x8), some (.int x9)] [.int s1, .int s0] h 0 0 Q := by
  have hk := i_k290
  refine g_s1 (pc2 := 253) hk rfl rfl rfl rfl rfl ?_
  refine g_s1 (pc2 := 255) hk rfl rfl rfl rfl rfl ?_
  refine g_s1 (pc2 := 256) hk rfl rfl rfl rfl rfl ?_
  refine g_s1 (pc2 := 258) hk rfl rfl rfl rfl rfl ?_
  refine g_s1 (pc2 := 259) (st2 := [.int (1 : Int32), .int x6, .int x1, .int x8, .ref x0, .int s1, .int s0]) hk rfl rfl rfl rfl rfl ?_
  refine g_s1 (pc2 := 261) hk rfl rfl rfl rfl rfl ?_
  obtain ⟨ho, H⟩ := H
  refine g_call hk rfl rfl i_k289.1 ⟨rfl, rfl⟩ rfl (i_rcv_v ho rfl (by decide)) rfl ?_
  exact H.mono (fun v h2 q => by obtain ⟨r, rfl, q⟩ := q; exact q)
theorem b290_264 {x0 : Nat} {x1 : Int32} {x2 : Int32} {x3 : Int32} {x4 : Int32} {x5 : Int32} {x6 : Int32} {x7 : Int32} {x8 : Int32} {x9 : Int32} {s0 : Int32} {s1 : Int32} {s2 : Int32} {h : iH} {Q : Option Value → iH → Prop} (H : (i_C i_MT i_AT L xs 336 [.int s1, .int s2] h (fun v h1 => ∃ r2 : Int32, v = some (.int r2) ∧ i_P i_MT i_AT L xs 290 267 [some (.ref x0), some (.int x1), some (.int x2), some (.int x3), some (.int x4), some (.int x5), some (.int x6), some (.int x7), some (.int x8), some (.int x9)] [.int r2, .int s0] h1 0 0 Q))) : i_P i_MT i_AT L xs 290 264 [some (.ref x0), some (.int x1), some (.int x2), some (.int x3), some (.int x4), some (.int x5), some (.int x6), some (.int x7), some (.int x8), some (.int x9)] [.int s2, .int s1, .int s0] h 0 0 Q := by
  have hk := i_k290
  refine g_call hk rfl rfl i_k336.1 ⟨rfl, rfl⟩ rfl (i_rcv_0 rfl) rfl ?_
  exact H.mono (fun v h2 q => by obtain ⟨r, rfl, q⟩ := q; exact q)
theorem b290_267 {x0 : Nat} {x1 : Int32} {x2 : Int32} {x3 : Int32} {x4 : Int32} {x5 : Int32} {x6 : Int32} {x7 : Int32} {x8 : Int32} {x9 : Int32} {s0 : Int32} {s1 : Int32} {h : iH} {Q : Option Value → iH → Prop} (H : (i_C i_MT i_AT L xs 336 [.int s0, .int s1] h (fun v h1 => ∃ r2 : Int32, v = some (.int r2) ∧ i_P i_MT i_AT L xs 290 270 [some (.ref x0), some (.int x1), some (.int x2), some (.int x3), some (.int x4), some (.int x5), some (.int x6), some (.int x7), some (.int x8), some (.int x9)] [.int r2] h1 0 0 Q))) : i_P i_MT i_AT L xs 290 267 [some (.ref x0), some (.int x1), some (.int x2), some (.int x3), some (.int x4), some (.int x5), some (.int x6), some (.int x7), some (.int x8), some (.int x9)] [.int s1, .int s0] h 0 0 Q := by
  have hk := i_k290
  refine g_call hk rfl rfl i_k336.1 ⟨rfl, rfl⟩ rfl (i_rcv_0 rfl) rfl ?_
  exact H.mono (fun v h2 q => by obtain ⟨r, rfl, q⟩ := q; exact q)
theorem b290_270 {x0 : Nat} {x1 : Int32} {x2 : Int32} {x3 : Int32} {x4 : Int32} {x5 : Int32} {x6 : Int32} {x7 : Int32} {x8 : Int32} {x9 : Int32} {s0 : Int32} {h : iH} {Q : Option Value → iH → Prop} (H : i_P i_MT i_AT L xs 290 272 [some (.ref x0), some (.int x1), some (.int x2), some (.int x3), some (.int x4), some (.int x5), some (.int x6), some (.int s0), some (.int x8), some (.int x9)] [] h 0 0 Q) : i_P i_MT i_AT L xs 290 270 [some (.ref x0), some (.int x1), some (.int x2), some (.int x3), some (.int x4), some (.int x5), some (.int x6), some (.int x7), some (.int x8), some (.int x9)] [.int s0] h 0 0 Q := by
  have hk := i_k290
  refine g_s1 (pc2 := 272) (lo2 := [some (.ref x0), some (.int x1), some (.int x2), some (.int x3), some (.int x4), some (.int x5), some (.int x6), some (.int s0), some (.int x8), some (.int x9)]) hk rfl rfl rfl rfl rfl ?_
  exact H
theorem b290_272 {x0 : Nat} {x1 : Int32} {x2 : Int32} {x3 : Int32} {x4 : Int32} {x5 : Int32} {x6 : Int32} {x7 : Int32} {x8 : Int32} {x9 : Int32} {h : iH} {Q : Option Value → iH → Prop} (H : (∃ v1 : Nat, i_fld h x0 12 37 = some (.ref v1) ∧ (∃ (n2 : Nat) (f3 : Nat → Int32), i_arI h 0 v1 = some (n2, f3) ∧ ¬ (x6 < 0 ∨ n2 ≤ x6.toNatClampNeg) ∧ i_P i_MT i_AT L xs 290 281 [some (.ref x0), some (.int x1), some (.int x2), some (.int x3), some (.int x4), some (.int x5), some (.int x6), some (.int x7), some (.int x8), some (.int x9)] [] (i_siI h v1 x6.toNatClampNeg x7) 0 0 Q))) : i_P i_MT i_AT L xs 290 272 [some (.ref x0), some (.int x1), some (.int x2), some (.int x3), some (.int x4), some (.int x5), some (.int x6), some (.int x7), some (.int x8), some (.int x9)] [] h 0 0 Q := by
  have hk := i_k290
  refine g_s1 (pc2 := 273) hk rfl rfl rfl rfl rfl ?_
  obtain ⟨v1, ev1, H⟩ := H
  refine g_step (pc2 := 276) hk rfl rfl rfl (s_get ev1) ?_
  refine g_s1 (pc2 := 278) hk rfl rfl rfl rfl rfl ?_
  refine g_s1 (pc2 := 280) hk rfl rfl rfl rfl rfl ?_
  obtain ⟨n2, f3, ef3, hi, H⟩ := H
  refine g_step (pc2 := 281) hk rfl rfl rfl (s_aput ef3 hi) ?_
  exact H
theorem b290_281 {x0 : Nat} {x1 : Int32} {x2 : Int32} {x3 : Int32} {x4 : Int32} {x5 : Int32} {x6 : Int32} {x7 : Int32} {x8 : Int32} {x9 : Int32} {h : iH} {Q : Option Value → iH → Prop} (H : i_P i_MT i_AT L xs 290 138 [some (.ref x0), some (.int x1), some (.int x2), some (.int x3), some (.int x4), some (.int x5), some (.int (x6 + 1)), some (.int x7), some (.int x8), some (.int x9)] [] h 0 0 Q) : i_P i_MT i_AT L xs 290 281 [some (.ref x0), some (.int x1), some (.int x2), some (.int x3), some (.int x4), some (.int x5), some (.int x6), some (.int x7), some (.int x8), some (.int x9)] [] h 0 0 Q := by
  have hk := i_k290
  refine g_s1 (pc2 := 284) (lo2 := [some (.ref x0), some (.int x1), some (.int x2), some (.int x3), some (.int x4), some (.int x5), some (.int (x6 + 1)), some (.int x7), some (.int x8), some (.int x9)]) hk rfl rfl rfl rfl rfl ?_
  refine g_s1 (pc2 := 138) hk rfl rfl rfl rfl rfl ?_
  exact H
theorem b290_309 {x0 : Nat} {x1 : Int32} {x2 : Int32} {x3 : Int32} {x4 : Int32} {x5 : Int32} {x6 : Option Value} {x7 : Option Value} {x8 : Option Value} {x9 : Option Value} {s0 : Int32} {h : iH} {Q : Option Value → iH → Prop} (H : i_P i_MT i_AT L xs 290 322 [some (.ref x0), some (.int x1), some (.int x2), some (.int x3), some (.int x4), some (.int x5), x6, x7, x8, x9] [.int s0] h 0 0 Q) : i_P i_MT i_AT L xs 290 309 [some (.ref x0), some (.int x1), some (.int x2), some (.int x3), some (.int x4), some (.int x5), x6, x7, x8, x9] [.int s0] h 0 0 Q := by
  have hk := i_k290
  refine g_s1 (pc2 := 322) hk rfl rfl rfl rfl rfl ?_
  exact H
theorem b290_322 {x0 : Nat} {x1 : Int32} {x2 : Int32} {x3 : Int32} {x4 : Int32} {x5 : Int32} {x6 : Option Value} {x7 : Option Value} {x8 : Option Value} {x9 : Option Value} {s0 : Int32} {h : iH} {Q : Option Value → iH → Prop} (H : Q (some (.int s0)) h) : i_P i_MT i_AT L xs 290 322 [some (.ref x0), some (.int x1), some (.int x2), some (.int x3), some (.int x4), some (.int x5), x6, x7, x8, x9] [.int s0] h 0 0 Q := by
  have hk := i_k290
  exact g_ireturn hk rfl (by decide) (by decide) rfl H
/-! StillTownModel.seenBy(IIII)I -/
theorem e291 {x0 : Nat} {x1 : Int32} {x2 : Int32} {x3 : Int32} {x4 : Int32} {h : iH} {Q : Option Value → iH → Prop} (H : i_P i_MT i_AT L xs 291 0 [some (.ref x0), some (.int x1), some (.int x2), some (.int x3), some (.int x4), none, none] [] h 0 0 Q) : i_C i_MT i_AT L xs 291 [.ref x0, .int x1, .int x2, .int x3, .int x4] h Q := ⟨i_m291, i_k291.1, Nat.le_of_ble_eq_true rfl, H⟩
theorem b291_0 {x0 : Nat} {x1 : Int32} {x2 : Int32} {x3 : Int32} {x4 : Int32} {x5 : Option Value} {x6 : Option Value} {h : iH} {Q : Option Value → iH → Prop} (H : i_P i_MT i_AT L xs 291 6 [some (.ref x0), some (.int x1), some (.int x2), some (.int x3), some (.int x4), some (.int (0 : Int32)), some (.int (0 : Int32))] [] h 0 0 Q) : i_P i_MT i_AT L xs 291 0 [some (.ref x0), some (.int x1), some (.int x2), some (.int x3), some (.int x4), x5, x6] [] h 0 0 Q := by
  have hk := i_k291
  refine g_s1 (pc2 := 1) (st2 := [.int (0 : Int32)]) hk rfl rfl rfl rfl rfl ?_
  refine g_s1 (pc2 := 3) (lo2 := [some (.ref x0), some (.int x1), some (.int x2), some (.int x3), some (.int x4), some (.int (0 : Int32)), x6]) hk rfl rfl rfl rfl rfl ?_
  refine g_s1 (pc2 := 4) (st2 := [.int (0 : Int32)]) hk rfl rfl rfl rfl rfl ?_
  refine g_s1 (pc2 := 6) (lo2 := [some (.ref x0), some (.int x1), some (.int x2), some (.int x3), some (.int x4), some (.int (0 : Int32)), some (.int (0 : Int32))]) hk rfl rfl rfl rfl rfl ?_
  exact H
theorem b291_6 {x0 : Nat} {x1 : Int32} {x2 : Int32} {x3 : Int32} {x4 : Int32} {x5 : Int32} {x6 : Int32} {h : iH} {Q : Option Value → iH → Prop} (H : (∃ v1 : Nat, i_fld h x0 12 0 = some (.ref v1) ∧ (∃ (n2 : Nat) (f3 : Nat → Int32), i_arI h 0 v1 = some (n2, f3) ∧ ¬ ((5 : Int32) < 0 ∨ n2 ≤ (5 : Int32).toNatClampNeg) ∧ (((f3 (5 : Int32).toNatClampNeg) ≤ x6 → Q (some (.int x5)) h) ∧ (¬ ((f3 (5 : Int32).toNatClampNeg) ≤ x6) → ((¬ ((x1 >>> (x6 &&& 31)) &&& (1 : Int32)) = (1 : Int32) → i_P i_MT i_AT L xs 291 51 [some (.ref x0), some (.int x1), some (.int x2), some (.int x3), some (.int x4), some (.int x5), some (.int x6)] [.int x5] h 0 0 Q) ∧ (¬ (¬ ((x1 >>> (x6 &&& 31)) &&& (1 : Int32)) = (1 : Int32)) → (i_obj? h x0 12 ∧ i_C i_MT i_AT L xs 275 [.ref x0, .int x6, .int x2, .int x3, .int x4] h (fun v h4 => ∃ r5 : Int32, v = some (.int r5) ∧ i_P i_MT i_AT L xs 291 39 [some (.ref x0), some (.int x1), some (.int x2), some (.int x3), some (.int x4), some (.int x5), some (.int x6)] [.int r5, .int x5] h4 0 0 Q))))))))) : i_P i_MT i_AT L xs 291 6 [some (.ref x0), some (.int x1), some (.int x2), some (.int x3), some (.int x4), some (.int x5), some (.int x6)] [] h 0 0 Q := by
  have hk := i_k291
  refine g_s1 (pc2 := 8) hk rfl rfl rfl rfl rfl ?_
  refine g_s1 (pc2 := 9) hk rfl rfl rfl rfl rfl ?_
  obtain ⟨v1, ev1, H⟩ := H
  refine g_step (pc2 := 12) hk rfl rfl rfl (s_get ev1) ?_
  refine g_s1 (pc2 := 13) (st2 := [.int (5 : Int32), .ref v1, .int x6]) hk rfl rfl rfl rfl rfl ?_
  obtain ⟨n2, f3, ef3, hi, H⟩ := H
  refine g_step (pc2 := 14) hk rfl rfl rfl (s_aget (L := L) (xs := xs) ef3 hi) ?_
  refine g_icmp_ge hk rfl (fun hc => ?_) (fun hc => ?_)
  · have H := H.1 hc
    refine g_s1 (pc2 := 63) hk rfl rfl rfl rfl rfl ?_
    exact g_ireturn hk rfl (by decide) (by decide) rfl H
  · have H := H.2 hc
    refine g_s1 (pc2 := 19) hk rfl rfl rfl rfl rfl ?_
    refine g_s1 (pc2 := 20) hk rfl rfl rfl rfl rfl ?_
    refine g_s1 (pc2 := 22) hk rfl rfl rfl rfl rfl ?_
    refine g_s1 (pc2 := 23) hk rfl rfl rfl rfl rfl ?_
    refine g_s1 (pc2 := 24) (st2 := [.int (1 : Int32), .int (x1 >>> (x6 &&& 31)), .int x5]) hk rfl rfl rfl rfl rfl ?_
    refine g_s1 (pc2 := 25) hk rfl rfl rfl rfl rfl ?_
    refine g_s1 (pc2 := 26) (st2 := [.int (1 : Int32), .int ((x1 >>> (x6 &&& 31)) &&& (1 : Int32)), .int x5]) hk rfl rfl rfl rfl rfl ?_
    refine g_icmp_ne hk rfl (fun hc => ?_) (fun hc => ?_)
    · have H := H.1 hc
      exact H
    · have H := H.2 hc
      refine g_s1 (pc2 := 30) hk rfl rfl rfl rfl rfl ?_
      refine g_s1 (pc2 := 32) hk rfl rfl rfl rfl rfl ?_
      refine g_s1 (pc2 := 33) hk rfl rfl rfl rfl rfl ?_
      refine g_s1 (pc2 := 34) hk rfl rfl rfl rfl rfl ?_
      refine g_s1 (pc2 := 36) hk rfl rfl rfl rfl rfl ?_
      obtain ⟨ho, H⟩ := H
      refine g_call hk rfl rfl i_k275.1 ⟨rfl, rfl⟩ rfl (i_rcv_v ho rfl (by decide)) rfl ?_
      exact H.mono (fun v h2 q => by obtain ⟨r, rfl, q⟩ := q; exact q)
theorem b291_39 {x0 : Nat} {x1 : Int32} {x2 : Int32} {x3 : Int32} {x4 : Int32} {x5 : Int32} {x6 : Int32} {s0 : Int32} {s1 : Int32} {h : iH} {Q : Option Value → iH → Prop} (H : ((¬ s1 = (16 : Int32) → i_P i_MT i_AT L xs 291 51 [some (.ref x0), some (.int x1), some (.int x2), some (.int x3), some (.int x4), some (.int x5), some (.int x6)] [.int s0] h 0 0 Q) ∧ (¬ (¬ s1 = (16 : Int32)) → i_P i_MT i_AT L xs 291 52 [some (.ref x0), some (.int x1), some (.int x2), some (.int x3), some (.int x4), some (.int x5), some (.int x6)] [.int ((1 : Int32) <<< (x6 &&& 31)), .int s0] h 0 0 Q))) : i_P i_MT i_AT L xs 291 39 [some (.ref x0), some (.int x1), some (.int x2), some (.int x3), some (.int x4), some (.int x5), some (.int x6)] [.int s1, .int s0] h 0 0 Q := by
  have hk := i_k291
  refine g_s1 (pc2 := 41) (st2 := [.int (16 : Int32), .int s1, .int s0]) hk rfl rfl rfl rfl rfl ?_
  refine g_icmp_ne hk rfl (fun hc => ?_) (fun hc => ?_)
  · have H := H.1 hc
    exact H
  · have H := H.2 hc
    refine g_s1 (pc2 := 45) (st2 := [.int (1 : Int32), .int s0]) hk rfl rfl rfl rfl rfl ?_
    refine g_s1 (pc2 := 47) hk rfl rfl rfl rfl rfl ?_
    refine g_s1 (pc2 := 48) hk rfl rfl rfl rfl rfl ?_
    refine g_s1 (pc2 := 52) hk rfl rfl rfl rfl rfl ?_
    exact H
theorem b291_51 {x0 : Nat} {x1 : Int32} {x2 : Int32} {x3 : Int32} {x4 : Int32} {x5 : Int32} {x6 : Int32} {s0 : Int32} {h : iH} {Q : Option Value → iH → Prop} (H : i_P i_MT i_AT L xs 291 52 [some (.ref x0), some (.int x1), some (.int x2), some (.int x3), some (.int x4), some (.int x5), some (.int x6)] [.int (0 : Int32), .int s0] h 0 0 Q) : i_P i_MT i_AT L xs 291 51 [some (.ref x0), some (.int x1), some (.int x2), some (.int x3), some (.int x4), some (.int x5), some (.int x6)] [.int s0] h 0 0 Q := by
  have hk := i_k291
  refine g_s1 (pc2 := 52) (st2 := [.int (0 : Int32), .int s0]) hk rfl rfl rfl rfl rfl ?_
  exact H
theorem b291_52 {x0 : Nat} {x1 : Int32} {x2 : Int32} {x3 : Int32} {x4 : Int32} {x5 : Int32} {x6 : Int32} {s0 : Int32} {s1 : Int32} {h : iH} {Q : Option Value → iH → Prop} (H : i_P i_MT i_AT L xs 291 6 [some (.ref x0), some (.int x1), some (.int x2), some (.int x3), some (.int x4), some (.int (s0 ||| s1)), some (.int (x6 + 1))] [] h 0 0 Q) : i_P i_MT i_AT L xs 291 52 [some (.ref x0), some (.int x1), some (.int x2), some (.int x3), some (.int x4), some (.int x5), some (.int x6)] [.int s1, .int s0] h 0 0 Q := by
  have hk := i_k291
  refine g_s1 (pc2 := 53) hk rfl rfl rfl rfl rfl ?_
  refine g_s1 (pc2 := 55) (lo2 := [some (.ref x0), some (.int x1), some (.int x2), some (.int x3), some (.int x4), some (.int (s0 ||| s1)), some (.int x6)]) hk rfl rfl rfl rfl rfl ?_
  refine g_s1 (pc2 := 58) (lo2 := [some (.ref x0), some (.int x1), some (.int x2), some (.int x3), some (.int x4), some (.int (s0 ||| s1)), some (.int (x6 + 1))]) hk rfl rfl rfl rfl rfl ?_
  refine g_s1 (pc2 := 6) hk rfl rfl rfl rfl rfl ?_
  exact H
/-! StillTownModel.showsOn(IIIII)V -/
theorem e292 {x0 : Nat} {x1 : Int32} {x2 : Int32} {x3 : Int32} {x4 : Int32} {x5 : Int32} {h : iH} {Q : Option Value → iH → Prop} (H : i_P i_MT i_AT L xs 292 0 [some (.ref x0), some (.int x1), some (.int x2), some (.int x3), some (.int x4), some (.int x5), none, none] [] h 0 0 Q) : i_C i_MT i_AT L xs 292 [.ref x0, .int x1, .int x2, .int x3, .int x4, .int x5] h Q := ⟨i_m292, i_k292.1, Nat.le_of_ble_eq_true rfl, H⟩
theorem b292_0 {x0 : Nat} {x1 : Int32} {x2 : Int32} {x3 : Int32} {x4 : Int32} {x5 : Int32} {x6 : Option Value} {x7 : Option Value} {h : iH} {Q : Option Value → iH → Prop} (H : (i_obj? h x0 12 ∧ i_C i_MT i_AT L xs 284 [.ref x0, .int x1, .int x3, .int x4, .int x5] h (fun v h1 => ∃ r2 : Int32, v = some (.int r2) ∧ i_P i_MT i_AT L xs 292 10 [some (.ref x0), some (.int x1), some (.int x2), some (.int x3), some (.int x4), some (.int x5), x6, x7] [.int r2] h1 0 0 Q))) : i_P i_MT i_AT L xs 292 0 [some (.ref x0), some (.int x1), some (.int x2), some (.int x3), some (.int x4), some (.int x5), x6, x7] [] h 0 0 Q := by
  have hk := i_k292
  refine g_s1 (pc2 := 1) hk rfl rfl rfl rfl rfl ?_
  refine g_s1 (pc2 := 2) hk rfl rfl rfl rfl rfl ?_
  refine g_s1 (pc2 := 3) hk rfl rfl rfl rfl rfl ?_
  refine g_s1 (pc2 := 5) hk rfl rfl rfl rfl rfl ?_
  refine g_s1 (pc2 := 7) hk rfl rfl rfl rfl rfl ?_
  obtain ⟨ho, H⟩ := H
  refine g_call hk rfl rfl i_k284.1 ⟨rfl, rfl⟩ rfl (i_rcv_v ho rfl (by decide)) rfl ?_
  exact H.mono (fun v h2 q => by obtain ⟨r, rfl, q⟩ := q; exact q)
theorem b292_10 {x0 : Nat} {x1 : Int32} {x2 : Int32} {x3 : Int32} {x4 : Int32} {x5 : Int32} {x6 : Option Value} {x7 : Option Value} {s0 : Int32} {h : iH} {Q : Option Value → iH → Prop} (H : ((¬ s0 = 0 → (i_obj? h x0 12 ∧ i_C i_MT i_AT L xs 256 [.ref x0, .int x1, .int (4 : Int32)] h (fun v h1 => ∃ r2 : Int32, v = some (.int r2) ∧ i_P i_MT i_AT L xs 292 21 [some (.ref x0), some (.int x1), some (.int x2), some (.int x3), some (.int x4), some (.int x5), x6, x7] [.int r2, .ref x0] h1 0 0 Q))) ∧ (¬ (¬ s0 = 0) → Q none h))) : i_P i_MT i_AT L xs 292 10 [some (.ref x0), some (.int x1), some (.int x2), some (.int x3), some (.int x4), some (.int x5), x6, x7] [.int s0] h 0 0 Q := by
  have hk := i_k292
  refine g_if_ne hk rfl (fun hc => ?_) (fun hc => ?_)
  · have H := H.1 hc
    refine g_s1 (pc2 := 15) hk rfl rfl rfl rfl rfl ?_
    refine g_s1 (pc2 := 16) hk rfl rfl rfl rfl rfl ?_
    refine g_s1 (pc2 := 17) hk rfl rfl rfl rfl rfl ?_
    refine g_s1 (pc2 := 18) (st2 := [.int (4 : Int32), .int x1, .ref x0, .ref x0]) hk rfl rfl rfl rfl rfl ?_
    obtain ⟨ho, H⟩ := H
    refine g_call hk rfl rfl i_k256.1 ⟨rfl, rfl⟩ rfl (i_rcv_v ho rfl (by decide)) rfl ?_
    exact H.mono (fun v h2 q => by obtain ⟨r, rfl, q⟩ := q; exact q)
  · have H := H.2 hc
    exact g_return hk rfl (by decide) (by decide) rfl H
theorem b292_21 {x0 : Nat} {x1 : Int32} {x2 : Int32} {x3 : Int32} {x4 : Int32} {x5 : Int32} {x6 : Option Value} {x7 : Option Value} {s0 : Nat} {s1 : Int32} {h : iH} {Q : Option Value → iH → Prop} (H : (i_obj? h s0 12 ∧ i_C i_MT i_AT L xs 291 [.ref s0, .int s1, .int x3, .int x4, .int x5] h (fun v h1 => ∃ r2 : Int32, v = some (.int r2) ∧ i_P i_MT i_AT L xs 292 29 [some (.ref x0), some (.int x1), some (.int x2), some (.int x3), some (.int x4), some (.int x5), x6, x7] [.int r2] h1 0 0 Q))) : i_P i_MT i_AT L xs 292 21 [some (.ref x0), some (.int x1), some (.int x2), some (.int x3), some (.int x4), some (.int x5), x6, x7] [.int s1, .ref s0] h 0 0 Q := by
  have hk := i_k292
  refine g_s1 (pc2 := 22) hk rfl rfl rfl rfl rfl ?_
  refine g_s1 (pc2 := 24) hk rfl rfl rfl rfl rfl ?_
  refine g_s1 (pc2 := 26) hk rfl rfl rfl rfl rfl ?_
  obtain ⟨ho, H⟩ := H
  refine g_call hk rfl rfl i_k291.1 ⟨rfl, rfl⟩ rfl (i_rcv_v ho rfl (by decide)) rfl ?_
  exact H.mono (fun v h2 q => by obtain ⟨r, rfl, q⟩ := q; exact q)
theorem b292_29 {x0 : Nat} {x1 : Int32} {x2 : Int32} {x3 : Int32} {x4 : Int32} {x5 : Int32} {x6 : Option Value} {x7 : Option Value} {s0 : Int32} {h : iH} {Q : Option Value → iH → Prop} (H : i_P i_MT i_AT L xs 292 34 [some (.ref x0), some (.int x1), some (.int x2), some (.int x3), some (.int x4), some (.int x5), some (.int s0), some (.int (0 : Int32))] [] h 0 0 Q) : i_P i_MT i_AT L xs 292 29 [some (.ref x0), some (.int x1), some (.int x2), some (.int x3), some (.int x4), some (.int x5), x6, x7] [.int s0] h 0 0 Q := by
  have hk := i_k292
  refine g_s1 (pc2 := 31) (lo2 := [some (.ref x0), some (.int x1), some (.int x2), some (.int x3), some (.int x4), some (.int x5), some (.int s0), x7]) hk rfl rfl rfl rfl rfl ?_
  refine g_s1 (pc2 := 32) (st2 := [.int (0 : Int32)]) hk rfl rfl rfl rfl rfl ?_
  refine g_s1 (pc2 := 34) (lo2 := [some (.ref x0), some (.int x1), some (.int x2), some (.int x3), some (.int x4), some (.int x5), some (.int s0), some (.int (0 : Int32))]) hk rfl rfl rfl rfl rfl ?_
  exact H
theorem b292_34 {x0 : Nat} {x1 : Int32} {x2 : Int32} {x3 : Int32} {x4 : Int32} {x5 : Int32} {x6 : Int32} {x7 : Int32} {h : iH} {Q : Option Value → iH → Prop} (H : (((256 : Int32) ≤ x7 → Q none h) ∧ (¬ ((256 : Int32) ≤ x7) → (∃ v1 : Nat, i_fld h x0 12 39 = some (.ref v1) ∧ (∃ (n2 : Nat) (f3 : Nat → Int32), i_arI h 2 v1 = some (n2, f3) ∧ ¬ ((((256 : Int32) * x2) + x7) < 0 ∨ n2 ≤ (((256 : Int32) * x2) + x7).toNatClampNeg) ∧ (((f3 (((256 : Int32) * x2) + x7).toNatClampNeg) = 0 → i_P i_MT i_AT L xs 292 75 [some (.ref x0), some (.int x1), some (.int x2), some (.int x3), some (.int x4), some (.int x5), some (.int x6), some (.int x7)] [] h 0 0 Q) ∧ (¬ ((f3 (((256 : Int32) * x2) + x7).toNatClampNeg) = 0) → (∃ v4 : Nat, i_fld h x0 12 40 = some (.ref v4) ∧ (∃ (n5 : Nat) (f6 : Nat → Int32), i_arI h 2 v4 = some (n5, f6) ∧ ¬ ((((256 : Int32) * x3) + (x7 ||| x6)) < 0 ∨ n5 ≤ (((256 : Int32) * x3) + (x7 ||| x6)).toNatClampNeg) ∧ i_P i_MT i_AT L xs 292 75 [some (.ref x0), some (.int x1), some (.int x2), some (.int x3), some (.int x4), some (.int x5), some (.int x6), some (.int x7)] [] (i_siI h v4 (((256 : Int32) * x3) + (x7 ||| x6)).toNatClampNeg (vp_nar .boolean (1 : Int32))) 0 0 Q))))))))) : i_P i_MT i_AT L xs 292 34 [some (.ref x0), some (.int x1), some (.int x2), some (.int x3), some (.int x4), some (.int x5), some (.int x6), some (.int x7)] [] h 0 0 Q := by
  have hk := i_k292
  refine g_s1 (pc2 := 36) hk rfl rfl rfl rfl rfl ?_
  refine g_s1 (pc2 := 39) (st2 := [.int (256 : Int32), .int x7]) hk rfl rfl rfl rfl rfl ?_
  refine g_icmp_ge hk rfl (fun hc => ?_) (fun hc => ?_)
  · have H := H.1 hc
    exact g_return hk rfl (by decide) (by decide) rfl H
  · have H := H.2 hc
    refine g_s1 (pc2 := 43) hk rfl rfl rfl rfl rfl ?_
    obtain ⟨v1, ev1, H⟩ := H
    refine g_step (pc2 := 46) hk rfl rfl rfl (s_get ev1) ?_
    refine g_s1 (pc2 := 49) (st2 := [.int (256 : Int32), .ref v1]) hk rfl rfl rfl rfl rfl ?_
    refine g_s1 (pc2 := 50) hk rfl rfl rfl rfl rfl ?_
    refine g_s1 (pc2 := 51) hk rfl rfl rfl rfl rfl ?_
    refine g_s1 (pc2 := 53) hk rfl rfl rfl rfl rfl ?_
    refine g_s1 (pc2 := 54) hk rfl rfl rfl rfl rfl ?_
    obtain ⟨n2, f3, ef3, hi, H⟩ := H
    refine g_step (pc2 := 55) hk rfl rfl rfl (s_bget (t := 2) (by decide) ef3 hi) ?_
    refine g_if_eq hk rfl (fun hc => ?_) (fun hc => ?_)
    · have H := H.1 hc
      exact H
    · have H := H.2 hc
      refine g_s1 (pc2 := 59) hk rfl rfl rfl rfl rfl ?_
      obtain ⟨v4, ev4, H⟩ := H
      refine g_step (pc2 := 62) hk rfl rfl rfl (s_get ev4) ?_
      refine g_s1 (pc2 := 65) (st2 := [.int (256 : Int32), .ref v4]) hk rfl rfl rfl rfl rfl ?_
      refine g_s1 (pc2 := 66) hk rfl rfl rfl rfl rfl ?_
      refine g_s1 (pc2 := 67) hk rfl rfl rfl rfl rfl ?_
      refine g_s1 (pc2 := 69) hk rfl rfl rfl rfl rfl ?_
      refine g_s1 (pc2 := 71) hk rfl rfl rfl rfl rfl ?_
      refine g_s1 (pc2 := 72) hk rfl rfl rfl rfl rfl ?_
      refine g_s1 (pc2 := 73) hk rfl rfl rfl rfl rfl ?_
      refine g_s1 (pc2 := 74) (st2 := [.int (1 : Int32), .int (((256 : Int32) * x3) + (x7 ||| x6)), .ref v4]) hk rfl rfl rfl rfl rfl ?_
      obtain ⟨n5, f6, ef6, hi, H⟩ := H
      refine g_step (pc2 := 75) hk rfl rfl rfl (s_zput ef6 hi) ?_
      exact H
theorem b292_75 {x0 : Nat} {x1 : Int32} {x2 : Int32} {x3 : Int32} {x4 : Int32} {x5 : Int32} {x6 : Int32} {x7 : Int32} {h : iH} {Q : Option Value → iH → Prop} (H : i_P i_MT i_AT L xs 292 34 [some (.ref x0), some (.int x1), some (.int x2), some (.int x3), some (.int x4), some (.int x5), some (.int x6), some (.int (x7 + 1))] [] h 0 0 Q) : i_P i_MT i_AT L xs 292 75 [some (.ref x0), some (.int x1), some (.int x2), some (.int x3), some (.int x4), some (.int x5), some (.int x6), some (.int x7)] [] h 0 0 Q := by
  have hk := i_k292
  refine g_s1 (pc2 := 78) (lo2 := [some (.ref x0), some (.int x1), some (.int x2), some (.int x3), some (.int x4), some (.int x5), some (.int x6), some (.int (x7 + 1))]) hk rfl rfl rfl rfl rfl ?_
  refine g_s1 (pc2 := 34) hk rfl rfl rfl rfl rfl ?_
  exact H
/-! StillTownModel.isShown(I)Z -/
theorem e293 {x0 : Nat} {x1 : Int32} {h : iH} {Q : Option Value → iH → Prop} (H : i_P i_MT i_AT L xs 293 0 [some (.ref x0), some (.int x1), none] [] h 0 0 Q) : i_C i_MT i_AT L xs 293 [.ref x0, .int x1] h Q := ⟨i_m293, i_k293.1, Nat.le_of_ble_eq_true rfl, H⟩
theorem b293_0 {x0 : Nat} {x1 : Int32} {x2 : Option Value} {h : iH} {Q : Option Value → iH → Prop} (H : i_P i_MT i_AT L xs 293 2 [some (.ref x0), some (.int x1), some (.int (0 : Int32))] [] h 0 0 Q) : i_P i_MT i_AT L xs 293 0 [some (.ref x0), some (.int x1), x2] [] h 0 0 Q := by
  have hk := i_k293
  refine g_s1 (pc2 := 1) (st2 := [.int (0 : Int32)]) hk rfl rfl rfl rfl rfl ?_
  refine g_s1 (pc2 := 2) (lo2 := [some (.ref x0), some (.int x1), some (.int (0 : Int32))]) hk rfl rfl rfl rfl rfl ?_
  exact H
theorem b293_2 {x0 : Nat} {x1 : Int32} {x2 : Int32} {h : iH} {Q : Option Value → iH → Prop} (H : (i_obj? h x0 12 ∧ i_C i_MT i_AT L xs 248 [.ref x0] h (fun v h1 => ∃ r2 : Int32, v = some (.int r2) ∧ i_P i_MT i_AT L xs 293 7 [some (.ref x0), some (.int x1), some (.int x2)] [.int r2, .int x2] h1 0 0 Q))) : i_P i_MT i_AT L xs 293 2 [some (.ref x0), some (.int x1), some (.int x2)] [] h 0 0 Q := by
  have hk := i_k293
  refine g_s1 (pc2 := 3) hk rfl rfl rfl rfl rfl ?_
  refine g_s1 (pc2 := 4) hk rfl rfl rfl rfl rfl ?_
  obtain ⟨ho, H⟩ := H
  refine g_call hk rfl rfl i_k248.1 ⟨rfl, rfl⟩ rfl (i_rcv_v ho rfl (by decide)) rfl ?_
  exact H.mono (fun v h2 q => by obtain ⟨r, rfl, q⟩ := q; exact q)
theorem b293_7 {x0 : Nat} {x1 : Int32} {x2 : Int32} {s0 : Int32} {s1 : Int32} {h : iH} {Q : Option Value → iH → Prop} (H : ((s1 ≤ s0 → Q (some (.int 0)) h) ∧ (¬ (s1 ≤ s0) → (∃ v1 : Nat, i_fld h x0 12 39 = some (.ref v1) ∧ (∃ (n2 : Nat) (f3 : Nat → Int32), i_arI h 2 v1 = some (n2, f3) ∧ ¬ ((((256 : Int32) * x2) + x1) < 0 ∨ n2 ≤ (((256 : Int32) * x2) + x1).toNatClampNeg) ∧ (((f3 (((256 : Int32) * x2) + x1).toNatClampNeg) = 0 → i_P i_MT i_AT L xs 293 2 [some (.ref x0), some (.int x1), some (.int (x2 + 1))] [] h 0 0 Q) ∧ (¬ ((f3 (((256 : Int32) * x2) + x1).toNatClampNeg) = 0) → Q (some (.int 1)) h))))))) : i_P i_MT i_AT L xs 293 7 [some (.ref x0), some (.int x1), some (.int x2)] [.int s1, .int s0] h 0 0 Q := by
  have hk := i_k293
  refine g_icmp_ge hk rfl (fun hc => ?_) (fun hc => ?_)
  · have H := H.1 hc
    refine g_s1 (pc2 := 34) (st2 := [.int (0 : Int32)]) hk rfl rfl rfl rfl rfl ?_
    exact g_ireturn hk rfl (by decide) (by decide) rfl H
  · have H := H.2 hc
    refine g_s1 (pc2 := 11) hk rfl rfl rfl rfl rfl ?_
    obtain ⟨v1, ev1, H⟩ := H
    refine g_step (pc2 := 14) hk rfl rfl rfl (s_get ev1) ?_
    refine g_s1 (pc2 := 17) (st2 := [.int (256 : Int32), .ref v1]) hk rfl rfl rfl rfl rfl ?_
    refine g_s1 (pc2 := 18) hk rfl rfl rfl rfl rfl ?_
    refine g_s1 (pc2 := 19) hk rfl rfl rfl rfl rfl ?_
    refine g_s1 (pc2 := 20) hk rfl rfl rfl rfl rfl ?_
    refine g_s1 (pc2 := 21) hk rfl rfl rfl rfl rfl ?_
    obtain ⟨n2, f3, ef3, hi, H⟩ := H
    refine g_step (pc2 := 22) hk rfl rfl rfl (s_bget (t := 2) (by decide) ef3 hi) ?_
    refine g_if_eq hk rfl (fun hc => ?_) (fun hc => ?_)
    · have H := H.1 hc
      refine g_s1 (pc2 := 30) (lo2 := [some (.ref x0), some (.int x1), some (.int (x2 + 1))]) hk rfl rfl rfl rfl rfl ?_
      refine g_s1 (pc2 := 2) hk rfl rfl rfl rfl rfl ?_
      exact H
    · have H := H.2 hc
      refine g_s1 (pc2 := 26) (st2 := [.int (1 : Int32)]) hk rfl rfl rfl rfl rfl ?_
      exact g_ireturn hk rfl (by decide) (by decide) rfl H
/-! StillTownModel.shown(I)I -/
theorem e294 {x0 : Nat} {x1 : Int32} {h : iH} {Q : Option Value → iH → Prop} (H : i_P i_MT i_AT L xs 294 0 [some (.ref x0), some (.int x1), none, none, none, none] [] h 0 0 Q) : i_C i_MT i_AT L xs 294 [.ref x0, .int x1] h Q := ⟨i_m294, i_k294.1, Nat.le_of_ble_eq_true rfl, H⟩
theorem b294_0 {x0 : Nat} {x1 : Int32} {x2 : Option Value} {x3 : Option Value} {x4 : Option Value} {x5 : Option Value} {h : iH} {Q : Option Value → iH → Prop} (H : (i_obj? h x0 12 ∧ i_C i_MT i_AT L xs 254 [.ref x0, .int x1] h (fun v h1 => ∃ r2 : Int32, v = some (.int r2) ∧ i_P i_MT i_AT L xs 294 5 [some (.ref x0), some (.int x1), x2, x3, x4, x5] [.int r2] h1 0 0 Q))) : i_P i_MT i_AT L xs 294 0 [some (.ref x0), some (.int x1), x2, x3, x4, x5] [] h 0 0 Q := by
  have hk := i_k294
  refine g_s1 (pc2 := 1) hk rfl rfl rfl rfl rfl ?_
  refine g_s1 (pc2 := 2) hk rfl rfl rfl rfl rfl ?_
  obtain ⟨ho, H⟩ := H
  refine g_call hk rfl rfl i_k254.1 ⟨rfl, rfl⟩ rfl (i_rcv_v ho rfl (by decide)) rfl ?_
  exact H.mono (fun v h2 q => by obtain ⟨r, rfl, q⟩ := q; exact q)
theorem b294_5 {x0 : Nat} {x1 : Int32} {x2 : Option Value} {x3 : Option Value} {x4 : Option Value} {x5 : Option Value} {s0 : Int32} {h : iH} {Q : Option Value → iH → Prop} (H : ((¬ s0 = 0 → (i_obj? h x0 12 ∧ i_C i_MT i_AT L xs 248 [.ref x0] h (fun v h1 => ∃ r2 : Int32, v = some (.int r2) ∧ i_P i_MT i_AT L xs 294 18 [some (.ref x0), some (.int x1), x2, x3, x4, x5] [.int r2] h1 0 0 Q))) ∧ (¬ (¬ s0 = 0) → (i_obj? h x0 12 ∧ i_C i_MT i_AT L xs 201 [.ref x0, .int (1 : Int32)] h (fun v h3 => ∃ r4 : Int32, v = some (.int r4) ∧ i_P i_MT i_AT L xs 294 13 [some (.ref x0), some (.int x1), x2, x3, x4, x5] [.int r4] h3 0 0 Q))))) : i_P i_MT i_AT L xs 294 5 [some (.ref x0), some (.int x1), x2, x3, x4, x5] [.int s0] h 0 0 Q := by
  have hk := i_k294
  refine g_if_ne hk rfl (fun hc => ?_) (fun hc => ?_)
  · have H := H.1 hc
    refine g_s1 (pc2 := 15) hk rfl rfl rfl rfl rfl ?_
    obtain ⟨ho, H⟩ := H
    refine g_call hk rfl rfl i_k248.1 ⟨rfl, rfl⟩ rfl (i_rcv_v ho rfl (by decide)) rfl ?_
    exact H.mono (fun v h2 q => by obtain ⟨r, rfl, q⟩ := q; exact q)
  · have H := H.2 hc
    refine g_s1 (pc2 := 9) hk rfl rfl rfl rfl rfl ?_
    refine g_s1 (pc2 := 10) (st2 := [.int (1 : Int32), .ref x0]) hk rfl rfl rfl rfl rfl ?_
    obtain ⟨ho, H⟩ := H
    refine g_call hk rfl rfl i_k201.1 ⟨rfl, rfl⟩ rfl (i_rcv_v ho rfl (by decide)) rfl ?_
    exact H.mono (fun v h2 q => by obtain ⟨r, rfl, q⟩ := q; exact q)
theorem b294_13 {x0 : Nat} {x1 : Int32} {x2 : Option Value} {x3 : Option Value} {x4 : Option Value} {x5 : Option Value} {s0 : Int32} {h : iH} {Q : Option Value → iH → Prop} (H : Q (some (.int s0)) h) : i_P i_MT i_AT L xs 294 13 [some (.ref x0), some (.int x1), x2, x3, x4, x5] [.int s0] h 0 0 Q := by
  have hk := i_k294
  exact g_ireturn hk rfl (by decide) (by decide) rfl H
theorem b294_18 {x0 : Nat} {x1 : Int32} {x2 : Option Value} {x3 : Option Value} {x4 : Option Value} {x5 : Option Value} {s0 : Int32} {h : iH} {Q : Option Value → iH → Prop} (H : i_P i_MT i_AT L xs 294 21 [some (.ref x0), some (.int x1), some (.int s0), some (.int (0 : Int32)), x4, x5] [] h 0 0 Q) : i_P i_MT i_AT L xs 294 18 [some (.ref x0), some (.int x1), x2, x3, x4, x5] [.int s0] h 0 0 Q := by
  have hk := i_k294
  refine g_s1 (pc2 := 19) (lo2 := [some (.ref x0), some (.int x1), some (.int s0), x3, x4, x5]) hk rfl rfl rfl rfl rfl ?_
  refine g_s1 (pc2 := 20) (st2 := [.int (0 : Int32)]) hk rfl rfl rfl rfl rfl ?_
  refine g_s1 (pc2 := 21) (lo2 := [some (.ref x0), some (.int x1), some (.int s0), some (.int (0 : Int32)), x4, x5]) hk rfl rfl rfl rfl rfl ?_
  exact H
theorem b294_21 {x0 : Nat} {x1 : Int32} {x2 : Int32} {x3 : Int32} {x4 : Option Value} {x5 : Option Value} {h : iH} {Q : Option Value → iH → Prop} (H : ((((256 : Int32) * x2) ≤ x3 → (∃ v1 : Nat, i_fld h x0 12 39 = some (.ref v1) ∧ (∃ v2 : Nat, i_fld h x0 12 0 = some (.ref v2) ∧ (∃ (n3 : Nat) (f4 : Nat → Int32), i_arI h 0 v2 = some (n3, f4) ∧ ¬ (((154 : Int32) + ((5 : Int32) * x1)) < 0 ∨ n3 ≤ ((154 : Int32) + ((5 : Int32) * x1)).toNatClampNeg) ∧ (∃ (n5 : Nat) (f6 : Nat → Int32), i_arI h 2 v1 = some (n5, f6) ∧ ¬ (((256 : Int32) * (f4 ((154 : Int32) + ((5 : Int32) * x1)).toNatClampNeg)) < 0 ∨ n5 ≤ ((256 : Int32) * (f4 ((154 : Int32) + ((5 : Int32) * x1)).toNatClampNeg)).toNatClampNeg) ∧ i_P i_MT i_AT L xs 294 65 [some (.ref x0), some (.int x1), some (.int x2), some (.int x3), x4, x5] [] (i_siI h v1 ((256 : Int32) * (f4 ((154 : Int32) + ((5 : Int32) * x1)).toNatClampNeg)).toNatClampNeg (vp_nar .boolean (1 : Int32))) 0 0 Q))))) ∧ (¬ (((256 : Int32) * x2) ≤ x3) → (∃ v7 : Nat, i_fld h x0 12 39 = some (.ref v7) ∧ (∃ (n8 : Nat) (f9 : Nat → Int32), i_arI h 2 v7 = some (n8, f9) ∧ ¬ (x3 < 0 ∨ n8 ≤ x3.toNatClampNeg) ∧ i_P i_MT i_AT L xs 294 37 [some (.ref x0), some (.int x1), some (.int x2), some (.int x3), x4, x5] [] (i_siI h v7 x3.toNatClampNeg (vp_nar .boolean (0 : Int32))) 0 0 Q))))) : i_P i_MT i_AT L xs 294 21 [some (.ref x0), some (.int x1), some (.int x2), some (.int x3), x4, x5] [] h 0 0 Q := by
  have hk := i_k294
  refine g_s1 (pc2 := 22) hk rfl rfl rfl rfl rfl ?_
  refine g_s1 (pc2 := 25) (st2 := [.int (256 : Int32), .int x3]) hk rfl rfl rfl rfl rfl ?_
  refine g_s1 (pc2 := 26) hk rfl rfl rfl rfl rfl ?_
  refine g_s1 (pc2 := 27) hk rfl rfl rfl rfl rfl ?_
  refine g_icmp_ge hk rfl (fun hc => ?_) (fun hc => ?_)
  · have H := H.1 hc
    refine g_s1 (pc2 := 44) hk rfl rfl rfl rfl rfl ?_
    obtain ⟨v1, ev1, H⟩ := H
    refine g_step (pc2 := 47) hk rfl rfl rfl (s_get ev1) ?_
    refine g_s1 (pc2 := 50) (st2 := [.int (256 : Int32), .ref v1]) hk rfl rfl rfl rfl rfl ?_
    refine g_s1 (pc2 := 51) hk rfl rfl rfl rfl rfl ?_
    obtain ⟨v2, ev2, H⟩ := H
    refine g_step (pc2 := 54) hk rfl rfl rfl (s_get ev2) ?_
    refine g_s1 (pc2 := 57) (st2 := [.int (154 : Int32), .ref v2, .int (256 : Int32), .ref v1]) hk rfl rfl rfl rfl rfl ?_
    refine g_s1 (pc2 := 58) (st2 := [.int (5 : Int32), .int (154 : Int32), .ref v2, .int (256 : Int32), .ref v1]) hk rfl rfl rfl rfl rfl ?_
    refine g_s1 (pc2 := 59) hk rfl rfl rfl rfl rfl ?_
    refine g_s1 (pc2 := 60) hk rfl rfl rfl rfl rfl ?_
    refine g_s1 (pc2 := 61) hk rfl rfl rfl rfl rfl ?_
    obtain ⟨n3, f4, ef4, hi, H⟩ := H
    refine g_step (pc2 := 62) hk rfl rfl rfl (s_aget (L := L) (xs := xs) ef4 hi) ?_
    refine g_s1 (pc2 := 63) hk rfl rfl rfl rfl rfl ?_
    refine g_s1 (pc2 := 64) (st2 := [.int (1 : Int32), .int ((256 : Int32) * (f4 ((154 : Int32) + ((5 : Int32) * x1)).toNatClampNeg)), .ref v1]) hk rfl rfl rfl rfl rfl ?_
    obtain ⟨n5, f6, ef6, hi, H⟩ := H
    refine g_step (pc2 := 65) hk rfl rfl rfl (s_zput ef6 hi) ?_
    exact H
  · have H := H.2 hc
    refine g_s1 (pc2 := 31) hk rfl rfl rfl rfl rfl ?_
    obtain ⟨v7, ev7, H⟩ := H
    refine g_step (pc2 := 34) hk rfl rfl rfl (s_get ev7) ?_
    refine g_s1 (pc2 := 35) hk rfl rfl rfl rfl rfl ?_
    refine g_s1 (pc2 := 36) (st2 := [.int (0 : Int32), .int x3, .ref v7]) hk rfl rfl rfl rfl rfl ?_
    obtain ⟨n8, f9, ef9, hi, H⟩ := H
    refine g_step (pc2 := 37) hk rfl rfl rfl (s_zput ef9 hi) ?_
    exact H
theorem b294_37 {x0 : Nat} {x1 : Int32} {x2 : Int32} {x3 : Int32} {x4 : Option Value} {x5 : Option Value} {h : iH} {Q : Option Value → iH → Prop} (H : i_P i_MT i_AT L xs 294 21 [some (.ref x0), some (.int x1), some (.int x2), some (.int (x3 + 1)), x4, x5] [] h 0 0 Q) : i_P i_MT i_AT L xs 294 37 [some (.ref x0), some (.int x1), some (.int x2), some (.int x3), x4, x5] [] h 0 0 Q := by
  have hk := i_k294
  refine g_s1 (pc2 := 40) (lo2 := [some (.ref x0), some (.int x1), some (.int x2), some (.int (x3 + 1)), x4, x5]) hk rfl rfl rfl rfl rfl ?_
  refine g_s1 (pc2 := 21) hk rfl rfl rfl rfl rfl ?_
  exact H
theorem b294_65 {x0 : Nat} {x1 : Int32} {x2 : Int32} {x3 : Int32} {x4 : Option Value} {x5 : Option Value} {h : iH} {Q : Option Value → iH → Prop} (H : i_P i_MT i_AT L xs 294 67 [some (.ref x0), some (.int x1), some (.int x2), some (.int (0 : Int32)), x4, x5] [] h 0 0 Q) : i_P i_MT i_AT L xs 294 65 [some (.ref x0), some (.int x1), some (.int x2), some (.int x3), x4, x5] [] h 0 0 Q := by
  have hk := i_k294
  refine g_s1 (pc2 := 66) (st2 := [.int (0 : Int32)]) hk rfl rfl rfl rfl rfl ?_
  refine g_s1 (pc2 := 67) (lo2 := [some (.ref x0), some (.int x1), some (.int x2), some (.int (0 : Int32)), x4, x5]) hk rfl rfl rfl rfl rfl ?_
  exact H
theorem b294_67 {x0 : Nat} {x1 : Int32} {x2 : Int32} {x3 : Int32} {x4 : Option Value} {x5 : Option Value} {h : iH} {Q : Option Value → iH → Prop} (H : (((60 : Int32) < x3 → (i_obj? h x0 12 ∧ i_C i_MT i_AT L xs 201 [.ref x0, .int (6 : Int32)] h (fun v h1 => ∃ r2 : Int32, v = some (.int r2) ∧ i_P i_MT i_AT L xs 294 275 [some (.ref x0), some (.int x1), some (.int x2), some (.int x3), x4, x5] [.int r2] h1 0 0 Q))) ∧ (¬ ((60 : Int32) < x3) → (i_obj? h x0 12 ∧ i_C i_MT i_AT L xs 256 [.ref x0, .int x1, .int (4 : Int32)] h (fun v h3 => ∃ r4 : Int32, v = some (.int r4) ∧ i_P i_MT i_AT L xs 294 80 [some (.ref x0), some (.int x1), some (.int x2), some (.int x3), x4, x5] [.int r4, .ref x0] h3 0 0 Q))))) : i_P i_MT i_AT L xs 294 67 [some (.ref x0), some (.int x1), some (.int x2), some (.int x3), x4, x5] [] h 0 0 Q := by
  have hk := i_k294
  refine g_s1 (pc2 := 68) hk rfl rfl rfl rfl rfl ?_
  refine g_s1 (pc2 := 70) (st2 := [.int (60 : Int32), .int x3]) hk rfl rfl rfl rfl rfl ?_
  refine g_icmp_gt hk rfl (fun hc => ?_) (fun hc => ?_)
  · have H := H.1 hc
    refine g_s1 (pc2 := 270) hk rfl rfl rfl rfl rfl ?_
    refine g_s1 (pc2 := 272) (st2 := [.int (6 : Int32), .ref x0]) hk rfl rfl rfl rfl rfl ?_
    obtain ⟨ho, H⟩ := H
    refine g_call hk rfl rfl i_k201.1 ⟨rfl, rfl⟩ rfl (i_rcv_v ho rfl (by decide)) rfl ?_
    exact H.mono (fun v h2 q => by obtain ⟨r, rfl, q⟩ := q; exact q)
  · have H := H.2 hc
    refine g_s1 (pc2 := 74) hk rfl rfl rfl rfl rfl ?_
    refine g_s1 (pc2 := 75) hk rfl rfl rfl rfl rfl ?_
    refine g_s1 (pc2 := 76) hk rfl rfl rfl rfl rfl ?_
    refine g_s1 (pc2 := 77) (st2 := [.int (4 : Int32), .int x1, .ref x0, .ref x0]) hk rfl rfl rfl rfl rfl ?_
    obtain ⟨ho, H⟩ := H
    refine g_call hk rfl rfl i_k256.1 ⟨rfl, rfl⟩ rfl (i_rcv_v ho rfl (by decide)) rfl ?_
    exact H.mono (fun v h2 q => by obtain ⟨r, rfl, q⟩ := q; exact q)
theorem b294_80 {x0 : Nat} {x1 : Int32} {x2 : Int32} {x3 : Int32} {x4 : Option Value} {x5 : Option Value} {s0 : Nat} {s1 : Int32} {h : iH} {Q : Option Value → iH → Prop} (H : (i_obj? h s0 12 ∧ i_C i_MT i_AT L xs 293 [.ref s0, .int s1] h (fun v h1 => ∃ r2 : Int32, v = some (.int r2) ∧ i_P i_MT i_AT L xs 294 83 [some (.ref x0), some (.int x1), some (.int x2), some (.int x3), x4, x5] [.int r2] h1 0 0 Q))) : i_P i_MT i_AT L xs 294 80 [some (.ref x0), some (.int x1), some (.int x2), some (.int x3), x4, x5] [.int s1, .ref s0] h 0 0 Q := by
  have hk := i_k294
  obtain ⟨ho, H⟩ := H
  refine g_call hk rfl rfl i_k293.1 ⟨rfl, rfl⟩ rfl (i_rcv_v ho rfl (by decide)) rfl ?_
  exact H.mono (fun v h2 q => by obtain ⟨r, rfl, q⟩ := q; exact q)
theorem b294_83 {x0 : Nat} {x1 : Int32} {x2 : Int32} {x3 : Int32} {x4 : Option Value} {x5 : Option Value} {s0 : Int32} {h : iH} {Q : Option Value → iH → Prop} (H : ((s0 = 0 → i_P i_MT i_AT L xs 294 95 [some (.ref x0), some (.int x1), some (.int x2), some (.int x3), some (.int (0 : Int32)), x5] [] h 0 0 Q) ∧ (¬ (s0 = 0) → (i_obj? h x0 12 ∧ i_C i_MT i_AT L xs 202 [.ref x0, .int x3] h (fun v h1 => ∃ r2 : Int32, v = some (.int r2) ∧ i_P i_MT i_AT L xs 294 91 [some (.ref x0), some (.int x1), some (.int x2), some (.int x3), x4, x5] [.int r2] h1 0 0 Q))))) : i_P i_MT i_AT L xs 294 83 [some (.ref x0), some (.int x1), some (.int x2), some (.int x3), x4, x5] [.int s0] h 0 0 Q := by
  have hk := i_k294
  refine g_if_eq hk rfl (fun hc => ?_) (fun hc => ?_)
  · have H := H.1 hc
    refine g_s1 (pc2 := 93) (st2 := [.int (0 : Int32)]) hk rfl rfl rfl rfl rfl ?_
    refine g_s1 (pc2 := 95) (lo2 := [some (.ref x0), some (.int x1), some (.int x2), some (.int x3), some (.int (0 : Int32)), x5]) hk rfl rfl rfl rfl rfl ?_
    exact H
  · have H := H.2 hc
    refine g_s1 (pc2 := 87) hk rfl rfl rfl rfl rfl ?_
    refine g_s1 (pc2 := 88) hk rfl rfl rfl rfl rfl ?_
    obtain ⟨ho, H⟩ := H
    refine g_call hk rfl rfl i_k202.1 ⟨rfl, rfl⟩ rfl (i_rcv_v ho rfl (by decide)) rfl ?_
    exact H.mono (fun v h2 q => by obtain ⟨r, rfl, q⟩ := q; exact q)
theorem b294_91 {x0 : Nat} {x1 : Int32} {x2 : Int32} {x3 : Int32} {x4 : Option Value} {x5 : Option Value} {s0 : Int32} {h : iH} {Q : Option Value → iH → Prop} (H : Q (some (.int s0)) h) : i_P i_MT i_AT L xs 294 91 [some (.ref x0), some (.int x1), some (.int x2), some (.int x3), x4, x5] [.int s0] h 0 0 Q := by
  have hk := i_k294
  exact g_ireturn hk rfl (by decide) (by decide) rfl H
theorem b294_95 {x0 : Nat} {x1 : Int32} {x2 : Int32} {x3 : Int32} {x4 : Int32} {x5 : Option Value} {h : iH} {Q : Option Value → iH → Prop} (H : ((((256 : Int32) * x2) ≤ x4 → i_P i_MT i_AT L xs 294 122 [some (.ref x0), some (.int x1), some (.int x2), some (.int x3), some (.int (0 : Int32)), x5] [] h 0 0 Q) ∧ (¬ (((256 : Int32) * x2) ≤ x4) → (∃ v1 : Nat, i_fld h x0 12 40 = some (.ref v1) ∧ (∃ (n2 : Nat) (f3 : Nat → Int32), i_arI h 2 v1 = some (n2, f3) ∧ ¬ (x4 < 0 ∨ n2 ≤ x4.toNatClampNeg) ∧ i_P i_MT i_AT L xs 294 113 [some (.ref x0), some (.int x1), some (.int x2), some (.int x3), some (.int x4), x5] [] (i_siI h v1 x4.toNatClampNeg (vp_nar .boolean (0 : Int32))) 0 0 Q))))) : i_P i_MT i_AT L xs 294 95 [some (.ref x0), some (.int x1), some (.int x2), some (.int x3), some (.int x4), x5] [] h 0 0 Q := by
  have hk := i_k294
  refine g_s1 (pc2 := 97) hk rfl rfl rfl rfl rfl ?_
  refine g_s1 (pc2 := 100) (st2 := [.int (256 : Int32), .int x4]) hk rfl rfl rfl rfl rfl ?_
  refine g_s1 (pc2 := 101) hk rfl rfl rfl rfl rfl ?_
  refine g_s1 (pc2 := 102) hk rfl rfl rfl rfl rfl ?_
  refine g_icmp_ge hk rfl (fun hc => ?_) (fun hc => ?_)
  · have H := H.1 hc
    refine g_s1 (pc2 := 120) (st2 := [.int (0 : Int32)]) hk rfl rfl rfl rfl rfl ?_
    refine g_s1 (pc2 := 122) (lo2 := [some (.ref x0), some (.int x1), some (.int x2), some (.int x3), some (.int (0 : Int32)), x5]) hk rfl rfl rfl rfl rfl ?_
    exact H
  · have H := H.2 hc
    refine g_s1 (pc2 := 106) hk rfl rfl rfl rfl rfl ?_
    obtain ⟨v1, ev1, H⟩ := H
    refine g_step (pc2 := 109) hk rfl rfl rfl (s_get ev1) ?_
    refine g_s1 (pc2 := 111) hk rfl rfl rfl rfl rfl ?_
    refine g_s1 (pc2 := 112) (st2 := [.int (0 : Int32), .int x4, .ref v1]) hk rfl rfl rfl rfl rfl ?_
    obtain ⟨n2, f3, ef3, hi, H⟩ := H
    refine g_step (pc2 := 113) hk rfl rfl rfl (s_zput ef3 hi) ?_
    exact H
theorem b294_113 {x0 : Nat} {x1 : Int32} {x2 : Int32} {x3 : Int32} {x4 : Int32} {x5 : Option Value} {h : iH} {Q : Option Value → iH → Prop} (H : i_P i_MT i_AT L xs 294 95 [some (.ref x0), some (.int x1), some (.int x2), some (.int x3), some (.int (x4 + 1)), x5] [] h 0 0 Q) : i_P i_MT i_AT L xs 294 113 [some (.ref x0), some (.int x1), some (.int x2), some (.int x3), some (.int x4), x5] [] h 0 0 Q := by
  have hk := i_k294
  refine g_s1 (pc2 := 116) (lo2 := [some (.ref x0), some (.int x1), some (.int x2), some (.int x3), some (.int (x4 + 1)), x5]) hk rfl rfl rfl rfl rfl ?_
  refine g_s1 (pc2 := 95) hk rfl rfl rfl rfl rfl ?_
  exact H
theorem b294_122 {x0 : Nat} {x1 : Int32} {x2 : Int32} {x3 : Int32} {x4 : Int32} {x5 : Option Value} {h : iH} {Q : Option Value → iH → Prop} (H : ((x2 ≤ x4 → i_P i_MT i_AT L xs 294 230 [some (.ref x0), some (.int x1), some (.int x2), some (.int x3), some (.int x4), x5] [] h 0 0 Q) ∧ (¬ (x2 ≤ x4) → (((60 : Int32) ≤ x3 → i_P i_MT i_AT L xs 294 230 [some (.ref x0), some (.int x1), some (.int x2), some (.int x3), some (.int x4), x5] [] h 0 0 Q) ∧ (¬ ((60 : Int32) ≤ x3) → (i_obj? h x0 12 ∧ i_C i_MT i_AT L xs 292 [.ref x0, .int x1, .int x4, .int x4, .int (0 : Int32), .int (x3 + (1 : Int32))] h (fun v h1 => v = none ∧ i_P i_MT i_AT L xs 294 147 [some (.ref x0), some (.int x1), some (.int x2), some (.int x3), some (.int x4), x5] [] h1 0 0 Q))))))) : i_P i_MT i_AT L xs 294 122 [some (.ref x0), some (.int x1), some (.int x2), some (.int x3), some (.int x4), x5] [] h 0 0 Q := by
  have hk := i_k294
  refine g_s1 (pc2 := 124) hk rfl rfl rfl rfl rfl ?_
  refine g_s1 (pc2 := 125) hk rfl rfl rfl rfl rfl ?_
  refine g_icmp_ge hk rfl (fun hc => ?_) (fun hc => ?_)
  · have H := H.1 hc
    exact H
  · have H := H.2 hc
    refine g_s1 (pc2 := 129) hk rfl rfl rfl rfl rfl ?_
    refine g_s1 (pc2 := 131) (st2 := [.int (60 : Int32), .int x3]) hk rfl rfl rfl rfl rfl ?_
    refine g_icmp_ge hk rfl (fun hc => ?_) (fun hc => ?_)
    · have H := H.1 hc
      exact H
    · have H := H.2 hc
      refine g_s1 (pc2 := 135) hk rfl rfl rfl rfl rfl ?_
      refine g_s1 (pc2 := 136) hk rfl rfl rfl rfl rfl ?_
      refine g_s1 (pc2 := 138) hk rfl rfl rfl rfl rfl ?_
      refine g_s1 (pc2 := 140) hk rfl rfl rfl rfl rfl ?_
      refine g_s1 (pc2 := 141) (st2 := [.int (0 : Int32), .int x4, .int x4, .int x1, .ref x0]) hk rfl rfl rfl rfl rfl ?_
      refine g_s1 (pc2 := 142) hk rfl rfl rfl rfl rfl ?_
      refine g_s1 (pc2 := 143) (st2 := [.int (1 : Int32), .int x3, .int (0 : Int32), .int x4, .int x4, .int x1, .ref x0]) hk rfl rfl rfl rfl rfl ?_
      refine g_s1 (pc2 := 144) hk rfl rfl rfl rfl rfl ?_
      obtain ⟨ho, H⟩ := H
      refine g_call hk rfl rfl i_k292.1 ⟨rfl, rfl⟩ rfl (i_rcv_v ho rfl (by decide)) rfl ?_
      exact H.mono (fun v h2 q => by obtain ⟨rfl, q⟩ := q; exact q)
theorem b294_147 {x0 : Nat} {x1 : Int32} {x2 : Int32} {x3 : Int32} {x4 : Int32} {x5 : Option Value} {h : iH} {Q : Option Value → iH → Prop} (H : (i_obj? h x0 12 ∧ i_C i_MT i_AT L xs 292 [.ref x0, .int x1, .int x4, .int x4, .int (4 : Int32), .int (x3 + (1 : Int32))] h (fun v h1 => v = none ∧ i_P i_MT i_AT L xs 294 160 [some (.ref x0), some (.int x1), some (.int x2), some (.int x3), some (.int x4), x5] [] h1 0 0 Q))) : i_P i_MT i_AT L xs 294 147 [some (.ref x0), some (.int x1), some (.int x2), some (.int x3), some (.int x4), x5] [] h 0 0 Q := by
  have hk := i_k294
  refine g_s1 (pc2 := 148) hk rfl rfl rfl rfl rfl ?_
  refine g_s1 (pc2 := 149) hk rfl rfl rfl rfl rfl ?_
  refine g_s1 (pc2 := 151) hk rfl rfl rfl rfl rfl ?_
  refine g_s1 (pc2 := 153) hk rfl rfl rfl rfl rfl ?_
  refine g_s1 (pc2 := 154) (st2 := [.int (4 : Int32), .int x4, .int x4, .int x1, .ref x0]) hk rfl rfl rfl rfl rfl ?_
  refine g_s1 (pc2 := 155) hk rfl rfl rfl rfl rfl ?_
  refine g_s1 (pc2 := 156) (st2 := [.int (1 : Int32), .int x3, .int (4 : Int32), .int x4, .int x4, .int x1, .ref x0]) hk rfl rfl rfl rfl rfl ?_
  refine g_s1 (pc2 := 157) hk rfl rfl rfl rfl rfl ?_
  obtain ⟨ho, H⟩ := H
  refine g_call hk rfl rfl i_k292.1 ⟨rfl, rfl⟩ rfl (i_rcv_v ho rfl (by decide)) rfl ?_
  exact H.mono (fun v h2 q => by obtain ⟨rfl, q⟩ := q; exact q)
theorem b294_160 {x0 : Nat} {x1 : Int32} {x2 : Int32} {x3 : Int32} {x4 : Int32} {x5 : Option Value} {h : iH} {Q : Option Value → iH → Prop} (H : i_P i_MT i_AT L xs 294 163 [some (.ref x0), some (.int x1), some (.int x2), some (.int x3), some (.int x4), some (.int (0 : Int32))] [] h 0 0 Q) : i_P i_MT i_AT L xs 294 160 [some (.ref x0), some (.int x1), some (.int x2), some (.int x3), some (.int x4), x5] [] h 0 0 Q := by
  have hk := i_k294
  refine g_s1 (pc2 := 161) (st2 := [.int (0 : Int32)]) hk rfl rfl rfl rfl rfl ?_
  refine g_s1 (pc2 := 163) (lo2 := [some (.ref x0), some (.int x1), some (.int x2), some (.int x3), some (.int x4), some (.int (0 : Int32))]) hk rfl rfl rfl rfl rfl ?_
  exact H
theorem b294_163 {x0 : Nat} {x1 : Int32} {x2 : Int32} {x3 : Int32} {x4 : Int32} {x5 : Int32} {h : iH} {Q : Option Value → iH → Prop} (H : ((x2 ≤ x5 → i_P i_MT i_AT L xs 294 122 [some (.ref x0), some (.int x1), some (.int x2), some (.int x3), some (.int (x4 + 1)), some (.int x5)] [] h 0 0 Q) ∧ (¬ (x2 ≤ x5) → (i_obj? h x0 12 ∧ i_C i_MT i_AT L xs 285 [.ref x0, .int x4, .int x5] h (fun v h1 => ∃ r2 : Int32, v = some (.int r2) ∧ i_P i_MT i_AT L xs 294 177 [some (.ref x0), some (.int x1), some (.int x2), some (.int x3), some (.int x4), some (.int x5)] [.int r2] h1 0 0 Q))))) : i_P i_MT i_AT L xs 294 163 [some (.ref x0), some (.int x1), some (.int x2), some (.int x3), some (.int x4), some (.int x5)] [] h 0 0 Q := by
  have hk := i_k294
  refine g_s1 (pc2 := 165) hk rfl rfl rfl rfl rfl ?_
  refine g_s1 (pc2 := 166) hk rfl rfl rfl rfl rfl ?_
  refine g_icmp_ge hk rfl (fun hc => ?_) (fun hc => ?_)
  · have H := H.1 hc
    refine g_s1 (pc2 := 227) (lo2 := [some (.ref x0), some (.int x1), some (.int x2), some (.int x3), some (.int (x4 + 1)), some (.int x5)]) hk rfl rfl rfl rfl rfl ?_
    refine g_s1 (pc2 := 122) hk rfl rfl rfl rfl rfl ?_
    exact H
  · have H := H.2 hc
    refine g_s1 (pc2 := 170) hk rfl rfl rfl rfl rfl ?_
    refine g_s1 (pc2 := 172) hk rfl rfl rfl rfl rfl ?_
    refine g_s1 (pc2 := 174) hk rfl rfl rfl rfl rfl ?_
    obtain ⟨ho, H⟩ := H
    refine g_call hk rfl rfl i_k285.1 ⟨rfl, rfl⟩ rfl (i_rcv_v ho rfl (by decide)) rfl ?_
    exact H.mono (fun v h2 q => by obtain ⟨r, rfl, q⟩ := q; exact q)
theorem b294_177 {x0 : Nat} {x1 : Int32} {x2 : Int32} {x3 : Int32} {x4 : Int32} {x5 : Int32} {s0 : Int32} {h : iH} {Q : Option Value → iH → Prop} (H : ((s0 = 0 → i_P i_MT i_AT L xs 294 218 [some (.ref x0), some (.int x1), some (.int x2), some (.int x3), some (.int x4), some (.int x5)] [] h 0 0 Q) ∧ (¬ (s0 = 0) → (i_obj? h x0 12 ∧ i_C i_MT i_AT L xs 250 [.ref x0, .int x5] h (fun v h1 => ∃ r2 : Int32, v = some (.int r2) ∧ i_P i_MT i_AT L xs 294 186 [some (.ref x0), some (.int x1), some (.int x2), some (.int x3), some (.int x4), some (.int x5)] [.int r2] h1 0 0 Q))))) : i_P i_MT i_AT L xs 294 177 [some (.ref x0), some (.int x1), some (.int x2), some (.int x3), some (.int x4), some (.int x5)] [.int s0] h 0 0 Q := by
  have hk := i_k294
  refine g_if_eq hk rfl (fun hc => ?_) (fun hc => ?_)
  · have H := H.1 hc
    exact H
  · have H := H.2 hc
    refine g_s1 (pc2 := 181) hk rfl rfl rfl rfl rfl ?_
    refine g_s1 (pc2 := 183) hk rfl rfl rfl rfl rfl ?_
    obtain ⟨ho, H⟩ := H
    refine g_call hk rfl rfl i_k250.1 ⟨rfl, rfl⟩ rfl (i_rcv_v ho rfl (by decide)) rfl ?_
    exact H.mono (fun v h2 q => by obtain ⟨r, rfl, q⟩ := q; exact q)
theorem b294_186 {x0 : Nat} {x1 : Int32} {x2 : Int32} {x3 : Int32} {x4 : Int32} {x5 : Int32} {s0 : Int32} {h : iH} {Q : Option Value → iH → Prop} (H : ((¬ s0 = 0 → (i_obj? h x0 12 ∧ i_C i_MT i_AT L xs 292 [.ref x0, .int x1, .int x4, .int x5, .int (2 : Int32), .int (x3 + (1 : Int32))] h (fun v h1 => v = none ∧ i_P i_MT i_AT L xs 294 205 [some (.ref x0), some (.int x1), some (.int x2), some (.int x3), some (.int x4), some (.int x5)] [] h1 0 0 Q))) ∧ (¬ (¬ s0 = 0) → i_P i_MT i_AT L xs 294 218 [some (.ref x0), some (.int x1), some (.int x2), some (.int x3), some (.int x4), some (.int x5)] [] h 0 0 Q))) : i_P i_MT i_AT L xs 294 186 [some (.ref x0), some (.int x1), some (.int x2), some (.int x3), some (.int x4), some (.int x5)] [.int s0] h 0 0 Q := by
  have hk := i_k294
  refine g_if_ne hk rfl (fun hc => ?_) (fun hc => ?_)
  · have H := H.1 hc
    refine g_s1 (pc2 := 193) hk rfl rfl rfl rfl rfl ?_
    refine g_s1 (pc2 := 194) hk rfl rfl rfl rfl rfl ?_
    refine g_s1 (pc2 := 196) hk rfl rfl rfl rfl rfl ?_
    refine g_s1 (pc2 := 198) hk rfl rfl rfl rfl rfl ?_
    refine g_s1 (pc2 := 199) (st2 := [.int (2 : Int32), .int x5, .int x4, .int x1, .ref x0]) hk rfl rfl rfl rfl rfl ?_
    refine g_s1 (pc2 := 200) hk rfl rfl rfl rfl rfl ?_
    refine g_s1 (pc2 := 201) (st2 := [.int (1 : Int32), .int x3, .int (2 : Int32), .int x5, .int x4, .int x1, .ref x0]) hk rfl rfl rfl rfl rfl ?_
    refine g_s1 (pc2 := 202) hk rfl rfl rfl rfl rfl ?_
    obtain ⟨ho, H⟩ := H
    refine g_call hk rfl rfl i_k292.1 ⟨rfl, rfl⟩ rfl (i_rcv_v ho rfl (by decide)) rfl ?_
    exact H.mono (fun v h2 q => by obtain ⟨rfl, q⟩ := q; exact q)
  · have H := H.2 hc
    refine g_s1 (pc2 := 218) hk rfl rfl rfl rfl rfl ?_
    exact H
theorem b294_205 {x0 : Nat} {x1 : Int32} {x2 : Int32} {x3 : Int32} {x4 : Int32} {x5 : Int32} {h : iH} {Q : Option Value → iH → Prop} (H : (i_obj? h x0 12 ∧ i_C i_MT i_AT L xs 292 [.ref x0, .int x1, .int x4, .int x5, .int (1 : Int32), .int (x3 + (1 : Int32))] h (fun v h1 => v = none ∧ i_P i_MT i_AT L xs 294 218 [some (.ref x0), some (.int x1), some (.int x2), some (.int x3), some (.int x4), some (.int x5)] [] h1 0 0 Q))) : i_P i_MT i_AT L xs 294 205 [some (.ref x0), some (.int x1), some (.int x2), some (.int x3), some (.int x4), some (.int x5)] [] h 0 0 Q := by
  have hk := i_k294
  refine g_s1 (pc2 := 206) hk rfl rfl rfl rfl rfl ?_
  refine g_s1 (pc2 := 207) hk rfl rfl rfl rfl rfl ?_
  refine g_s1 (pc2 := 209) hk rfl rfl rfl rfl rfl ?_
  refine g_s1 (pc2 := 211) hk rfl rfl rfl rfl rfl ?_
  refine g_s1 (pc2 := 212) (st2 := [.int (1 : Int32), .int x5, .int x4, .int x1, .ref x0]) hk rfl rfl rfl rfl rfl ?_
  refine g_s1 (pc2 := 213) hk rfl rfl rfl rfl rfl ?_
  refine g_s1 (pc2 := 214) (st2 := [.int (1 : Int32), .int x3, .int (1 : Int32), .int x5, .int x4, .int x1, .ref x0]) hk rfl rfl rfl rfl rfl ?_
  refine g_s1 (pc2 := 215) hk rfl rfl rfl rfl rfl ?_
  obtain ⟨ho, H⟩ := H
  refine g_call hk rfl rfl i_k292.1 ⟨rfl, rfl⟩ rfl (i_rcv_v ho rfl (by decide)) rfl ?_
  exact H.mono (fun v h2 q => by obtain ⟨rfl, q⟩ := q; exact q)
theorem b294_218 {x0 : Nat} {x1 : Int32} {x2 : Int32} {x3 : Int32} {x4 : Int32} {x5 : Int32} {h : iH} {Q : Option Value → iH → Prop} (H : i_P i_MT i_AT L xs 294 163 [some (.ref x0), some (.int x1), some (.int x2), some (.int x3), some (.int x4), some (.int (x5 + 1))] [] h 0 0 Q) : i_P i_MT i_AT L xs 294 218 [some (.ref x0), some (.int x1), some (.int x2), some (.int x3), some (.int x4), some (.int x5)] [] h 0 0 Q := by
  have hk := i_k294
  refine g_s1 (pc2 := 221) (lo2 := [some (.ref x0), some (.int x1), some (.int x2), some (.int x3), some (.int x4), some (.int (x5 + 1))]) hk rfl rfl rfl rfl rfl ?_
  refine g_s1 (pc2 := 163) hk rfl rfl rfl rfl rfl ?_
  exact H
theorem b294_230 {x0 : Nat} {x1 : Int32} {x2 : Int32} {x3 : Int32} {x4 : Int32} {x5 : Option Value} {h : iH} {Q : Option Value → iH → Prop} (H : i_P i_MT i_AT L xs 294 233 [some (.ref x0), some (.int x1), some (.int x2), some (.int x3), some (.int (0 : Int32)), x5] [] h 0 0 Q) : i_P i_MT i_AT L xs 294 230 [some (.ref x0), some (.int x1), some (.int x2), some (.int x3), some (.int x4), x5] [] h 0 0 Q := by
  have hk := i_k294
  refine g_s1 (pc2 := 231) (st2 := [.int (0 : Int32)]) hk rfl rfl rfl rfl rfl ?_
  refine g_s1 (pc2 := 233) (lo2 := [some (.ref x0), some (.int x1), some (.int x2), some (.int x3), some (.int (0 : Int32)), x5]) hk rfl rfl rfl rfl rfl ?_
  exact H
theorem b294_233 {x0 : Nat} {x1 : Int32} {x2 : Int32} {x3 : Int32} {x4 : Int32} {x5 : Option Value} {h : iH} {Q : Option Value → iH → Prop} (H : ((((256 : Int32) * x2) ≤ x4 → i_P i_MT i_AT L xs 294 67 [some (.ref x0), some (.int x1), some (.int x2), some (.int (x3 + 1)), some (.int x4), x5] [] h 0 0 Q) ∧ (¬ (((256 : Int32) * x2) ≤ x4) → (∃ v1 : Nat, i_fld h x0 12 39 = some (.ref v1) ∧ (∃ v2 : Nat, i_fld h x0 12 40 = some (.ref v2) ∧ (∃ (n3 : Nat) (f4 : Nat → Int32), i_arI h 2 v2 = some (n3, f4) ∧ ¬ (x4 < 0 ∨ n3 ≤ x4.toNatClampNeg) ∧ (∃ (n5 : Nat) (f6 : Nat → Int32), i_arI h 2 v1 = some (n5, f6) ∧ ¬ (x4 < 0 ∨ n5 ≤ x4.toNatClampNeg) ∧ i_P i_MT i_AT L xs 294 257 [some (.ref x0), some (.int x1), some (.int x2), some (.int x3), some (.int x4), x5] [] (i_siI h v1 x4.toNatClampNeg (vp_nar .boolean (f4 x4.toNatClampNeg))) 0 0 Q))))))) : i_P i_MT i_AT L xs 294 233 [some (.ref x0), some (.int x1), some (.int x2), some (.int x3), some (.int x4), x5] [] h 0 0 Q := by
  have hk := i_k294
  refine g_s1 (pc2 := 235) hk rfl rfl rfl rfl rfl ?_
  refine g_s1 (pc2 := 238) (st2 := [.int (256 : Int32), .int x4]) hk rfl rfl rfl rfl rfl ?_
  refine g_s1 (pc2 := 239) hk rfl rfl rfl rfl rfl ?_
  refine g_s1 (pc2 := 240) hk rfl rfl rfl rfl rfl ?_
  refine g_icmp_ge hk rfl (fun hc => ?_) (fun hc => ?_)
  · have H := H.1 hc
    refine g_s1 (pc2 := 266) (lo2 := [some (.ref x0), some (.int x1), some (.int x2), some (.int (x3 + 1)), some (.int x4), x5]) hk rfl rfl rfl rfl rfl ?_
    refine g_s1 (pc2 := 67) hk rfl rfl rfl rfl rfl ?_
    exact H
  · have H := H.2 hc
    refine g_s1 (pc2 := 244) hk rfl rfl rfl rfl rfl ?_
    obtain ⟨v1, ev1, H⟩ := H
    refine g_step (pc2 := 247) hk rfl rfl rfl (s_get ev1) ?_
    refine g_s1 (pc2 := 249) hk rfl rfl rfl rfl rfl ?_
    refine g_s1 (pc2 := 250) hk rfl rfl rfl rfl rfl ?_
    obtain ⟨v2, ev2, H⟩ := H
    refine g_step (pc2 := 253) hk rfl rfl rfl (s_get ev2) ?_
    refine g_s1 (pc2 := 255) hk rfl rfl rfl rfl rfl ?_
    obtain ⟨n3, f4, ef4, hi, H⟩ := H
    refine g_step (pc2 := 256) hk rfl rfl rfl (s_bget (t := 2) (by decide) ef4 hi) ?_
    obtain ⟨n5, f6, ef6, hi, H⟩ := H
    refine g_step (pc2 := 257) hk rfl rfl rfl (s_zput ef6 hi) ?_
    exact H
theorem b294_257 {x0 : Nat} {x1 : Int32} {x2 : Int32} {x3 : Int32} {x4 : Int32} {x5 : Option Value} {h : iH} {Q : Option Value → iH → Prop} (H : i_P i_MT i_AT L xs 294 233 [some (.ref x0), some (.int x1), some (.int x2), some (.int x3), some (.int (x4 + 1)), x5] [] h 0 0 Q) : i_P i_MT i_AT L xs 294 257 [some (.ref x0), some (.int x1), some (.int x2), some (.int x3), some (.int x4), x5] [] h 0 0 Q := by
  have hk := i_k294
  refine g_s1 (pc2 := 260) (lo2 := [some (.ref x0), some (.int x1), some (.int x2), some (.int x3), some (.int (x4 + 1)), x5]) hk rfl rfl rfl rfl rfl ?_
  refine g_s1 (pc2 := 233) hk rfl rfl rfl rfl rfl ?_
  exact H
theorem b294_275 {x0 : Nat} {x1 : Int32} {x2 : Int32} {x3 : Int32} {x4 : Option Value} {x5 : Option Value} {s0 : Int32} {h : iH} {Q : Option Value → iH → Prop} (H : Q (some (.int s0)) h) : i_P i_MT i_AT L xs 294 275 [some (.ref x0), some (.int x1), some (.int x2), some (.int x3), x4, x5] [.int s0] h 0 0 Q := by
  have hk := i_k294
  exact g_ireturn hk rfl (by decide) (by decide) rfl H
/-! StillTownModel.sights(III)V -/
theorem e295 {x0 : Nat} {x1 : Int32} {x2 : Int32} {x3 : Int32} {h : iH} {Q : Option Value → iH → Prop} (H : i_P i_MT i_AT L xs 295 0 [some (.ref x0), some (.int x1), some (.int x2), some (.int x3), none, none, none, none] [] h 0 0 Q) : i_C i_MT i_AT L xs 295 [.ref x0, .int x1, .int x2, .int x3] h Q := ⟨i_m295, i_k295.1, Nat.le_of_ble_eq_true rfl, H⟩
theorem b295_0 {x0 : Nat} {x1 : Int32} {x2 : Int32} {x3 : Int32} {x4 : Option Value} {x5 : Option Value} {x6 : Option Value} {x7 : Option Value} {h : iH} {Q : Option Value → iH → Prop} (H : i_P i_MT i_AT L xs 295 3 [some (.ref x0), some (.int x1), some (.int x2), some (.int x3), some (.int (0 : Int32)), x5, x6, x7] [] h 0 0 Q) : i_P i_MT i_AT L xs 295 0 [some (.ref x0), some (.int x1), some (.int x2), some (.int x3), x4, x5, x6, x7] [] h 0 0 Q := by
  have hk := i_k295
  refine g_s1 (pc2 := 1) (st2 := [.int (0 : Int32)]) hk rfl rfl rfl rfl rfl ?_
  refine g_s1 (pc2 := 3) (lo2 := [some (.ref x0), some (.int x1), some (.int x2), some (.int x3), some (.int (0 : Int32)), x5, x6, x7]) hk rfl rfl rfl rfl rfl ?_
  exact H
theorem b295_3 {x0 : Nat} {x1 : Int32} {x2 : Int32} {x3 : Int32} {x4 : Int32} {x5 : Option Value} {x6 : Option Value} {x7 : Option Value} {h : iH} {Q : Option Value → iH → Prop} (H : (i_obj? h x0 12 ∧ i_C i_MT i_AT L xs 248 [.ref x0] h (fun v h1 => ∃ r2 : Int32, v = some (.int r2) ∧ i_P i_MT i_AT L xs 295 9 [some (.ref x0), some (.int x1), some (.int x2), some (.int x3), some (.int x4), x5, x6, x7] [.int r2, .int x4] h1 0 0 Q))) : i_P i_MT i_AT L xs 295 3 [some (.ref x0), some (.int x1), some (.int x2), some (.int x3), some (.int x4), x5, x6, x7] [] h 0 0 Q := by
  have hk := i_k295
  refine g_s1 (pc2 := 5) hk rfl rfl rfl rfl rfl ?_
  refine g_s1 (pc2 := 6) hk rfl rfl rfl rfl rfl ?_
  obtain ⟨ho, H⟩ := H
  refine g_call hk rfl rfl i_k248.1 ⟨rfl, rfl⟩ rfl (i_rcv_v ho rfl (by decide)) rfl ?_
  exact H.mono (fun v h2 q => by obtain ⟨r, rfl, q⟩ := q; exact q)
theorem b295_9 {x0 : Nat} {x1 : Int32} {x2 : Int32} {x3 : Int32} {x4 : Int32} {x5 : Option Value} {x6 : Option Value} {x7 : Option Value} {s0 : Int32} {s1 : Int32} {h : iH} {Q : Option Value → iH → Prop} (H : ((s1 ≤ s0 → Q none h) ∧ (¬ (s1 ≤ s0) → i_P i_MT i_AT L xs 295 15 [some (.ref x0), some (.int x1), some (.int x2), some (.int x3), some (.int x4), some (.int (0 : Int32)), x6, x7] [] h 0 0 Q))) : i_P i_MT i_AT L xs 295 9 [some (.ref x0), some (.int x1), some (.int x2), some (.int x3), some (.int x4), x5, x6, x7] [.int s1, .int s0] h 0 0 Q := by
  have hk := i_k295
  refine g_icmp_ge hk rfl (fun hc => ?_) (fun hc => ?_)
  · have H := H.1 hc
    exact g_return hk rfl (by decide) (by decide) rfl H
  · have H := H.2 hc
    refine g_s1 (pc2 := 13) (st2 := [.int (0 : Int32)]) hk rfl rfl rfl rfl rfl ?_
    refine g_s1 (pc2 := 15) (lo2 := [some (.ref x0), some (.int x1), some (.int x2), some (.int x3), some (.int x4), some (.int (0 : Int32)), x6, x7]) hk rfl rfl rfl rfl rfl ?_
    exact H
theorem b295_15 {x0 : Nat} {x1 : Int32} {x2 : Int32} {x3 : Int32} {x4 : Int32} {x5 : Int32} {x6 : Option Value} {x7 : Option Value} {h : iH} {Q : Option Value → iH → Prop} (H : (((8 : Int32) ≤ x5 → i_P i_MT i_AT L xs 295 3 [some (.ref x0), some (.int x1), some (.int x2), some (.int x3), some (.int (x4 + 1)), some (.int x5), x6, x7] [] h 0 0 Q) ∧ (¬ ((8 : Int32) ≤ x5) → i_P i_MT i_AT L xs 295 28 [some (.ref x0), some (.int x1), some (.int x2), some (.int x3), some (.int x4), some (.int x5), some (.int (0 : Int32)), some (.int (0 : Int32))] [] h 0 0 Q))) : i_P i_MT i_AT L xs 295 15 [some (.ref x0), some (.int x1), some (.int x2), some (.int x3), some (.int x4), some (.int x5), x6, x7] [] h 0 0 Q := by
  have hk := i_k295
  refine g_s1 (pc2 := 17) hk rfl rfl rfl rfl rfl ?_
  refine g_s1 (pc2 := 19) (st2 := [.int (8 : Int32), .int x5]) hk rfl rfl rfl rfl rfl ?_
  refine g_icmp_ge hk rfl (fun hc => ?_) (fun hc => ?_)
  · have H := H.1 hc
    refine g_s1 (pc2 := 102) (lo2 := [some (.ref x0), some (.int x1), some (.int x2), some (.int x3), some (.int (x4 + 1)), some (.int x5), x6, x7]) hk rfl rfl rfl rfl rfl ?_
    refine g_s1 (pc2 := 3) hk rfl rfl rfl rfl rfl ?_
    exact H
  · have H := H.2 hc
    refine g_s1 (pc2 := 23) (st2 := [.int (0 : Int32)]) hk rfl rfl rfl rfl rfl ?_
    refine g_s1 (pc2 := 25) (lo2 := [some (.ref x0), some (.int x1), some (.int x2), some (.int x3), some (.int x4), some (.int x5), some (.int (0 : Int32)), x7]) hk rfl rfl rfl rfl rfl ?_
    refine g_s1 (pc2 := 26) (st2 := [.int (0 : Int32)]) hk rfl rfl rfl rfl rfl ?_
    refine g_s1 (pc2 := 28) (lo2 := [some (.ref x0), some (.int x1), some (.int x2), some (.int x3), some (.int x4), some (.int x5), some (.int (0 : Int32)), some (.int (0 : Int32))]) hk rfl rfl rfl rfl rfl ?_
    exact H
theorem b295_28 {x0 : Nat} {x1 : Int32} {x2 : Int32} {x3 : Int32} {x4 : Int32} {x5 : Int32} {x6 : Int32} {x7 : Int32} {h : iH} {Q : Option Value → iH → Prop} (H : ((x2 ≤ x7 → (∃ v1 : Nat, i_fld h x0 12 44 = some (.ref v1) ∧ (∃ (n2 : Nat) (f3 : Nat → Int32), i_arI h 0 v1 = some (n2, f3) ∧ ¬ ((((8 : Int32) * x4) + x5) < 0 ∨ n2 ≤ (((8 : Int32) * x4) + x5).toNatClampNeg) ∧ i_P i_MT i_AT L xs 295 93 [some (.ref x0), some (.int x1), some (.int x2), some (.int x3), some (.int x4), some (.int x5), some (.int x6), some (.int x7)] [] (i_siI h v1 (((8 : Int32) * x4) + x5).toNatClampNeg x6) 0 0 Q))) ∧ (¬ (x2 ≤ x7) → (i_obj? h x0 12 ∧ i_C i_MT i_AT L xs 256 [.ref x0, .int x1, .int (2 : Int32)] h (fun v h4 => ∃ r5 : Int32, v = some (.int r5) ∧ i_P i_MT i_AT L xs 295 47 [some (.ref x0), some (.int x1), some (.int x2), some (.int x3), some (.int x4), some (.int x5), some (.int x6), some (.int x7)] [.int r5, .int x5, .int x4, .ref x0, .int x6] h4 0 0 Q))))) : i_P i_MT i_AT L xs 295 28 [some (.ref x0), some (.int x1), some (.int x2), some (.int x3), some (.int x4), some (.int x5), some (.int x6), some (.int x7)] [] h 0 0 Q := by
  have hk := i_k295
  refine g_s1 (pc2 := 30) hk rfl rfl rfl rfl rfl ?_
  refine g_s1 (pc2 := 31) hk rfl rfl rfl rfl rfl ?_
  refine g_icmp_ge hk rfl (fun hc => ?_) (fun hc => ?_)
  · have H := H.1 hc
    refine g_s1 (pc2 := 79) hk rfl rfl rfl rfl rfl ?_
    obtain ⟨v1, ev1, H⟩ := H
    refine g_step (pc2 := 82) hk rfl rfl rfl (s_get ev1) ?_
    refine g_s1 (pc2 := 84) (st2 := [.int (8 : Int32), .ref v1]) hk rfl rfl rfl rfl rfl ?_
    refine g_s1 (pc2 := 86) hk rfl rfl rfl rfl rfl ?_
    refine g_s1 (pc2 := 87) hk rfl rfl rfl rfl rfl ?_
    refine g_s1 (pc2 := 89) hk rfl rfl rfl rfl rfl ?_
    refine g_s1 (pc2 := 90) hk rfl rfl rfl rfl rfl ?_
    refine g_s1 (pc2 := 92) hk rfl rfl rfl rfl rfl ?_
    obtain ⟨n2, f3, ef3, hi, H⟩ := H
    refine g_step (pc2 := 93) hk rfl rfl rfl (s_aput ef3 hi) ?_
    exact H
  · have H := H.2 hc
    refine g_s1 (pc2 := 36) hk rfl rfl rfl rfl rfl ?_
    refine g_s1 (pc2 := 37) hk rfl rfl rfl rfl rfl ?_
    refine g_s1 (pc2 := 39) hk rfl rfl rfl rfl rfl ?_
    refine g_s1 (pc2 := 41) hk rfl rfl rfl rfl rfl ?_
    refine g_s1 (pc2 := 42) hk rfl rfl rfl rfl rfl ?_
    refine g_s1 (pc2 := 43) hk rfl rfl rfl rfl rfl ?_
    refine g_s1 (pc2 := 44) (st2 := [.int (2 : Int32), .int x1, .ref x0, .int x5, .int x4, .ref x0, .int x6]) hk rfl rfl rfl rfl rfl ?_
    obtain ⟨ho, H⟩ := H
    refine g_call hk rfl rfl i_k256.1 ⟨rfl, rfl⟩ rfl (i_rcv_v ho rfl (by decide)) rfl ?_
    exact H.mono (fun v h2 q => by obtain ⟨r, rfl, q⟩ := q; exact q)
theorem b295_47 {x0 : Nat} {x1 : Int32} {x2 : Int32} {x3 : Int32} {x4 : Int32} {x5 : Int32} {x6 : Int32} {x7 : Int32} {s0 : Int32} {s1 : Nat} {s2 : Int32} {s3 : Int32} {s4 : Int32} {h : iH} {Q : Option Value → iH → Prop} (H : (∃ v1 : Nat, i_fld h x0 12 43 = some (.ref v1) ∧ (∃ (n2 : Nat) (f3 : Nat → Int32), i_arI h 0 v1 = some (n2, f3) ∧ ¬ (x7 < 0 ∨ n2 ≤ x7.toNatClampNeg) ∧ (i_obj? h s1 12 ∧ i_C i_MT i_AT L xs 271 [.ref s1, .int s2, .int s3, .int s4, .int (f3 x7.toNatClampNeg), .int x3] h (fun v h4 => ∃ r5 : Int32, v = some (.int r5) ∧ i_P i_MT i_AT L xs 295 58 [some (.ref x0), some (.int x1), some (.int x2), some (.int x3), some (.int x4), some (.int x5), some (.int x6), some (.int x7)] [.int r5, .int s0] h4 0 0 Q))))) : i_P i_MT i_AT L xs 295 47 [some (.ref x0), some (.int x1), some (.int x2), some (.int x3), some (.int x4), some (.int x5), some (.int x6), some (.int x7)] [.int s4, .int s3, .int s2, .ref s1, .int s0] h 0 0 Q := by
  have hk := i_k295
  refine g_s1 (pc2 := 48) hk rfl rfl rfl rfl rfl ?_
  obtain ⟨v1, ev1, H⟩ := H
  refine g_step (pc2 := 51) hk rfl rfl rfl (s_get ev1) ?_
  refine g_s1 (pc2 := 53) hk rfl rfl rfl rfl rfl ?_
  obtain ⟨n2, f3, ef3, hi, H⟩ := H
  refine g_step (pc2 := 54) hk rfl rfl rfl (s_aget (L := L) (xs := xs) ef3 hi) ?_
  refine g_s1 (pc2 := 55) hk rfl rfl rfl rfl rfl ?_
  obtain ⟨ho, H⟩ := H
  refine g_call hk rfl rfl i_k271.1 ⟨rfl, rfl⟩ rfl (i_rcv_v ho rfl (by decide)) rfl ?_
  exact H.mono (fun v h2 q => by obtain ⟨r, rfl, q⟩ := q; exact q)
theorem b295_58 {x0 : Nat} {x1 : Int32} {x2 : Int32} {x3 : Int32} {x4 : Int32} {x5 : Int32} {x6 : Int32} {x7 : Int32} {s0 : Int32} {s1 : Int32} {h : iH} {Q : Option Value → iH → Prop} (H : ((s1 = 0 → i_P i_MT i_AT L xs 295 69 [some (.ref x0), some (.int x1), some (.int x2), some (.int x3), some (.int x4), some (.int x5), some (.int x6), some (.int x7)] [.int (0 : Int32), .int s0] h 0 0 Q) ∧ (¬ (s1 = 0) → i_P i_MT i_AT L xs 295 69 [some (.ref x0), some (.int x1), some (.int x2), some (.int x3), some (.int x4), some (.int x5), some (.int x6), some (.int x7)] [.int ((1 : Int32) <<< (x7 &&& 31)), .int s0] h 0 0 Q))) : i_P i_MT i_AT L xs 295 58 [some (.ref x0), some (.int x1), some (.int x2), some (.int x3), some (.int x4), some (.int x5), some (.int x6), some (.int x7)] [.int s1, .int s0] h 0 0 Q := by
  have hk := i_k295
  refine g_if_eq hk rfl (fun hc => ?_) (fun hc => ?_)
  · have H := H.1 hc
    refine g_s1 (pc2 := 69) (st2 := [.int (0 : Int32), .int s0]) hk rfl rfl rfl rfl rfl ?_
    exact H
  · have H := H.2 hc
    refine g_s1 (pc2 := 62) (st2 := [.int (1 : Int32), .int s0]) hk rfl rfl rfl rfl rfl ?_
    refine g_s1 (pc2 := 64) hk rfl rfl rfl rfl rfl ?_
    refine g_s1 (pc2 := 65) hk rfl rfl rfl rfl rfl ?_
    refine g_s1 (pc2 := 69) hk rfl rfl rfl rfl rfl ?_
    exact H
theorem b295_69 {x0 : Nat} {x1 : Int32} {x2 : Int32} {x3 : Int32} {x4 : Int32} {x5 : Int32} {x6 : Int32} {x7 : Int32} {s0 : Int32} {s1 : Int32} {h : iH} {Q : Option Value → iH → Prop} (H : i_P i_MT i_AT L xs 295 28 [some (.ref x0), some (.int x1), some (.int x2), some (.int x3), some (.int x4), some (.int x5), some (.int (s0 ||| s1)), some (.int (x7 + 1))] [] h 0 0 Q) : i_P i_MT i_AT L xs 295 69 [some (.ref x0), some (.int x1), some (.int x2), some (.int x3), some (.int x4), some (.int x5), some (.int x6), some (.int x7)] [.int s1, .int s0] h 0 0 Q := by
  have hk := i_k295
  refine g_s1 (pc2 := 70) hk rfl rfl rfl rfl rfl ?_
  refine g_s1 (pc2 := 72) (lo2 := [some (.ref x0), some (.int x1), some (.int x2), some (.int x3), some (.int x4), some (.int x5), some (.int (s0 ||| s1)), some (.int x7)]) hk rfl rfl rfl rfl rfl ?_
  refine g_s1 (pc2 := 75) (lo2 := [some (.ref x0), some (.int x1), some (.int x2), some (.int x3), some (.int x4), some (.int x5), some (.int (s0 ||| s1)), some (.int (x7 + 1))]) hk rfl rfl rfl rfl rfl ?_
  refine g_s1 (pc2 := 28) hk rfl rfl rfl rfl rfl ?_
  exact H
theorem b295_93 {x0 : Nat} {x1 : Int32} {x2 : Int32} {x3 : Int32} {x4 : Int32} {x5 : Int32} {x6 : Int32} {x7 : Int32} {h : iH} {Q : Option Value → iH → Prop} (H : i_P i_MT i_AT L xs 295 15 [some (.ref x0), some (.int x1), some (.int x2), some (.int x3), some (.int x4), some (.int (x5 + 1)), some (.int x6), some (.int x7)] [] h 0 0 Q) : i_P i_MT i_AT L xs 295 93 [some (.ref x0), some (.int x1), some (.int x2), some (.int x3), some (.int x4), some (.int x5), some (.int x6), some (.int x7)] [] h 0 0 Q := by
  have hk := i_k295
  refine g_s1 (pc2 := 96) (lo2 := [some (.ref x0), some (.int x1), some (.int x2), some (.int x3), some (.int x4), some (.int (x5 + 1)), some (.int x6), some (.int x7)]) hk rfl rfl rfl rfl rfl ?_
  refine g_s1 (pc2 := 15) hk rfl rfl rfl rfl rfl ?_
  exact H
/-! StillTownModel.findsOn(III)V -/
theorem e296 {x0 : Nat} {x1 : Int32} {x2 : Int32} {x3 : Int32} {h : iH} {Q : Option Value → iH → Prop} (H : i_P i_MT i_AT L xs 296 0 [some (.ref x0), some (.int x1), some (.int x2), some (.int x3), none] [] h 0 0 Q) : i_C i_MT i_AT L xs 296 [.ref x0, .int x1, .int x2, .int x3] h Q := ⟨i_m296, i_k296.1, Nat.le_of_ble_eq_true rfl, H⟩
theorem b296_0 {x0 : Nat} {x1 : Int32} {x2 : Int32} {x3 : Int32} {x4 : Option Value} {h : iH} {Q : Option Value → iH → Prop} (H : i_P i_MT i_AT L xs 296 3 [some (.ref x0), some (.int x1), some (.int x2), some (.int x3), some (.int (0 : Int32))] [] h 0 0 Q) : i_P i_MT i_AT L xs 296 0 [some (.ref x0), some (.int x1), some (.int x2), some (.int x3), x4] [] h 0 0 Q := by
  have hk := i_k296
  refine g_s1 (pc2 := 1) (st2 := [.int (0 : Int32)]) hk rfl rfl rfl rfl rfl ?_
  refine g_s1 (pc2 := 3) (lo2 := [some (.ref x0), some (.int x1), some (.int x2), some (.int x3), some (.int (0 : Int32))]) hk rfl rfl rfl rfl rfl ?_
  exact H
theorem b296_3 {x0 : Nat} {x1 : Int32} {x2 : Int32} {x3 : Int32} {x4 : Int32} {h : iH} {Q : Option Value → iH → Prop} (H : (((64 : Int32) ≤ x4 → Q none h) ∧ (¬ ((64 : Int32) ≤ x4) → (∃ v1 : Nat, i_fld h x0 12 41 = some (.ref v1) ∧ (∃ (n2 : Nat) (f3 : Nat → Int32), i_arI h 2 v1 = some (n2, f3) ∧ ¬ ((((64 : Int32) * x1) + x4) < 0 ∨ n2 ≤ (((64 : Int32) * x1) + x4).toNatClampNeg) ∧ (((f3 (((64 : Int32) * x1) + x4).toNatClampNeg) = 0 → i_P i_MT i_AT L xs 296 55 [some (.ref x0), some (.int x1), some (.int x2), some (.int x3), some (.int x4)] [] h 0 0 Q) ∧ (¬ ((f3 (((64 : Int32) * x1) + x4).toNatClampNeg) = 0) → (∃ v4 : Nat, i_fld h x0 12 42 = some (.ref v4) ∧ (∃ v5 : Nat, i_fld h x0 12 44 = some (.ref v5) ∧ (∃ (n6 : Nat) (f7 : Nat → Int32), i_arI h 0 v5 = some (n6, f7) ∧ ¬ ((((8 : Int32) * x2) + x3) < 0 ∨ n6 ≤ (((8 : Int32) * x2) + x3).toNatClampNeg) ∧ (∃ (n8 : Nat) (f9 : Nat → Int32), i_arI h 2 v4 = some (n8, f9) ∧ ¬ ((((64 : Int32) * (((8 : Int32) * x2) + x3)) + (x4 ||| (f7 (((8 : Int32) * x2) + x3).toNatClampNeg))) < 0 ∨ n8 ≤ (((64 : Int32) * (((8 : Int32) * x2) + x3)) + (x4 ||| (f7 (((8 : Int32) * x2) + x3).toNatClampNeg))).toNatClampNeg) ∧ i_P i_MT i_AT L xs 296 55 [some (.ref x0), some (.int x1), some (.int x2), some (.int x3), some (.int x4)] [] (i_siI h v4 (((64 : Int32) * (((8 : Int32) * x2) + x3)) + (x4 ||| (f7 (((8 : Int32) * x2) + x3).toNatClampNeg))).toNatClampNeg (vp_nar .boolean (1 : Int32))) 0 0 Q))))))))))) : i_P i_MT i_AT L xs 296 3 [some (.ref x0), some (.int x1), some (.int x2), some (.int x3), some (.int x4)] [] h 0 0 Q := by
  have hk := i_k296
  refine g_s1 (pc2 := 5) hk rfl rfl rfl rfl rfl ?_
  refine g_s1 (pc2 := 7) (st2 := [.int (64 : Int32), .int x4]) hk rfl rfl rfl rfl rfl ?_
  refine g_icmp_ge hk rfl (fun hc => ?_) (fun hc => ?_)
  · have H := H.1 hc
    exact g_return hk rfl (by decide) (by decide) rfl H
  · have H := H.2 hc
    refine g_s1 (pc2 := 11) hk rfl rfl rfl rfl rfl ?_
    obtain ⟨v1, ev1, H⟩ := H
    refine g_step (pc2 := 14) hk rfl rfl rfl (s_get ev1) ?_
    refine g_s1 (pc2 := 16) (st2 := [.int (64 : Int32), .ref v1]) hk rfl rfl rfl rfl rfl ?_
    refine g_s1 (pc2 := 17) hk rfl rfl rfl rfl rfl ?_
    refine g_s1 (pc2 := 18) hk rfl rfl rfl rfl rfl ?_
    refine g_s1 (pc2 := 20) hk rfl rfl rfl rfl rfl ?_
    refine g_s1 (pc2 := 21) hk rfl rfl rfl rfl rfl ?_
    obtain ⟨n2, f3, ef3, hi, H⟩ := H
    refine g_step (pc2 := 22) hk rfl rfl rfl (s_bget (t := 2) (by decide) ef3 hi) ?_
    refine g_if_eq hk rfl (fun hc => ?_) (fun hc => ?_)
    · have H := H.1 hc
      exact H
    · have H := H.2 hc
      refine g_s1 (pc2 := 26) hk rfl rfl rfl rfl rfl ?_
      obtain ⟨v4, ev4, H⟩ := H
      refine g_step (pc2 := 29) hk rfl rfl rfl (s_get ev4) ?_
      refine g_s1 (pc2 := 31) (st2 := [.int (64 : Int32), .ref v4]) hk rfl rfl rfl rfl rfl ?_
      refine g_s1 (pc2 := 33) (st2 := [.int (8 : Int32), .int (64 : Int32), .ref v4]) hk rfl rfl rfl rfl rfl ?_
      refine g_s1 (pc2 := 34) hk rfl rfl rfl rfl rfl ?_
      refine g_s1 (pc2 := 35) hk rfl rfl rfl rfl rfl ?_
      refine g_s1 (pc2 := 36) hk rfl rfl rfl rfl rfl ?_
      refine g_s1 (pc2 := 37) hk rfl rfl rfl rfl rfl ?_
      refine g_s1 (pc2 := 38) hk rfl rfl rfl rfl rfl ?_
      refine g_s1 (pc2 := 40) hk rfl rfl rfl rfl rfl ?_
      refine g_s1 (pc2 := 41) hk rfl rfl rfl rfl rfl ?_
      obtain ⟨v5, ev5, H⟩ := H
      refine g_step (pc2 := 44) hk rfl rfl rfl (s_get ev5) ?_
      refine g_s1 (pc2 := 46) (st2 := [.int (8 : Int32), .ref v5, .int x4, .int ((64 : Int32) * (((8 : Int32) * x2) + x3)), .ref v4]) hk rfl rfl rfl rfl rfl ?_
      refine g_s1 (pc2 := 47) hk rfl rfl rfl rfl rfl ?_
      refine g_s1 (pc2 := 48) hk rfl rfl rfl rfl rfl ?_
      refine g_s1 (pc2 := 49) hk rfl rfl rfl rfl rfl ?_
      refine g_s1 (pc2 := 50) hk rfl rfl rfl rfl rfl ?_
      obtain ⟨n6, f7, ef7, hi, H⟩ := H
      refine g_step (pc2 := 51) hk rfl rfl rfl (s_aget (L := L) (xs := xs) ef7 hi) ?_
      refine g_s1 (pc2 := 52) hk rfl rfl rfl rfl rfl ?_
      refine g_s1 (pc2 := 53) hk rfl rfl rfl rfl rfl ?_
      refine g_s1 (pc2 := 54) (st2 := [.int (1 : Int32), .int (((64 : Int32) * (((8 : Int32) * x2) + x3)) + (x4 ||| (f7 (((8 : Int32) * x2) + x3).toNatClampNeg))), .ref v4]) hk rfl rfl rfl rfl rfl ?_
      obtain ⟨n8, f9, ef9, hi, H⟩ := H
      refine g_step (pc2 := 55) hk rfl rfl rfl (s_zput ef9 hi) ?_
      exact H
theorem b296_55 {x0 : Nat} {x1 : Int32} {x2 : Int32} {x3 : Int32} {x4 : Int32} {h : iH} {Q : Option Value → iH → Prop} (H : i_P i_MT i_AT L xs 296 3 [some (.ref x0), some (.int x1), some (.int x2), some (.int x3), some (.int (x4 + 1))] [] h 0 0 Q) : i_P i_MT i_AT L xs 296 55 [some (.ref x0), some (.int x1), some (.int x2), some (.int x3), some (.int x4)] [] h 0 0 Q := by
  have hk := i_k296
  refine g_s1 (pc2 := 58) (lo2 := [some (.ref x0), some (.int x1), some (.int x2), some (.int x3), some (.int (x4 + 1))]) hk rfl rfl rfl rfl rfl ?_
  refine g_s1 (pc2 := 3) hk rfl rfl rfl rfl rfl ?_
  exact H
/-! StillTownModel.isFound(I)Z -/
theorem e297 {x0 : Nat} {x1 : Int32} {h : iH} {Q : Option Value → iH → Prop} (H : i_P i_MT i_AT L xs 297 0 [some (.ref x0), some (.int x1), none] [] h 0 0 Q) : i_C i_MT i_AT L xs 297 [.ref x0, .int x1] h Q := ⟨i_m297, i_k297.1, Nat.le_of_ble_eq_true rfl, H⟩
theorem b297_0 {x0 : Nat} {x1 : Int32} {x2 : Option Value} {h : iH} {Q : Option Value → iH → Prop} (H : i_P i_MT i_AT L xs 297 2 [some (.ref x0), some (.int x1), some (.int (0 : Int32))] [] h 0 0 Q) : i_P i_MT i_AT L xs 297 0 [some (.ref x0), some (.int x1), x2] [] h 0 0 Q := by
  have hk := i_k297
  refine g_s1 (pc2 := 1) (st2 := [.int (0 : Int32)]) hk rfl rfl rfl rfl rfl ?_
  refine g_s1 (pc2 := 2) (lo2 := [some (.ref x0), some (.int x1), some (.int (0 : Int32))]) hk rfl rfl rfl rfl rfl ?_
  exact H
theorem b297_2 {x0 : Nat} {x1 : Int32} {x2 : Int32} {h : iH} {Q : Option Value → iH → Prop} (H : (i_obj? h x0 12 ∧ i_C i_MT i_AT L xs 248 [.ref x0] h (fun v h1 => ∃ r2 : Int32, v = some (.int r2) ∧ i_P i_MT i_AT L xs 297 9 [some (.ref x0), some (.int x1), some (.int x2)] [.int r2, .int (8 : Int32), .int x2] h1 0 0 Q))) : i_P i_MT i_AT L xs 297 2 [some (.ref x0), some (.int x1), some (.int x2)] [] h 0 0 Q := by
  have hk := i_k297
  refine g_s1 (pc2 := 3) hk rfl rfl rfl rfl rfl ?_
  refine g_s1 (pc2 := 5) (st2 := [.int (8 : Int32), .int x2]) hk rfl rfl rfl rfl rfl ?_
  refine g_s1 (pc2 := 6) hk rfl rfl rfl rfl rfl ?_
  obtain ⟨ho, H⟩ := H
  refine g_call hk rfl rfl i_k248.1 ⟨rfl, rfl⟩ rfl (i_rcv_v ho rfl (by decide)) rfl ?_
  exact H.mono (fun v h2 q => by obtain ⟨r, rfl, q⟩ := q; exact q)
theorem b297_9 {x0 : Nat} {x1 : Int32} {x2 : Int32} {s0 : Int32} {s1 : Int32} {s2 : Int32} {h : iH} {Q : Option Value → iH → Prop} (H : (((s1 * s2) ≤ s0 → Q (some (.int 0)) h) ∧ (¬ ((s1 * s2) ≤ s0) → (∃ v1 : Nat, i_fld h x0 12 41 = some (.ref v1) ∧ (∃ (n2 : Nat) (f3 : Nat → Int32), i_arI h 2 v1 = some (n2, f3) ∧ ¬ ((((64 : Int32) * x2) + x1) < 0 ∨ n2 ≤ (((64 : Int32) * x2) + x1).toNatClampNeg) ∧ (((f3 (((64 : Int32) * x2) + x1).toNatClampNeg) = 0 → i_P i_MT i_AT L xs 297 2 [some (.ref x0), some (.int x1), some (.int (x2 + 1))] [] h 0 0 Q) ∧ (¬ ((f3 (((64 : Int32) * x2) + x1).toNatClampNeg) = 0) → Q (some (.int 1)) h))))))) : i_P i_MT i_AT L xs 297 9 [some (.ref x0), some (.int x1), some (.int x2)] [.int s2, .int s1, .int s0] h 0 0 Q := by
  have hk := i_k297
  refine g_s1 (pc2 := 10) hk rfl rfl rfl rfl rfl ?_
  refine g_icmp_ge hk rfl (fun hc => ?_) (fun hc => ?_)
  · have H := H.1 hc
    refine g_s1 (pc2 := 36) (st2 := [.int (0 : Int32)]) hk rfl rfl rfl rfl rfl ?_
    exact g_ireturn hk rfl (by decide) (by decide) rfl H
  · have H := H.2 hc
    refine g_s1 (pc2 := 14) hk rfl rfl rfl rfl rfl ?_
    obtain ⟨v1, ev1, H⟩ := H
    refine g_step (pc2 := 17) hk rfl rfl rfl (s_get ev1) ?_
    refine g_s1 (pc2 := 19) (st2 := [.int (64 : Int32), .ref v1]) hk rfl rfl rfl rfl rfl ?_
    refine g_s1 (pc2 := 20) hk rfl rfl rfl rfl rfl ?_
    refine g_s1 (pc2 := 21) hk rfl rfl rfl rfl rfl ?_
    refine g_s1 (pc2 := 22) hk rfl rfl rfl rfl rfl ?_
    refine g_s1 (pc2 := 23) hk rfl rfl rfl rfl rfl ?_
    obtain ⟨n2, f3, ef3, hi, H⟩ := H
    refine g_step (pc2 := 24) hk rfl rfl rfl (s_bget (t := 2) (by decide) ef3 hi) ?_
    refine g_if_eq hk rfl (fun hc => ?_) (fun hc => ?_)
    · have H := H.1 hc
      refine g_s1 (pc2 := 32) (lo2 := [some (.ref x0), some (.int x1), some (.int (x2 + 1))]) hk rfl rfl rfl rfl rfl ?_
      refine g_s1 (pc2 := 2) hk rfl rfl rfl rfl rfl ?_
      exact H
    · have H := H.2 hc
      refine g_s1 (pc2 := 28) (st2 := [.int (1 : Int32)]) hk rfl rfl rfl rfl rfl ?_
      exact g_ireturn hk rfl (by decide) (by decide) rfl H
/-! StillTownModel.found(IJ)I -/
theorem e298 {x0 : Nat} {x1 : Int32} {x2 : Int64} {h : iH} {Q : Option Value → iH → Prop} (H : i_P i_MT i_AT L xs 298 0 [some (.ref x0), some (.int x1), some (.long x2), none, none, none, none, none, none, none, none, none] [] h 0 0 Q) : i_C i_MT i_AT L xs 298 [.ref x0, .int x1, .long x2] h Q := ⟨i_m298, i_k298.1, Nat.le_of_ble_eq_true rfl, H⟩
theorem b298_0 {x0 : Nat} {x1 : Int32} {x2 : Int64} {x4 : Option Value} {x5 : Option Value} {x6 : Option Value} {x7 : Option Value} {x8 : Option Value} {x9 : Option Value} {x10 : Option Value} {x11 : Option Value} {h : iH} {Q : Option Value → iH → Prop} (H : (i_obj? h x0 12 ∧ i_C i_MT i_AT L xs 254 [.ref x0, .int x1] h (fun v h1 => ∃ r2 : Int32, v = some (.int r2) ∧ i_P i_MT i_AT L xs 298 5 [some (.ref x0), some (.int x1), some (.long x2), none, x4, x5, x6, x7, x8, x9, x10, x11] [.int r2] h1 0 0 Q))) : i_P i_MT i_AT L xs 298 0 [some (.ref x0), some (.int x1), some (.long x2), none, x4, x5, x6, x7, x8, x9, x10, x11] [] h 0 0 Q := by
  have hk := i_k298
  refine g_s1 (pc2 := 1) hk rfl rfl rfl rfl rfl ?_
  refine g_s1 (pc2 := 2) hk rfl rfl rfl rfl rfl ?_
  obtain ⟨ho, H⟩ := H
  refine g_call hk rfl rfl i_k254.1 ⟨rfl, rfl⟩ rfl (i_rcv_v ho rfl (by decide)) rfl ?_
  exact H.mono (fun v h2 q => by obtain ⟨r, rfl, q⟩ := q; exact q)
theorem b298_5 {x0 : Nat} {x1 : Int32} {x2 : Int64} {x4 : Option Value} {x5 : Option Value} {x6 : Option Value} {x7 : Option Value} {x8 : Option Value} {x9 : Option Value} {x10 : Option Value} {x11 : Option Value} {s0 : Int32} {h : iH} {Q : Option Value → iH → Prop} (H : ((s0 = 0 → i_P i_MT i_AT L xs 298 25 [some (.ref x0), some (.int x1), some (.long x2), none, x4, x5, x6, x7, x8, x9, x10, x11] [] h 0 0 Q) ∧ (¬ (s0 = 0) → (((lg_cmp x2 (0 : Int64)) < 0 → i_P i_MT i_AT L xs 298 25 [some (.ref x0), some (.int x1), some (.long x2), none, x4, x5, x6, x7, x8, x9, x10, x11] [] h 0 0 Q) ∧ (¬ ((lg_cmp x2 (0 : Int64)) < 0) → (i_obj? h x0 12 ∧ i_C i_MT i_AT L xs 248 [.ref x0] h (fun v h1 => ∃ r2 : Int32, v = some (.int r2) ∧ i_P i_MT i_AT L xs 298 19 [some (.ref x0), some (.int x1), some (.long x2), none, x4, x5, x6, x7, x8, x9, x10, x11] [.int r2, .long x2] h1 0 0 Q))))))) : i_P i_MT i_AT L xs 298 5 [some (.ref x0), some (.int x1), some (.long x2), none, x4, x5, x6, x7, x8, x9, x10, x11] [.int s0] h 0 0 Q := by
  have hk := i_k298
  refine g_if_eq hk rfl (fun hc => ?_) (fun hc => ?_)
  · have H := H.1 hc
    exact H
  · have H := H.2 hc
    refine g_s1 (pc2 := 9) hk rfl rfl rfl rfl rfl ?_
    refine g_s1 (pc2 := 10) (st2 := [.long (0 : Int64), .long x2]) hk rfl rfl rfl rfl rfl ?_
    refine g_s1 (pc2 := 11) hk rfl rfl rfl rfl rfl ?_
    refine g_if_lt hk rfl (fun hc => ?_) (fun hc => ?_)
    · have H := H.1 hc
      exact H
    · have H := H.2 hc
      refine g_s1 (pc2 := 15) hk rfl rfl rfl rfl rfl ?_
      refine g_s1 (pc2 := 16) hk rfl rfl rfl rfl rfl ?_
      obtain ⟨ho, H⟩ := H
      refine g_call hk rfl rfl i_k248.1 ⟨rfl, rfl⟩ rfl (i_rcv_v ho rfl (by decide)) rfl ?_
      exact H.mono (fun v h2 q => by obtain ⟨r, rfl, q⟩ := q; exact q)
theorem b298_19 {x0 : Nat} {x1 : Int32} {x2 : Int64} {x4 : Option Value} {x5 : Option Value} {x6 : Option Value} {x7 : Option Value} {x8 : Option Value} {x9 : Option Value} {x10 : Option Value} {x11 : Option Value} {s0 : Int64} {s1 : Int32} {h : iH} {Q : Option Value → iH → Prop} (H : (((lg_cmp (s0 >>> (s1.toInt64 &&& 63)) (0 : Int64)) = 0 → i_P i_MT i_AT L xs 298 37 [some (.ref x0), some (.int x1), some (.long x2), none, some (.int (0 : Int32)), some (.int (0 : Int32)), x6, x7, x8, x9, x10, x11] [] h 0 0 Q) ∧ (¬ ((lg_cmp (s0 >>> (s1.toInt64 &&& 63)) (0 : Int64)) = 0) → i_P i_MT i_AT L xs 298 25 [some (.ref x0), some (.int x1), some (.long x2), none, x4, x5, x6, x7, x8, x9, x10, x11] [] h 0 0 Q))) : i_P i_MT i_AT L xs 298 19 [some (.ref x0), some (.int x1), some (.long x2), none, x4, x5, x6, x7, x8, x9, x10, x11] [.int s1, .long s0] h 0 0 Q := by
  have hk := i_k298
  refine g_s1 (pc2 := 20) hk rfl rfl rfl rfl rfl ?_
  refine g_s1 (pc2 := 21) (st2 := [.long (0 : Int64), .long (s0 >>> (s1.toInt64 &&& 63))]) hk rfl rfl rfl rfl rfl ?_
  refine g_s1 (pc2 := 22) hk rfl rfl rfl rfl rfl ?_
  refine g_if_eq hk rfl (fun hc => ?_) (fun hc => ?_)
  · have H := H.1 hc
    refine g_s1 (pc2 := 32) (st2 := [.int (0 : Int32)]) hk rfl rfl rfl rfl rfl ?_
    refine g_s1 (pc2 := 34) (lo2 := [some (.ref x0), some (.int x1), some (.long x2), none, some (.int (0 : Int32)), x5, x6, x7, x8, x9, x10, x11]) hk rfl rfl rfl rfl rfl ?_
    refine g_s1 (pc2 := 35) (st2 := [.int (0 : Int32)]) hk rfl rfl rfl rfl rfl ?_
    refine g_s1 (pc2 := 37) (lo2 := [some (.ref x0), some (.int x1), some (.long x2), none, some (.int (0 : Int32)), some (.int (0 : Int32)), x6, x7, x8, x9, x10, x11]) hk rfl rfl rfl rfl rfl ?_
    exact H
  · have H := H.2 hc
    exact H
theorem b298_25 {x0 : Nat} {x1 : Int32} {x2 : Int64} {x4 : Option Value} {x5 : Option Value} {x6 : Option Value} {x7 : Option Value} {x8 : Option Value} {x9 : Option Value} {x10 : Option Value} {x11 : Option Value} {h : iH} {Q : Option Value → iH → Prop} (H : (i_obj? h x0 12 ∧ i_C i_MT i_AT L xs 201 [.ref x0, .int (1 : Int32)] h (fun v h1 => ∃ r2 : Int32, v = some (.int r2) ∧ i_P i_MT i_AT L xs 298 30 [some (.ref x0), some (.int x1), some (.long x2), none, x4, x5, x6, x7, x8, x9, x10, x11] [.int r2] h1 0 0 Q))) : i_P i_MT i_AT L xs 298 25 [some (.ref x0), some (.int x1), some (.long x2), none, x4, x5, x6, x7, x8, x9, x10, x11] [] h 0 0 Q := by
  have hk := i_k298
  refine g_s1 (pc2 := 26) hk rfl rfl rfl rfl rfl ?_
  refine g_s1 (pc2 := 27) (st2 := [.int (1 : Int32), .ref x0]) hk rfl rfl rfl rfl rfl ?_
  obtain ⟨ho, H⟩ := H
  refine g_call hk rfl rfl i_k201.1 ⟨rfl, rfl⟩ rfl (i_rcv_v ho rfl (by decide)) rfl ?_
  exact H.mono (fun v h2 q => by obtain ⟨r, rfl, q⟩ := q; exact q)
theorem b298_30 {x0 : Nat} {x1 : Int32} {x2 : Int64} {x4 : Option Value} {x5 : Option Value} {x6 : Option Value} {x7 : Option Value} {x8 : Option Value} {x9 : Option Value} {x10 : Option Value} {x11 : Option Value} {s0 : Int32} {h : iH} {Q : Option Value → iH → Prop} (H : Q (some (.int s0)) h) : i_P i_MT i_AT L xs 298 30 [some (.ref x0), some (.int x1), some (.long x2), none, x4, x5, x6, x7, x8, x9, x10, x11] [.int s0] h 0 0 Q := by
  have hk := i_k298
  exact g_ireturn hk rfl (by decide) (by decide) rfl H
theorem b298_37 {x0 : Nat} {x1 : Int32} {x2 : Int64} {x4 : Int32} {x5 : Int32} {x6 : Option Value} {x7 : Option Value} {x8 : Option Value} {x9 : Option Value} {x10 : Option Value} {x11 : Option Value} {h : iH} {Q : Option Value → iH → Prop} (H : (i_obj? h x0 12 ∧ i_C i_MT i_AT L xs 248 [.ref x0] h (fun v h1 => ∃ r2 : Int32, v = some (.int r2) ∧ i_P i_MT i_AT L xs 298 43 [some (.ref x0), some (.int x1), some (.long x2), none, some (.int x4), some (.int x5), x6, x7, x8, x9, x10, x11] [.int r2, .int x5] h1 0 0 Q))) : i_P i_MT i_AT L xs 298 37 [some (.ref x0), some (.int x1), some (.long x2), none, some (.int x4), some (.int x5), x6, x7, x8, x9, x10, x11] [] h 0 0 Q := by
  have hk := i_k298
  refine g_s1 (pc2 := 39) hk rfl rfl rfl rfl rfl ?_
  refine g_s1 (pc2 := 40) hk rfl rfl rfl rfl rfl ?_
  obtain ⟨ho, H⟩ := H
  refine g_call hk rfl rfl i_k248.1 ⟨rfl, rfl⟩ rfl (i_rcv_v ho rfl (by decide)) rfl ?_
  exact H.mono (fun v h2 q => by obtain ⟨r, rfl, q⟩ := q; exact q)
theorem b298_43 {x0 : Nat} {x1 : Int32} {x2 : Int64} {x4 : Int32} {x5 : Int32} {x6 : Option Value} {x7 : Option Value} {x8 : Option Value} {x9 : Option Value} {x10 : Option Value} {x11 : Option Value} {s0 : Int32} {s1 : Int32} {h : iH} {Q : Option Value → iH → Prop} (H : ((s1 ≤ s0 → (i_obj? h x0 12 ∧ i_C i_MT i_AT L xs 248 [.ref x0] h (fun v h1 => ∃ r2 : Int32, v = some (.int r2) ∧ i_P i_MT i_AT L xs 298 106 [some (.ref x0), some (.int x1), some (.long x2), none, some (.int x4), some (.int (((1 : Int32) <<< (x4 &&& 31)) - (1 : Int32))), x6, x7, x8, x9, x10, x11] [.int r2, .int (512 : Int32)] h1 0 0 Q))) ∧ (¬ (s1 ≤ s0) → ((¬ (lg_cmp ((x2 >>> (x5.toInt64 &&& 63)) &&& (1 : Int64)) (0 : Int64)) = 0 → ((¬ x4 = (6 : Int32) → (∃ v3 : Nat, i_fld h x0 12 43 = some (.ref v3) ∧ (∃ (n4 : Nat) (f5 : Nat → Int32), i_arI h 0 v3 = some (n4, f5) ∧ ¬ (x4 < 0 ∨ n4 ≤ x4.toNatClampNeg) ∧ i_P i_MT i_AT L xs 298 82 [some (.ref x0), some (.int x1), some (.long x2), none, some (.int x4), some (.int x5), x6, x7, x8, x9, x10, x11] [] (i_siI h v3 x4.toNatClampNeg x5) 0 0 Q))) ∧ (¬ (¬ x4 = (6 : Int32)) → (i_obj? h x0 12 ∧ i_C i_MT i_AT L xs 201 [.ref x0, .int (1 : Int32)] h (fun v h6 => ∃ r7 : Int32, v = some (.int r7) ∧ i_P i_MT i_AT L xs 298 72 [some (.ref x0), some (.int x1), some (.long x2), none, some (.int x4), some (.int x5), x6, x7, x8, x9, x10, x11] [.int r7] h6 0 0 Q))))) ∧ (¬ (¬ (lg_cmp ((x2 >>> (x5.toInt64 &&& 63)) &&& (1 : Int64)) (0 : Int64)) = 0) → i_P i_MT i_AT L xs 298 85 [some (.ref x0), some (.int x1), some (.long x2), none, some (.int x4), some (.int x5), x6, x7, x8, x9, x10, x11] [] h 0 0 Q))))) : i_P i_MT i_AT L xs 298 43 [some (.ref x0), some (.int x1), some (.long x2), none, some (.int x4), some (.int x5), x6, x7, x8, x9, x10, x11] [.int s1, .int s0] h 0 0 Q := by
  have hk := i_k298
  refine g_icmp_ge hk rfl (fun hc => ?_) (fun hc => ?_)
  · have H := H.1 hc
    refine g_s1 (pc2 := 92) (st2 := [.int (1 : Int32)]) hk rfl rfl rfl rfl rfl ?_
    refine g_s1 (pc2 := 94) hk rfl rfl rfl rfl rfl ?_
    refine g_s1 (pc2 := 95) hk rfl rfl rfl rfl rfl ?_
    refine g_s1 (pc2 := 96) (st2 := [.int (1 : Int32), .int ((1 : Int32) <<< (x4 &&& 31))]) hk rfl rfl rfl rfl rfl ?_
    refine g_s1 (pc2 := 97) hk rfl rfl rfl rfl rfl ?_
    refine g_s1 (pc2 := 99) (lo2 := [some (.ref x0), some (.int x1), some (.long x2), none, some (.int x4), some (.int (((1 : Int32) <<< (x4 &&& 31)) - (1 : Int32))), x6, x7, x8, x9, x10, x11]) hk rfl rfl rfl rfl rfl ?_
    refine g_s1 (pc2 := 102) (st2 := [.int (512 : Int32)]) hk rfl rfl rfl rfl rfl ?_
    refine g_s1 (pc2 := 103) hk rfl rfl rfl rfl rfl ?_
    obtain ⟨ho, H⟩ := H
    refine g_call hk rfl rfl i_k248.1 ⟨rfl, rfl⟩ rfl (i_rcv_v ho rfl (by decide)) rfl ?_
    exact H.mono (fun v h2 q => by obtain ⟨r, rfl, q⟩ := q; exact q)
  · have H := H.2 hc
    refine g_s1 (pc2 := 47) hk rfl rfl rfl rfl rfl ?_
    refine g_s1 (pc2 := 49) hk rfl rfl rfl rfl rfl ?_
    refine g_s1 (pc2 := 50) hk rfl rfl rfl rfl rfl ?_
    refine g_s1 (pc2 := 51) (st2 := [.long (1 : Int64), .long (x2 >>> (x5.toInt64 &&& 63))]) hk rfl rfl rfl rfl rfl ?_
    refine g_s1 (pc2 := 52) hk rfl rfl rfl rfl rfl ?_
    refine g_s1 (pc2 := 53) (st2 := [.long (0 : Int64), .long ((x2 >>> (x5.toInt64 &&& 63)) &&& (1 : Int64))]) hk rfl rfl rfl rfl rfl ?_
    refine g_s1 (pc2 := 54) hk rfl rfl rfl rfl rfl ?_
    refine g_if_ne hk rfl (fun hc => ?_) (fun hc => ?_)
    · have H := H.1 hc
      refine g_s1 (pc2 := 62) hk rfl rfl rfl rfl rfl ?_
      refine g_s1 (pc2 := 64) (st2 := [.int (6 : Int32), .int x4]) hk rfl rfl rfl rfl rfl ?_
      refine g_icmp_ne hk rfl (fun hc => ?_) (fun hc => ?_)
      · have H := H.1 hc
        refine g_s1 (pc2 := 74) hk rfl rfl rfl rfl rfl ?_
        obtain ⟨v3, ev3, H⟩ := H
        refine g_step (pc2 := 77) hk rfl rfl rfl (s_get ev3) ?_
        refine g_s1 (pc2 := 79) hk rfl rfl rfl rfl rfl ?_
        refine g_s1 (pc2 := 81) hk rfl rfl rfl rfl rfl ?_
        obtain ⟨n4, f5, ef5, hi, H⟩ := H
        refine g_step (pc2 := 82) hk rfl rfl rfl (s_aput ef5 hi) ?_
        exact H
      · have H := H.2 hc
        refine g_s1 (pc2 := 68) hk rfl rfl rfl rfl rfl ?_
        refine g_s1 (pc2 := 69) (st2 := [.int (1 : Int32), .ref x0]) hk rfl rfl rfl rfl rfl ?_
        obtain ⟨ho, H⟩ := H
        refine g_call hk rfl rfl i_k201.1 ⟨rfl, rfl⟩ rfl (i_rcv_v ho rfl (by decide)) rfl ?_
        exact H.mono (fun v h2 q => by obtain ⟨r, rfl, q⟩ := q; exact q)
    · have H := H.2 hc
      refine g_s1 (pc2 := 85) hk rfl rfl rfl rfl rfl ?_
      exact H
theorem b298_72 {x0 : Nat} {x1 : Int32} {x2 : Int64} {x4 : Int32} {x5 : Int32} {x6 : Option Value} {x7 : Option Value} {x8 : Option Value} {x9 : Option Value} {x10 : Option Value} {x11 : Option Value} {s0 : Int32} {h : iH} {Q : Option Value → iH → Prop} (H : Q (some (.int s0)) h) : i_P i_MT i_AT L xs 298 72 [some (.ref x0), some (.int x1), some (.long x2), none, some (.int x4), some (.int x5), x6, x7, x8, x9, x10, x11] [.int s0] h 0 0 Q := by
  have hk := i_k298
  exact g_ireturn hk rfl (by decide) (by decide) rfl H
theorem b298_82 {x0 : Nat} {x1 : Int32} {x2 : Int64} {x4 : Int32} {x5 : Int32} {x6 : Option Value} {x7 : Option Value} {x8 : Option Value} {x9 : Option Value} {x10 : Option Value} {x11 : Option Value} {h : iH} {Q : Option Value → iH → Prop} (H : i_P i_MT i_AT L xs 298 85 [some (.ref x0), some (.int x1), some (.long x2), none, some (.int (x4 + 1)), some (.int x5), x6, x7, x8, x9, x10, x11] [] h 0 0 Q) : i_P i_MT i_AT L xs 298 82 [some (.ref x0), some (.int x1), some (.long x2), none, some (.int x4), some (.int x5), x6, x7, x8, x9, x10, x11] [] h 0 0 Q := by
  have hk := i_k298
  refine g_s1 (pc2 := 85) (lo2 := [some (.ref x0), some (.int x1), some (.long x2), none, some (.int (x4 + 1)), some (.int x5), x6, x7, x8, x9, x10, x11]) hk rfl rfl rfl rfl rfl ?_
  exact H
theorem b298_85 {x0 : Nat} {x1 : Int32} {x2 : Int64} {x4 : Int32} {x5 : Int32} {x6 : Option Value} {x7 : Option Value} {x8 : Option Value} {x9 : Option Value} {x10 : Option Value} {x11 : Option Value} {h : iH} {Q : Option Value → iH → Prop} (H : i_P i_MT i_AT L xs 298 37 [some (.ref x0), some (.int x1), some (.long x2), none, some (.int x4), some (.int (x5 + 1)), x6, x7, x8, x9, x10, x11] [] h 0 0 Q) : i_P i_MT i_AT L xs 298 85 [some (.ref x0), some (.int x1), some (.long x2), none, some (.int x4), some (.int x5), x6, x7, x8, x9, x10, x11] [] h 0 0 Q := by
  have hk := i_k298
  refine g_s1 (pc2 := 88) (lo2 := [some (.ref x0), some (.int x1), some (.long x2), none, some (.int x4), some (.int (x5 + 1)), x6, x7, x8, x9, x10, x11]) hk rfl rfl rfl rfl rfl ?_
  refine g_s1 (pc2 := 37) hk rfl rfl rfl rfl rfl ?_
  exact H
theorem b298_106 {x0 : Nat} {x1 : Int32} {x2 : Int64} {x4 : Int32} {x5 : Int32} {x6 : Option Value} {x7 : Option Value} {x8 : Option Value} {x9 : Option Value} {x10 : Option Value} {x11 : Option Value} {s0 : Int32} {s1 : Int32} {h : iH} {Q : Option Value → iH → Prop} (H : i_P i_MT i_AT L xs 298 112 [some (.ref x0), some (.int x1), some (.long x2), none, some (.int x4), some (.int x5), some (.int (s0 * s1)), some (.int (0 : Int32)), x8, x9, x10, x11] [] h 0 0 Q) : i_P i_MT i_AT L xs 298 106 [some (.ref x0), some (.int x1), some (.long x2), none, some (.int x4), some (.int x5), x6, x7, x8, x9, x10, x11] [.int s1, .int s0] h 0 0 Q := by
  have hk := i_k298
  refine g_s1 (pc2 := 107) hk rfl rfl rfl rfl rfl ?_
  refine g_s1 (pc2 := 109) (lo2 := [some (.ref x0), some (.int x1), some (.long x2), none, some (.int x4), some (.int x5), some (.int (s0 * s1)), x7, x8, x9, x10, x11]) hk rfl rfl rfl rfl rfl ?_
  refine g_s1 (pc2 := 110) (st2 := [.int (0 : Int32)]) hk rfl rfl rfl rfl rfl ?_
  refine g_s1 (pc2 := 112) (lo2 := [some (.ref x0), some (.int x1), some (.long x2), none, some (.int x4), some (.int x5), some (.int (s0 * s1)), some (.int (0 : Int32)), x8, x9, x10, x11]) hk rfl rfl rfl rfl rfl ?_
  exact H
theorem b298_112 {x0 : Nat} {x1 : Int32} {x2 : Int64} {x4 : Int32} {x5 : Int32} {x6 : Int32} {x7 : Int32} {x8 : Option Value} {x9 : Option Value} {x10 : Option Value} {x11 : Option Value} {h : iH} {Q : Option Value → iH → Prop} (H : ((x6 ≤ x7 → (∃ v1 : Nat, i_fld h x0 12 41 = some (.ref v1) ∧ (∃ v2 : Nat, i_fld h x0 12 0 = some (.ref v2) ∧ (∃ (n3 : Nat) (f4 : Nat → Int32), i_arI h 0 v2 = some (n3, f4) ∧ ¬ (((154 : Int32) + ((5 : Int32) * x1)) < 0 ∨ n3 ≤ ((154 : Int32) + ((5 : Int32) * x1)).toNatClampNeg) ∧ (i_obj? h x0 12 ∧ i_C i_MT i_AT L xs 256 [.ref x0, .int x1, .int (1 : Int32)] h (fun v h5 => ∃ r6 : Int32, v = some (.int r6) ∧ i_P i_MT i_AT L xs 298 160 [some (.ref x0), some (.int x1), some (.long x2), none, some (.int x4), some (.int x5), some (.int x6), some (.int x7), x8, x9, x10, x11] [.int r6, .int ((8 : Int32) * (f4 ((154 : Int32) + ((5 : Int32) * x1)).toNatClampNeg)), .int (64 : Int32), .ref v1] h5 0 0 Q)))))) ∧ (¬ (x6 ≤ x7) → (∃ v7 : Nat, i_fld h x0 12 41 = some (.ref v7) ∧ (∃ (n8 : Nat) (f9 : Nat → Int32), i_arI h 2 v7 = some (n8, f9) ∧ ¬ (x7 < 0 ∨ n8 ≤ x7.toNatClampNeg) ∧ i_P i_MT i_AT L xs 298 127 [some (.ref x0), some (.int x1), some (.long x2), none, some (.int x4), some (.int x5), some (.int x6), some (.int x7), x8, x9, x10, x11] [] (i_siI h v7 x7.toNatClampNeg (vp_nar .boolean (0 : Int32))) 0 0 Q))))) : i_P i_MT i_AT L xs 298 112 [some (.ref x0), some (.int x1), some (.long x2), none, some (.int x4), some (.int x5), some (.int x6), some (.int x7), x8, x9, x10, x11] [] h 0 0 Q := by
  have hk := i_k298
  refine g_s1 (pc2 := 114) hk rfl rfl rfl rfl rfl ?_
  refine g_s1 (pc2 := 116) hk rfl rfl rfl rfl rfl ?_
  refine g_icmp_ge hk rfl (fun hc => ?_) (fun hc => ?_)
  · have H := H.1 hc
    refine g_s1 (pc2 := 134) hk rfl rfl rfl rfl rfl ?_
    obtain ⟨v1, ev1, H⟩ := H
    refine g_step (pc2 := 137) hk rfl rfl rfl (s_get ev1) ?_
    refine g_s1 (pc2 := 139) (st2 := [.int (64 : Int32), .ref v1]) hk rfl rfl rfl rfl rfl ?_
    refine g_s1 (pc2 := 141) (st2 := [.int (8 : Int32), .int (64 : Int32), .ref v1]) hk rfl rfl rfl rfl rfl ?_
    refine g_s1 (pc2 := 142) hk rfl rfl rfl rfl rfl ?_
    obtain ⟨v2, ev2, H⟩ := H
    refine g_step (pc2 := 145) hk rfl rfl rfl (s_get ev2) ?_
    refine g_s1 (pc2 := 148) (st2 := [.int (154 : Int32), .ref v2, .int (8 : Int32), .int (64 : Int32), .ref v1]) hk rfl rfl rfl rfl rfl ?_
    refine g_s1 (pc2 := 149) (st2 := [.int (5 : Int32), .int (154 : Int32), .ref v2, .int (8 : Int32), .int (64 : Int32), .ref v1]) hk rfl rfl rfl rfl rfl ?_
    refine g_s1 (pc2 := 150) hk rfl rfl rfl rfl rfl ?_
    refine g_s1 (pc2 := 151) hk rfl rfl rfl rfl rfl ?_
    refine g_s1 (pc2 := 152) hk rfl rfl rfl rfl rfl ?_
    obtain ⟨n3, f4, ef4, hi, H⟩ := H
    refine g_step (pc2 := 153) hk rfl rfl rfl (s_aget (L := L) (xs := xs) ef4 hi) ?_
    refine g_s1 (pc2 := 154) hk rfl rfl rfl rfl rfl ?_
    refine g_s1 (pc2 := 155) hk rfl rfl rfl rfl rfl ?_
    refine g_s1 (pc2 := 156) hk rfl rfl rfl rfl rfl ?_
    refine g_s1 (pc2 := 157) (st2 := [.int (1 : Int32), .int x1, .ref x0, .int ((8 : Int32) * (f4 ((154 : Int32) + ((5 : Int32) * x1)).toNatClampNeg)), .int (64 : Int32), .ref v1]) hk rfl rfl rfl rfl rfl ?_
    obtain ⟨ho, H⟩ := H
    refine g_call hk rfl rfl i_k256.1 ⟨rfl, rfl⟩ rfl (i_rcv_v ho rfl (by decide)) rfl ?_
    exact H.mono (fun v h2 q => by obtain ⟨r, rfl, q⟩ := q; exact q)
  · have H := H.2 hc
    refine g_s1 (pc2 := 120) hk rfl rfl rfl rfl rfl ?_
    obtain ⟨v7, ev7, H⟩ := H
    refine g_step (pc2 := 123) hk rfl rfl rfl (s_get ev7) ?_
    refine g_s1 (pc2 := 125) hk rfl rfl rfl rfl rfl ?_
    refine g_s1 (pc2 := 126) (st2 := [.int (0 : Int32), .int x7, .ref v7]) hk rfl rfl rfl rfl rfl ?_
    obtain ⟨n8, f9, ef9, hi, H⟩ := H
    refine g_step (pc2 := 127) hk rfl rfl rfl (s_zput ef9 hi) ?_
    exact H
theorem b298_127 {x0 : Nat} {x1 : Int32} {x2 : Int64} {x4 : Int32} {x5 : Int32} {x6 : Int32} {x7 : Int32} {x8 : Option Value} {x9 : Option Value} {x10 : Option Value} {x11 : Option Value} {h : iH} {Q : Option Value → iH → Prop} (H : i_P i_MT i_AT L xs 298 112 [some (.ref x0), some (.int x1), some (.long x2), none, some (.int x4), some (.int x5), some (.int x6), some (.int (x7 + 1)), x8, x9, x10, x11] [] h 0 0 Q) : i_P i_MT i_AT L xs 298 127 [some (.ref x0), some (.int x1), some (.long x2), none, some (.int x4), some (.int x5), some (.int x6), some (.int x7), x8, x9, x10, x11] [] h 0 0 Q := by
  have hk := i_k298
  refine g_s1 (pc2 := 130) (lo2 := [some (.ref x0), some (.int x1), some (.long x2), none, some (.int x4), some (.int x5), some (.int x6), some (.int (x7 + 1)), x8, x9, x10, x11]) hk rfl rfl rfl rfl rfl ?_
  refine g_s1 (pc2 := 112) hk rfl rfl rfl rfl rfl ?_
  exact H
theorem b298_160 {x0 : Nat} {x1 : Int32} {x2 : Int64} {x4 : Int32} {x5 : Int32} {x6 : Int32} {x7 : Int32} {x8 : Option Value} {x9 : Option Value} {x10 : Option Value} {x11 : Option Value} {s0 : Nat} {s1 : Int32} {s2 : Int32} {s3 : Int32} {h : iH} {Q : Option Value → iH → Prop} (H : (∃ (n1 : Nat) (f2 : Nat → Int32), i_arI h 2 s0 = some (n1, f2) ∧ ¬ ((s1 * (s2 + s3)) < 0 ∨ n1 ≤ (s1 * (s2 + s3)).toNatClampNeg) ∧ i_P i_MT i_AT L xs 298 164 [some (.ref x0), some (.int x1), some (.long x2), none, some (.int x4), some (.int x5), some (.int x6), some (.int x7), x8, x9, x10, x11] [] (i_siI h s0 (s1 * (s2 + s3)).toNatClampNeg (vp_nar .boolean (1 : Int32))) 0 0 Q)) : i_P i_MT i_AT L xs 298 160 [some (.ref x0), some (.int x1), some (.long x2), none, some (.int x4), some (.int x5), some (.int x6), some (.int x7), x8, x9, x10, x11] [.int s3, .int s2, .int s1, .ref s0] h 0 0 Q := by
  have hk := i_k298
  refine g_s1 (pc2 := 161) hk rfl rfl rfl rfl rfl ?_
  refine g_s1 (pc2 := 162) hk rfl rfl rfl rfl rfl ?_
  refine g_s1 (pc2 := 163) (st2 := [.int (1 : Int32), .int (s1 * (s2 + s3)), .ref s0]) hk rfl rfl rfl rfl rfl ?_
  obtain ⟨n1, f2, ef2, hi, H⟩ := H
  refine g_step (pc2 := 164) hk rfl rfl rfl (s_zput ef2 hi) ?_
  exact H
theorem b298_164 {x0 : Nat} {x1 : Int32} {x2 : Int64} {x4 : Int32} {x5 : Int32} {x6 : Int32} {x7 : Int32} {x8 : Option Value} {x9 : Option Value} {x10 : Option Value} {x11 : Option Value} {h : iH} {Q : Option Value → iH → Prop} (H : i_P i_MT i_AT L xs 298 167 [some (.ref x0), some (.int x1), some (.long x2), none, some (.int x4), some (.int x5), some (.int x6), some (.int (0 : Int32)), x8, x9, x10, x11] [] h 0 0 Q) : i_P i_MT i_AT L xs 298 164 [some (.ref x0), some (.int x1), some (.long x2), none, some (.int x4), some (.int x5), some (.int x6), some (.int x7), x8, x9, x10, x11] [] h 0 0 Q := by
  have hk := i_k298
  refine g_s1 (pc2 := 165) (st2 := [.int (0 : Int32)]) hk rfl rfl rfl rfl rfl ?_
  refine g_s1 (pc2 := 167) (lo2 := [some (.ref x0), some (.int x1), some (.long x2), none, some (.int x4), some (.int x5), some (.int x6), some (.int (0 : Int32)), x8, x9, x10, x11]) hk rfl rfl rfl rfl rfl ?_
  exact H
theorem b298_167 {x0 : Nat} {x1 : Int32} {x2 : Int64} {x4 : Int32} {x5 : Int32} {x6 : Int32} {x7 : Int32} {x8 : Option Value} {x9 : Option Value} {x10 : Option Value} {x11 : Option Value} {h : iH} {Q : Option Value → iH → Prop} (H : (((30 : Int32) < x7 → (i_obj? h x0 12 ∧ i_C i_MT i_AT L xs 201 [.ref x0, .int (6 : Int32)] h (fun v h1 => ∃ r2 : Int32, v = some (.int r2) ∧ i_P i_MT i_AT L xs 298 364 [some (.ref x0), some (.int x1), some (.long x2), none, some (.int x4), some (.int x5), some (.int x6), some (.int x7), x8, x9, x10, x11] [.int r2] h1 0 0 Q))) ∧ (¬ ((30 : Int32) < x7) → (i_obj? h x0 12 ∧ i_C i_MT i_AT L xs 297 [.ref x0, .int x5] h (fun v h3 => ∃ r4 : Int32, v = some (.int r4) ∧ i_P i_MT i_AT L xs 298 180 [some (.ref x0), some (.int x1), some (.long x2), none, some (.int x4), some (.int x5), some (.int x6), some (.int x7), x8, x9, x10, x11] [.int r4] h3 0 0 Q))))) : i_P i_MT i_AT L xs 298 167 [some (.ref x0), some (.int x1), some (.long x2), none, some (.int x4), some (.int x5), some (.int x6), some (.int x7), x8, x9, x10, x11] [] h 0 0 Q := by
  have hk := i_k298
  refine g_s1 (pc2 := 169) hk rfl rfl rfl rfl rfl ?_
  refine g_s1 (pc2 := 171) (st2 := [.int (30 : Int32), .int x7]) hk rfl rfl rfl rfl rfl ?_
  refine g_icmp_gt hk rfl (fun hc => ?_) (fun hc => ?_)
  · have H := H.1 hc
    refine g_s1 (pc2 := 359) hk rfl rfl rfl rfl rfl ?_
    refine g_s1 (pc2 := 361) (st2 := [.int (6 : Int32), .ref x0]) hk rfl rfl rfl rfl rfl ?_
    obtain ⟨ho, H⟩ := H
    refine g_call hk rfl rfl i_k201.1 ⟨rfl, rfl⟩ rfl (i_rcv_v ho rfl (by decide)) rfl ?_
    exact H.mono (fun v h2 q => by obtain ⟨r, rfl, q⟩ := q; exact q)
  · have H := H.2 hc
    refine g_s1 (pc2 := 175) hk rfl rfl rfl rfl rfl ?_
    refine g_s1 (pc2 := 177) hk rfl rfl rfl rfl rfl ?_
    obtain ⟨ho, H⟩ := H
    refine g_call hk rfl rfl i_k297.1 ⟨rfl, rfl⟩ rfl (i_rcv_v ho rfl (by decide)) rfl ?_
    exact H.mono (fun v h2 q => by obtain ⟨r, rfl, q⟩ := q; exact q)
theorem b298_180 {x0 : Nat} {x1 : Int32} {x2 : Int64} {x4 : Int32} {x5 : Int32} {x6 : Int32} {x7 : Int32} {x8 : Option Value} {x9 : Option Value} {x10 : Option Value} {x11 : Option Value} {s0 : Int32} {h : iH} {Q : Option Value → iH → Prop} (H : ((s0 = 0 → i_P i_MT i_AT L xs 298 193 [some (.ref x0), some (.int x1), some (.long x2), none, some (.int x4), some (.int x5), some (.int x6), some (.int x7), some (.int (0 : Int32)), x9, x10, x11] [] h 0 0 Q) ∧ (¬ (s0 = 0) → (i_obj? h x0 12 ∧ i_C i_MT i_AT L xs 202 [.ref x0, .int x7] h (fun v h1 => ∃ r2 : Int32, v = some (.int r2) ∧ i_P i_MT i_AT L xs 298 189 [some (.ref x0), some (.int x1), some (.long x2), none, some (.int x4), some (.int x5), some (.int x6), some (.int x7), x8, x9, x10, x11] [.int r2] h1 0 0 Q))))) : i_P i_MT i_AT L xs 298 180 [some (.ref x0), some (.int x1), some (.long x2), none, some (.int x4), some (.int x5), some (.int x6), some (.int x7), x8, x9, x10, x11] [.int s0] h 0 0 Q := by
  have hk := i_k298
  refine g_if_eq hk rfl (fun hc => ?_) (fun hc => ?_)
  · have H := H.1 hc
    refine g_s1 (pc2 := 191) (st2 := [.int (0 : Int32)]) hk rfl rfl rfl rfl rfl ?_
    refine g_s1 (pc2 := 193) (lo2 := [some (.ref x0), some (.int x1), some (.long x2), none, some (.int x4), some (.int x5), some (.int x6), some (.int x7), some (.int (0 : Int32)), x9, x10, x11]) hk rfl rfl rfl rfl rfl ?_
    exact H
  · have H := H.2 hc
    refine g_s1 (pc2 := 184) hk rfl rfl rfl rfl rfl ?_
    refine g_s1 (pc2 := 186) hk rfl rfl rfl rfl rfl ?_
    obtain ⟨ho, H⟩ := H
    refine g_call hk rfl rfl i_k202.1 ⟨rfl, rfl⟩ rfl (i_rcv_v ho rfl (by decide)) rfl ?_
    exact H.mono (fun v h2 q => by obtain ⟨r, rfl, q⟩ := q; exact q)
theorem b298_189 {x0 : Nat} {x1 : Int32} {x2 : Int64} {x4 : Int32} {x5 : Int32} {x6 : Int32} {x7 : Int32} {x8 : Option Value} {x9 : Option Value} {x10 : Option Value} {x11 : Option Value} {s0 : Int32} {h : iH} {Q : Option Value → iH → Prop} (H : Q (some (.int s0)) h) : i_P i_MT i_AT L xs 298 189 [some (.ref x0), some (.int x1), some (.long x2), none, some (.int x4), some (.int x5), some (.int x6), some (.int x7), x8, x9, x10, x11] [.int s0] h 0 0 Q := by
  have hk := i_k298
  exact g_ireturn hk rfl (by decide) (by decide) rfl H
theorem b298_193 {x0 : Nat} {x1 : Int32} {x2 : Int64} {x4 : Int32} {x5 : Int32} {x6 : Int32} {x7 : Int32} {x8 : Int32} {x9 : Option Value} {x10 : Option Value} {x11 : Option Value} {h : iH} {Q : Option Value → iH → Prop} (H : ((x6 ≤ x8 → (((30 : Int32) ≤ x7 → i_P i_MT i_AT L xs 298 232 [some (.ref x0), some (.int x1), some (.long x2), none, some (.int x4), some (.int x5), some (.int x6), some (.int x7), some (.int x8), x9, x10, x11] [] h 0 0 Q) ∧ (¬ ((30 : Int32) ≤ x7) → (i_obj? h x0 12 ∧ i_C i_MT i_AT L xs 295 [.ref x0, .int x1, .int x4, .int (x7 + (1 : Int32))] h (fun v h1 => v = none ∧ i_P i_MT i_AT L xs 298 232 [some (.ref x0), some (.int x1), some (.long x2), none, some (.int x4), some (.int x5), some (.int x6), some (.int x7), some (.int x8), x9, x10, x11] [] h1 0 0 Q))))) ∧ (¬ (x6 ≤ x8) → (∃ v3 : Nat, i_fld h x0 12 42 = some (.ref v3) ∧ (∃ (n4 : Nat) (f5 : Nat → Int32), i_arI h 2 v3 = some (n4, f5) ∧ ¬ (x8 < 0 ∨ n4 ≤ x8.toNatClampNeg) ∧ i_P i_MT i_AT L xs 298 208 [some (.ref x0), some (.int x1), some (.long x2), none, some (.int x4), some (.int x5), some (.int x6), some (.int x7), some (.int x8), x9, x10, x11] [] (i_siI h v3 x8.toNatClampNeg (vp_nar .boolean (0 : Int32))) 0 0 Q))))) : i_P i_MT i_AT L xs 298 193 [some (.ref x0), some (.int x1), some (.long x2), none, some (.int x4), some (.int x5), some (.int x6), some (.int x7), some (.int x8), x9, x10, x11] [] h 0 0 Q := by
  have hk := i_k298
  refine g_s1 (pc2 := 195) hk rfl rfl rfl rfl rfl ?_
  refine g_s1 (pc2 := 197) hk rfl rfl rfl rfl rfl ?_
  refine g_icmp_ge hk rfl (fun hc => ?_) (fun hc => ?_)
  · have H := H.1 hc
    refine g_s1 (pc2 := 216) hk rfl rfl rfl rfl rfl ?_
    refine g_s1 (pc2 := 218) (st2 := [.int (30 : Int32), .int x7]) hk rfl rfl rfl rfl rfl ?_
    refine g_icmp_ge hk rfl (fun hc => ?_) (fun hc => ?_)
    · have H := H.1 hc
      exact H
    · have H := H.2 hc
      refine g_s1 (pc2 := 222) hk rfl rfl rfl rfl rfl ?_
      refine g_s1 (pc2 := 223) hk rfl rfl rfl rfl rfl ?_
      refine g_s1 (pc2 := 225) hk rfl rfl rfl rfl rfl ?_
      refine g_s1 (pc2 := 227) hk rfl rfl rfl rfl rfl ?_
      refine g_s1 (pc2 := 228) (st2 := [.int (1 : Int32), .int x7, .int x4, .int x1, .ref x0]) hk rfl rfl rfl rfl rfl ?_
      refine g_s1 (pc2 := 229) hk rfl rfl rfl rfl rfl ?_
      obtain ⟨ho, H⟩ := H
      refine g_call hk rfl rfl i_k295.1 ⟨rfl, rfl⟩ rfl (i_rcv_v ho rfl (by decide)) rfl ?_
      exact H.mono (fun v h2 q => by obtain ⟨rfl, q⟩ := q; exact q)
  · have H := H.2 hc
    refine g_s1 (pc2 := 201) hk rfl rfl rfl rfl rfl ?_
    obtain ⟨v3, ev3, H⟩ := H
    refine g_step (pc2 := 204) hk rfl rfl rfl (s_get ev3) ?_
    refine g_s1 (pc2 := 206) hk rfl rfl rfl rfl rfl ?_
    refine g_s1 (pc2 := 207) (st2 := [.int (0 : Int32), .int x8, .ref v3]) hk rfl rfl rfl rfl rfl ?_
    obtain ⟨n4, f5, ef5, hi, H⟩ := H
    refine g_step (pc2 := 208) hk rfl rfl rfl (s_zput ef5 hi) ?_
    exact H
theorem b298_208 {x0 : Nat} {x1 : Int32} {x2 : Int64} {x4 : Int32} {x5 : Int32} {x6 : Int32} {x7 : Int32} {x8 : Int32} {x9 : Option Value} {x10 : Option Value} {x11 : Option Value} {h : iH} {Q : Option Value → iH → Prop} (H : i_P i_MT i_AT L xs 298 193 [some (.ref x0), some (.int x1), some (.long x2), none, some (.int x4), some (.int x5), some (.int x6), some (.int x7), some (.int (x8 + 1)), x9, x10, x11] [] h 0 0 Q) : i_P i_MT i_AT L xs 298 208 [some (.ref x0), some (.int x1), some (.long x2), none, some (.int x4), some (.int x5), some (.int x6), some (.int x7), some (.int x8), x9, x10, x11] [] h 0 0 Q := by
  have hk := i_k298
  refine g_s1 (pc2 := 211) (lo2 := [some (.ref x0), some (.int x1), some (.long x2), none, some (.int x4), some (.int x5), some (.int x6), some (.int x7), some (.int (x8 + 1)), x9, x10, x11]) hk rfl rfl rfl rfl rfl ?_
  refine g_s1 (pc2 := 193) hk rfl rfl rfl rfl rfl ?_
  exact H
theorem b298_232 {x0 : Nat} {x1 : Int32} {x2 : Int64} {x4 : Int32} {x5 : Int32} {x6 : Int32} {x7 : Int32} {x8 : Int32} {x9 : Option Value} {x10 : Option Value} {x11 : Option Value} {h : iH} {Q : Option Value → iH → Prop} (H : i_P i_MT i_AT L xs 298 235 [some (.ref x0), some (.int x1), some (.long x2), none, some (.int x4), some (.int x5), some (.int x6), some (.int x7), some (.int (0 : Int32)), x9, x10, x11] [] h 0 0 Q) : i_P i_MT i_AT L xs 298 232 [some (.ref x0), some (.int x1), some (.long x2), none, some (.int x4), some (.int x5), some (.int x6), some (.int x7), some (.int x8), x9, x10, x11] [] h 0 0 Q := by
  have hk := i_k298
  refine g_s1 (pc2 := 233) (st2 := [.int (0 : Int32)]) hk rfl rfl rfl rfl rfl ?_
  refine g_s1 (pc2 := 235) (lo2 := [some (.ref x0), some (.int x1), some (.long x2), none, some (.int x4), some (.int x5), some (.int x6), some (.int x7), some (.int (0 : Int32)), x9, x10, x11]) hk rfl rfl rfl rfl rfl ?_
  exact H
theorem b298_235 {x0 : Nat} {x1 : Int32} {x2 : Int64} {x4 : Int32} {x5 : Int32} {x6 : Int32} {x7 : Int32} {x8 : Int32} {x9 : Option Value} {x10 : Option Value} {x11 : Option Value} {h : iH} {Q : Option Value → iH → Prop} (H : (i_obj? h x0 12 ∧ i_C i_MT i_AT L xs 248 [.ref x0] h (fun v h1 => ∃ r2 : Int32, v = some (.int r2) ∧ i_P i_MT i_AT L xs 298 243 [some (.ref x0), some (.int x1), some (.long x2), none, some (.int x4), some (.int x5), some (.int x6), some (.int x7), some (.int x8), x9, x10, x11] [.int r2, .int (8 : Int32), .int x8] h1 0 0 Q))) : i_P i_MT i_AT L xs 298 235 [some (.ref x0), some (.int x1), some (.long x2), none, some (.int x4), some (.int x5), some (.int x6), some (.int x7), some (.int x8), x9, x10, x11] [] h 0 0 Q := by
  have hk := i_k298
  refine g_s1 (pc2 := 237) hk rfl rfl rfl rfl rfl ?_
  refine g_s1 (pc2 := 239) (st2 := [.int (8 : Int32), .int x8]) hk rfl rfl rfl rfl rfl ?_
  refine g_s1 (pc2 := 240) hk rfl rfl rfl rfl rfl ?_
  obtain ⟨ho, H⟩ := H
  refine g_call hk rfl rfl i_k248.1 ⟨rfl, rfl⟩ rfl (i_rcv_v ho rfl (by decide)) rfl ?_
  exact H.mono (fun v h2 q => by obtain ⟨r, rfl, q⟩ := q; exact q)
theorem b298_243 {x0 : Nat} {x1 : Int32} {x2 : Int64} {x4 : Int32} {x5 : Int32} {x6 : Int32} {x7 : Int32} {x8 : Int32} {x9 : Option Value} {x10 : Option Value} {x11 : Option Value} {s0 : Int32} {s1 : Int32} {s2 : Int32} {h : iH} {Q : Option Value → iH → Prop} (H : (((s1 * s2) ≤ s0 → i_P i_MT i_AT L xs 298 322 [some (.ref x0), some (.int x1), some (.long x2), none, some (.int x4), some (.int x5), some (.int x6), some (.int x7), some (.int x8), x9, x10, x11] [] h 0 0 Q) ∧ (¬ ((s1 * s2) ≤ s0) → (((30 : Int32) ≤ x7 → i_P i_MT i_AT L xs 298 322 [some (.ref x0), some (.int x1), some (.long x2), none, some (.int x4), some (.int x5), some (.int x6), some (.int x7), some (.int x8), x9, x10, x11] [] h 0 0 Q) ∧ (¬ ((30 : Int32) ≤ x7) → (¬ (8 : Int32) = 0 ∧ i_P i_MT i_AT L xs 298 264 [some (.ref x0), some (.int x1), some (.long x2), none, some (.int x4), some (.int x5), some (.int x6), some (.int x7), some (.int x8), some (.int (x8 / (8 : Int32))), some (.int (0 : Int32)), x11] [] h 0 0 Q)))))) : i_P i_MT i_AT L xs 298 243 [some (.ref x0), some (.int x1), some (.long x2), none, some (.int x4), some (.int x5), some (.int x6), some (.int x7), some (.int x8), x9, x10, x11] [.int s2, .int s1, .int s0] h 0 0 Q := by
  have hk := i_k298
  refine g_s1 (pc2 := 244) hk rfl rfl rfl rfl rfl ?_
  refine g_icmp_ge hk rfl (fun hc => ?_) (fun hc => ?_)
  · have H := H.1 hc
    exact H
  · have H := H.2 hc
    refine g_s1 (pc2 := 249) hk rfl rfl rfl rfl rfl ?_
    refine g_s1 (pc2 := 251) (st2 := [.int (30 : Int32), .int x7]) hk rfl rfl rfl rfl rfl ?_
    refine g_icmp_ge hk rfl (fun hc => ?_) (fun hc => ?_)
    · have H := H.1 hc
      exact H
    · have H := H.2 hc
      refine g_s1 (pc2 := 256) hk rfl rfl rfl rfl rfl ?_
      refine g_s1 (pc2 := 258) (st2 := [.int (8 : Int32), .int x8]) hk rfl rfl rfl rfl rfl ?_
      obtain ⟨hz, H⟩ := H
      refine g_s1 (pc2 := 259) hk rfl rfl rfl rfl (s_if hz) ?_
      refine g_s1 (pc2 := 261) (lo2 := [some (.ref x0), some (.int x1), some (.long x2), none, some (.int x4), some (.int x5), some (.int x6), some (.int x7), some (.int x8), some (.int (x8 / (8 : Int32))), x10, x11]) hk rfl rfl rfl rfl rfl ?_
      refine g_s1 (pc2 := 262) (st2 := [.int (0 : Int32)]) hk rfl rfl rfl rfl rfl ?_
      refine g_s1 (pc2 := 264) (lo2 := [some (.ref x0), some (.int x1), some (.long x2), none, some (.int x4), some (.int x5), some (.int x6), some (.int x7), some (.int x8), some (.int (x8 / (8 : Int32))), some (.int (0 : Int32)), x11]) hk rfl rfl rfl rfl rfl ?_
      exact H
theorem b298_264 {x0 : Nat} {x1 : Int32} {x2 : Int64} {x4 : Int32} {x5 : Int32} {x6 : Int32} {x7 : Int32} {x8 : Int32} {x9 : Int32} {x10 : Int32} {x11 : Option Value} {h : iH} {Q : Option Value → iH → Prop} (H : (((8 : Int32) ≤ x10 → i_P i_MT i_AT L xs 298 235 [some (.ref x0), some (.int x1), some (.long x2), none, some (.int x4), some (.int x5), some (.int x6), some (.int x7), some (.int (x8 + 1)), some (.int x9), some (.int x10), x11] [] h 0 0 Q) ∧ (¬ ((8 : Int32) ≤ x10) → (i_obj? h x0 12 ∧ i_C i_MT i_AT L xs 296 [.ref x0, .int x8, .int x9, .int x10] h (fun v h1 => v = none ∧ i_P i_MT i_AT L xs 298 281 [some (.ref x0), some (.int x1), some (.long x2), none, some (.int x4), some (.int x5), some (.int x6), some (.int x7), some (.int x8), some (.int x9), some (.int x10), x11] [] h1 0 0 Q))))) : i_P i_MT i_AT L xs 298 264 [some (.ref x0), some (.int x1), some (.long x2), none, some (.int x4), some (.int x5), some (.int x6), some (.int x7), some (.int x8), some (.int x9), some (.int x10), x11] [] h 0 0 Q := by
  have hk := i_k298
  refine g_s1 (pc2 := 266) hk rfl rfl rfl rfl rfl ?_
  refine g_s1 (pc2 := 268) (st2 := [.int (8 : Int32), .int x10]) hk rfl rfl rfl rfl rfl ?_
  refine g_icmp_ge hk rfl (fun hc => ?_) (fun hc => ?_)
  · have H := H.1 hc
    refine g_s1 (pc2 := 319) (lo2 := [some (.ref x0), some (.int x1), some (.long x2), none, some (.int x4), some (.int x5), some (.int x6), some (.int x7), some (.int (x8 + 1)), some (.int x9), some (.int x10), x11]) hk rfl rfl rfl rfl rfl ?_
    refine g_s1 (pc2 := 235) hk rfl rfl rfl rfl rfl ?_
    exact H
  · have H := H.2 hc
    refine g_s1 (pc2 := 272) hk rfl rfl rfl rfl rfl ?_
    refine g_s1 (pc2 := 274) hk rfl rfl rfl rfl rfl ?_
    refine g_s1 (pc2 := 276) hk rfl rfl rfl rfl rfl ?_
    refine g_s1 (pc2 := 278) hk rfl rfl rfl rfl rfl ?_
    obtain ⟨ho, H⟩ := H
    refine g_call hk rfl rfl i_k296.1 ⟨rfl, rfl⟩ rfl (i_rcv_v ho rfl (by decide)) rfl ?_
    exact H.mono (fun v h2 q => by obtain ⟨rfl, q⟩ := q; exact q)
theorem b298_281 {x0 : Nat} {x1 : Int32} {x2 : Int64} {x4 : Int32} {x5 : Int32} {x6 : Int32} {x7 : Int32} {x8 : Int32} {x9 : Int32} {x10 : Int32} {x11 : Option Value} {h : iH} {Q : Option Value → iH → Prop} (H : (i_obj? h x0 12 ∧ i_C i_MT i_AT L xs 251 [.ref x0, .int x9, .int x10] h (fun v h1 => ∃ r2 : Int32, v = some (.int r2) ∧ i_P i_MT i_AT L xs 298 289 [some (.ref x0), some (.int x1), some (.long x2), none, some (.int x4), some (.int x5), some (.int x6), some (.int x7), some (.int x8), some (.int x9), some (.int x10), x11] [.int r2] h1 0 0 Q))) : i_P i_MT i_AT L xs 298 281 [some (.ref x0), some (.int x1), some (.long x2), none, some (.int x4), some (.int x5), some (.int x6), some (.int x7), some (.int x8), some (.int x9), some (.int x10), x11] [] h 0 0 Q := by
  have hk := i_k298
  refine g_s1 (pc2 := 282) hk rfl rfl rfl rfl rfl ?_
  refine g_s1 (pc2 := 284) hk rfl rfl rfl rfl rfl ?_
  refine g_s1 (pc2 := 286) hk rfl rfl rfl rfl rfl ?_
  obtain ⟨ho, H⟩ := H
  refine g_call hk rfl rfl i_k251.1 ⟨rfl, rfl⟩ rfl (i_rcv_v ho rfl (by decide)) rfl ?_
  exact H.mono (fun v h2 q => by obtain ⟨r, rfl, q⟩ := q; exact q)
theorem b298_289 {x0 : Nat} {x1 : Int32} {x2 : Int64} {x4 : Int32} {x5 : Int32} {x6 : Int32} {x7 : Int32} {x8 : Int32} {x9 : Int32} {x10 : Int32} {x11 : Option Value} {s0 : Int32} {h : iH} {Q : Option Value → iH → Prop} (H : (i_obj? h x0 12 ∧ i_C i_MT i_AT L xs 250 [.ref x0, .int s0] h (fun v h1 => ∃ r2 : Int32, v = some (.int r2) ∧ i_P i_MT i_AT L xs 298 297 [some (.ref x0), some (.int x1), some (.long x2), none, some (.int x4), some (.int x5), some (.int x6), some (.int x7), some (.int x8), some (.int x9), some (.int x10), some (.int s0)] [.int r2] h1 0 0 Q))) : i_P i_MT i_AT L xs 298 289 [some (.ref x0), some (.int x1), some (.long x2), none, some (.int x4), some (.int x5), some (.int x6), some (.int x7), some (.int x8), some (.int x9), some (.int x10), x11] [.int s0] h 0 0 Q := by
  have hk := i_k298
  refine g_s1 (pc2 := 291) (lo2 := [some (.ref x0), some (.int x1), some (.long x2), none, some (.int x4), some (.int x5), some (.int x6), some (.int x7), some (.int x8), some (.int x9), some (.int x10), some (.int s0)]) hk rfl rfl rfl rfl rfl ?_
  refine g_s1 (pc2 := 292) hk rfl rfl rfl rfl rfl ?_
  refine g_s1 (pc2 := 294) hk rfl rfl rfl rfl rfl ?_
  obtain ⟨ho, H⟩ := H
  refine g_call hk rfl rfl i_k250.1 ⟨rfl, rfl⟩ rfl (i_rcv_v ho rfl (by decide)) rfl ?_
  exact H.mono (fun v h2 q => by obtain ⟨r, rfl, q⟩ := q; exact q)
theorem b298_297 {x0 : Nat} {x1 : Int32} {x2 : Int64} {x4 : Int32} {x5 : Int32} {x6 : Int32} {x7 : Int32} {x8 : Int32} {x9 : Int32} {x10 : Int32} {x11 : Int32} {s0 : Int32} {h : iH} {Q : Option Value → iH → Prop} (H : ((s0 = 0 → i_P i_MT i_AT L xs 298 310 [some (.ref x0), some (.int x1), some (.long x2), none, some (.int x4), some (.int x5), some (.int x6), some (.int x7), some (.int x8), some (.int x9), some (.int x10), some (.int x11)] [] h 0 0 Q) ∧ (¬ (s0 = 0) → (i_obj? h x0 12 ∧ i_C i_MT i_AT L xs 296 [.ref x0, .int x8, .int x11, .int x10] h (fun v h1 => v = none ∧ i_P i_MT i_AT L xs 298 310 [some (.ref x0), some (.int x1), some (.long x2), none, some (.int x4), some (.int x5), some (.int x6), some (.int x7), some (.int x8), some (.int x9), some (.int x10), some (.int x11)] [] h1 0 0 Q))))) : i_P i_MT i_AT L xs 298 297 [some (.ref x0), some (.int x1), some (.long x2), none, some (.int x4), some (.int x5), some (.int x6), some (.int x7), some (.int x8), some (.int x9), some (.int x10), some (.int x11)] [.int s0] h 0 0 Q := by
  have hk := i_k298
  refine g_if_eq hk rfl (fun hc => ?_) (fun hc => ?_)
  · have H := H.1 hc
    exact H
  · have H := H.2 hc
    refine g_s1 (pc2 := 301) hk rfl rfl rfl rfl rfl ?_
    refine g_s1 (pc2 := 303) hk rfl rfl rfl rfl rfl ?_
    refine g_s1 (pc2 := 305) hk rfl rfl rfl rfl rfl ?_
    refine g_s1 (pc2 := 307) hk rfl rfl rfl rfl rfl ?_
    obtain ⟨ho, H⟩ := H
    refine g_call hk rfl rfl i_k296.1 ⟨rfl, rfl⟩ rfl (i_rcv_v ho rfl (by decide)) rfl ?_
    exact H.mono (fun v h2 q => by obtain ⟨rfl, q⟩ := q; exact q)
theorem b298_310 {x0 : Nat} {x1 : Int32} {x2 : Int64} {x4 : Int32} {x5 : Int32} {x6 : Int32} {x7 : Int32} {x8 : Int32} {x9 : Int32} {x10 : Int32} {x11 : Int32} {h : iH} {Q : Option Value → iH → Prop} (H : i_P i_MT i_AT L xs 298 264 [some (.ref x0), some (.int x1), some (.long x2), none, some (.int x4), some (.int x5), some (.int x6), some (.int x7), some (.int x8), some (.int x9), some (.int (x10 + 1)), some (.int x11)] [] h 0 0 Q) : i_P i_MT i_AT L xs 298 310 [some (.ref x0), some (.int x1), some (.long x2), none, some (.int x4), some (.int x5), some (.int x6), some (.int x7), some (.int x8), some (.int x9), some (.int x10), some (.int x11)] [] h 0 0 Q := by
  have hk := i_k298
  refine g_s1 (pc2 := 313) (lo2 := [some (.ref x0), some (.int x1), some (.long x2), none, some (.int x4), some (.int x5), some (.int x6), some (.int x7), some (.int x8), some (.int x9), some (.int (x10 + 1)), some (.int x11)]) hk rfl rfl rfl rfl rfl ?_
  refine g_s1 (pc2 := 264) hk rfl rfl rfl rfl rfl ?_
  exact H
theorem b298_322 {x0 : Nat} {x1 : Int32} {x2 : Int64} {x4 : Int32} {x5 : Int32} {x6 : Int32} {x7 : Int32} {x8 : Int32} {x9 : Option Value} {x10 : Option Value} {x11 : Option Value} {h : iH} {Q : Option Value → iH → Prop} (H : i_P i_MT i_AT L xs 298 325 [some (.ref x0), some (.int x1), some (.long x2), none, some (.int x4), some (.int x5), some (.int x6), some (.int x7), some (.int (0 : Int32)), x9, x10, x11] [] h 0 0 Q) : i_P i_MT i_AT L xs 298 322 [some (.ref x0), some (.int x1), some (.long x2), none, some (.int x4), some (.int x5), some (.int x6), some (.int x7), some (.int x8), x9, x10, x11] [] h 0 0 Q := by
  have hk := i_k298
  refine g_s1 (pc2 := 323) (st2 := [.int (0 : Int32)]) hk rfl rfl rfl rfl rfl ?_
  refine g_s1 (pc2 := 325) (lo2 := [some (.ref x0), some (.int x1), some (.long x2), none, some (.int x4), some (.int x5), some (.int x6), some (.int x7), some (.int (0 : Int32)), x9, x10, x11]) hk rfl rfl rfl rfl rfl ?_
  exact H
theorem b298_325 {x0 : Nat} {x1 : Int32} {x2 : Int64} {x4 : Int32} {x5 : Int32} {x6 : Int32} {x7 : Int32} {x8 : Int32} {x9 : Option Value} {x10 : Option Value} {x11 : Option Value} {h : iH} {Q : Option Value → iH → Prop} (H : ((x6 ≤ x8 → i_P i_MT i_AT L xs 298 167 [some (.ref x0), some (.int x1), some (.long x2), none, some (.int x4), some (.int x5), some (.int x6), some (.int (x7 + 1)), some (.int x8), x9, x10, x11] [] h 0 0 Q) ∧ (¬ (x6 ≤ x8) → (∃ v1 : Nat, i_fld h x0 12 41 = some (.ref v1) ∧ (∃ v2 : Nat, i_fld h x0 12 42 = some (.ref v2) ∧ (∃ (n3 : Nat) (f4 : Nat → Int32), i_arI h 2 v2 = some (n3, f4) ∧ ¬ (x8 < 0 ∨ n3 ≤ x8.toNatClampNeg) ∧ (∃ (n5 : Nat) (f6 : Nat → Int32), i_arI h 2 v1 = some (n5, f6) ∧ ¬ (x8 < 0 ∨ n5 ≤ x8.toNatClampNeg) ∧ i_P i_MT i_AT L xs 298 346 [some (.ref x0), some (.int x1), some (.long x2), none, some (.int x4), some (.int x5), some (.int x6), some (.int x7), some (.int x8), x9, x10, x11] [] (i_siI h v1 x8.toNatClampNeg (vp_nar .boolean (f4 x8.toNatClampNeg))) 0 0 Q))))))) : i_P i_MT i_AT L xs 298 325 [some (.ref x0), some (.int x1), some (.long x2), none, some (.int x4), some (.int x5), some (.int x6), some (.int x7), some (.int x8), x9, x10, x11] [] h 0 0 Q := by
  have hk := i_k298
  refine g_s1 (pc2 := 327) hk rfl rfl rfl rfl rfl ?_
  refine g_s1 (pc2 := 329) hk rfl rfl rfl rfl rfl ?_
  refine g_icmp_ge hk rfl (fun hc => ?_) (fun hc => ?_)
  · have H := H.1 hc
    refine g_s1 (pc2 := 355) (lo2 := [some (.ref x0), some (.int x1), some (.long x2), none, some (.int x4), some (.int x5), some (.int x6), some (.int (x7 + 1)), some (.int x8), x9, x10, x11]) hk rfl rfl rfl rfl rfl ?_
    refine g_s1 (pc2 := 167) hk rfl rfl rfl rfl rfl ?_
    exact H
  · have H := H.2 hc
    refine g_s1 (pc2 := 333) hk rfl rfl rfl rfl rfl ?_
    obtain ⟨v1, ev1, H⟩ := H
    refine g_step (pc2 := 336) hk rfl rfl rfl (s_get ev1) ?_
    refine g_s1 (pc2 := 338) hk rfl rfl rfl rfl rfl ?_
    refine g_s1 (pc2 := 339) hk rfl rfl rfl rfl rfl ?_
    obtain ⟨v2, ev2, H⟩ := H
    refine g_step (pc2 := 342) hk rfl rfl rfl (s_get ev2) ?_
    refine g_s1 (pc2 := 344) hk rfl rfl rfl rfl rfl ?_
    obtain ⟨n3, f4, ef4, hi, H⟩ := H
    refine g_step (pc2 := 345) hk rfl rfl rfl (s_bget (t := 2) (by decide) ef4 hi) ?_
    obtain ⟨n5, f6, ef6, hi, H⟩ := H
    refine g_step (pc2 := 346) hk rfl rfl rfl (s_zput ef6 hi) ?_
    exact H
theorem b298_346 {x0 : Nat} {x1 : Int32} {x2 : Int64} {x4 : Int32} {x5 : Int32} {x6 : Int32} {x7 : Int32} {x8 : Int32} {x9 : Option Value} {x10 : Option Value} {x11 : Option Value} {h : iH} {Q : Option Value → iH → Prop} (H : i_P i_MT i_AT L xs 298 325 [some (.ref x0), some (.int x1), some (.long x2), none, some (.int x4), some (.int x5), some (.int x6), some (.int x7), some (.int (x8 + 1)), x9, x10, x11] [] h 0 0 Q) : i_P i_MT i_AT L xs 298 346 [some (.ref x0), some (.int x1), some (.long x2), none, some (.int x4), some (.int x5), some (.int x6), some (.int x7), some (.int x8), x9, x10, x11] [] h 0 0 Q := by
  have hk := i_k298
  refine g_s1 (pc2 := 349) (lo2 := [some (.ref x0), some (.int x1), some (.long x2), none, some (.int x4), some (.int x5), some (.int x6), some (.int x7), some (.int (x8 + 1)), x9, x10, x11]) hk rfl rfl rfl rfl rfl ?_
  refine g_s1 (pc2 := 325) hk rfl rfl rfl rfl rfl ?_
  exact H
theorem b298_364 {x0 : Nat} {x1 : Int32} {x2 : Int64} {x4 : Int32} {x5 : Int32} {x6 : Int32} {x7 : Int32} {x8 : Option Value} {x9 : Option Value} {x10 : Option Value} {x11 : Option Value} {s0 : Int32} {h : iH} {Q : Option Value → iH → Prop} (H : Q (some (.int s0)) h) : i_P i_MT i_AT L xs 298 364 [some (.ref x0), some (.int x1), some (.long x2), none, some (.int x4), some (.int x5), some (.int x6), some (.int x7), x8, x9, x10, x11] [.int s0] h 0 0 Q := by
  have hk := i_k298
  exact g_ireturn hk rfl (by decide) (by decide) rfl H
/-! StillTownModel.mayBe(III)J -/
theorem e299 {x0 : Nat} {x1 : Int32} {x2 : Int32} {x3 : Int32} {h : iH} {Q : Option Value → iH → Prop} (H : i_P i_MT i_AT L xs 299 0 [some (.ref x0), some (.int x1), some (.int x2), some (.int x3), none, none, none, none, none, none, none, none, none, none] [] h 0 0 Q) : i_C i_MT i_AT L xs 299 [.ref x0, .int x1, .int x2, .int x3] h Q := ⟨i_m299, i_k299.1, Nat.le_of_ble_eq_true rfl, H⟩
theorem b299_0 {x0 : Nat} {x1 : Int32} {x2 : Int32} {x3 : Int32} {x4 : Option Value} {x5 : Option Value} {x6 : Option Value} {x7 : Option Value} {x8 : Option Value} {x9 : Option Value} {x10 : Option Value} {x11 : Option Value} {x12 : Option Value} {x13 : Option Value} {h : iH} {Q : Option Value → iH → Prop} (H : (i_obj? h x0 12 ∧ i_C i_MT i_AT L xs 254 [.ref x0, .int x1] h (fun v h1 => ∃ r2 : Int32, v = some (.int r2) ∧ i_P i_MT i_AT L xs 299 5 [some (.ref x0), some (.int x1), some (.int x2), some (.int x3), x4, x5, x6, x7, x8, x9, x10, x11, x12, x13] [.int r2] h1 0 0 Q))) : i_P i_MT i_AT L xs 299 0 [some (.ref x0), some (.int x1), some (.int x2), some (.int x3), x4, x5, x6, x7, x8, x9, x10, x11, x12, x13] [] h 0 0 Q := by
  have hk := i_k299
  refine g_s1 (pc2 := 1) hk rfl rfl rfl rfl rfl ?_
  refine g_s1 (pc2 := 2) hk rfl rfl rfl rfl rfl ?_
  obtain ⟨ho, H⟩ := H
  refine g_call hk rfl rfl i_k254.1 ⟨rfl, rfl⟩ rfl (i_rcv_v ho rfl (by decide)) rfl ?_
  exact H.mono (fun v h2 q => by obtain ⟨r, rfl, q⟩ := q; exact q)
theorem b299_5 {x0 : Nat} {x1 : Int32} {x2 : Int32} {x3 : Int32} {x4 : Option Value} {x5 : Option Value} {x6 : Option Value} {x7 : Option Value} {x8 : Option Value} {x9 : Option Value} {x10 : Option Value} {x11 : Option Value} {x12 : Option Value} {x13 : Option Value} {s0 : Int32} {h : iH} {Q : Option Value → iH → Prop} (H : ((s0 = 0 → i_P i_MT i_AT L xs 299 32 [some (.ref x0), some (.int x1), some (.int x2), some (.int x3), x4, x5, x6, x7, x8, x9, x10, x11, x12, x13] [] h 0 0 Q) ∧ (¬ (s0 = 0) → (i_obj? h x0 12 ∧ i_C i_MT i_AT L xs 249 [.ref x0, .long (x2.toInt64)] h (fun v h1 => ∃ r2 : Int32, v = some (.int r2) ∧ i_P i_MT i_AT L xs 299 14 [some (.ref x0), some (.int x1), some (.int x2), some (.int x3), x4, x5, x6, x7, x8, x9, x10, x11, x12, x13] [.int r2] h1 0 0 Q))))) : i_P i_MT i_AT L xs 299 5 [some (.ref x0), some (.int x1), some (.int x2), some (.int x3), x4, x5, x6, x7, x8, x9, x10, x11, x12, x13] [.int s0] h 0 0 Q := by
  have hk := i_k299
  refine g_if_eq hk rfl (fun hc => ?_) (fun hc => ?_)
  · have H := H.1 hc
    exact H
  · have H := H.2 hc
    refine g_s1 (pc2 := 9) hk rfl rfl rfl rfl rfl ?_
    refine g_s1 (pc2 := 10) hk rfl rfl rfl rfl rfl ?_
    refine g_s1 (pc2 := 11) hk rfl rfl rfl rfl rfl ?_
    obtain ⟨ho, H⟩ := H
    refine g_call hk rfl rfl i_k249.1 ⟨rfl, rfl⟩ rfl (i_rcv_v ho rfl (by decide)) rfl ?_
    exact H.mono (fun v h2 q => by obtain ⟨r, rfl, q⟩ := q; exact q)
theorem b299_14 {x0 : Nat} {x1 : Int32} {x2 : Int32} {x3 : Int32} {x4 : Option Value} {x5 : Option Value} {x6 : Option Value} {x7 : Option Value} {x8 : Option Value} {x9 : Option Value} {x10 : Option Value} {x11 : Option Value} {x12 : Option Value} {x13 : Option Value} {s0 : Int32} {h : iH} {Q : Option Value → iH → Prop} (H : ((s0 = 0 → i_P i_MT i_AT L xs 299 32 [some (.ref x0), some (.int x1), some (.int x2), some (.int x3), x4, x5, x6, x7, x8, x9, x10, x11, x12, x13] [] h 0 0 Q) ∧ (¬ (s0 = 0) → (i_obj? h x0 12 ∧ i_C i_MT i_AT L xs 250 [.ref x0, .int x2] h (fun v h1 => ∃ r2 : Int32, v = some (.int r2) ∧ i_P i_MT i_AT L xs 299 22 [some (.ref x0), some (.int x1), some (.int x2), some (.int x3), x4, x5, x6, x7, x8, x9, x10, x11, x12, x13] [.int r2] h1 0 0 Q))))) : i_P i_MT i_AT L xs 299 14 [some (.ref x0), some (.int x1), some (.int x2), some (.int x3), x4, x5, x6, x7, x8, x9, x10, x11, x12, x13] [.int s0] h 0 0 Q := by
  have hk := i_k299
  refine g_if_eq hk rfl (fun hc => ?_) (fun hc => ?_)
  · have H := H.1 hc
    exact H
  · have H := H.2 hc
    refine g_s1 (pc2 := 18) hk rfl rfl rfl rfl rfl ?_
    refine g_s1 (pc2 := 19) hk rfl rfl rfl rfl rfl ?_
    obtain ⟨ho, H⟩ := H
    refine g_call hk rfl rfl i_k250.1 ⟨rfl, rfl⟩ rfl (i_rcv_v ho rfl (by decide)) rfl ?_
    exact H.mono (fun v h2 q => by obtain ⟨r, rfl, q⟩ := q; exact q)
theorem b299_22 {x0 : Nat} {x1 : Int32} {x2 : Int32} {x3 : Int32} {x4 : Option Value} {x5 : Option Value} {x6 : Option Value} {x7 : Option Value} {x8 : Option Value} {x9 : Option Value} {x10 : Option Value} {x11 : Option Value} {x12 : Option Value} {x13 : Option Value} {s0 : Int32} {h : iH} {Q : Option Value → iH → Prop} (H : ((s0 = 0 → i_P i_MT i_AT L xs 299 32 [some (.ref x0), some (.int x1), some (.int x2), some (.int x3), x4, x5, x6, x7, x8, x9, x10, x11, x12, x13] [] h 0 0 Q) ∧ (¬ (s0 = 0) → (i_C i_MT i_AT L xs 255 [.int x3] h (fun v h1 => ∃ r2 : Int32, v = some (.int r2) ∧ i_P i_MT i_AT L xs 299 29 [some (.ref x0), some (.int x1), some (.int x2), some (.int x3), x4, x5, x6, x7, x8, x9, x10, x11, x12, x13] [.int r2] h1 0 0 Q))))) : i_P i_MT i_AT L xs 299 22 [some (.ref x0), some (.int x1), some (.int x2), some (.int x3), x4, x5, x6, x7, x8, x9, x10, x11, x12, x13] [.int s0] h 0 0 Q := by
  have hk := i_k299
  refine g_if_eq hk rfl (fun hc => ?_) (fun hc => ?_)
  · have H := H.1 hc
    exact H
  · have H := H.2 hc
    refine g_s1 (pc2 := 26) hk rfl rfl rfl rfl rfl ?_
    refine g_call hk rfl rfl i_k255.1 ⟨rfl, rfl⟩ rfl (i_rcv_0 rfl) rfl ?_
    exact H.mono (fun v h2 q => by obtain ⟨r, rfl, q⟩ := q; exact q)
theorem b299_29 {x0 : Nat} {x1 : Int32} {x2 : Int32} {x3 : Int32} {x4 : Option Value} {x5 : Option Value} {x6 : Option Value} {x7 : Option Value} {x8 : Option Value} {x9 : Option Value} {x10 : Option Value} {x11 : Option Value} {x12 : Option Value} {x13 : Option Value} {s0 : Int32} {h : iH} {Q : Option Value → iH → Prop} (H : ((¬ s0 = 0 → i_P i_MT i_AT L xs 299 47 [some (.ref x0), some (.int x1), some (.int x2), some (.int x3), some (.long ((1 : Int64) <<< (x2.toInt64 &&& 63))), none, some (.int (1 : Int32)), x7, x8, x9, x10, x11, x12, x13] [] h 0 0 Q) ∧ (¬ (¬ s0 = 0) → i_P i_MT i_AT L xs 299 32 [some (.ref x0), some (.int x1), some (.int x2), some (.int x3), x4, x5, x6, x7, x8, x9, x10, x11, x12, x13] [] h 0 0 Q))) : i_P i_MT i_AT L xs 299 29 [some (.ref x0), some (.int x1), some (.int x2), some (.int x3), x4, x5, x6, x7, x8, x9, x10, x11, x12, x13] [.int s0] h 0 0 Q := by
  have hk := i_k299
  refine g_if_ne hk rfl (fun hc => ?_) (fun hc => ?_)
  · have H := H.1 hc
    refine g_s1 (pc2 := 40) (st2 := [.long (1 : Int64)]) hk rfl rfl rfl rfl rfl ?_
    refine g_s1 (pc2 := 41) hk rfl rfl rfl rfl rfl ?_
    refine g_s1 (pc2 := 42) hk rfl rfl rfl rfl rfl ?_
    refine g_s1 (pc2 := 44) (lo2 := [some (.ref x0), some (.int x1), some (.int x2), some (.int x3), some (.long ((1 : Int64) <<< (x2.toInt64 &&& 63))), none, x6, x7, x8, x9, x10, x11, x12, x13]) hk rfl rfl rfl rfl rfl ?_
    refine g_s1 (pc2 := 45) (st2 := [.int (1 : Int32)]) hk rfl rfl rfl rfl rfl ?_
    refine g_s1 (pc2 := 47) (lo2 := [some (.ref x0), some (.int x1), some (.int x2), some (.int x3), some (.long ((1 : Int64) <<< (x2.toInt64 &&& 63))), none, some (.int (1 : Int32)), x7, x8, x9, x10, x11, x12, x13]) hk rfl rfl rfl rfl rfl ?_
    exact H
  · have H := H.2 hc
    exact H
theorem b299_32 {x0 : Nat} {x1 : Int32} {x2 : Int32} {x3 : Int32} {x4 : Option Value} {x5 : Option Value} {x6 : Option Value} {x7 : Option Value} {x8 : Option Value} {x9 : Option Value} {x10 : Option Value} {x11 : Option Value} {x12 : Option Value} {x13 : Option Value} {h : iH} {Q : Option Value → iH → Prop} (H : (i_obj? h x0 12 ∧ i_C i_MT i_AT L xs 201 [.ref x0, .int (1 : Int32)] h (fun v h1 => ∃ r2 : Int32, v = some (.int r2) ∧ i_P i_MT i_AT L xs 299 37 [some (.ref x0), some (.int x1), some (.int x2), some (.int x3), x4, x5, x6, x7, x8, x9, x10, x11, x12, x13] [.int r2] h1 0 0 Q))) : i_P i_MT i_AT L xs 299 32 [some (.ref x0), some (.int x1), some (.int x2), some (.int x3), x4, x5, x6, x7, x8, x9, x10, x11, x12, x13] [] h 0 0 Q := by
  have hk := i_k299
  refine g_s1 (pc2 := 33) hk rfl rfl rfl rfl rfl ?_
  refine g_s1 (pc2 := 34) (st2 := [.int (1 : Int32), .ref x0]) hk rfl rfl rfl rfl rfl ?_
  obtain ⟨ho, H⟩ := H
  refine g_call hk rfl rfl i_k201.1 ⟨rfl, rfl⟩ rfl (i_rcv_v ho rfl (by decide)) rfl ?_
  exact H.mono (fun v h2 q => by obtain ⟨r, rfl, q⟩ := q; exact q)
theorem b299_37 {x0 : Nat} {x1 : Int32} {x2 : Int32} {x3 : Int32} {x4 : Option Value} {x5 : Option Value} {x6 : Option Value} {x7 : Option Value} {x8 : Option Value} {x9 : Option Value} {x10 : Option Value} {x11 : Option Value} {x12 : Option Value} {x13 : Option Value} {s0 : Int32} {h : iH} {Q : Option Value → iH → Prop} (H : Q (some (.long (s0.toInt64))) h) : i_P i_MT i_AT L xs 299 37 [some (.ref x0), some (.int x1), some (.int x2), some (.int x3), x4, x5, x6, x7, x8, x9, x10, x11, x12, x13] [.int s0] h 0 0 Q := by
  have hk := i_k299
  refine g_s1 (pc2 := 38) hk rfl rfl rfl rfl rfl ?_
  exact g_lreturn hk rfl (by decide) (by decide) rfl H
theorem b299_47 {x0 : Nat} {x1 : Int32} {x2 : Int32} {x3 : Int32} {x4 : Int64} {x6 : Int32} {x7 : Option Value} {x8 : Option Value} {x9 : Option Value} {x10 : Option Value} {x11 : Option Value} {x12 : Option Value} {x13 : Option Value} {h : iH} {Q : Option Value → iH → Prop} (H : ((x3 < x6 → (i_obj? h x0 12 ∧ i_C i_MT i_AT L xs 203 [.ref x0, .long x4] h (fun v h1 => ∃ r2 : Int64, v = some (.long r2) ∧ i_P i_MT i_AT L xs 299 265 [some (.ref x0), some (.int x1), some (.int x2), some (.int x3), some (.long x4), none, some (.int x6), x7, x8, x9, x10, x11, x12, x13] [.long r2] h1 0 0 Q))) ∧ (¬ (x3 < x6) → (i_obj? h x0 12 ∧ i_C i_MT i_AT L xs 274 [.ref x0, .int x1, .int x6] h (fun v h3 => ∃ r4 : Int32, v = some (.int r4) ∧ i_P i_MT i_AT L xs 299 63 [some (.ref x0), some (.int x1), some (.int x2), some (.int x3), some (.long x4), none, some (.int x6), some (.long (0 : Int64)), none, x9, x10, x11, x12, x13] [.int r4] h3 0 0 Q))))) : i_P i_MT i_AT L xs 299 47 [some (.ref x0), some (.int x1), some (.int x2), some (.int x3), some (.long x4), none, some (.int x6), x7, x8, x9, x10, x11, x12, x13] [] h 0 0 Q := by
  have hk := i_k299
  refine g_s1 (pc2 := 49) hk rfl rfl rfl rfl rfl ?_
  refine g_s1 (pc2 := 50) hk rfl rfl rfl rfl rfl ?_
  refine g_icmp_gt hk rfl (fun hc => ?_) (fun hc => ?_)
  · have H := H.1 hc
    refine g_s1 (pc2 := 260) hk rfl rfl rfl rfl rfl ?_
    refine g_s1 (pc2 := 262) hk rfl rfl rfl rfl rfl ?_
    obtain ⟨ho, H⟩ := H
    refine g_call hk rfl rfl i_k203.1 ⟨rfl, rfl⟩ rfl (i_rcv_v ho rfl (by decide)) rfl ?_
    exact H.mono (fun v h2 q => by obtain ⟨r, rfl, q⟩ := q; exact q)
  · have H := H.2 hc
    refine g_s1 (pc2 := 54) (st2 := [.long (0 : Int64)]) hk rfl rfl rfl rfl rfl ?_
    refine g_s1 (pc2 := 56) (lo2 := [some (.ref x0), some (.int x1), some (.int x2), some (.int x3), some (.long x4), none, some (.int x6), some (.long (0 : Int64)), none, x9, x10, x11, x12, x13]) hk rfl rfl rfl rfl rfl ?_
    refine g_s1 (pc2 := 57) hk rfl rfl rfl rfl rfl ?_
    refine g_s1 (pc2 := 58) hk rfl rfl rfl rfl rfl ?_
    refine g_s1 (pc2 := 60) hk rfl rfl rfl rfl rfl ?_
    obtain ⟨ho, H⟩ := H
    refine g_call hk rfl rfl i_k274.1 ⟨rfl, rfl⟩ rfl (i_rcv_v ho rfl (by decide)) rfl ?_
    exact H.mono (fun v h2 q => by obtain ⟨r, rfl, q⟩ := q; exact q)
theorem b299_63 {x0 : Nat} {x1 : Int32} {x2 : Int32} {x3 : Int32} {x4 : Int64} {x6 : Int32} {x7 : Int64} {x9 : Option Value} {x10 : Option Value} {x11 : Option Value} {x12 : Option Value} {x13 : Option Value} {s0 : Int32} {h : iH} {Q : Option Value → iH → Prop} (H : ((s0 = 0 → i_P i_MT i_AT L xs 299 80 [some (.ref x0), some (.int x1), some (.int x2), some (.int x3), some (.long x4), none, some (.int x6), some (.long x7), none, x9, x10, x11, x12, x13] [] h 0 0 Q) ∧ (¬ (s0 = 0) → (∃ v1 : Nat, i_fld h x0 12 0 = some (.ref v1) ∧ (∃ (n2 : Nat) (f3 : Nat → Int32), i_arI h 0 v1 = some (n2, f3) ∧ ¬ ((9 : Int32) < 0 ∨ n2 ≤ (9 : Int32).toNatClampNeg) ∧ (((f3 (9 : Int32).toNatClampNeg) ≤ 0 → i_P i_MT i_AT L xs 299 80 [some (.ref x0), some (.int x1), some (.int x2), some (.int x3), some (.long x4), none, some (.int x6), some (.long x7), none, x9, x10, x11, x12, x13] [] h 0 0 Q) ∧ (¬ ((f3 (9 : Int32).toNatClampNeg) ≤ 0) → i_P i_MT i_AT L xs 299 81 [some (.ref x0), some (.int x1), some (.int x2), some (.int x3), some (.long x4), none, some (.int x6), some (.long x7), none, x9, x10, x11, x12, x13] [.int (1 : Int32)] h 0 0 Q))))))) : i_P i_MT i_AT L xs 299 63 [some (.ref x0), some (.int x1), some (.int x2), some (.int x3), some (.long x4), none, some (.int x6), some (.long x7), none, x9, x10, x11, x12, x13] [.int s0] h 0 0 Q := by
  have hk := i_k299
  refine g_if_eq hk rfl (fun hc => ?_) (fun hc => ?_)
  · have H := H.1 hc
    exact H
  · have H := H.2 hc
    refine g_s1 (pc2 := 67) hk rfl rfl rfl rfl rfl ?_
    obtain ⟨v1, ev1, H⟩ := H
    refine g_step (pc2 := 70) hk rfl rfl rfl (s_get ev1) ?_
    refine g_s1 (pc2 := 72) (st2 := [.int (9 : Int32), .ref v1]) hk rfl rfl rfl rfl rfl ?_
    obtain ⟨n2, f3, ef3, hi, H⟩ := H
    refine g_step (pc2 := 73) hk rfl rfl rfl (s_aget (L := L) (xs := xs) ef3 hi) ?_
    refine g_if_le hk rfl (fun hc => ?_) (fun hc => ?_)
    · have H := H.1 hc
      exact H
    · have H := H.2 hc
      refine g_s1 (pc2 := 77) (st2 := [.int (1 : Int32)]) hk rfl rfl rfl rfl rfl ?_
      refine g_s1 (pc2 := 81) hk rfl rfl rfl rfl rfl ?_
      exact H
theorem b299_80 {x0 : Nat} {x1 : Int32} {x2 : Int32} {x3 : Int32} {x4 : Int64} {x6 : Int32} {x7 : Int64} {x9 : Option Value} {x10 : Option Value} {x11 : Option Value} {x12 : Option Value} {x13 : Option Value} {h : iH} {Q : Option Value → iH → Prop} (H : i_P i_MT i_AT L xs 299 81 [some (.ref x0), some (.int x1), some (.int x2), some (.int x3), some (.long x4), none, some (.int x6), some (.long x7), none, x9, x10, x11, x12, x13] [.int (0 : Int32)] h 0 0 Q) : i_P i_MT i_AT L xs 299 80 [some (.ref x0), some (.int x1), some (.int x2), some (.int x3), some (.long x4), none, some (.int x6), some (.long x7), none, x9, x10, x11, x12, x13] [] h 0 0 Q := by
  have hk := i_k299
  refine g_s1 (pc2 := 81) (st2 := [.int (0 : Int32)]) hk rfl rfl rfl rfl rfl ?_
  exact H
theorem b299_81 {x0 : Nat} {x1 : Int32} {x2 : Int32} {x3 : Int32} {x4 : Int64} {x6 : Int32} {x7 : Int64} {x9 : Option Value} {x10 : Option Value} {x11 : Option Value} {x12 : Option Value} {x13 : Option Value} {s0 : Int32} {h : iH} {Q : Option Value → iH → Prop} (H : i_P i_MT i_AT L xs 299 86 [some (.ref x0), some (.int x1), some (.int x2), some (.int x3), some (.long x4), none, some (.int x6), some (.long x7), none, some (.int s0), some (.int (0 : Int32)), x11, x12, x13] [] h 0 0 Q) : i_P i_MT i_AT L xs 299 81 [some (.ref x0), some (.int x1), some (.int x2), some (.int x3), some (.long x4), none, some (.int x6), some (.long x7), none, x9, x10, x11, x12, x13] [.int s0] h 0 0 Q := by
  have hk := i_k299
  refine g_s1 (pc2 := 83) (lo2 := [some (.ref x0), some (.int x1), some (.int x2), some (.int x3), some (.long x4), none, some (.int x6), some (.long x7), none, some (.int s0), x10, x11, x12, x13]) hk rfl rfl rfl rfl rfl ?_
  refine g_s1 (pc2 := 84) (st2 := [.int (0 : Int32)]) hk rfl rfl rfl rfl rfl ?_
  refine g_s1 (pc2 := 86) (lo2 := [some (.ref x0), some (.int x1), some (.int x2), some (.int x3), some (.long x4), none, some (.int x6), some (.long x7), none, some (.int s0), some (.int (0 : Int32)), x11, x12, x13]) hk rfl rfl rfl rfl rfl ?_
  exact H
theorem b299_86 {x0 : Nat} {x1 : Int32} {x2 : Int32} {x3 : Int32} {x4 : Int64} {x6 : Int32} {x7 : Int64} {x9 : Int32} {x10 : Int32} {x11 : Option Value} {x12 : Option Value} {x13 : Option Value} {h : iH} {Q : Option Value → iH → Prop} (H : (i_obj? h x0 12 ∧ i_C i_MT i_AT L xs 248 [.ref x0] h (fun v h1 => ∃ r2 : Int32, v = some (.int r2) ∧ i_P i_MT i_AT L xs 299 92 [some (.ref x0), some (.int x1), some (.int x2), some (.int x3), some (.long x4), none, some (.int x6), some (.long x7), none, some (.int x9), some (.int x10), x11, x12, x13] [.int r2, .int x10] h1 0 0 Q))) : i_P i_MT i_AT L xs 299 86 [some (.ref x0), some (.int x1), some (.int x2), some (.int x3), some (.long x4), none, some (.int x6), some (.long x7), none, some (.int x9), some (.int x10), x11, x12, x13] [] h 0 0 Q := by
  have hk := i_k299
  refine g_s1 (pc2 := 88) hk rfl rfl rfl rfl rfl ?_
  refine g_s1 (pc2 := 89) hk rfl rfl rfl rfl rfl ?_
  obtain ⟨ho, H⟩ := H
  refine g_call hk rfl rfl i_k248.1 ⟨rfl, rfl⟩ rfl (i_rcv_v ho rfl (by decide)) rfl ?_
  exact H.mono (fun v h2 q => by obtain ⟨r, rfl, q⟩ := q; exact q)
theorem b299_92 {x0 : Nat} {x1 : Int32} {x2 : Int32} {x3 : Int32} {x4 : Int64} {x6 : Int32} {x7 : Int64} {x9 : Int32} {x10 : Int32} {x11 : Option Value} {x12 : Option Value} {x13 : Option Value} {s0 : Int32} {s1 : Int32} {h : iH} {Q : Option Value → iH → Prop} (H : ((s1 ≤ s0 → i_P i_MT i_AT L xs 299 47 [some (.ref x0), some (.int x1), some (.int x2), some (.int x3), some (.long x7), none, some (.int (x6 + 1)), some (.long x7), none, some (.int x9), some (.int x10), x11, x12, x13] [] h 0 0 Q) ∧ (¬ (s1 ≤ s0) → ((¬ (lg_cmp ((x4 >>> (x10.toInt64 &&& 63)) &&& (1 : Int64)) (1 : Int64)) = 0 → i_P i_MT i_AT L xs 299 128 [some (.ref x0), some (.int x1), some (.int x2), some (.int x3), some (.long x4), none, some (.int x6), some (.long x7), none, some (.int x9), some (.int x10), x11, x12, x13] [] h 0 0 Q) ∧ (¬ (¬ (lg_cmp ((x4 >>> (x10.toInt64 &&& 63)) &&& (1 : Int64)) (1 : Int64)) = 0) → ((x9 = 0 → i_P i_MT i_AT L xs 299 124 [some (.ref x0), some (.int x1), some (.int x2), some (.int x3), some (.long x4), none, some (.int x6), some (.long x7), none, some (.int x9), some (.int x10), x11, x12, x13] [] h 0 0 Q) ∧ (¬ (x9 = 0) → (i_obj? h x0 12 ∧ i_C i_MT i_AT L xs 272 [.ref x0, .int x1, .int x10, .int x6] h (fun v h1 => ∃ r2 : Int32, v = some (.int r2) ∧ i_P i_MT i_AT L xs 299 121 [some (.ref x0), some (.int x1), some (.int x2), some (.int x3), some (.long x4), none, some (.int x6), some (.long x7), none, some (.int x9), some (.int x10), x11, x12, x13] [.int r2] h1 0 0 Q))))))))) : i_P i_MT i_AT L xs 299 92 [some (.ref x0), some (.int x1), some (.int x2), some (.int x3), some (.long x4), none, some (.int x6), some (.long x7), none, some (.int x9), some (.int x10), x11, x12, x13] [.int s1, .int s0] h 0 0 Q := by
  have hk := i_k299
  refine g_icmp_ge hk rfl (fun hc => ?_) (fun hc => ?_)
  · have H := H.1 hc
    refine g_s1 (pc2 := 251) hk rfl rfl rfl rfl rfl ?_
    refine g_s1 (pc2 := 253) (lo2 := [some (.ref x0), some (.int x1), some (.int x2), some (.int x3), some (.long x7), none, some (.int x6), some (.long x7), none, some (.int x9), some (.int x10), x11, x12, x13]) hk rfl rfl rfl rfl rfl ?_
    refine g_s1 (pc2 := 256) (lo2 := [some (.ref x0), some (.int x1), some (.int x2), some (.int x3), some (.long x7), none, some (.int (x6 + 1)), some (.long x7), none, some (.int x9), some (.int x10), x11, x12, x13]) hk rfl rfl rfl rfl rfl ?_
    refine g_s1 (pc2 := 47) hk rfl rfl rfl rfl rfl ?_
    exact H
  · have H := H.2 hc
    refine g_s1 (pc2 := 97) hk rfl rfl rfl rfl rfl ?_
    refine g_s1 (pc2 := 99) hk rfl rfl rfl rfl rfl ?_
    refine g_s1 (pc2 := 100) hk rfl rfl rfl rfl rfl ?_
    refine g_s1 (pc2 := 101) (st2 := [.long (1 : Int64), .long (x4 >>> (x10.toInt64 &&& 63))]) hk rfl rfl rfl rfl rfl ?_
    refine g_s1 (pc2 := 102) hk rfl rfl rfl rfl rfl ?_
    refine g_s1 (pc2 := 103) (st2 := [.long (1 : Int64), .long ((x4 >>> (x10.toInt64 &&& 63)) &&& (1 : Int64))]) hk rfl rfl rfl rfl rfl ?_
    refine g_s1 (pc2 := 104) hk rfl rfl rfl rfl rfl ?_
    refine g_if_ne hk rfl (fun hc => ?_) (fun hc => ?_)
    · have H := H.1 hc
      exact H
    · have H := H.2 hc
      refine g_s1 (pc2 := 109) hk rfl rfl rfl rfl rfl ?_
      refine g_if_eq hk rfl (fun hc => ?_) (fun hc => ?_)
      · have H := H.1 hc
        exact H
      · have H := H.2 hc
        refine g_s1 (pc2 := 113) hk rfl rfl rfl rfl rfl ?_
        refine g_s1 (pc2 := 114) hk rfl rfl rfl rfl rfl ?_
        refine g_s1 (pc2 := 116) hk rfl rfl rfl rfl rfl ?_
        refine g_s1 (pc2 := 118) hk rfl rfl rfl rfl rfl ?_
        obtain ⟨ho, H⟩ := H
        refine g_call hk rfl rfl i_k272.1 ⟨rfl, rfl⟩ rfl (i_rcv_v ho rfl (by decide)) rfl ?_
        exact H.mono (fun v h2 q => by obtain ⟨r, rfl, q⟩ := q; exact q)
theorem b299_121 {x0 : Nat} {x1 : Int32} {x2 : Int32} {x3 : Int32} {x4 : Int64} {x6 : Int32} {x7 : Int64} {x9 : Int32} {x10 : Int32} {x11 : Option Value} {x12 : Option Value} {x13 : Option Value} {s0 : Int32} {h : iH} {Q : Option Value → iH → Prop} (H : ((¬ s0 = 0 → i_P i_MT i_AT L xs 299 128 [some (.ref x0), some (.int x1), some (.int x2), some (.int x3), some (.long x4), none, some (.int x6), some (.long x7), none, some (.int x9), some (.int x10), x11, x12, x13] [] h 0 0 Q) ∧ (¬ (¬ s0 = 0) → i_P i_MT i_AT L xs 299 124 [some (.ref x0), some (.int x1), some (.int x2), some (.int x3), some (.long x4), none, some (.int x6), some (.long x7), none, some (.int x9), some (.int x10), x11, x12, x13] [] h 0 0 Q))) : i_P i_MT i_AT L xs 299 121 [some (.ref x0), some (.int x1), some (.int x2), some (.int x3), some (.long x4), none, some (.int x6), some (.long x7), none, some (.int x9), some (.int x10), x11, x12, x13] [.int s0] h 0 0 Q := by
  have hk := i_k299
  refine g_if_ne hk rfl (fun hc => ?_) (fun hc => ?_)
  · have H := H.1 hc
    exact H
  · have H := H.2 hc
    exact H
theorem b299_124 {x0 : Nat} {x1 : Int32} {x2 : Int32} {x3 : Int32} {x4 : Int64} {x6 : Int32} {x7 : Int64} {x9 : Int32} {x10 : Int32} {x11 : Option Value} {x12 : Option Value} {x13 : Option Value} {h : iH} {Q : Option Value → iH → Prop} (H : i_P i_MT i_AT L xs 299 129 [some (.ref x0), some (.int x1), some (.int x2), some (.int x3), some (.long x4), none, some (.int x6), some (.long x7), none, some (.int x9), some (.int x10), x11, x12, x13] [.int (1 : Int32)] h 0 0 Q) : i_P i_MT i_AT L xs 299 124 [some (.ref x0), some (.int x1), some (.int x2), some (.int x3), some (.long x4), none, some (.int x6), some (.long x7), none, some (.int x9), some (.int x10), x11, x12, x13] [] h 0 0 Q := by
  have hk := i_k299
  refine g_s1 (pc2 := 125) (st2 := [.int (1 : Int32)]) hk rfl rfl rfl rfl rfl ?_
  refine g_s1 (pc2 := 129) hk rfl rfl rfl rfl rfl ?_
  exact H
theorem b299_128 {x0 : Nat} {x1 : Int32} {x2 : Int32} {x3 : Int32} {x4 : Int64} {x6 : Int32} {x7 : Int64} {x9 : Int32} {x10 : Int32} {x11 : Option Value} {x12 : Option Value} {x13 : Option Value} {h : iH} {Q : Option Value → iH → Prop} (H : i_P i_MT i_AT L xs 299 129 [some (.ref x0), some (.int x1), some (.int x2), some (.int x3), some (.long x4), none, some (.int x6), some (.long x7), none, some (.int x9), some (.int x10), x11, x12, x13] [.int (0 : Int32)] h 0 0 Q) : i_P i_MT i_AT L xs 299 128 [some (.ref x0), some (.int x1), some (.int x2), some (.int x3), some (.long x4), none, some (.int x6), some (.long x7), none, some (.int x9), some (.int x10), x11, x12, x13] [] h 0 0 Q := by
  have hk := i_k299
  refine g_s1 (pc2 := 129) (st2 := [.int (0 : Int32)]) hk rfl rfl rfl rfl rfl ?_
  exact H
theorem b299_129 {x0 : Nat} {x1 : Int32} {x2 : Int32} {x3 : Int32} {x4 : Int64} {x6 : Int32} {x7 : Int64} {x9 : Int32} {x10 : Int32} {x11 : Option Value} {x12 : Option Value} {x13 : Option Value} {s0 : Int32} {h : iH} {Q : Option Value → iH → Prop} (H : i_P i_MT i_AT L xs 299 137 [some (.ref x0), some (.int x1), some (.int x2), some (.int x3), some (.long x4), none, some (.int x6), some (.long x7), none, some (.int x9), some (.int x10), some (.int s0), some (.int (0 : Int32)), some (.int (0 : Int32))] [] h 0 0 Q) : i_P i_MT i_AT L xs 299 129 [some (.ref x0), some (.int x1), some (.int x2), some (.int x3), some (.long x4), none, some (.int x6), some (.long x7), none, some (.int x9), some (.int x10), x11, x12, x13] [.int s0] h 0 0 Q := by
  have hk := i_k299
  refine g_s1 (pc2 := 131) (lo2 := [some (.ref x0), some (.int x1), some (.int x2), some (.int x3), some (.long x4), none, some (.int x6), some (.long x7), none, some (.int x9), some (.int x10), some (.int s0), x12, x13]) hk rfl rfl rfl rfl rfl ?_
  refine g_s1 (pc2 := 132) (st2 := [.int (0 : Int32)]) hk rfl rfl rfl rfl rfl ?_
  refine g_s1 (pc2 := 134) (lo2 := [some (.ref x0), some (.int x1), some (.int x2), some (.int x3), some (.long x4), none, some (.int x6), some (.long x7), none, some (.int x9), some (.int x10), some (.int s0), some (.int (0 : Int32)), x13]) hk rfl rfl rfl rfl rfl ?_
  refine g_s1 (pc2 := 135) (st2 := [.int (0 : Int32)]) hk rfl rfl rfl rfl rfl ?_
  refine g_s1 (pc2 := 137) (lo2 := [some (.ref x0), some (.int x1), some (.int x2), some (.int x3), some (.long x4), none, some (.int x6), some (.long x7), none, some (.int x9), some (.int x10), some (.int s0), some (.int (0 : Int32)), some (.int (0 : Int32))]) hk rfl rfl rfl rfl rfl ?_
  exact H
theorem b299_137 {x0 : Nat} {x1 : Int32} {x2 : Int32} {x3 : Int32} {x4 : Int64} {x6 : Int32} {x7 : Int64} {x9 : Int32} {x10 : Int32} {x11 : Int32} {x12 : Int32} {x13 : Int32} {h : iH} {Q : Option Value → iH → Prop} (H : (i_obj? h x0 12 ∧ i_C i_MT i_AT L xs 248 [.ref x0] h (fun v h1 => ∃ r2 : Int32, v = some (.int r2) ∧ i_P i_MT i_AT L xs 299 143 [some (.ref x0), some (.int x1), some (.int x2), some (.int x3), some (.long x4), none, some (.int x6), some (.long x7), none, some (.int x9), some (.int x10), some (.int x11), some (.int x12), some (.int x13)] [.int r2, .int x13] h1 0 0 Q))) : i_P i_MT i_AT L xs 299 137 [some (.ref x0), some (.int x1), some (.int x2), some (.int x3), some (.long x4), none, some (.int x6), some (.long x7), none, some (.int x9), some (.int x10), some (.int x11), some (.int x12), some (.int x13)] [] h 0 0 Q := by
  have hk := i_k299
  refine g_s1 (pc2 := 139) hk rfl rfl rfl rfl rfl ?_
  refine g_s1 (pc2 := 140) hk rfl rfl rfl rfl rfl ?_
  obtain ⟨ho, H⟩ := H
  refine g_call hk rfl rfl i_k248.1 ⟨rfl, rfl⟩ rfl (i_rcv_v ho rfl (by decide)) rfl ?_
  exact H.mono (fun v h2 q => by obtain ⟨r, rfl, q⟩ := q; exact q)
theorem b299_143 {x0 : Nat} {x1 : Int32} {x2 : Int32} {x3 : Int32} {x4 : Int64} {x6 : Int32} {x7 : Int64} {x9 : Int32} {x10 : Int32} {x11 : Int32} {x12 : Int32} {x13 : Int32} {s0 : Int32} {s1 : Int32} {h : iH} {Q : Option Value → iH → Prop} (H : ((s1 ≤ s0 → ((x12 = 0 → i_P i_MT i_AT L xs 299 217 [some (.ref x0), some (.int x1), some (.int x2), some (.int x3), some (.long x4), none, some (.int x6), some (.long x7), none, some (.int x9), some (.int x10), some (.int x11), some (.int x12), some (.int x13)] [] h 0 0 Q) ∧ (¬ (x12 = 0) → (i_obj? h x0 12 ∧ i_C i_MT i_AT L xs 250 [.ref x0, .int x10] h (fun v h1 => ∃ r2 : Int32, v = some (.int r2) ∧ i_P i_MT i_AT L xs 299 198 [some (.ref x0), some (.int x1), some (.int x2), some (.int x3), some (.long x4), none, some (.int x6), some (.long x7), none, some (.int x9), some (.int x10), some (.int x11), some (.int x12), some (.int x13)] [.int r2] h1 0 0 Q))))) ∧ (¬ (s1 ≤ s0) → ((¬ x12 = 0 → i_P i_MT i_AT L xs 299 174 [some (.ref x0), some (.int x1), some (.int x2), some (.int x3), some (.long x4), none, some (.int x6), some (.long x7), none, some (.int x9), some (.int x10), some (.int x11), some (.int x12), some (.int x13)] [] h 0 0 Q) ∧ (¬ (¬ x12 = 0) → ((¬ (lg_cmp ((x4 >>> (x13.toInt64 &&& 63)) &&& (1 : Int64)) (1 : Int64)) = 0 → i_P i_MT i_AT L xs 299 178 [some (.ref x0), some (.int x1), some (.int x2), some (.int x3), some (.long x4), none, some (.int x6), some (.long x7), none, some (.int x9), some (.int x10), some (.int x11), some (.int x12), some (.int x13)] [] h 0 0 Q) ∧ (¬ (¬ (lg_cmp ((x4 >>> (x13.toInt64 &&& 63)) &&& (1 : Int64)) (1 : Int64)) = 0) → (i_obj? h x0 12 ∧ i_C i_MT i_AT L xs 285 [.ref x0, .int x13, .int x10] h (fun v h3 => ∃ r4 : Int32, v = some (.int r4) ∧ i_P i_MT i_AT L xs 299 171 [some (.ref x0), some (.int x1), some (.int x2), some (.int x3), some (.long x4), none, some (.int x6), some (.long x7), none, some (.int x9), some (.int x10), some (.int x11), some (.int x12), some (.int x13)] [.int r4] h3 0 0 Q))))))))) : i_P i_MT i_AT L xs 299 143 [some (.ref x0), some (.int x1), some (.int x2), some (.int x3), some (.long x4), none, some (.int x6), some (.long x7), none, some (.int x9), some (.int x10), some (.int x11), some (.int x12), some (.int x13)] [.int s1, .int s0] h 0 0 Q := by
  have hk := i_k299
  refine g_icmp_ge hk rfl (fun hc => ?_) (fun hc => ?_)
  · have H := H.1 hc
    refine g_s1 (pc2 := 189) hk rfl rfl rfl rfl rfl ?_
    refine g_if_eq hk rfl (fun hc => ?_) (fun hc => ?_)
    · have H := H.1 hc
      exact H
    · have H := H.2 hc
      refine g_s1 (pc2 := 193) hk rfl rfl rfl rfl rfl ?_
      refine g_s1 (pc2 := 195) hk rfl rfl rfl rfl rfl ?_
      obtain ⟨ho, H⟩ := H
      refine g_call hk rfl rfl i_k250.1 ⟨rfl, rfl⟩ rfl (i_rcv_v ho rfl (by decide)) rfl ?_
      exact H.mono (fun v h2 q => by obtain ⟨r, rfl, q⟩ := q; exact q)
  · have H := H.2 hc
    refine g_s1 (pc2 := 148) hk rfl rfl rfl rfl rfl ?_
    refine g_if_ne hk rfl (fun hc => ?_) (fun hc => ?_)
    · have H := H.1 hc
      exact H
    · have H := H.2 hc
      refine g_s1 (pc2 := 153) hk rfl rfl rfl rfl rfl ?_
      refine g_s1 (pc2 := 155) hk rfl rfl rfl rfl rfl ?_
      refine g_s1 (pc2 := 156) hk rfl rfl rfl rfl rfl ?_
      refine g_s1 (pc2 := 157) (st2 := [.long (1 : Int64), .long (x4 >>> (x13.toInt64 &&& 63))]) hk rfl rfl rfl rfl rfl ?_
      refine g_s1 (pc2 := 158) hk rfl rfl rfl rfl rfl ?_
      refine g_s1 (pc2 := 159) (st2 := [.long (1 : Int64), .long ((x4 >>> (x13.toInt64 &&& 63)) &&& (1 : Int64))]) hk rfl rfl rfl rfl rfl ?_
      refine g_s1 (pc2 := 160) hk rfl rfl rfl rfl rfl ?_
      refine g_if_ne hk rfl (fun hc => ?_) (fun hc => ?_)
      · have H := H.1 hc
        exact H
      · have H := H.2 hc
        refine g_s1 (pc2 := 164) hk rfl rfl rfl rfl rfl ?_
        refine g_s1 (pc2 := 166) hk rfl rfl rfl rfl rfl ?_
        refine g_s1 (pc2 := 168) hk rfl rfl rfl rfl rfl ?_
        obtain ⟨ho, H⟩ := H
        refine g_call hk rfl rfl i_k285.1 ⟨rfl, rfl⟩ rfl (i_rcv_v ho rfl (by decide)) rfl ?_
        exact H.mono (fun v h2 q => by obtain ⟨r, rfl, q⟩ := q; exact q)
theorem b299_171 {x0 : Nat} {x1 : Int32} {x2 : Int32} {x3 : Int32} {x4 : Int64} {x6 : Int32} {x7 : Int64} {x9 : Int32} {x10 : Int32} {x11 : Int32} {x12 : Int32} {x13 : Int32} {s0 : Int32} {h : iH} {Q : Option Value → iH → Prop} (H : ((s0 = 0 → i_P i_MT i_AT L xs 299 178 [some (.ref x0), some (.int x1), some (.int x2), some (.int x3), some (.long x4), none, some (.int x6), some (.long x7), none, some (.int x9), some (.int x10), some (.int x11), some (.int x12), some (.int x13)] [] h 0 0 Q) ∧ (¬ (s0 = 0) → i_P i_MT i_AT L xs 299 174 [some (.ref x0), some (.int x1), some (.int x2), some (.int x3), some (.long x4), none, some (.int x6), some (.long x7), none, some (.int x9), some (.int x10), some (.int x11), some (.int x12), some (.int x13)] [] h 0 0 Q))) : i_P i_MT i_AT L xs 299 171 [some (.ref x0), some (.int x1), some (.int x2), some (.int x3), some (.long x4), none, some (.int x6), some (.long x7), none, some (.int x9), some (.int x10), some (.int x11), some (.int x12), some (.int x13)] [.int s0] h 0 0 Q := by
  have hk := i_k299
  refine g_if_eq hk rfl (fun hc => ?_) (fun hc => ?_)
  · have H := H.1 hc
    exact H
  · have H := H.2 hc
    exact H
theorem b299_174 {x0 : Nat} {x1 : Int32} {x2 : Int32} {x3 : Int32} {x4 : Int64} {x6 : Int32} {x7 : Int64} {x9 : Int32} {x10 : Int32} {x11 : Int32} {x12 : Int32} {x13 : Int32} {h : iH} {Q : Option Value → iH → Prop} (H : i_P i_MT i_AT L xs 299 179 [some (.ref x0), some (.int x1), some (.int x2), some (.int x3), some (.long x4), none, some (.int x6), some (.long x7), none, some (.int x9), some (.int x10), some (.int x11), some (.int x12), some (.int x13)] [.int (1 : Int32)] h 0 0 Q) : i_P i_MT i_AT L xs 299 174 [some (.ref x0), some (.int x1), some (.int x2), some (.int x3), some (.long x4), none, some (.int x6), some (.long x7), none, some (.int x9), some (.int x10), some (.int x11), some (.int x12), some (.int x13)] [] h 0 0 Q := by
  have hk := i_k299
  refine g_s1 (pc2 := 175) (st2 := [.int (1 : Int32)]) hk rfl rfl rfl rfl rfl ?_
  refine g_s1 (pc2 := 179) hk rfl rfl rfl rfl rfl ?_
  exact H
theorem b299_178 {x0 : Nat} {x1 : Int32} {x2 : Int32} {x3 : Int32} {x4 : Int64} {x6 : Int32} {x7 : Int64} {x9 : Int32} {x10 : Int32} {x11 : Int32} {x12 : Int32} {x13 : Int32} {h : iH} {Q : Option Value → iH → Prop} (H : i_P i_MT i_AT L xs 299 179 [some (.ref x0), some (.int x1), some (.int x2), some (.int x3), some (.long x4), none, some (.int x6), some (.long x7), none, some (.int x9), some (.int x10), some (.int x11), some (.int x12), some (.int x13)] [.int (0 : Int32)] h 0 0 Q) : i_P i_MT i_AT L xs 299 178 [some (.ref x0), some (.int x1), some (.int x2), some (.int x3), some (.long x4), none, some (.int x6), some (.long x7), none, some (.int x9), some (.int x10), some (.int x11), some (.int x12), some (.int x13)] [] h 0 0 Q := by
  have hk := i_k299
  refine g_s1 (pc2 := 179) (st2 := [.int (0 : Int32)]) hk rfl rfl rfl rfl rfl ?_
  exact H
theorem b299_179 {x0 : Nat} {x1 : Int32} {x2 : Int32} {x3 : Int32} {x4 : Int64} {x6 : Int32} {x7 : Int64} {x9 : Int32} {x10 : Int32} {x11 : Int32} {x12 : Int32} {x13 : Int32} {s0 : Int32} {h : iH} {Q : Option Value → iH → Prop} (H : i_P i_MT i_AT L xs 299 137 [some (.ref x0), some (.int x1), some (.int x2), some (.int x3), some (.long x4), none, some (.int x6), some (.long x7), none, some (.int x9), some (.int x10), some (.int x11), some (.int s0), some (.int (x13 + 1))] [] h 0 0 Q) : i_P i_MT i_AT L xs 299 179 [some (.ref x0), some (.int x1), some (.int x2), some (.int x3), some (.long x4), none, some (.int x6), some (.long x7), none, some (.int x9), some (.int x10), some (.int x11), some (.int x12), some (.int x13)] [.int s0] h 0 0 Q := by
  have hk := i_k299
  refine g_s1 (pc2 := 181) (lo2 := [some (.ref x0), some (.int x1), some (.int x2), some (.int x3), some (.long x4), none, some (.int x6), some (.long x7), none, some (.int x9), some (.int x10), some (.int x11), some (.int s0), some (.int x13)]) hk rfl rfl rfl rfl rfl ?_
  refine g_s1 (pc2 := 184) (lo2 := [some (.ref x0), some (.int x1), some (.int x2), some (.int x3), some (.long x4), none, some (.int x6), some (.long x7), none, some (.int x9), some (.int x10), some (.int x11), some (.int s0), some (.int (x13 + 1))]) hk rfl rfl rfl rfl rfl ?_
  refine g_s1 (pc2 := 137) hk rfl rfl rfl rfl rfl ?_
  exact H
theorem b299_198 {x0 : Nat} {x1 : Int32} {x2 : Int32} {x3 : Int32} {x4 : Int64} {x6 : Int32} {x7 : Int64} {x9 : Int32} {x10 : Int32} {x11 : Int32} {x12 : Int32} {x13 : Int32} {s0 : Int32} {h : iH} {Q : Option Value → iH → Prop} (H : ((s0 = 0 → i_P i_MT i_AT L xs 299 217 [some (.ref x0), some (.int x1), some (.int x2), some (.int x3), some (.long x4), none, some (.int x6), some (.long x7), none, some (.int x9), some (.int x10), some (.int x11), some (.int x12), some (.int x13)] [] h 0 0 Q) ∧ (¬ (s0 = 0) → (i_obj? h x0 12 ∧ i_C i_MT i_AT L xs 272 [.ref x0, .int x1, .int x10, .int x6] h (fun v h1 => ∃ r2 : Int32, v = some (.int r2) ∧ i_P i_MT i_AT L xs 299 210 [some (.ref x0), some (.int x1), some (.int x2), some (.int x3), some (.long x4), none, some (.int x6), some (.long x7), none, some (.int x9), some (.int x10), some (.int x11), some (.int x12), some (.int x13)] [.int r2] h1 0 0 Q))))) : i_P i_MT i_AT L xs 299 198 [some (.ref x0), some (.int x1), some (.int x2), some (.int x3), some (.long x4), none, some (.int x6), some (.long x7), none, some (.int x9), some (.int x10), some (.int x11), some (.int x12), some (.int x13)] [.int s0] h 0 0 Q := by
  have hk := i_k299
  refine g_if_eq hk rfl (fun hc => ?_) (fun hc => ?_)
  · have H := H.1 hc
    exact H
  · have H := H.2 hc
    refine g_s1 (pc2 := 202) hk rfl rfl rfl rfl rfl ?_
    refine g_s1 (pc2 := 203) hk rfl rfl rfl rfl rfl ?_
    refine g_s1 (pc2 := 205) hk rfl rfl rfl rfl rfl ?_
    refine g_s1 (pc2 := 207) hk rfl rfl rfl rfl rfl ?_
    obtain ⟨ho, H⟩ := H
    refine g_call hk rfl rfl i_k272.1 ⟨rfl, rfl⟩ rfl (i_rcv_v ho rfl (by decide)) rfl ?_
    exact H.mono (fun v h2 q => by obtain ⟨r, rfl, q⟩ := q; exact q)
theorem b299_210 {x0 : Nat} {x1 : Int32} {x2 : Int32} {x3 : Int32} {x4 : Int64} {x6 : Int32} {x7 : Int64} {x9 : Int32} {x10 : Int32} {x11 : Int32} {x12 : Int32} {x13 : Int32} {s0 : Int32} {h : iH} {Q : Option Value → iH → Prop} (H : ((¬ s0 = 0 → i_P i_MT i_AT L xs 299 217 [some (.ref x0), some (.int x1), some (.int x2), some (.int x3), some (.long x4), none, some (.int x6), some (.long x7), none, some (.int x9), some (.int x10), some (.int x11), some (.int x12), some (.int x13)] [] h 0 0 Q) ∧ (¬ (¬ s0 = 0) → i_P i_MT i_AT L xs 299 218 [some (.ref x0), some (.int x1), some (.int x2), some (.int x3), some (.long x4), none, some (.int x6), some (.long x7), none, some (.int x9), some (.int x10), some (.int x11), some (.int x12), some (.int x13)] [.int (1 : Int32)] h 0 0 Q))) : i_P i_MT i_AT L xs 299 210 [some (.ref x0), some (.int x1), some (.int x2), some (.int x3), some (.long x4), none, some (.int x6), some (.long x7), none, some (.int x9), some (.int x10), some (.int x11), some (.int x12), some (.int x13)] [.int s0] h 0 0 Q := by
  have hk := i_k299
  refine g_if_ne hk rfl (fun hc => ?_) (fun hc => ?_)
  · have H := H.1 hc
    exact H
  · have H := H.2 hc
    refine g_s1 (pc2 := 214) (st2 := [.int (1 : Int32)]) hk rfl rfl rfl rfl rfl ?_
    refine g_s1 (pc2 := 218) hk rfl rfl rfl rfl rfl ?_
    exact H
theorem b299_217 {x0 : Nat} {x1 : Int32} {x2 : Int32} {x3 : Int32} {x4 : Int64} {x6 : Int32} {x7 : Int64} {x9 : Int32} {x10 : Int32} {x11 : Int32} {x12 : Int32} {x13 : Int32} {h : iH} {Q : Option Value → iH → Prop} (H : i_P i_MT i_AT L xs 299 218 [some (.ref x0), some (.int x1), some (.int x2), some (.int x3), some (.long x4), none, some (.int x6), some (.long x7), none, some (.int x9), some (.int x10), some (.int x11), some (.int x12), some (.int x13)] [.int (0 : Int32)] h 0 0 Q) : i_P i_MT i_AT L xs 299 217 [some (.ref x0), some (.int x1), some (.int x2), some (.int x3), some (.long x4), none, some (.int x6), some (.long x7), none, some (.int x9), some (.int x10), some (.int x11), some (.int x12), some (.int x13)] [] h 0 0 Q := by
  have hk := i_k299
  refine g_s1 (pc2 := 218) (st2 := [.int (0 : Int32)]) hk rfl rfl rfl rfl rfl ?_
  exact H
theorem b299_218 {x0 : Nat} {x1 : Int32} {x2 : Int32} {x3 : Int32} {x4 : Int64} {x6 : Int32} {x7 : Int64} {x9 : Int32} {x10 : Int32} {x11 : Int32} {x12 : Int32} {x13 : Int32} {s0 : Int32} {h : iH} {Q : Option Value → iH → Prop} (H : ((¬ x11 = 0 → i_P i_MT i_AT L xs 299 232 [some (.ref x0), some (.int x1), some (.int x2), some (.int x3), some (.long x4), none, some (.int x6), some (.long x7), none, some (.int x9), some (.int x10), some (.int x11), some (.int s0), some (.int x13)] [.long x7] h 0 0 Q) ∧ (¬ (¬ x11 = 0) → ((s0 = 0 → i_P i_MT i_AT L xs 299 240 [some (.ref x0), some (.int x1), some (.int x2), some (.int x3), some (.long x4), none, some (.int x6), some (.long x7), none, some (.int x9), some (.int x10), some (.int x11), some (.int s0), some (.int x13)] [.long (0 : Int64), .long x7] h 0 0 Q) ∧ (¬ (s0 = 0) → i_P i_MT i_AT L xs 299 232 [some (.ref x0), some (.int x1), some (.int x2), some (.int x3), some (.long x4), none, some (.int x6), some (.long x7), none, some (.int x9), some (.int x10), some (.int x11), some (.int s0), some (.int x13)] [.long x7] h 0 0 Q))))) : i_P i_MT i_AT L xs 299 218 [some (.ref x0), some (.int x1), some (.int x2), some (.int x3), some (.long x4), none, some (.int x6), some (.long x7), none, some (.int x9), some (.int x10), some (.int x11), some (.int x12), some (.int x13)] [.int s0] h 0 0 Q := by
  have hk := i_k299
  refine g_s1 (pc2 := 220) (lo2 := [some (.ref x0), some (.int x1), some (.int x2), some (.int x3), some (.long x4), none, some (.int x6), some (.long x7), none, some (.int x9), some (.int x10), some (.int x11), some (.int s0), some (.int x13)]) hk rfl rfl rfl rfl rfl ?_
  refine g_s1 (pc2 := 222) hk rfl rfl rfl rfl rfl ?_
  refine g_s1 (pc2 := 224) hk rfl rfl rfl rfl rfl ?_
  refine g_if_ne hk rfl (fun hc => ?_) (fun hc => ?_)
  · have H := H.1 hc
    exact H
  · have H := H.2 hc
    refine g_s1 (pc2 := 229) hk rfl rfl rfl rfl rfl ?_
    refine g_if_eq hk rfl (fun hc => ?_) (fun hc => ?_)
    · have H := H.1 hc
      refine g_s1 (pc2 := 240) (st2 := [.long (0 : Int64), .long x7]) hk rfl rfl rfl rfl rfl ?_
      exact H
    · have H := H.2 hc
      exact H
theorem b299_232 {x0 : Nat} {x1 : Int32} {x2 : Int32} {x3 : Int32} {x4 : Int64} {x6 : Int32} {x7 : Int64} {x9 : Int32} {x10 : Int32} {x11 : Int32} {x12 : Int32} {x13 : Int32} {s0 : Int64} {h : iH} {Q : Option Value → iH → Prop} (H : i_P i_MT i_AT L xs 299 240 [some (.ref x0), some (.int x1), some (.int x2), some (.int x3), some (.long x4), none, some (.int x6), some (.long x7), none, some (.int x9), some (.int x10), some (.int x11), some (.int x12), some (.int x13)] [.long ((1 : Int64) <<< (x10.toInt64 &&& 63)), .long s0] h 0 0 Q) : i_P i_MT i_AT L xs 299 232 [some (.ref x0), some (.int x1), some (.int x2), some (.int x3), some (.long x4), none, some (.int x6), some (.long x7), none, some (.int x9), some (.int x10), some (.int x11), some (.int x12), some (.int x13)] [.long s0] h 0 0 Q := by
  have hk := i_k299
  refine g_s1 (pc2 := 233) (st2 := [.long (1 : Int64), .long s0]) hk rfl rfl rfl rfl rfl ?_
  refine g_s1 (pc2 := 235) hk rfl rfl rfl rfl rfl ?_
  refine g_s1 (pc2 := 236) hk rfl rfl rfl rfl rfl ?_
  refine g_s1 (pc2 := 240) hk rfl rfl rfl rfl rfl ?_
  exact H
theorem b299_240 {x0 : Nat} {x1 : Int32} {x2 : Int32} {x3 : Int32} {x4 : Int64} {x6 : Int32} {x7 : Int64} {x9 : Int32} {x10 : Int32} {x11 : Int32} {x12 : Int32} {x13 : Int32} {s0 : Int64} {s1 : Int64} {h : iH} {Q : Option Value → iH → Prop} (H : i_P i_MT i_AT L xs 299 86 [some (.ref x0), some (.int x1), some (.int x2), some (.int x3), some (.long x4), none, some (.int x6), some (.long (s0 ||| s1)), none, some (.int x9), some (.int (x10 + 1)), some (.int x11), some (.int x12), some (.int x13)] [] h 0 0 Q) : i_P i_MT i_AT L xs 299 240 [some (.ref x0), some (.int x1), some (.int x2), some (.int x3), some (.long x4), none, some (.int x6), some (.long x7), none, some (.int x9), some (.int x10), some (.int x11), some (.int x12), some (.int x13)] [.long s1, .long s0] h 0 0 Q := by
  have hk := i_k299
  refine g_s1 (pc2 := 241) hk rfl rfl rfl rfl rfl ?_
  refine g_s1 (pc2 := 243) (lo2 := [some (.ref x0), some (.int x1), some (.int x2), some (.int x3), some (.long x4), none, some (.int x6), some (.long (s0 ||| s1)), none, some (.int x9), some (.int x10), some (.int x11), some (.int x12), some (.int x13)]) hk rfl rfl rfl rfl rfl ?_
  refine g_s1 (pc2 := 246) (lo2 := [some (.ref x0), some (.int x1), some (.int x2), some (.int x3), some (.long x4), none, some (.int x6), some (.long (s0 ||| s1)), none, some (.int x9), some (.int (x10 + 1)), some (.int x11), some (.int x12), some (.int x13)]) hk rfl rfl rfl rfl rfl ?_
  refine g_s1 (pc2 := 86) hk rfl rfl rfl rfl rfl ?_
  exact H
theorem b299_265 {x0 : Nat} {x1 : Int32} {x2 : Int32} {x3 : Int32} {x4 : Int64} {x6 : Int32} {x7 : Option Value} {x8 : Option Value} {x9 : Option Value} {x10 : Option Value} {x11 : Option Value} {x12 : Option Value} {x13 : Option Value} {s0 : Int64} {h : iH} {Q : Option Value → iH → Prop} (H : Q (some (.long s0)) h) : i_P i_MT i_AT L xs 299 265 [some (.ref x0), some (.int x1), some (.int x2), some (.int x3), some (.long x4), none, some (.int x6), x7, x8, x9, x10, x11, x12, x13] [.long s0] h 0 0 Q := by
  have hk := i_k299
  exact g_lreturn hk rfl (by decide) (by decide) rfl H
end
