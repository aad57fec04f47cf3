/-! BLOCKS, 7: what it takes to go on from a label; by program -/
section
variable {L : Nat} {xs : Nat → Int32}
set_option maxRecDepth 20000
set_option maxHeartbeats 1000000
/-! StillTownModel.safe(II)Z -/
theorem e329 {x0 : Nat} {x1 : Int32} {x2 : Int32} {h : iH} {Q : Option Value → iH → Prop} (H : i_P i_MT i_AT L xs 329 0 [some (.ref x0), some (.int x1), some (.int x2), none, none] [] h 0 0 Q) : i_C i_MT i_AT L xs 329 [.ref x0, .int x1, .int x2] h Q := ⟨i_m329, i_k329.1, Nat.le_of_ble_eq_true rfl, H⟩
theorem b329_0 {x0 : Nat} {x1 : Int32} {x2 : Int32} {x3 : Option Value} {x4 : Option Value} {h : iH} {Q : Option Value → iH → Prop} (H : (i_C i_MT i_AT L xs 212 [.long (x1.toInt64), .long (0 : Int64), .long (9999 : Int64)] h (fun v h1 => ∃ r2 : Int32, v = some (.int r2) ∧ i_P i_MT i_AT L xs 329 9 [some (.ref x0), some (.int x1), some (.int x2), x3, x4] [.int r2] h1 0 0 Q))) : i_P i_MT i_AT L xs 329 0 [some (.ref x0), some (.int x1), some (.int x2), x3, x4] [] h 0 0 Q := by
  have hk := i_k329
  refine g_s1 (pc2 := 1) hk rfl rfl rfl rfl rfl ?_
  refine g_s1 (pc2 := 2) hk rfl rfl rfl rfl rfl ?_
  refine g_s1 (pc2 := 3) (st2 := [.long (0 : Int64), .long (x1.toInt64)]) hk rfl rfl rfl rfl rfl ?_
  refine g_step (pc2 := 6) (st2 := [.long (9999 : Int64), .long (0 : Int64), .long (x1.toInt64)]) hk rfl rfl rfl rfl ?_
  refine g_call hk rfl rfl i_k212.1 ⟨rfl, rfl⟩ rfl (i_rcv_0 rfl) rfl ?_
  exact H.mono (fun v h2 q => by obtain ⟨r, rfl, q⟩ := q; exact q)
theorem b329_9 {x0 : Nat} {x1 : Int32} {x2 : Int32} {x3 : Option Value} {x4 : Option Value} {s0 : Int32} {h : iH} {Q : Option Value → iH → Prop} (H : ((s0 = 0 → i_P i_MT i_AT L xs 329 35 [some (.ref x0), some (.int x1), some (.int x2), x3, x4] [] h 0 0 Q) ∧ (¬ (s0 = 0) → (i_C i_MT i_AT L xs 212 [.long (x2.toInt64), .long (1 : Int64), .long (30 : Int64)] h (fun v h1 => ∃ r2 : Int32, v = some (.int r2) ∧ i_P i_MT i_AT L xs 329 21 [some (.ref x0), some (.int x1), some (.int x2), x3, x4] [.int r2] h1 0 0 Q))))) : i_P i_MT i_AT L xs 329 9 [some (.ref x0), some (.int x1), some (.int x2), x3, x4] [.int s0] h 0 0 Q := by
  have hk := i_k329
  refine g_if_eq hk rfl (fun hc => ?_) (fun hc => ?_)
  · have H := H.1 hc
    exact H
  · have H := H.2 hc
    refine g_s1 (pc2 := 13) hk rfl rfl rfl rfl rfl ?_
    refine g_s1 (pc2 := 14) hk rfl rfl rfl rfl rfl ?_
    refine g_s1 (pc2 := 15) (st2 := [.long (1 : Int64), .long (x2.toInt64)]) hk rfl rfl rfl rfl rfl ?_
    refine g_step (pc2 := 18) (st2 := [.long (30 : Int64), .long (1 : Int64), .long (x2.toInt64)]) hk rfl rfl rfl rfl ?_
    refine g_call hk rfl rfl i_k212.1 ⟨rfl, rfl⟩ rfl (i_rcv_0 rfl) rfl ?_
    exact H.mono (fun v h2 q => by obtain ⟨r, rfl, q⟩ := q; exact q)
theorem b329_21 {x0 : Nat} {x1 : Int32} {x2 : Int32} {x3 : Option Value} {x4 : Option Value} {s0 : Int32} {h : iH} {Q : Option Value → iH → Prop} (H : ((s0 = 0 → i_P i_MT i_AT L xs 329 35 [some (.ref x0), some (.int x1), some (.int x2), x3, x4] [] h 0 0 Q) ∧ (¬ (s0 = 0) → ((((x1 + x2) - (1 : Int32)) ≤ (9999 : Int32) → i_P i_MT i_AT L xs 329 46 [some (.ref x0), some (.int x1), some (.int x2), some (.int (0 : Int32)), some (.int (0 : Int32))] [] h 0 0 Q) ∧ (¬ (((x1 + x2) - (1 : Int32)) ≤ (9999 : Int32)) → i_P i_MT i_AT L xs 329 35 [some (.ref x0), some (.int x1), some (.int x2), x3, x4] [] h 0 0 Q))))) : i_P i_MT i_AT L xs 329 21 [some (.ref x0), some (.int x1), some (.int x2), x3, x4] [.int s0] h 0 0 Q := by
  have hk := i_k329
  refine g_if_eq hk rfl (fun hc => ?_) (fun hc => ?_)
  · have H := H.1 hc
    exact H
  · have H := H.2 hc
    refine g_s1 (pc2 := 25) hk rfl rfl rfl rfl rfl ?_
    refine g_s1 (pc2 := 26) hk rfl rfl rfl rfl rfl ?_
    refine g_s1 (pc2 := 27) hk rfl rfl rfl rfl rfl ?_
    refine g_s1 (pc2 := 28) (st2 := [.int (1 : Int32), .int (x1 + x2)]) hk rfl rfl rfl rfl rfl ?_
    refine g_s1 (pc2 := 29) hk rfl rfl rfl rfl rfl ?_
    refine g_s1 (pc2 := 32) (st2 := [.int (9999 : Int32), .int ((x1 + x2) - (1 : Int32))]) hk rfl rfl rfl rfl rfl ?_
    refine g_icmp_le hk rfl (fun hc => ?_) (fun hc => ?_)
    · have H := H.1 hc
      refine g_s1 (pc2 := 42) (st2 := [.int (0 : Int32)]) hk rfl rfl rfl rfl rfl ?_
      refine g_s1 (pc2 := 43) (lo2 := [some (.ref x0), some (.int x1), some (.int x2), some (.int (0 : Int32)), x4]) hk rfl rfl rfl rfl rfl ?_
      refine g_s1 (pc2 := 44) (st2 := [.int (0 : Int32)]) hk rfl rfl rfl rfl rfl ?_
      refine g_s1 (pc2 := 46) (lo2 := [some (.ref x0), some (.int x1), some (.int x2), some (.int (0 : Int32)), some (.int (0 : Int32))]) hk rfl rfl rfl rfl rfl ?_
      exact H
    · have H := H.2 hc
      exact H
theorem b329_35 {x0 : Nat} {x1 : Int32} {x2 : Int32} {x3 : Option Value} {x4 : Option Value} {h : iH} {Q : Option Value → iH → Prop} (H : (i_obj? h x0 12 ∧ i_C i_MT i_AT L xs 200 [.ref x0, .int (1 : Int32)] h (fun v h1 => ∃ r2 : Int32, v = some (.int r2) ∧ i_P i_MT i_AT L xs 329 40 [some (.ref x0), some (.int x1), some (.int x2), x3, x4] [.int r2] h1 0 0 Q))) : i_P i_MT i_AT L xs 329 35 [some (.ref x0), some (.int x1), some (.int x2), x3, x4] [] h 0 0 Q := by
  have hk := i_k329
  refine g_s1 (pc2 := 36) hk rfl rfl rfl rfl rfl ?_
  refine g_s1 (pc2 := 37) (st2 := [.int (1 : Int32), .ref x0]) hk rfl rfl rfl rfl rfl ?_
  obtain ⟨ho, H⟩ := H
  refine g_call hk rfl rfl i_k200.1 ⟨rfl, rfl⟩ rfl (i_rcv_v ho rfl (by decide)) rfl ?_
  exact H.mono (fun v h2 q => by obtain ⟨r, rfl, q⟩ := q; exact q)
theorem b329_40 {x0 : Nat} {x1 : Int32} {x2 : Int32} {x3 : Option Value} {x4 : Option Value} {s0 : Int32} {h : iH} {Q : Option Value → iH → Prop} (H : (i_ret (some .boolean) s0 = true ∧ Q (some (.int s0)) h)) : i_P i_MT i_AT L xs 329 40 [some (.ref x0), some (.int x1), some (.int x2), x3, x4] [.int s0] h 0 0 Q := by
  have hk := i_k329
  exact g_ireturn hk rfl (by decide) (by decide) H.1 H.2
theorem b329_46 {x0 : Nat} {x1 : Int32} {x2 : Int32} {x3 : Int32} {x4 : Int32} {h : iH} {Q : Option Value → iH → Prop} (H : ((x2 ≤ x4 → (i_obj? h x0 12 ∧ i_C i_MT i_AT L xs 204 [.ref x0, .long (x3.toInt64), .long (x2.toInt64)] h (fun v h1 => ∃ r2 : Int32, v = some (.int r2) ∧ i_P i_MT i_AT L xs 329 89 [some (.ref x0), some (.int x1), some (.int x2), some (.int x3), some (.int x4)] [.int r2] h1 0 0 Q))) ∧ (¬ (x2 ≤ x4) → (i_obj? h x0 12 ∧ i_C i_MT i_AT L xs 325 [.ref x0, .int (x1 + x4)] h (fun v h3 => v = none ∧ i_P i_MT i_AT L xs 329 60 [some (.ref x0), some (.int x1), some (.int x2), some (.int x3), some (.int x4)] [] h3 0 0 Q))))) : i_P i_MT i_AT L xs 329 46 [some (.ref x0), some (.int x1), some (.int x2), some (.int x3), some (.int x4)] [] h 0 0 Q := by
  have hk := i_k329
  refine g_s1 (pc2 := 48) hk rfl rfl rfl rfl rfl ?_
  refine g_s1 (pc2 := 49) hk rfl rfl rfl rfl rfl ?_
  refine g_icmp_ge hk rfl (fun hc => ?_) (fun hc => ?_)
  · have H := H.1 hc
    refine g_s1 (pc2 := 82) hk rfl rfl rfl rfl rfl ?_
    refine g_s1 (pc2 := 83) hk rfl rfl rfl rfl rfl ?_
    refine g_s1 (pc2 := 84) hk rfl rfl rfl rfl rfl ?_
    refine g_s1 (pc2 := 85) hk rfl rfl rfl rfl rfl ?_
    refine g_s1 (pc2 := 86) hk rfl rfl rfl rfl rfl ?_
    obtain ⟨ho, H⟩ := H
    refine g_call hk rfl rfl i_k204.1 ⟨rfl, rfl⟩ rfl (i_rcv_v ho rfl (by decide)) rfl ?_
    exact H.mono (fun v h2 q => by obtain ⟨r, rfl, q⟩ := q; exact q)
  · have H := H.2 hc
    refine g_s1 (pc2 := 53) hk rfl rfl rfl rfl rfl ?_
    refine g_s1 (pc2 := 54) hk rfl rfl rfl rfl rfl ?_
    refine g_s1 (pc2 := 56) hk rfl rfl rfl rfl rfl ?_
    refine g_s1 (pc2 := 57) hk rfl rfl rfl rfl rfl ?_
    obtain ⟨ho, H⟩ := H
    refine g_call hk rfl rfl i_k325.1 ⟨rfl, rfl⟩ rfl (i_rcv_v ho rfl (by decide)) rfl ?_
    exact H.mono (fun v h2 q => by obtain ⟨rfl, q⟩ := q; exact q)
theorem b329_60 {x0 : Nat} {x1 : Int32} {x2 : Int32} {x3 : Int32} {x4 : Int32} {h : iH} {Q : Option Value → iH → Prop} (H : (∃ v1 : Int32, i_fld h x0 12 52 = some (.int v1) ∧ ((¬ v1 = 0 → i_P i_MT i_AT L xs 329 73 [some (.ref x0), some (.int x1), some (.int x2), some (.int x3), some (.int x4)] [.int (0 : Int32), .int x3] h 0 0 Q) ∧ (¬ (¬ v1 = 0) → i_P i_MT i_AT L xs 329 73 [some (.ref x0), some (.int x1), some (.int x2), some (.int x3), some (.int x4)] [.int (1 : Int32), .int x3] h 0 0 Q)))) : i_P i_MT i_AT L xs 329 60 [some (.ref x0), some (.int x1), some (.int x2), some (.int x3), some (.int x4)] [] h 0 0 Q := by
  have hk := i_k329
  refine g_s1 (pc2 := 61) hk rfl rfl rfl rfl rfl ?_
  refine g_s1 (pc2 := 62) hk rfl rfl rfl rfl rfl ?_
  obtain ⟨v1, ev1, H⟩ := H
  refine g_step (pc2 := 65) hk rfl rfl rfl (s_get ev1) ?_
  refine g_if_ne hk rfl (fun hc => ?_) (fun hc => ?_)
  · have H := H.1 hc
    refine g_s1 (pc2 := 73) (st2 := [.int (0 : Int32), .int x3]) hk rfl rfl rfl rfl rfl ?_
    exact H
  · have H := H.2 hc
    refine g_s1 (pc2 := 69) (st2 := [.int (1 : Int32), .int x3]) hk rfl rfl rfl rfl rfl ?_
    refine g_s1 (pc2 := 73) hk rfl rfl rfl rfl rfl ?_
    exact H
theorem b329_73 {x0 : Nat} {x1 : Int32} {x2 : Int32} {x3 : Int32} {x4 : Int32} {s0 : Int32} {s1 : Int32} {h : iH} {Q : Option Value → iH → Prop} (H : i_P i_MT i_AT L xs 329 46 [some (.ref x0), some (.int x1), some (.int x2), some (.int (s0 + s1)), some (.int (x4 + 1))] [] h 0 0 Q) : i_P i_MT i_AT L xs 329 73 [some (.ref x0), some (.int x1), some (.int x2), some (.int x3), some (.int x4)] [.int s1, .int s0] h 0 0 Q := by
  have hk := i_k329
  refine g_s1 (pc2 := 74) hk rfl rfl rfl rfl rfl ?_
  refine g_s1 (pc2 := 75) (lo2 := [some (.ref x0), some (.int x1), some (.int x2), some (.int (s0 + s1)), some (.int x4)]) hk rfl rfl rfl rfl rfl ?_
  refine g_s1 (pc2 := 78) (lo2 := [some (.ref x0), some (.int x1), some (.int x2), some (.int (s0 + s1)), some (.int (x4 + 1))]) hk rfl rfl rfl rfl rfl ?_
  refine g_s1 (pc2 := 46) hk rfl rfl rfl rfl rfl ?_
  exact H
theorem b329_89 {x0 : Nat} {x1 : Int32} {x2 : Int32} {x3 : Int32} {x4 : Int32} {s0 : Int32} {h : iH} {Q : Option Value → iH → Prop} (H : (i_ret (some .boolean) s0 = true ∧ Q (some (.int s0)) h)) : i_P i_MT i_AT L xs 329 89 [some (.ref x0), some (.int x1), some (.int x2), some (.int x3), some (.int x4)] [.int s0] h 0 0 Q := by
  have hk := i_k329
  exact g_ireturn hk rfl (by decide) (by decide) H.1 H.2
/-! StillTownModel.copies(II)V -/
theorem e330 {x0 : Nat} {x1 : Int32} {x2 : Int32} {h : iH} {Q : Option Value → iH → Prop} (H : i_P i_MT i_AT L xs 330 0 [some (.ref x0), some (.int x1), some (.int x2), none] [] h 0 0 Q) : i_C i_MT i_AT L xs 330 [.ref x0, .int x1, .int x2] h Q := ⟨i_m330, i_k330.1, Nat.le_of_ble_eq_true rfl, H⟩
theorem b330_0 {x0 : Nat} {x1 : Int32} {x2 : Int32} {x3 : Option Value} {h : iH} {Q : Option Value → iH → Prop} (H : i_P i_MT i_AT L xs 330 2 [some (.ref x0), some (.int x1), some (.int x2), some (.int (0 : Int32))] [] h 0 0 Q) : i_P i_MT i_AT L xs 330 0 [some (.ref x0), some (.int x1), some (.int x2), x3] [] h 0 0 Q := by
  have hk := i_k330
  refine g_s1 (pc2 := 1) (st2 := [.int (0 : Int32)]) hk rfl rfl rfl rfl rfl ?_
  refine g_s1 (pc2 := 2) (lo2 := [some (.ref x0), some (.int x1), some (.int x2), some (.int (0 : Int32))]) hk rfl rfl rfl rfl rfl ?_
  exact H
theorem b330_2 {x0 : Nat} {x1 : Int32} {x2 : Int32} {x3 : Int32} {h : iH} {Q : Option Value → iH → Prop} (H : (((680 : Int32) ≤ x3 → i_P i_MT i_AT L xs 330 41 [some (.ref x0), some (.int x1), some (.int x2), some (.int (0 : Int32))] [] h 0 0 Q) ∧ (¬ ((680 : Int32) ≤ x3) → (∃ v1 : Nat, i_fld h x0 12 0 = some (.ref v1) ∧ (∃ v2 : Nat, i_fld h x0 12 0 = some (.ref v2) ∧ (∃ (n3 : Nat) (f4 : Nat → Int32), i_arI h 0 v2 = some (n3, f4) ∧ ¬ ((((680 : Int32) * x1) + x3) < 0 ∨ n3 ≤ (((680 : Int32) * x1) + x3).toNatClampNeg) ∧ (∃ (n5 : Nat) (f6 : Nat → Int32), i_arI h 0 v1 = some (n5, f6) ∧ ¬ ((((680 : Int32) * x2) + x3) < 0 ∨ n5 ≤ (((680 : Int32) * x2) + x3).toNatClampNeg) ∧ i_P i_MT i_AT L xs 330 33 [some (.ref x0), some (.int x1), some (.int x2), some (.int x3)] [] (i_siI h v1 (((680 : Int32) * x2) + x3).toNatClampNeg (f4 (((680 : Int32) * x1) + x3).toNatClampNeg)) 0 0 Q))))))) : i_P i_MT i_AT L xs 330 2 [some (.ref x0), some (.int x1), some (.int x2), some (.int x3)] [] h 0 0 Q := by
  have hk := i_k330
  refine g_s1 (pc2 := 3) hk rfl rfl rfl rfl rfl ?_
  refine g_s1 (pc2 := 6) (st2 := [.int (680 : Int32), .int x3]) hk rfl rfl rfl rfl rfl ?_
  refine g_icmp_ge hk rfl (fun hc => ?_) (fun hc => ?_)
  · have H := H.1 hc
    refine g_s1 (pc2 := 40) (st2 := [.int (0 : Int32)]) hk rfl rfl rfl rfl rfl ?_
    refine g_s1 (pc2 := 41) (lo2 := [some (.ref x0), some (.int x1), some (.int x2), some (.int (0 : Int32))]) hk rfl rfl rfl rfl rfl ?_
    exact H
  · have H := H.2 hc
    refine g_s1 (pc2 := 10) hk rfl rfl rfl rfl rfl ?_
    obtain ⟨v1, ev1, H⟩ := H
    refine g_step (pc2 := 13) hk rfl rfl rfl (s_get ev1) ?_
    refine g_s1 (pc2 := 16) (st2 := [.int (680 : Int32), .ref v1]) hk rfl rfl rfl rfl rfl ?_
    refine g_s1 (pc2 := 17) hk rfl rfl rfl rfl rfl ?_
    refine g_s1 (pc2 := 18) hk rfl rfl rfl rfl rfl ?_
    refine g_s1 (pc2 := 19) hk rfl rfl rfl rfl rfl ?_
    refine g_s1 (pc2 := 20) hk rfl rfl rfl rfl rfl ?_
    refine g_s1 (pc2 := 21) hk rfl rfl rfl rfl rfl ?_
    obtain ⟨v2, ev2, H⟩ := H
    refine g_step (pc2 := 24) hk rfl rfl rfl (s_get ev2) ?_
    refine g_s1 (pc2 := 27) (st2 := [.int (680 : Int32), .ref v2, .int (((680 : Int32) * x2) + x3), .ref v1]) hk rfl rfl rfl rfl rfl ?_
    refine g_s1 (pc2 := 28) hk rfl rfl rfl rfl rfl ?_
    refine g_s1 (pc2 := 29) hk rfl rfl rfl rfl rfl ?_
    refine g_s1 (pc2 := 30) hk rfl rfl rfl rfl rfl ?_
    refine g_s1 (pc2 := 31) hk rfl rfl rfl rfl rfl ?_
    obtain ⟨n3, f4, ef4, hi, H⟩ := H
    refine g_step (pc2 := 32) hk rfl rfl rfl (s_aget (L := L) (xs := xs) ef4 hi) ?_
    obtain ⟨n5, f6, ef6, hi, H⟩ := H
    refine g_step (pc2 := 33) hk rfl rfl rfl (s_aput ef6 hi) ?_
    exact H
theorem b330_33 {x0 : Nat} {x1 : Int32} {x2 : Int32} {x3 : Int32} {h : iH} {Q : Option Value → iH → Prop} (H : i_P i_MT i_AT L xs 330 2 [some (.ref x0), some (.int x1), some (.int x2), some (.int (x3 + 1))] [] h 0 0 Q) : i_P i_MT i_AT L xs 330 33 [some (.ref x0), some (.int x1), some (.int x2), some (.int x3)] [] h 0 0 Q := by
  have hk := i_k330
  refine g_s1 (pc2 := 36) (lo2 := [some (.ref x0), some (.int x1), some (.int x2), some (.int (x3 + 1))]) hk rfl rfl rfl rfl rfl ?_
  refine g_s1 (pc2 := 2) hk rfl rfl rfl rfl rfl ?_
  exact H
theorem b330_41 {x0 : Nat} {x1 : Int32} {x2 : Int32} {x3 : Int32} {h : iH} {Q : Option Value → iH → Prop} (H : (((8 : Int32) ≤ x3 → Q none h) ∧ (¬ ((8 : Int32) ≤ x3) → (∃ v1 : Nat, i_fld h x0 12 1 = some (.ref v1) ∧ (∃ v2 : Nat, i_fld h x0 12 1 = some (.ref v2) ∧ (∃ (n3 : Nat) (f4 : Nat → Int64), i_arJ h v2 = some (n3, f4) ∧ ¬ ((((8 : Int32) * x1) + x3) < 0 ∨ n3 ≤ (((8 : Int32) * x1) + x3).toNatClampNeg) ∧ (∃ (n5 : Nat) (f6 : Nat → Int64), i_arJ h v1 = some (n5, f6) ∧ ¬ ((((8 : Int32) * x2) + x3) < 0 ∨ n5 ≤ (((8 : Int32) * x2) + x3).toNatClampNeg) ∧ i_P i_MT i_AT L xs 330 69 [some (.ref x0), some (.int x1), some (.int x2), some (.int x3)] [] (i_siJ h v1 (((8 : Int32) * x2) + x3).toNatClampNeg (f4 (((8 : Int32) * x1) + x3).toNatClampNeg)) 0 0 Q))))))) : i_P i_MT i_AT L xs 330 41 [some (.ref x0), some (.int x1), some (.int x2), some (.int x3)] [] h 0 0 Q := by
  have hk := i_k330
  refine g_s1 (pc2 := 42) hk rfl rfl rfl rfl rfl ?_
  refine g_s1 (pc2 := 44) (st2 := [.int (8 : Int32), .int x3]) hk rfl rfl rfl rfl rfl ?_
  refine g_icmp_ge hk rfl (fun hc => ?_) (fun hc => ?_)
  · have H := H.1 hc
    exact g_return hk rfl (by decide) (by decide) rfl H
  · have H := H.2 hc
    refine g_s1 (pc2 := 48) hk rfl rfl rfl rfl rfl ?_
    obtain ⟨v1, ev1, H⟩ := H
    refine g_step (pc2 := 51) hk rfl rfl rfl (s_get ev1) ?_
    refine g_s1 (pc2 := 53) (st2 := [.int (8 : Int32), .ref v1]) hk rfl rfl rfl rfl rfl ?_
    refine g_s1 (pc2 := 54) hk rfl rfl rfl rfl rfl ?_
    refine g_s1 (pc2 := 55) hk rfl rfl rfl rfl rfl ?_
    refine g_s1 (pc2 := 56) hk rfl rfl rfl rfl rfl ?_
    refine g_s1 (pc2 := 57) hk rfl rfl rfl rfl rfl ?_
    refine g_s1 (pc2 := 58) hk rfl rfl rfl rfl rfl ?_
    obtain ⟨v2, ev2, H⟩ := H
    refine g_step (pc2 := 61) hk rfl rfl rfl (s_get ev2) ?_
    refine g_s1 (pc2 := 63) (st2 := [.int (8 : Int32), .ref v2, .int (((8 : Int32) * x2) + x3), .ref v1]) hk rfl rfl rfl rfl rfl ?_
    refine g_s1 (pc2 := 64) hk rfl rfl rfl rfl rfl ?_
    refine g_s1 (pc2 := 65) hk rfl rfl rfl rfl rfl ?_
    refine g_s1 (pc2 := 66) hk rfl rfl rfl rfl rfl ?_
    refine g_s1 (pc2 := 67) hk rfl rfl rfl rfl rfl ?_
    obtain ⟨n3, f4, ef4, hi, H⟩ := H
    refine g_step (pc2 := 68) hk rfl rfl rfl (s_lget ef4 hi) ?_
    obtain ⟨n5, f6, ef6, hi, H⟩ := H
    refine g_step (pc2 := 69) hk rfl rfl rfl (s_lput ef6 hi) ?_
    exact H
theorem b330_69 {x0 : Nat} {x1 : Int32} {x2 : Int32} {x3 : Int32} {h : iH} {Q : Option Value → iH → Prop} (H : i_P i_MT i_AT L xs 330 41 [some (.ref x0), some (.int x1), some (.int x2), some (.int (x3 + 1))] [] h 0 0 Q) : i_P i_MT i_AT L xs 330 69 [some (.ref x0), some (.int x1), some (.int x2), some (.int x3)] [] h 0 0 Q := by
  have hk := i_k330
  refine g_s1 (pc2 := 72) (lo2 := [some (.ref x0), some (.int x1), some (.int x2), some (.int (x3 + 1))]) hk rfl rfl rfl rfl rfl ?_
  refine g_s1 (pc2 := 41) hk rfl rfl rfl rfl rfl ?_
  exact H
/-! StillTownModel.mark()I -/
theorem e331 {x0 : Nat} {h : iH} {Q : Option Value → iH → Prop} (H : i_P i_MT i_AT L xs 331 0 [some (.ref x0)] [] h 0 0 Q) : i_C i_MT i_AT L xs 331 [.ref x0] h Q := ⟨i_m331, i_k331.1, Nat.le_of_ble_eq_true rfl, H⟩
theorem b331_0 {x0 : Nat} {h : iH} {Q : Option Value → iH → Prop} (H : (∃ v1 : Int32, i_fld h x0 12 57 = some (.int v1) ∧ ((¬ v1 = (3 : Int32) → (∃ v2 : Int32, i_fld h x0 12 57 = some (.int v2) ∧ ((∃ o, i_fld h x0 12 57 = some o) ∧ i_P i_MT i_AT L xs 331 24 [some (.ref x0)] [] (i_sf h x0 57 (.int (v2 + (1 : Int32)))) 0 0 Q))) ∧ (¬ (¬ v1 = (3 : Int32)) → (i_obj? h x0 12 ∧ i_C i_MT i_AT L xs 201 [.ref x0, .int (4 : Int32)] h (fun v h3 => ∃ r4 : Int32, v = some (.int r4) ∧ i_P i_MT i_AT L xs 331 13 [some (.ref x0)] [.int r4] h3 0 0 Q)))))) : i_P i_MT i_AT L xs 331 0 [some (.ref x0)] [] h 0 0 Q := by
  have hk := i_k331
  refine g_s1 (pc2 := 1) hk rfl rfl rfl rfl rfl ?_
  obtain ⟨v1, ev1, H⟩ := H
  refine g_step (pc2 := 4) hk rfl rfl rfl (s_get ev1) ?_
  refine g_s1 (pc2 := 5) (st2 := [.int (3 : Int32), .int v1]) hk rfl rfl rfl rfl rfl ?_
  refine g_icmp_ne hk rfl (fun hc => ?_) (fun hc => ?_)
  · have H := H.1 hc
    refine g_s1 (pc2 := 15) hk rfl rfl rfl rfl rfl ?_
    refine g_s1 (pc2 := 16) hk rfl rfl rfl rfl rfl ?_
    obtain ⟨v2, ev2, H⟩ := H
    refine g_step (pc2 := 19) hk rfl rfl rfl (s_get ev2) ?_
    refine g_s1 (pc2 := 20) (st2 := [.int (1 : Int32), .int v2, .ref x0]) hk rfl rfl rfl rfl rfl ?_
    refine g_s1 (pc2 := 21) hk rfl rfl rfl rfl rfl ?_
    obtain ⟨⟨o, ho⟩, H⟩ := H
    refine g_step (pc2 := 24) hk rfl rfl rfl (s_put ho rfl) ?_
    exact H
  · have H := H.2 hc
    refine g_s1 (pc2 := 9) hk rfl rfl rfl rfl rfl ?_
    refine g_s1 (pc2 := 10) (st2 := [.int (4 : Int32), .ref x0]) hk rfl rfl rfl rfl rfl ?_
    obtain ⟨ho, H⟩ := H
    refine g_call hk rfl rfl i_k201.1 ⟨rfl, rfl⟩ rfl (i_rcv_v ho rfl (by decide)) rfl ?_
    exact H.mono (fun v h2 q => by obtain ⟨r, rfl, q⟩ := q; exact q)
theorem b331_13 {x0 : Nat} {s0 : Int32} {h : iH} {Q : Option Value → iH → Prop} (H : Q (some (.int s0)) h) : i_P i_MT i_AT L xs 331 13 [some (.ref x0)] [.int s0] h 0 0 Q := by
  have hk := i_k331
  exact g_ireturn hk rfl (by decide) (by decide) rfl H
theorem b331_24 {x0 : Nat} {h : iH} {Q : Option Value → iH → Prop} (H : (∃ v1 : Int32, i_fld h x0 12 57 = some (.int v1) ∧ (i_obj? h x0 12 ∧ i_C i_MT i_AT L xs 330 [.ref x0, .int (0 : Int32), .int v1] h (fun v h2 => v = none ∧ i_P i_MT i_AT L xs 331 33 [some (.ref x0)] [] h2 0 0 Q)))) : i_P i_MT i_AT L xs 331 24 [some (.ref x0)] [] h 0 0 Q := by
  have hk := i_k331
  refine g_s1 (pc2 := 25) hk rfl rfl rfl rfl rfl ?_
  refine g_s1 (pc2 := 26) (st2 := [.int (0 : Int32), .ref x0]) hk rfl rfl rfl rfl rfl ?_
  refine g_s1 (pc2 := 27) hk rfl rfl rfl rfl rfl ?_
  obtain ⟨v1, ev1, H⟩ := H
  refine g_step (pc2 := 30) hk rfl rfl rfl (s_get ev1) ?_
  obtain ⟨ho, H⟩ := H
  refine g_call hk rfl rfl i_k330.1 ⟨rfl, rfl⟩ rfl (i_rcv_v ho rfl (by decide)) rfl ?_
  exact H.mono (fun v h2 q => by obtain ⟨rfl, q⟩ := q; exact q)
theorem b331_33 {x0 : Nat} {h : iH} {Q : Option Value → iH → Prop} (H : (∃ v1 : Int32, i_fld h x0 12 57 = some (.int v1) ∧ (i_obj? h x0 12 ∧ i_C i_MT i_AT L xs 202 [.ref x0, .int v1] h (fun v h2 => ∃ r3 : Int32, v = some (.int r3) ∧ i_P i_MT i_AT L xs 331 41 [some (.ref x0)] [.int r3] h2 0 0 Q)))) : i_P i_MT i_AT L xs 331 33 [some (.ref x0)] [] h 0 0 Q := by
  have hk := i_k331
  refine g_s1 (pc2 := 34) hk rfl rfl rfl rfl rfl ?_
  refine g_s1 (pc2 := 35) hk rfl rfl rfl rfl rfl ?_
  obtain ⟨v1, ev1, H⟩ := H
  refine g_step (pc2 := 38) hk rfl rfl rfl (s_get ev1) ?_
  obtain ⟨ho, H⟩ := H
  refine g_call hk rfl rfl i_k202.1 ⟨rfl, rfl⟩ rfl (i_rcv_v ho rfl (by decide)) rfl ?_
  exact H.mono (fun v h2 q => by obtain ⟨r, rfl, q⟩ := q; exact q)
theorem b331_41 {x0 : Nat} {s0 : Int32} {h : iH} {Q : Option Value → iH → Prop} (H : Q (some (.int s0)) h) : i_P i_MT i_AT L xs 331 41 [some (.ref x0)] [.int s0] h 0 0 Q := by
  have hk := i_k331
  exact g_ireturn hk rfl (by decide) (by decide) rfl H
/-! StillTownModel.back()I -/
theorem e332 {x0 : Nat} {h : iH} {Q : Option Value → iH → Prop} (H : i_P i_MT i_AT L xs 332 0 [some (.ref x0)] [] h 0 0 Q) : i_C i_MT i_AT L xs 332 [.ref x0] h Q := ⟨i_m332, i_k332.1, Nat.le_of_ble_eq_true rfl, H⟩
theorem b332_0 {x0 : Nat} {h : iH} {Q : Option Value → iH → Prop} (H : (∃ v1 : Int32, i_fld h x0 12 57 = some (.int v1) ∧ ((¬ v1 = 0 → (∃ v2 : Int32, i_fld h x0 12 57 = some (.int v2) ∧ (i_obj? h x0 12 ∧ i_C i_MT i_AT L xs 330 [.ref x0, .int v2, .int (0 : Int32)] h (fun v h3 => v = none ∧ i_P i_MT i_AT L xs 332 23 [some (.ref x0)] [] h3 0 0 Q)))) ∧ (¬ (¬ v1 = 0) → (i_obj? h x0 12 ∧ i_C i_MT i_AT L xs 201 [.ref x0, .int (6 : Int32)] h (fun v h5 => ∃ r6 : Int32, v = some (.int r6) ∧ i_P i_MT i_AT L xs 332 13 [some (.ref x0)] [.int r6] h5 0 0 Q)))))) : i_P i_MT i_AT L xs 332 0 [some (.ref x0)] [] h 0 0 Q := by
  have hk := i_k332
  refine g_s1 (pc2 := 1) hk rfl rfl rfl rfl rfl ?_
  obtain ⟨v1, ev1, H⟩ := H
  refine g_step (pc2 := 4) hk rfl rfl rfl (s_get ev1) ?_
  refine g_if_ne hk rfl (fun hc => ?_) (fun hc => ?_)
  · have H := H.1 hc
    refine g_s1 (pc2 := 15) hk rfl rfl rfl rfl rfl ?_
    refine g_s1 (pc2 := 16) hk rfl rfl rfl rfl rfl ?_
    obtain ⟨v2, ev2, H⟩ := H
    refine g_step (pc2 := 19) hk rfl rfl rfl (s_get ev2) ?_
    refine g_s1 (pc2 := 20) (st2 := [.int (0 : Int32), .int v2, .ref x0]) hk rfl rfl rfl rfl rfl ?_
    obtain ⟨ho, H⟩ := H
    refine g_call hk rfl rfl i_k330.1 ⟨rfl, rfl⟩ rfl (i_rcv_v ho rfl (by decide)) rfl ?_
    exact H.mono (fun v h2 q => by obtain ⟨rfl, q⟩ := q; exact q)
  · have H := H.2 hc
    refine g_s1 (pc2 := 8) hk rfl rfl rfl rfl rfl ?_
    refine g_s1 (pc2 := 10) (st2 := [.int (6 : Int32), .ref x0]) hk rfl rfl rfl rfl rfl ?_
    obtain ⟨ho, H⟩ := H
    refine g_call hk rfl rfl i_k201.1 ⟨rfl, rfl⟩ rfl (i_rcv_v ho rfl (by decide)) rfl ?_
    exact H.mono (fun v h2 q => by obtain ⟨r, rfl, q⟩ := q; exact q)
theorem b332_13 {x0 : Nat} {s0 : Int32} {h : iH} {Q : Option Value → iH → Prop} (H : Q (some (.int s0)) h) : i_P i_MT i_AT L xs 332 13 [some (.ref x0)] [.int s0] h 0 0 Q := by
  have hk := i_k332
  exact g_ireturn hk rfl (by decide) (by decide) rfl H
theorem b332_23 {x0 : Nat} {h : iH} {Q : Option Value → iH → Prop} (H : (∃ v1 : Int32, i_fld h x0 12 57 = some (.int v1) ∧ ((∃ o, i_fld h x0 12 57 = some o) ∧ i_P i_MT i_AT L xs 332 33 [some (.ref x0)] [] (i_sf h x0 57 (.int (v1 - (1 : Int32)))) 0 0 Q))) : i_P i_MT i_AT L xs 332 23 [some (.ref x0)] [] h 0 0 Q := by
  have hk := i_k332
  refine g_s1 (pc2 := 24) hk rfl rfl rfl rfl rfl ?_
  refine g_s1 (pc2 := 25) hk rfl rfl rfl rfl rfl ?_
  obtain ⟨v1, ev1, H⟩ := H
  refine g_step (pc2 := 28) hk rfl rfl rfl (s_get ev1) ?_
  refine g_s1 (pc2 := 29) (st2 := [.int (1 : Int32), .int v1, .ref x0]) hk rfl rfl rfl rfl rfl ?_
  refine g_s1 (pc2 := 30) hk rfl rfl rfl rfl rfl ?_
  obtain ⟨⟨o, ho⟩, H⟩ := H
  refine g_step (pc2 := 33) hk rfl rfl rfl (s_put ho rfl) ?_
  exact H
theorem b332_33 {x0 : Nat} {h : iH} {Q : Option Value → iH → Prop} (H : (i_obj? h x0 12 ∧ i_C i_MT i_AT L xs 252 [.ref x0] h (fun v h1 => v = none ∧ i_P i_MT i_AT L xs 332 37 [some (.ref x0)] [] h1 0 0 Q))) : i_P i_MT i_AT L xs 332 33 [some (.ref x0)] [] h 0 0 Q := by
  have hk := i_k332
  refine g_s1 (pc2 := 34) hk rfl rfl rfl rfl rfl ?_
  obtain ⟨ho, H⟩ := H
  refine g_call hk rfl rfl i_k252.1 ⟨rfl, rfl⟩ rfl (i_rcv_v ho rfl (by decide)) rfl ?_
  exact H.mono (fun v h2 q => by obtain ⟨rfl, q⟩ := q; exact q)
theorem b332_37 {x0 : Nat} {h : iH} {Q : Option Value → iH → Prop} (H : (∃ v1 : Int32, i_fld h x0 12 57 = some (.int v1) ∧ (i_obj? h x0 12 ∧ i_C i_MT i_AT L xs 202 [.ref x0, .int v1] h (fun v h2 => ∃ r3 : Int32, v = some (.int r3) ∧ i_P i_MT i_AT L xs 332 45 [some (.ref x0)] [.int r3] h2 0 0 Q)))) : i_P i_MT i_AT L xs 332 37 [some (.ref x0)] [] h 0 0 Q := by
  have hk := i_k332
  refine g_s1 (pc2 := 38) hk rfl rfl rfl rfl rfl ?_
  refine g_s1 (pc2 := 39) hk rfl rfl rfl rfl rfl ?_
  obtain ⟨v1, ev1, H⟩ := H
  refine g_step (pc2 := 42) hk rfl rfl rfl (s_get ev1) ?_
  obtain ⟨ho, H⟩ := H
  refine g_call hk rfl rfl i_k202.1 ⟨rfl, rfl⟩ rfl (i_rcv_v ho rfl (by decide)) rfl ?_
  exact H.mono (fun v h2 q => by obtain ⟨r, rfl, q⟩ := q; exact q)
theorem b332_45 {x0 : Nat} {s0 : Int32} {h : iH} {Q : Option Value → iH → Prop} (H : Q (some (.int s0)) h) : i_P i_MT i_AT L xs 332 45 [some (.ref x0)] [.int s0] h 0 0 Q := by
  have hk := i_k332
  exact g_ireturn hk rfl (by decide) (by decide) rfl H
/-! java/lang/Integer.bitCount(I)I -/
theorem e333 {x0 : Int32} {h : iH} {Q : Option Value → iH → Prop} (H : i_P i_MT i_AT L xs 333 0 [some (.int x0)] [] h 0 0 Q) : i_C i_MT i_AT L xs 333 [.int x0] h Q := ⟨i_m333, i_k333.1, Nat.le_of_ble_eq_true rfl, H⟩
theorem b333_0 {x0 : Int32} {h : iH} {Q : Option Value → iH → Prop} (H : Q (some (.int ((((((((x0 - (((x0.toUInt32 >>> ((1 : Int32).toUInt32 &&& Int32.toUInt32 31)).toInt32) &&& (1431655765 : Int32))) &&& (858993459 : Int32)) + ((((x0 - (((x0.toUInt32 >>> ((1 : Int32).toUInt32 &&& Int32.toUInt32 31)).toInt32) &&& (1431655765 : Int32))).toUInt32 >>> ((2 : Int32).toUInt32 &&& Int32.toUInt32 31)).toInt32) &&& (858993459 : Int32))) + (((((x0 - (((x0.toUInt32 >>> ((1 : Int32).toUInt32 &&& Int32.toUInt32 31)).toInt32) &&& (1431655765 : Int32))) &&& (858993459 : Int32)) + ((((x0 - (((x0.toUInt32 >>> ((1 : Int32).toUInt32 &&& Int32.toUInt32 31)).toInt32) &&& (1431655765 : Int32))).toUInt32 >>> ((2 : Int32).toUInt32 &&& Int32.toUInt32 31)).toInt32) &&& (858993459 : Int32))).toUInt32 >>> ((4 : Int32).toUInt32 &&& Int32.toUInt32 31)).toInt32)) &&& (252645135 : Int32)) + (((((((x0 - (((x0.toUInt32 >>> ((1 : Int32).toUInt32 &&& Int32.toUInt32 31)).toInt32) &&& (1431655765 : Int32))) &&& (858993459 : Int32)) + ((((x0 - (((x0.toUInt32 >>> ((1 : Int32).toUInt32 &&& Int32.toUInt32 31)).toInt32) &&& (1431655765 : Int32))).toUInt32 >>> ((2 : Int32).toUInt32 &&& Int32.toUInt32 31)).toInt32) &&& (858993459 : Int32))) + (((((x0 - (((x0.toUInt32 >>> ((1 : Int32).toUInt32 &&& Int32.toUInt32 31)).toInt32) &&& (1431655765 : Int32))) &&& (858993459 : Int32)) + ((((x0 - (((x0.toUInt32 >>> ((1 : Int32).toUInt32 &&& Int32.toUInt32 31)).toInt32) &&& (1431655765 : Int32))).toUInt32 >>> ((2 : Int32).toUInt32 &&& Int32.toUInt32 31)).toInt32) &&& (858993459 : Int32))).toUInt32 >>> ((4 : Int32).toUInt32 &&& Int32.toUInt32 31)).toInt32)) &&& (252645135 : Int32)).toUInt32 >>> ((8 : Int32).toUInt32 &&& Int32.toUInt32 31)).toInt32)) + ((((((((x0 - (((x0.toUInt32 >>> ((1 : Int32).toUInt32 &&& Int32.toUInt32 31)).toInt32) &&& (1431655765 : Int32))) &&& (858993459 : Int32)) + ((((x0 - (((x0.toUInt32 >>> ((1 : Int32).toUInt32 &&& Int32.toUInt32 31)).toInt32) &&& (1431655765 : Int32))).toUInt32 >>> ((2 : Int32).toUInt32 &&& Int32.toUInt32 31)).toInt32) &&& (858993459 : Int32))) + (((((x0 - (((x0.toUInt32 >>> ((1 : Int32).toUInt32 &&& Int32.toUInt32 31)).toInt32) &&& (1431655765 : Int32))) &&& (858993459 : Int32)) + ((((x0 - (((x0.toUInt32 >>> ((1 : Int32).toUInt32 &&& Int32.toUInt32 31)).toInt32) &&& (1431655765 : Int32))).toUInt32 >>> ((2 : Int32).toUInt32 &&& Int32.toUInt32 31)).toInt32) &&& (858993459 : Int32))).toUInt32 >>> ((4 : Int32).toUInt32 &&& Int32.toUInt32 31)).toInt32)) &&& (252645135 : Int32)) + (((((((x0 - (((x0.toUInt32 >>> ((1 : Int32).toUInt32 &&& Int32.toUInt32 31)).toInt32) &&& (1431655765 : Int32))) &&& (858993459 : Int32)) + ((((x0 - (((x0.toUInt32 >>> ((1 : Int32).toUInt32 &&& Int32.toUInt32 31)).toInt32) &&& (1431655765 : Int32))).toUInt32 >>> ((2 : Int32).toUInt32 &&& Int32.toUInt32 31)).toInt32) &&& (858993459 : Int32))) + (((((x0 - (((x0.toUInt32 >>> ((1 : Int32).toUInt32 &&& Int32.toUInt32 31)).toInt32) &&& (1431655765 : Int32))) &&& (858993459 : Int32)) + ((((x0 - (((x0.toUInt32 >>> ((1 : Int32).toUInt32 &&& Int32.toUInt32 31)).toInt32) &&& (1431655765 : Int32))).toUInt32 >>> ((2 : Int32).toUInt32 &&& Int32.toUInt32 31)).toInt32) &&& (858993459 : Int32))).toUInt32 >>> ((4 : Int32).toUInt32 &&& Int32.toUInt32 31)).toInt32)) &&& (252645135 : Int32)).toUInt32 >>> ((8 : Int32).toUInt32 &&& Int32.toUInt32 31)).toInt32)).toUInt32 >>> ((16 : Int32).toUInt32 &&& Int32.toUInt32 31)).toInt32)) &&& (63 : Int32)))) h) : i_P i_MT i_AT L xs 333 0 [some (.int x0)] [] h 0 0 Q := by
  have hk := i_k333
  refine g_s1 (pc2 := 1) hk rfl rfl rfl rfl rfl ?_
  refine g_s1 (pc2 := 2) hk rfl rfl rfl rfl rfl ?_
  refine g_s1 (pc2 := 3) (st2 := [.int (1 : Int32), .int x0, .int x0]) hk rfl rfl rfl rfl rfl ?_
  refine g_s1 (pc2 := 4) hk rfl rfl rfl rfl rfl ?_
  refine g_step (pc2 := 7) (st2 := [.int (1431655765 : Int32), .int ((x0.toUInt32 >>> ((1 : Int32).toUInt32 &&& Int32.toUInt32 31)).toInt32), .int x0]) hk rfl rfl rfl rfl ?_
  refine g_s1 (pc2 := 8) hk rfl rfl rfl rfl rfl ?_
  refine g_s1 (pc2 := 9) hk rfl rfl rfl rfl rfl ?_
  refine g_s1 (pc2 := 10) (lo2 := [some (.int (x0 - (((x0.toUInt32 >>> ((1 : Int32).toUInt32 &&& Int32.toUInt32 31)).toInt32) &&& (1431655765 : Int32))))]) hk rfl rfl rfl rfl rfl ?_
  refine g_s1 (pc2 := 11) hk rfl rfl rfl rfl rfl ?_
  refine g_step (pc2 := 14) (st2 := [.int (858993459 : Int32), .int (x0 - (((x0.toUInt32 >>> ((1 : Int32).toUInt32 &&& Int32.toUInt32 31)).toInt32) &&& (1431655765 : Int32)))]) hk rfl rfl rfl rfl ?_
  refine g_s1 (pc2 := 15) hk rfl rfl rfl rfl rfl ?_
  refine g_s1 (pc2 := 16) hk rfl rfl rfl rfl rfl ?_
  refine g_s1 (pc2 := 17) (st2 := [.int (2 : Int32), .int (x0 - (((x0.toUInt32 >>> ((1 : Int32).toUInt32 &&& Int32.toUInt32 31)).toInt32) &&& (1431655765 : Int32))), .int ((x0 - (((x0.toUInt32 >>> ((1 : Int32).toUInt32 &&& Int32.toUInt32 31)).toInt32) &&& (1431655765 : Int32))) &&& (858993459 : Int32))]) hk rfl rfl rfl rfl rfl ?_
  refine g_s1 (pc2 := 18) hk rfl rfl rfl rfl rfl ?_
  refine g_step (pc2 := 21) (st2 := [.int (858993459 : Int32), .int (((x0 - (((x0.toUInt32 >>> ((1 : Int32).toUInt32 &&& Int32.toUInt32 31)).toInt32) &&& (1431655765 : Int32))).toUInt32 >>> ((2 : Int32).toUInt32 &&& Int32.toUInt32 31)).toInt32), .int ((x0 - (((x0.toUInt32 >>> ((1 : Int32).toUInt32 &&& Int32.toUInt32 31)).toInt32) &&& (1431655765 : Int32))) &&& (858993459 : Int32))]) hk rfl rfl rfl rfl ?_
  refine g_s1 (pc2 := 22) hk rfl rfl rfl rfl rfl ?_
  refine g_s1 (pc2 := 23) hk rfl rfl rfl rfl rfl ?_
  refine g_s1 (pc2 := 24) (lo2 := [some (.int (((x0 - (((x0.toUInt32 >>> ((1 : Int32).toUInt32 &&& Int32.toUInt32 31)).toInt32) &&& (1431655765 : Int32))) &&& (858993459 : Int32)) + ((((x0 - (((x0.toUInt32 >>> ((1 : Int32).toUInt32 &&& Int32.toUInt32 31)).toInt32) &&& (1431655765 : Int32))).toUInt32 >>> ((2 : Int32).toUInt32 &&& Int32.toUInt32 31)).toInt32) &&& (858993459 : Int32))))]) hk rfl rfl rfl rfl rfl ?_
  refine g_s1 (pc2 := 25) hk rfl rfl rfl rfl rfl ?_
  refine g_s1 (pc2 := 26) hk rfl rfl rfl rfl rfl ?_
  refine g_s1 (pc2 := 27) (st2 := [.int (4 : Int32), .int (((x0 - (((x0.toUInt32 >>> ((1 : Int32).toUInt32 &&& Int32.toUInt32 31)).toInt32) &&& (1431655765 : Int32))) &&& (858993459 : Int32)) + ((((x0 - (((x0.toUInt32 >>> ((1 : Int32).toUInt32 &&& Int32.toUInt32 31)).toInt32) &&& (1431655765 : Int32))).toUInt32 >>> ((2 : Int32).toUInt32 &&& Int32.toUInt32 31)).toInt32) &&& (858993459 : Int32))), .int (((x0 - (((x0.toUInt32 >>> ((1 : Int32).toUInt32 &&& Int32.toUInt32 31)).toInt32) &&& (1431655765 : Int32))) &&& (858993459 : Int32)) + ((((x0 - (((x0.toUInt32 >>> ((1 : Int32).toUInt32 &&& Int32.toUInt32 31)).toInt32) &&& (1431655765 : Int32))).toUInt32 >>> ((2 : Int32).toUInt32 &&& Int32.toUInt32 31)).toInt32) &&& (858993459 : Int32)))]) hk rfl rfl rfl rfl rfl ?_
  refine g_s1 (pc2 := 28) hk rfl rfl rfl rfl rfl ?_
  refine g_s1 (pc2 := 29) hk rfl rfl rfl rfl rfl ?_
  refine g_step (pc2 := 32) (st2 := [.int (252645135 : Int32), .int ((((x0 - (((x0.toUInt32 >>> ((1 : Int32).toUInt32 &&& Int32.toUInt32 31)).toInt32) &&& (1431655765 : Int32))) &&& (858993459 : Int32)) + ((((x0 - (((x0.toUInt32 >>> ((1 : Int32).toUInt32 &&& Int32.toUInt32 31)).toInt32) &&& (1431655765 : Int32))).toUInt32 >>> ((2 : Int32).toUInt32 &&& Int32.toUInt32 31)).toInt32) &&& (858993459 : Int32))) + (((((x0 - (((x0.toUInt32 >>> ((1 : Int32).toUInt32 &&& Int32.toUInt32 31)).toInt32) &&& (1431655765 : Int32))) &&& (858993459 : Int32)) + ((((x0 - (((x0.toUInt32 >>> ((1 : Int32).toUInt32 &&& Int32.toUInt32 31)).toInt32) &&& (1431655765 : Int32))).toUInt32 >>> ((2 : Int32).toUInt32 &&& Int32.toUInt32 31)).toInt32) &&& (858993459 : Int32))).toUInt32 >>> ((4 : Int32).toUInt32 &&& Int32.toUInt32 31)).toInt32))]) hk rfl rfl rfl rfl ?_
  refine g_s1 (pc2 := 33) hk rfl rfl rfl rfl rfl ?_
  refine g_s1 (pc2 := 34) (lo2 := [some (.int (((((x0 - (((x0.toUInt32 >>> ((1 : Int32).toUInt32 &&& Int32.toUInt32 31)).toInt32) &&& (1431655765 : Int32))) &&& (858993459 : Int32)) + ((((x0 - (((x0.toUInt32 >>> ((1 : Int32).toUInt32 &&& Int32.toUInt32 31)).toInt32) &&& (1431655765 : Int32))).toUInt32 >>> ((2 : Int32).toUInt32 &&& Int32.toUInt32 31)).toInt32) &&& (858993459 : Int32))) + (((((x0 - (((x0.toUInt32 >>> ((1 : Int32).toUInt32 &&& Int32.toUInt32 31)).toInt32) &&& (1431655765 : Int32))) &&& (858993459 : Int32)) + ((((x0 - (((x0.toUInt32 >>> ((1 : Int32).toUInt32 &&& Int32.toUInt32 31)).toInt32) &&& (1431655765 : Int32))).toUInt32 >>> ((2 : Int32).toUInt32 &&& Int32.toUInt32 31)).toInt32) &&& (858993459 : Int32))).toUInt32 >>> ((4 : Int32).toUInt32 &&& Int32.toUInt32 31)).toInt32)) &&& (252645135 : Int32)))]) hk rfl rfl rfl rfl rfl ?_
  refine g_s1 (pc2 := 35) hk rfl rfl rfl rfl rfl ?_
  refine g_s1 (pc2 := 36) hk rfl rfl rfl rfl rfl ?_
  refine g_s1 (pc2 := 38) (st2 := [.int (8 : Int32), .int (((((x0 - (((x0.toUInt32 >>> ((1 : Int32).toUInt32 &&& Int32.toUInt32 31)).toInt32) &&& (1431655765 : Int32))) &&& (858993459 : Int32)) + ((((x0 - (((x0.toUInt32 >>> ((1 : Int32).toUInt32 &&& Int32.toUInt32 31)).toInt32) &&& (1431655765 : Int32))).toUInt32 >>> ((2 : Int32).toUInt32 &&& Int32.toUInt32 31)).toInt32) &&& (858993459 : Int32))) + (((((x0 - (((x0.toUInt32 >>> ((1 : Int32).toUInt32 &&& Int32.toUInt32 31)).toInt32) &&& (1431655765 : Int32))) &&& (858993459 : Int32)) + ((((x0 - (((x0.toUInt32 >>> ((1 : Int32).toUInt32 &&& Int32.toUInt32 31)).toInt32) &&& (1431655765 : Int32))).toUInt32 >>> ((2 : Int32).toUInt32 &&& Int32.toUInt32 31)).toInt32) &&& (858993459 : Int32))).toUInt32 >>> ((4 : Int32).toUInt32 &&& Int32.toUInt32 31)).toInt32)) &&& (252645135 : Int32)), .int (((((x0 - (((x0.toUInt32 >>> ((1 : Int32).toUInt32 &&& Int32.toUInt32 31)).toInt32) &&& (1431655765 : Int32))) &&& (858993459 : Int32)) + ((((x0 - (((x0.toUInt32 >>> ((1 : Int32).toUInt32 &&& Int32.toUInt32 31)).toInt32) &&& (1431655765 : Int32))).toUInt32 >>> ((2 : Int32).toUInt32 &&& Int32.toUInt32 31)).toInt32) &&& (858993459 : Int32))) + (((((x0 - (((x0.toUInt32 >>> ((1 : Int32).toUInt32 &&& Int32.toUInt32 31)).toInt32) &&& (1431655765 : Int32))) &&& (858993459 : Int32)) + ((((x0 - (((x0.toUInt32 >>> ((1 : Int32).toUInt32 &&& Int32.toUInt32 31)).toInt32) &&& (1431655765 : Int32))).toUInt32 >>> ((2 : Int32).toUInt32 &&& Int32.toUInt32 31)).toInt32) &&& (858993459 : Int32))).toUInt32 >>> ((4 : Int32).toUInt32 &&& Int32.toUInt32 31)).toInt32)) &&& (252645135 : Int32))]) hk rfl rfl rfl rfl rfl ?_
  refine g_s1 (pc2 := 39) hk rfl rfl rfl rfl rfl ?_
  refine g_s1 (pc2 := 40) hk rfl rfl rfl rfl rfl ?_
  refine g_s1 (pc2 := 41) (lo2 := [some (.int ((((((x0 - (((x0.toUInt32 >>> ((1 : Int32).toUInt32 &&& Int32.toUInt32 31)).toInt32) &&& (1431655765 : Int32))) &&& (858993459 : Int32)) + ((((x0 - (((x0.toUInt32 >>> ((1 : Int32).toUInt32 &&& Int32.toUInt32 31)).toInt32) &&& (1431655765 : Int32))).toUInt32 >>> ((2 : Int32).toUInt32 &&& Int32.toUInt32 31)).toInt32) &&& (858993459 : Int32))) + (((((x0 - (((x0.toUInt32 >>> ((1 : Int32).toUInt32 &&& Int32.toUInt32 31)).toInt32) &&& (1431655765 : Int32))) &&& (858993459 : Int32)) + ((((x0 - (((x0.toUInt32 >>> ((1 : Int32).toUInt32 &&& Int32.toUInt32 31)).toInt32) &&& (1431655765 : Int32))).toUInt32 >>> ((2 : Int32).toUInt32 &&& Int32.toUInt32 31)).toInt32) &&& (858993459 : Int32))).toUInt32 >>> ((4 : Int32).toUInt32 &&& Int32.toUInt32 31)).toInt32)) &&& (252645135 : Int32)) + (((((((x0 - (((x0.toUInt32 >>> ((1 : Int32).toUInt32 &&& Int32.toUInt32 31)).toInt32) &&& (1431655765 : Int32))) &&& (858993459 : Int32)) + ((((x0 - (((x0.toUInt32 >>> ((1 : Int32).toUInt32 &&& Int32.toUInt32 31)).toInt32) &&& (1431655765 : Int32))).toUInt32 >>> ((2 : Int32).toUInt32 &&& Int32.toUInt32 31)).toInt32) &&& (858993459 : Int32))) + (((((x0 - (((x0.toUInt32 >>> ((1 : Int32).toUInt32 &&& Int32.toUInt32 31)).toInt32) &&& (1431655765 : Int32))) &&& (858993459 : Int32)) + ((((x0 - (((x0.toUInt32 >>> ((1 : Int32).toUInt32 &&& Int32.toUInt32 31)).toInt32) &&& (1431655765 : Int32))).toUInt32 >>> ((2 : Int32).toUInt32 &&& Int32.toUInt32 31)).toInt32) &&& (858993459 : Int32))).toUInt32 >>> ((4 : Int32).toUInt32 &&& Int32.toUInt32 31)).toInt32)) &&& (252645135 : Int32)).toUInt32 >>> ((8 : Int32).toUInt32 &&& Int32.toUInt32 31)).toInt32)))]) hk rfl rfl rfl rfl rfl ?_
  refine g_s1 (pc2 := 42) hk rfl rfl rfl rfl rfl ?_
  refine g_s1 (pc2 := 43) hk rfl rfl rfl rfl rfl ?_
  refine g_s1 (pc2 := 45) (st2 := [.int (16 : Int32), .int ((((((x0 - (((x0.toUInt32 >>> ((1 : Int32).toUInt32 &&& Int32.toUInt32 31)).toInt32) &&& (1431655765 : Int32))) &&& (858993459 : Int32)) + ((((x0 - (((x0.toUInt32 >>> ((1 : Int32).toUInt32 &&& Int32.toUInt32 31)).toInt32) &&& (1431655765 : Int32))).toUInt32 >>> ((2 : Int32).toUInt32 &&& Int32.toUInt32 31)).toInt32) &&& (858993459 : Int32))) + (((((x0 - (((x0.toUInt32 >>> ((1 : Int32).toUInt32 &&& Int32.toUInt32 31)).toInt32) &&& (1431655765 : Int32))) &&& (858993459 : Int32)) + ((((x0 - (((x0.toUInt32 >>> ((1 : Int32).toUInt32 &&& Int32.toUInt32 31)).toInt32) &&& (1431655765 : Int32))).toUInt32 >>> ((2 : Int32).toUInt32 &&& Int32.toUInt32 31)).toInt32) &&& (858993459 : Int32))).toUInt32 >>> ((4 : Int32).toUInt32 &&& Int32.toUInt32 31)).toInt32)) &&& (252645135 : Int32)) + (((((((x0 - (((x0.toUInt32 >>> ((1 : Int32).toUInt32 &&& Int32.toUInt32 31)).toInt32) &&& (1431655765 : Int32))) &&& (858993459 : Int32)) + ((((x0 - (((x0.toUInt32 >>> ((1 : Int32).toUInt32 &&& Int32.toUInt32 31)).toInt32) &&& (1431655765 : Int32))).toUInt32 >>> ((2 : Int32).toUInt32 &&& Int32.toUInt32 31)).toInt32) &&& (858993459 : Int32))) + (((((x0 - (((x0.toUInt32 >>> ((1 : Int32).toUInt32 &&& Int32.toUInt32 31)).toInt32) &&& (1431655765 : Int32))) &&& (858993459 : Int32)) + ((((x0 - (((x0.toUInt32 >>> ((1 : Int32).toUInt32 &&& Int32.toUInt32 31)).toInt32) &&& (1431655765 : Int32))).toUInt32 >>> ((2 : Int32).toUInt32 &&& Int32.toUInt32 31)).toInt32) &&& (858993459 : Int32))).toUInt32 >>> ((4 : Int32).toUInt32 &&& Int32.toUInt32 31)).toInt32)) &&& (252645135 : Int32)).toUInt32 >>> ((8 : Int32).toUInt32 &&& Int32.toUInt32 31)).toInt32)), .int ((((((x0 - (((x0.toUInt32 >>> ((1 : Int32).toUInt32 &&& Int32.toUInt32 31)).toInt32) &&& (1431655765 : Int32))) &&& (858993459 : Int32)) + ((((x0 - (((x0.toUInt32 >>> ((1 : Int32).toUInt32 &&& Int32.toUInt32 31)).toInt32) &&& (1431655765 : Int32))).toUInt32 >>> ((2 : Int32).toUInt32 &&& Int32.toUInt32 31)).toInt32) &&& (858993459 : Int32))) + (((((x0 - (((x0.toUInt32 >>> ((1 : Int32).toUInt32 &&& Int32.toUInt32 31)).toInt32) &&& (1431655765 : Int32))) &&& (858993459 : Int32)) + ((((x0 - (((x0.toUInt32 >>> ((1 : Int32).toUInt32 &&& Int32.toUInt32 31)).toInt32) &&& (1431655765 : Int32))).toUInt32 >>> ((2 : Int32).toUInt32 &&& Int32.toUInt32 31)).toInt32) &&& (858993459 : Int32))).toUInt32 >>> ((4 : Int32).toUInt32 &&& Int32.toUInt32 31)).toInt32)) &&& (252645135 : Int32)) + (((((((x0 - (((x0.toUInt32 >>> ((1 : Int32).toUInt32 &&& Int32.toUInt32 31)).toInt32) &&& (1431655765 : Int32))) &&& (858993459 : Int32)) + ((((x0 - (((x0.toUInt32 >>> ((1 : Int32).toUInt32 &&& Int32.toUInt32 31)).toInt32) &&& (1431655765 : Int32))).toUInt32 >>> ((2 : Int32).toUInt32 &&& Int32.toUInt32 31)).toInt32) &&& (858993459 : Int32))) + (((((x0 - (((x0.toUInt32 >>> ((1 : Int32).toUInt32 &&& Int32.toUInt32 31)).toInt32) &&& (1431655765 : Int32))) &&& (858993459 : Int32)) + ((((x0 - (((x0.toUInt32 >>> ((1 : Int32).toUInt32 &&& Int32.toUInt32 31)).toInt32) &&& (1431655765 : Int32))).toUInt32 >>> ((2 : Int32).toUInt32 &&& Int32.toUInt32 31)).toInt32) &&& (858993459 : Int32))).toUInt32 >>> ((4 : Int32).toUInt32 &&& Int32.toUInt32 31)).toInt32)) &&& (252645135 : Int32)).toUInt32 >>> ((8 : Int32).toUInt32 &&& Int32.toUInt32 31)).toInt32))]) hk rfl rfl rfl rfl rfl ?_
  refine g_s1 (pc2 := 46) hk rfl rfl rfl rfl rfl ?_
  refine g_s1 (pc2 := 47) hk rfl rfl rfl rfl rfl ?_
  refine g_s1 (pc2 := 48) (lo2 := [some (.int (((((((x0 - (((x0.toUInt32 >>> ((1 : Int32).toUInt32 &&& Int32.toUInt32 31)).toInt32) &&& (1431655765 : Int32))) &&& (858993459 : Int32)) + ((((x0 - (((x0.toUInt32 >>> ((1 : Int32).toUInt32 &&& Int32.toUInt32 31)).toInt32) &&& (1431655765 : Int32))).toUInt32 >>> ((2 : Int32).toUInt32 &&& Int32.toUInt32 31)).toInt32) &&& (858993459 : Int32))) + (((((x0 - (((x0.toUInt32 >>> ((1 : Int32).toUInt32 &&& Int32.toUInt32 31)).toInt32) &&& (1431655765 : Int32))) &&& (858993459 : Int32)) + ((((x0 - (((x0.toUInt32 >>> ((1 : Int32).toUInt32 &&& Int32.toUInt32 31)).toInt32) &&& (1431655765 : Int32))).toUInt32 >>> ((2 : Int32).toUInt32 &&& Int32.toUInt32 31)).toInt32) &&& (858993459 : Int32))).toUInt32 >>> ((4 : Int32).toUInt32 &&& Int32.toUInt32 31)).toInt32)) &&& (252645135 : Int32)) + (((((((x0 - (((x0.toUInt32 >>> ((1 : Int32).toUInt32 &&& Int32.toUInt32 31)).toInt32) &&& (1431655765 : Int32))) &&& (858993459 : Int32)) + ((((x0 - (((x0.toUInt32 >>> ((1 : Int32).toUInt32 &&& Int32.toUInt32 31)).toInt32) &&& (1431655765 : Int32))).toUInt32 >>> ((2 : Int32).toUInt32 &&& Int32.toUInt32 31)).toInt32) &&& (858993459 : Int32))) + (((((x0 - (((x0.toUInt32 >>> ((1 : Int32).toUInt32 &&& Int32.toUInt32 31)).toInt32) &&& (1431655765 : Int32))) &&& (858993459 : Int32)) + ((((x0 - (((x0.toUInt32 >>> ((1 : Int32).toUInt32 &&& Int32.toUInt32 31)).toInt32) &&& (1431655765 : Int32))).toUInt32 >>> ((2 : Int32).toUInt32 &&& Int32.toUInt32 31)).toInt32) &&& (858993459 : Int32))).toUInt32 >>> ((4 : Int32).toUInt32 &&& Int32.toUInt32 31)).toInt32)) &&& (252645135 : Int32)).toUInt32 >>> ((8 : Int32).toUInt32 &&& Int32.toUInt32 31)).toInt32)) + ((((((((x0 - (((x0.toUInt32 >>> ((1 : Int32).toUInt32 &&& Int32.toUInt32 31)).toInt32) &&& (1431655765 : Int32))) &&& (858993459 : Int32)) + ((((x0 - (((x0.toUInt32 >>> ((1 : Int32).toUInt32 &&& Int32.toUInt32 31)).toInt32) &&& (1431655765 : Int32))).toUInt32 >>> ((2 : Int32).toUInt32 &&& Int32.toUInt32 31)).toInt32) &&& (858993459 : Int32))) + (((((x0 - (((x0.toUInt32 >>> ((1 : Int32).toUInt32 &&& Int32.toUInt32 31)).toInt32) &&& (1431655765 : Int32))) &&& (858993459 : Int32)) + ((((x0 - (((x0.toUInt32 >>> ((1 : Int32).toUInt32 &&& Int32.toUInt32 31)).toInt32) &&& (1431655765 : Int32))).toUInt32 >>> ((2 : Int32).toUInt32 &&& Int32.toUInt32 31)).toInt32) &&& (858993459 : Int32))).toUInt32 >>> ((4 : Int32).toUInt32 &&& Int32.toUInt32 31)).toInt32)) &&& (252645135 : Int32)) + (((((((x0 - (((x0.toUInt32 >>> ((1 : Int32).toUInt32 &&& Int32.toUInt32 31)).toInt32) &&& (1431655765 : Int32))) &&& (858993459 : Int32)) + ((((x0 - (((x0.toUInt32 >>> ((1 : Int32).toUInt32 &&& Int32.toUInt32 31)).toInt32) &&& (1431655765 : Int32))).toUInt32 >>> ((2 : Int32).toUInt32 &&& Int32.toUInt32 31)).toInt32) &&& (858993459 : Int32))) + (((((x0 - (((x0.toUInt32 >>> ((1 : Int32).toUInt32 &&& Int32.toUInt32 31)).toInt32) &&& (1431655765 : Int32))) &&& (858993459 : Int32)) + ((((x0 - (((x0.toUInt32 >>> ((1 : Int32).toUInt32 &&& Int32.toUInt32 31)).toInt32) &&& (1431655765 : Int32))).toUInt32 >>> ((2 : Int32).toUInt32 &&& Int32.toUInt32 31)).toInt32) &&& (858993459 : Int32))).toUInt32 >>> ((4 : Int32).toUInt32 &&& Int32.toUInt32 31)).toInt32)) &&& (252645135 : Int32)).toUInt32 >>> ((8 : Int32).toUInt32 &&& Int32.toUInt32 31)).toInt32)).toUInt32 >>> ((16 : Int32).toUInt32 &&& Int32.toUInt32 31)).toInt32)))]) hk rfl rfl rfl rfl rfl ?_
  refine g_s1 (pc2 := 49) hk rfl rfl rfl rfl rfl ?_
  refine g_s1 (pc2 := 51) (st2 := [.int (63 : Int32), .int (((((((x0 - (((x0.toUInt32 >>> ((1 : Int32).toUInt32 &&& Int32.toUInt32 31)).toInt32) &&& (1431655765 : Int32))) &&& (858993459 : Int32)) + ((((x0 - (((x0.toUInt32 >>> ((1 : Int32).toUInt32 &&& Int32.toUInt32 31)).toInt32) &&& (1431655765 : Int32))).toUInt32 >>> ((2 : Int32).toUInt32 &&& Int32.toUInt32 31)).toInt32) &&& (858993459 : Int32))) + (((((x0 - (((x0.toUInt32 >>> ((1 : Int32).toUInt32 &&& Int32.toUInt32 31)).toInt32) &&& (1431655765 : Int32))) &&& (858993459 : Int32)) + ((((x0 - (((x0.toUInt32 >>> ((1 : Int32).toUInt32 &&& Int32.toUInt32 31)).toInt32) &&& (1431655765 : Int32))).toUInt32 >>> ((2 : Int32).toUInt32 &&& Int32.toUInt32 31)).toInt32) &&& (858993459 : Int32))).toUInt32 >>> ((4 : Int32).toUInt32 &&& Int32.toUInt32 31)).toInt32)) &&& (252645135 : Int32)) + (((((((x0 - (((x0.toUInt32 >>> ((1 : Int32).toUInt32 &&& Int32.toUInt32 31)).toInt32) &&& (1431655765 : Int32))) &&& (858993459 : Int32)) + ((((x0 - (((x0.toUInt32 >>> ((1 : Int32).toUInt32 &&& Int32.toUInt32 31)).toInt32) &&& (1431655765 : Int32))).toUInt32 >>> ((2 : Int32).toUInt32 &&& Int32.toUInt32 31)).toInt32) &&& (858993459 : Int32))) + (((((x0 - (((x0.toUInt32 >>> ((1 : Int32).toUInt32 &&& Int32.toUInt32 31)).toInt32) &&& (1431655765 : Int32))) &&& (858993459 : Int32)) + ((((x0 - (((x0.toUInt32 >>> ((1 : Int32).toUInt32 &&& Int32.toUInt32 31)).toInt32) &&& (1431655765 : Int32))).toUInt32 >>> ((2 : Int32).toUInt32 &&& Int32.toUInt32 31)).toInt32) &&& (858993459 : Int32))).toUInt32 >>> ((4 : Int32).toUInt32 &&& Int32.toUInt32 31)).toInt32)) &&& (252645135 : Int32)).toUInt32 >>> ((8 : Int32).toUInt32 &&& Int32.toUInt32 31)).toInt32)) + ((((((((x0 - (((x0.toUInt32 >>> ((1 : Int32).toUInt32 &&& Int32.toUInt32 31)).toInt32) &&& (1431655765 : Int32))) &&& (858993459 : Int32)) + ((((x0 - (((x0.toUInt32 >>> ((1 : Int32).toUInt32 &&& Int32.toUInt32 31)).toInt32) &&& (1431655765 : Int32))).toUInt32 >>> ((2 : Int32).toUInt32 &&& Int32.toUInt32 31)).toInt32) &&& (858993459 : Int32))) + (((((x0 - (((x0.toUInt32 >>> ((1 : Int32).toUInt32 &&& Int32.toUInt32 31)).toInt32) &&& (1431655765 : Int32))) &&& (858993459 : Int32)) + ((((x0 - (((x0.toUInt32 >>> ((1 : Int32).toUInt32 &&& Int32.toUInt32 31)).toInt32) &&& (1431655765 : Int32))).toUInt32 >>> ((2 : Int32).toUInt32 &&& Int32.toUInt32 31)).toInt32) &&& (858993459 : Int32))).toUInt32 >>> ((4 : Int32).toUInt32 &&& Int32.toUInt32 31)).toInt32)) &&& (252645135 : Int32)) + (((((((x0 - (((x0.toUInt32 >>> ((1 : Int32).toUInt32 &&& Int32.toUInt32 31)).toInt32) &&& (1431655765 : Int32))) &&& (858993459 : Int32)) + ((((x0 - (((x0.toUInt32 >>> ((1 : Int32).toUInt32 &&& Int32.toUInt32 31)).toInt32) &&& (1431655765 : Int32))).toUInt32 >>> ((2 : Int32).toUInt32 &&& Int32.toUInt32 31)).toInt32) &&& (858993459 : Int32))) + (((((x0 - (((x0.toUInt32 >>> ((1 : Int32).toUInt32 &&& Int32.toUInt32 31)).toInt32) &&& (1431655765 : Int32))) &&& (858993459 : Int32)) + ((((x0 - (((x0.toUInt32 >>> ((1 : Int32).toUInt32 &&& Int32.toUInt32 31)).toInt32) &&& (1431655765 : Int32))).toUInt32 >>> ((2 : Int32).toUInt32 &&& Int32.toUInt32 31)).toInt32) &&& (858993459 : Int32))).toUInt32 >>> ((4 : Int32).toUInt32 &&& Int32.toUInt32 31)).toInt32)) &&& (252645135 : Int32)).toUInt32 >>> ((8 : Int32).toUInt32 &&& Int32.toUInt32 31)).toInt32)).toUInt32 >>> ((16 : Int32).toUInt32 &&& Int32.toUInt32 31)).toInt32))]) hk rfl rfl rfl rfl rfl ?_
  refine g_s1 (pc2 := 52) hk rfl rfl rfl rfl rfl ?_
  exact g_ireturn hk rfl (by decide) (by decide) rfl H
/-! java/lang/Long.bitCount(J)I -/
theorem e334 {x0 : Int64} {h : iH} {Q : Option Value → iH → Prop} (H : i_P i_MT i_AT L xs 334 0 [some (.long x0), none] [] h 0 0 Q) : i_C i_MT i_AT L xs 334 [.long x0] h Q := ⟨i_m334, i_k334.1, Nat.le_of_ble_eq_true rfl, H⟩
theorem b334_0 {x0 : Int64} {h : iH} {Q : Option Value → iH → Prop} (H : Q (some (.int ((((((((((x0 - (((x0.toUInt64 >>> ((1 : Int32).toInt64.toUInt64 &&& Int64.toUInt64 63)).toInt64) &&& (6148914691236517205 : Int64))) &&& (3689348814741910323 : Int64)) + ((((x0 - (((x0.toUInt64 >>> ((1 : Int32).toInt64.toUInt64 &&& Int64.toUInt64 63)).toInt64) &&& (6148914691236517205 : Int64))).toUInt64 >>> ((2 : Int32).toInt64.toUInt64 &&& Int64.toUInt64 63)).toInt64) &&& (3689348814741910323 : Int64))) + (((((x0 - (((x0.toUInt64 >>> ((1 : Int32).toInt64.toUInt64 &&& Int64.toUInt64 63)).toInt64) &&& (6148914691236517205 : Int64))) &&& (3689348814741910323 : Int64)) + ((((x0 - (((x0.toUInt64 >>> ((1 : Int32).toInt64.toUInt64 &&& Int64.toUInt64 63)).toInt64) &&& (6148914691236517205 : Int64))).toUInt64 >>> ((2 : Int32).toInt64.toUInt64 &&& Int64.toUInt64 63)).toInt64) &&& (3689348814741910323 : Int64))).toUInt64 >>> ((4 : Int32).toInt64.toUInt64 &&& Int64.toUInt64 63)).toInt64)) &&& (1085102592571150095 : Int64)) + (((((((x0 - (((x0.toUInt64 >>> ((1 : Int32).toInt64.toUInt64 &&& Int64.toUInt64 63)).toInt64) &&& (6148914691236517205 : Int64))) &&& (3689348814741910323 : Int64)) + ((((x0 - (((x0.toUInt64 >>> ((1 : Int32).toInt64.toUInt64 &&& Int64.toUInt64 63)).toInt64) &&& (6148914691236517205 : Int64))).toUInt64 >>> ((2 : Int32).toInt64.toUInt64 &&& Int64.toUInt64 63)).toInt64) &&& (3689348814741910323 : Int64))) + (((((x0 - (((x0.toUInt64 >>> ((1 : Int32).toInt64.toUInt64 &&& Int64.toUInt64 63)).toInt64) &&& (6148914691236517205 : Int64))) &&& (3689348814741910323 : Int64)) + ((((x0 - (((x0.toUInt64 >>> ((1 : Int32).toInt64.toUInt64 &&& Int64.toUInt64 63)).toInt64) &&& (6148914691236517205 : Int64))).toUInt64 >>> ((2 : Int32).toInt64.toUInt64 &&& Int64.toUInt64 63)).toInt64) &&& (3689348814741910323 : Int64))).toUInt64 >>> ((4 : Int32).toInt64.toUInt64 &&& Int64.toUInt64 63)).toInt64)) &&& (1085102592571150095 : Int64)).toUInt64 >>> ((8 : Int32).toInt64.toUInt64 &&& Int64.toUInt64 63)).toInt64)) + ((((((((x0 - (((x0.toUInt64 >>> ((1 : Int32).toInt64.toUInt64 &&& Int64.toUInt64 63)).toInt64) &&& (6148914691236517205 : Int64))) &&& (3689348814741910323 : Int64)) + ((((x0 - (((x0.toUInt64 >>> ((1 : Int32).toInt64.toUInt64 &&& Int64.toUInt64 63)).toInt64) &&& (6148914691236517205 : Int64))).toUInt64 >>> ((2 : Int32).toInt64.toUInt64 &&& Int64.toUInt64 63)).toInt64) &&& (3689348814741910323 : Int64))) + (((((x0 - (((x0.toUInt64 >>> ((1 : Int32).toInt64.toUInt64 &&& Int64.toUInt64 63)).toInt64) &&& (6148914691236517205 : Int64))) &&& (3689348814741910323 : Int64)) + ((((x0 - (((x0.toUInt64 >>> ((1 : Int32).toInt64.toUInt64 &&& Int64.toUInt64 63)).toInt64) &&& (6148914691236517205 : Int64))).toUInt64 >>> ((2 : Int32).toInt64.toUInt64 &&& Int64.toUInt64 63)).toInt64) &&& (3689348814741910323 : Int64))).toUInt64 >>> ((4 : Int32).toInt64.toUInt64 &&& Int64.toUInt64 63)).toInt64)) &&& (1085102592571150095 : Int64)) + (((((((x0 - (((x0.toUInt64 >>> ((1 : Int32).toInt64.toUInt64 &&& Int64.toUInt64 63)).toInt64) &&& (6148914691236517205 : Int64))) &&& (3689348814741910323 : Int64)) + ((((x0 - (((x0.toUInt64 >>> ((1 : Int32).toInt64.toUInt64 &&& Int64.toUInt64 63)).toInt64) &&& (6148914691236517205 : Int64))).toUInt64 >>> ((2 : Int32).toInt64.toUInt64 &&& Int64.toUInt64 63)).toInt64) &&& (3689348814741910323 : Int64))) + (((((x0 - (((x0.toUInt64 >>> ((1 : Int32).toInt64.toUInt64 &&& Int64.toUInt64 63)).toInt64) &&& (6148914691236517205 : Int64))) &&& (3689348814741910323 : Int64)) + ((((x0 - (((x0.toUInt64 >>> ((1 : Int32).toInt64.toUInt64 &&& Int64.toUInt64 63)).toInt64) &&& (6148914691236517205 : Int64))).toUInt64 >>> ((2 : Int32).toInt64.toUInt64 &&& Int64.toUInt64 63)).toInt64) &&& (3689348814741910323 : Int64))).toUInt64 >>> ((4 : Int32).toInt64.toUInt64 &&& Int64.toUInt64 63)).toInt64)) &&& (1085102592571150095 : Int64)).toUInt64 >>> ((8 : Int32).toInt64.toUInt64 &&& Int64.toUInt64 63)).toInt64)).toUInt64 >>> ((16 : Int32).toInt64.toUInt64 &&& Int64.toUInt64 63)).toInt64)) + (((((((((x0 - (((x0.toUInt64 >>> ((1 : Int32).toInt64.toUInt64 &&& Int64.toUInt64 63)).toInt64) &&& (6148914691236517205 : Int64))) &&& (3689348814741910323 : Int64)) + ((((x0 - (((x0.toUInt64 >>> ((1 : Int32).toInt64.toUInt64 &&& Int64.toUInt64 63)).toInt64) &&& (6148914691236517205 : Int64))).toUInt64 >>> ((2 : Int32).toInt64.toUInt64 &&& Int64.toUInt64 63)).toInt64) &&& (3689348814741910323 : Int64))) + (((((x0 - (((x0.toUInt64 >>> ((1 : Int32).toInt64.toUInt64 &&& Int64.toUInt64 63)).toInt64) &&& (6148914691236517205 : Int64))) &&& (3689348814741910323 : Int64)) + ((((x0 - (((x0.toUInt64 >>> ((1 : Int32).toInt64.toUInt64 &&& Int64.toUInt64 63)).toInt64) &&& (6148914691236517205 : Int64))).toUInt64 >>> ((2 : Int32).toInt64.toUInt64 &&& Int64.toUInt64 63)).toInt64) &&& (3689348814741910323 : Int64))).toUInt64 >>> ((4 : Int32).toInt64.toUInt64 &&& Int64.toUInt64 63)).toInt64)) &&& (1085102592571150095 : Int64)) + (((((((x0 - (((x0.toUInt64 >>> ((1 : Int32).toInt64.toUInt64 &&& Int64.toUInt64 63)).toInt64) &&& (6148914691236517205 : Int64))) &&& (3689348814741910323 : Int64)) + ((((x0 - (((x0.toUInt64 >>> ((1 : Int32).toInt64.toUInt64 &&& Int64.toUInt64 63)).toInt64) &&& (6148914691236517205 : Int64))).toUInt64 >>> ((2 : Int32).toInt64.toUInt64 &&& Int64.toUInt64 63)).toInt64) &&& (3689348814741910323 : Int64))) + (((((x0 - (((x0.toUInt64 >>> ((1 : Int32).toInt64.toUInt64 &&& Int64.toUInt64 63)).toInt64) &&& (6148914691236517205 : Int64))) &&& (3689348814741910323 : Int64)) + ((((x0 - (((x0.toUInt64 >>> ((1 : Int32).toInt64.toUInt64 &&& Int64.toUInt64 63)).toInt64) &&& (6148914691236517205 : Int64))).toUInt64 >>> ((2 : Int32).toInt64.toUInt64 &&& Int64.toUInt64 63)).toInt64) &&& (3689348814741910323 : Int64))).toUInt64 >>> ((4 : Int32).toInt64.toUInt64 &&& Int64.toUInt64 63)).toInt64)) &&& (1085102592571150095 : Int64)).toUInt64 >>> ((8 : Int32).toInt64.toUInt64 &&& Int64.toUInt64 63)).toInt64)) + ((((((((x0 - (((x0.toUInt64 >>> ((1 : Int32).toInt64.toUInt64 &&& Int64.toUInt64 63)).toInt64) &&& (6148914691236517205 : Int64))) &&& (3689348814741910323 : Int64)) + ((((x0 - (((x0.toUInt64 >>> ((1 : Int32).toInt64.toUInt64 &&& Int64.toUInt64 63)).toInt64) &&& (6148914691236517205 : Int64))).toUInt64 >>> ((2 : Int32).toInt64.toUInt64 &&& Int64.toUInt64 63)).toInt64) &&& (3689348814741910323 : Int64))) + (((((x0 - (((x0.toUInt64 >>> ((1 : Int32).toInt64.toUInt64 &&& Int64.toUInt64 63)).toInt64) &&& (6148914691236517205 : Int64))) &&& (3689348814741910323 : Int64)) + ((((x0 - (((x0.toUInt64 >>> ((1 : Int32).toInt64.toUInt64 &&& Int64.toUInt64 63)).toInt64) &&& (6148914691236517205 : Int64))).toUInt64 >>> ((2 : Int32).toInt64.toUInt64 &&& Int64.toUInt64 63)).toInt64) &&& (3689348814741910323 : Int64))).toUInt64 >>> ((4 : Int32).toInt64.toUInt64 &&& Int64.toUInt64 63)).toInt64)) &&& (1085102592571150095 : Int64)) + (((((((x0 - (((x0.toUInt64 >>> ((1 : Int32).toInt64.toUInt64 &&& Int64.toUInt64 63)).toInt64) &&& (6148914691236517205 : Int64))) &&& (3689348814741910323 : Int64)) + ((((x0 - (((x0.toUInt64 >>> ((1 : Int32).toInt64.toUInt64 &&& Int64.toUInt64 63)).toInt64) &&& (6148914691236517205 : Int64))).toUInt64 >>> ((2 : Int32).toInt64.toUInt64 &&& Int64.toUInt64 63)).toInt64) &&& (3689348814741910323 : Int64))) + (((((x0 - (((x0.toUInt64 >>> ((1 : Int32).toInt64.toUInt64 &&& Int64.toUInt64 63)).toInt64) &&& (6148914691236517205 : Int64))) &&& (3689348814741910323 : Int64)) + ((((x0 - (((x0.toUInt64 >>> ((1 : Int32).toInt64.toUInt64 &&& Int64.toUInt64 63)).toInt64) &&& (6148914691236517205 : Int64))).toUInt64 >>> ((2 : Int32).toInt64.toUInt64 &&& Int64.toUInt64 63)).toInt64) &&& (3689348814741910323 : Int64))).toUInt64 >>> ((4 : Int32).toInt64.toUInt64 &&& Int64.toUInt64 63)).toInt64)) &&& (1085102592571150095 : Int64)).toUInt64 >>> ((8 : Int32).toInt64.toUInt64 &&& Int64.toUInt64 63)).toInt64)).toUInt64 >>> ((16 : Int32).toInt64.toUInt64 &&& Int64.toUInt64 63)).toInt64)).toUInt64 >>> ((32 : Int32).toInt64.toUInt64 &&& Int64.toUInt64 63)).toInt64)).toInt32) &&& (127 : Int32)))) h) : i_P i_MT i_AT L xs 334 0 [some (.long x0), none] [] h 0 0 Q := by
  have hk := i_k334
  refine g_s1 (pc2 := 1) hk rfl rfl rfl rfl rfl ?_
  refine g_s1 (pc2 := 2) hk rfl rfl rfl rfl rfl ?_
  refine g_s1 (pc2 := 3) (st2 := [.int (1 : Int32), .long x0, .long x0]) hk rfl rfl rfl rfl rfl ?_
  refine g_s1 (pc2 := 4) hk rfl rfl rfl rfl rfl ?_
  refine g_step (pc2 := 7) (st2 := [.long (6148914691236517205 : Int64), .long ((x0.toUInt64 >>> ((1 : Int32).toInt64.toUInt64 &&& Int64.toUInt64 63)).toInt64), .long x0]) hk rfl rfl rfl rfl ?_
  refine g_s1 (pc2 := 8) hk rfl rfl rfl rfl rfl ?_
  refine g_s1 (pc2 := 9) hk rfl rfl rfl rfl rfl ?_
  refine g_s1 (pc2 := 10) (lo2 := [some (.long (x0 - (((x0.toUInt64 >>> ((1 : Int32).toInt64.toUInt64 &&& Int64.toUInt64 63)).toInt64) &&& (6148914691236517205 : Int64)))), none]) hk rfl rfl rfl rfl rfl ?_
  refine g_s1 (pc2 := 11) hk rfl rfl rfl rfl rfl ?_
  refine g_step (pc2 := 14) (st2 := [.long (3689348814741910323 : Int64), .long (x0 - (((x0.toUInt64 >>> ((1 : Int32).toInt64.toUInt64 &&& Int64.toUInt64 63)).toInt64) &&& (6148914691236517205 : Int64)))]) hk rfl rfl rfl rfl ?_
  refine g_s1 (pc2 := 15) hk rfl rfl rfl rfl rfl ?_
  refine g_s1 (pc2 := 16) hk rfl rfl rfl rfl rfl ?_
  refine g_s1 (pc2 := 17) (st2 := [.int (2 : Int32), .long (x0 - (((x0.toUInt64 >>> ((1 : Int32).toInt64.toUInt64 &&& Int64.toUInt64 63)).toInt64) &&& (6148914691236517205 : Int64))), .long ((x0 - (((x0.toUInt64 >>> ((1 : Int32).toInt64.toUInt64 &&& Int64.toUInt64 63)).toInt64) &&& (6148914691236517205 : Int64))) &&& (3689348814741910323 : Int64))]) hk rfl rfl rfl rfl rfl ?_
  refine g_s1 (pc2 := 18) hk rfl rfl rfl rfl rfl ?_
  refine g_step (pc2 := 21) (st2 := [.long (3689348814741910323 : Int64), .long (((x0 - (((x0.toUInt64 >>> ((1 : Int32).toInt64.toUInt64 &&& Int64.toUInt64 63)).toInt64) &&& (6148914691236517205 : Int64))).toUInt64 >>> ((2 : Int32).toInt64.toUInt64 &&& Int64.toUInt64 63)).toInt64), .long ((x0 - (((x0.toUInt64 >>> ((1 : Int32).toInt64.toUInt64 &&& Int64.toUInt64 63)).toInt64) &&& (6148914691236517205 : Int64))) &&& (3689348814741910323 : Int64))]) hk rfl rfl rfl rfl ?_
  refine g_s1 (pc2 := 22) hk rfl rfl rfl rfl rfl ?_
  refine g_s1 (pc2 := 23) hk rfl rfl rfl rfl rfl ?_
  refine g_s1 (pc2 := 24) (lo2 := [some (.long (((x0 - (((x0.toUInt64 >>> ((1 : Int32).toInt64.toUInt64 &&& Int64.toUInt64 63)).toInt64) &&& (6148914691236517205 : Int64))) &&& (3689348814741910323 : Int64)) + ((((x0 - (((x0.toUInt64 >>> ((1 : Int32).toInt64.toUInt64 &&& Int64.toUInt64 63)).toInt64) &&& (6148914691236517205 : Int64))).toUInt64 >>> ((2 : Int32).toInt64.toUInt64 &&& Int64.toUInt64 63)).toInt64) &&& (3689348814741910323 : Int64)))), none]) hk rfl rfl rfl rfl rfl ?_
  refine g_s1 (pc2 := 25) hk rfl rfl rfl rfl rfl ?_
  refine g_s1 (pc2 := 26) hk rfl rfl rfl rfl rfl ?_
  refine g_s1 (pc2 := 27) (st2 := [.int (4 : Int32), .long (((x0 - (((x0.toUInt64 >>> ((1 : Int32).toInt64.toUInt64 &&& Int64.toUInt64 63)).toInt64) &&& (6148914691236517205 : Int64))) &&& (3689348814741910323 : Int64)) + ((((x0 - (((x0.toUInt64 >>> ((1 : Int32).toInt64.toUInt64 &&& Int64.toUInt64 63)).toInt64) &&& (6148914691236517205 : Int64))).toUInt64 >>> ((2 : Int32).toInt64.toUInt64 &&& Int64.toUInt64 63)).toInt64) &&& (3689348814741910323 : Int64))), .long (((x0 - (((x0.toUInt64 >>> ((1 : Int32).toInt64.toUInt64 &&& Int64.toUInt64 63)).toInt64) &&& (6148914691236517205 : Int64))) &&& (3689348814741910323 : Int64)) + ((((x0 - (((x0.toUInt64 >>> ((1 : Int32).toInt64.toUInt64 &&& Int64.toUInt64 63)).toInt64) &&& (6148914691236517205 : Int64))).toUInt64 >>> ((2 : Int32).toInt64.toUInt64 &&& Int64.toUInt64 63)).toInt64) &&& (3689348814741910323 : Int64)))]) hk rfl rfl rfl rfl rfl ?_
  refine g_s1 (pc2 := 28) hk rfl rfl rfl rfl rfl ?_
  refine g_s1 (pc2 := 29) hk rfl rfl rfl rfl rfl ?_
  refine g_step (pc2 := 32) (st2 := [.long (1085102592571150095 : Int64), .long ((((x0 - (((x0.toUInt64 >>> ((1 : Int32).toInt64.toUInt64 &&& Int64.toUInt64 63)).toInt64) &&& (6148914691236517205 : Int64))) &&& (3689348814741910323 : Int64)) + ((((x0 - (((x0.toUInt64 >>> ((1 : Int32).toInt64.toUInt64 &&& Int64.toUInt64 63)).toInt64) &&& (6148914691236517205 : Int64))).toUInt64 >>> ((2 : Int32).toInt64.toUInt64 &&& Int64.toUInt64 63)).toInt64) &&& (3689348814741910323 : Int64))) + (((((x0 - (((x0.toUInt64 >>> ((1 : Int32).toInt64.toUInt64 &&& Int64.toUInt64 63)).toInt64) &&& (6148914691236517205 : Int64))) &&& (3689348814741910323 : Int64)) + ((((x0 - (((x0.toUInt64 >>> ((1 : Int32).toInt64.toUInt64 &&& Int64.toUInt64 63)).toInt64) &&& (6148914691236517205 : Int64))).toUInt64 >>> ((2 : Int32).toInt64.toUInt64 &&& Int64.toUInt64 63)).toInt64) &&& (3689348814741910323 : Int64))).toUInt64 >>> ((4 : Int32).toInt64.toUInt64 &&& Int64.toUInt64 63)).toInt64))]) hk rfl rfl rfl rfl ?_
  refine g_s1 (pc2 := 33) hk rfl rfl rfl rfl rfl ?_
  refine g_s1 (pc2 := 34) (lo2 := [some (.long (((((x0 - (((x0.toUInt64 >>> ((1 : Int32).toInt64.toUInt64 &&& Int64.toUInt64 63)).toInt64) &&& (6148914691236517205 : Int64))) &&& (3689348814741910323 : Int64)) + ((((x0 - (((x0.toUInt64 >>> ((1 : Int32).toInt64.toUInt64 &&& Int64.toUInt64 63)).toInt64) &&& (6148914691236517205 : Int64))).toUInt64 >>> ((2 : Int32).toInt64.toUInt64 &&& Int64.toUInt64 63)).toInt64) &&& (3689348814741910323 : Int64))) + (((((x0 - (((x0.toUInt64 >>> ((1 : Int32).toInt64.toUInt64 &&& Int64.toUInt64 63)).toInt64) &&& (6148914691236517205 : Int64))) &&& (3689348814741910323 : Int64)) + ((((x0 - (((x0.toUInt64 >>> ((1 : Int32).toInt64.toUInt64 &&& Int64.toUInt64 63)).toInt64) &&& (6148914691236517205 : Int64))).toUInt64 >>> ((2 : Int32).toInt64.toUInt64 &&& Int64.toUInt64 63)).toInt64) &&& (3689348814741910323 : Int64))).toUInt64 >>> ((4 : Int32).toInt64.toUInt64 &&& Int64.toUInt64 63)).toInt64)) &&& (1085102592571150095 : Int64))), none]) hk rfl rfl rfl rfl rfl ?_
  refine g_s1 (pc2 := 35) hk rfl rfl rfl rfl rfl ?_
  refine g_s1 (pc2 := 36) hk rfl rfl rfl rfl rfl ?_
  refine g_s1 (pc2 := 38) (st2 := [.int (8 : Int32), .long (((((x0 - (((x0.toUInt64 >>> ((1 : Int32).toInt64.toUInt64 &&& Int64.toUInt64 63)).toInt64) &&& (6148914691236517205 : Int64))) &&& (3689348814741910323 : Int64)) + ((((x0 - (((x0.toUInt64 >>> ((1 : Int32).toInt64.toUInt64 &&& Int64.toUInt64 63)).toInt64) &&& (6148914691236517205 : Int64))).toUInt64 >>> ((2 : Int32).toInt64.toUInt64 &&& Int64.toUInt64 63)).toInt64) &&& (3689348814741910323 : Int64))) + (((((x0 - (((x0.toUInt64 >>> ((1 : Int32).toInt64.toUInt64 &&& Int64.toUInt64 63)).toInt64) &&& (6148914691236517205 : Int64))) &&& (3689348814741910323 : Int64)) + ((((x0 - (((x0.toUInt64 >>> ((1 : Int32).toInt64.toUInt64 &&& Int64.toUInt64 63)).toInt64) &&& (6148914691236517205 : Int64))).toUInt64 >>> ((2 : Int32).toInt64.toUInt64 &&& Int64.toUInt64 63)).toInt64) &&& (3689348814741910323 : Int64))).toUInt64 >>> ((4 : Int32).toInt64.toUInt64 &&& Int64.toUInt64 63)).toInt64)) &&& (1085102592571150095 : Int64)), .long (((((x0 - (((x0.toUInt64 >>> ((1 : Int32).toInt64.toUInt64 &&& Int64.toUInt64 63)).toInt64) &&& (6148914691236517205 : Int64))) &&& (3689348814741910323 : Int64)) + ((((x0 - (((x0.toUInt64 >>> ((1 : Int32).toInt64.toUInt64 &&& Int64.toUInt64 63)).toInt64) &&& (6148914691236517205 : Int64))).toUInt64 >>> ((2 : Int32).toInt64.toUInt64 &&& Int64.toUInt64 63)).toInt64) &&& (3689348814741910323 : Int64))) + (((((x0 - (((x0.toUInt64 >>> ((1 : Int32).toInt64.toUInt64 &&& Int64.toUInt64 63)).toInt64) &&& (6148914691236517205 : Int64))) &&& (3689348814741910323 : Int64)) + ((((x0 - (((x0.toUInt64 >>> ((1 : Int32).toInt64.toUInt64 &&& Int64.toUInt64 63)).toInt64) &&& (6148914691236517205 : Int64))).toUInt64 >>> ((2 : Int32).toInt64.toUInt64 &&& Int64.toUInt64 63)).toInt64) &&& (3689348814741910323 : Int64))).toUInt64 >>> ((4 : Int32).toInt64.toUInt64 &&& Int64.toUInt64 63)).toInt64)) &&& (1085102592571150095 : Int64))]) hk rfl rfl rfl rfl rfl ?_
  refine g_s1 (pc2 := 39) hk rfl rfl rfl rfl rfl ?_
  refine g_s1 (pc2 := 40) hk rfl rfl rfl rfl rfl ?_
  refine g_s1 (pc2 := 41) (lo2 := [some (.long ((((((x0 - (((x0.toUInt64 >>> ((1 : Int32).toInt64.toUInt64 &&& Int64.toUInt64 63)).toInt64) &&& (6148914691236517205 : Int64))) &&& (3689348814741910323 : Int64)) + ((((x0 - (((x0.toUInt64 >>> ((1 : Int32).toInt64.toUInt64 &&& Int64.toUInt64 63)).toInt64) &&& (6148914691236517205 : Int64))).toUInt64 >>> ((2 : Int32).toInt64.toUInt64 &&& Int64.toUInt64 63)).toInt64) &&& (3689348814741910323 : Int64))) + (((((x0 - (((x0.toUInt64 >>> ((1 : Int32).toInt64.toUInt64 &&& Int64.toUInt64 63)).toInt64) &&& (6148914691236517205 : Int64))) &&& (3689348814741910323 : Int64)) + ((((x0 - (((x0.toUInt64 >>> ((1 : Int32).toInt64.toUInt64 &&& Int64.toUInt64 63)).toInt64) &&& (6148914691236517205 : Int64))).toUInt64 >>> ((2 : Int32).toInt64.toUInt64 &&& Int64.toUInt64 63)).toInt64) &&& (3689348814741910323 : Int64))).toUInt64 >>> ((4 : Int32).toInt64.toUInt64 &&& Int64.toUInt64 63)).toInt64)) &&& (1085102592571150095 : Int64)) + (((((((x0 - (((x0.toUInt64 >>> ((1 : Int32).toInt64.toUInt64 &&& Int64.toUInt64 63)).toInt64) &&& (6148914691236517205 : Int64))) &&& (3689348814741910323 : Int64)) + ((((x0 - (((x0.toUInt64 >>> ((1 : Int32).toInt64.toUInt64 &&& Int64.toUInt64 63)).toInt64) &&& (6148914691236517205 : Int64))).toUInt64 >>> ((2 : Int32).toInt64.toUInt64 &&& Int64.toUInt64 63)).toInt64) &&& (3689348814741910323 : Int64))) + (((((x0 - (((x0.toUInt64 >>> ((1 : Int32).toInt64.toUInt64 &&& Int64.toUInt64 63)).toInt64) &&& (6148914691236517205 : Int64))) &&& (3689348814741910323 : Int64)) + ((((x0 - (((x0.toUInt64 >>> ((1 : Int32).toInt64.toUInt64 &&& Int64.toUInt64 63)).toInt64) &&& (6148914691236517205 : Int64))).toUInt64 >>> ((2 : Int32).toInt64.toUInt64 &&& Int64.toUInt64 63)).toInt64) &&& (3689348814741910323 : Int64))).toUInt64 >>> ((4 : Int32).toInt64.toUInt64 &&& Int64.toUInt64 63)).toInt64)) &&& (1085102592571150095 : Int64)).toUInt64 >>> ((8 : Int32).toInt64.toUInt64 &&& Int64.toUInt64 63)).toInt64))), none]) hk rfl rfl rfl rfl rfl ?_
  refine g_s1 (pc2 := 42) hk rfl rfl rfl rfl rfl ?_
  refine g_s1 (pc2 := 43) hk rfl rfl rfl rfl rfl ?_
  refine g_s1 (pc2 := 45) (st2 := [.int (16 : Int32), .long ((((((x0 - (((x0.toUInt64 >>> ((1 : Int32).toInt64.toUInt64 &&& Int64.toUInt64 63)).toInt64) &&& (6148914691236517205 : Int64))) &&& (3689348814741910323 : Int64)) + ((((x0 - (((x0.toUInt64 >>> ((1 : Int32).toInt64.toUInt64 &&& Int64.toUInt64 63)).toInt64) &&& (6148914691236517205 : Int64))).toUInt64 >>> ((2 : Int32).toInt64.toUInt64 &&& Int64.toUInt64 63)).toInt64) &&& (3689348814741910323 : Int64))) + (((((x0 - (((x0.toUInt64 >>> ((1 : Int32).toInt64.toUInt64 &&& Int64.toUInt64 63)).toInt64) &&& (6148914691236517205 : Int64))) &&& (3689348814741910323 : Int64)) + ((((x0 - (((x0.toUInt64 >>> ((1 : Int32).toInt64.toUInt64 &&& Int64.toUInt64 63)).toInt64) &&& (6148914691236517205 : Int64))).toUInt64 >>> ((2 : Int32).toInt64.toUInt64 &&& Int64.toUInt64 63)).toInt64) &&& (3689348814741910323 : Int64))).toUInt64 >>> ((4 : Int32).toInt64.toUInt64 &&& Int64.toUInt64 63)).toInt64)) &&& (1085102592571150095 : Int64)) + (((((((x0 - (((x0.toUInt64 >>> ((1 : Int32).toInt64.toUInt64 &&& Int64.toUInt64 63)).toInt64) &&& (6148914691236517205 : Int64))) &&& (3689348814741910323 : Int64)) + ((((x0 - (((x0.toUInt64 >>> ((1 : Int32).toInt64.toUInt64 &&& Int64.toUInt64 63)).toInt64) &&& (6148914691236517205 : Int64))).toUInt64 >>> ((2 : Int32).toInt64.toUInt64 &&& Int64.toUInt64 63)).toInt64) &&& (3689348814741910323 : Int64))) + (((((x0 - (((x0.toUInt64 >>> ((1 : Int32).toInt64.toUInt64 &&& Int64.toUInt64 63)).toInt64) &&& (6148914691236517205 : Int64))) &&& (3689348814741910323 : Int64)) + ((((x0 - (((x0.toUInt64 >>> ((1 : Int32).toInt64.toUInt64 &&& Int64.toUInt64 63)).toInt64) &&& (6148914691236517205 : Int64))).toUInt64 >>> ((2 : Int32).toInt64.toUInt64 &&& Int64.toUInt64 63)).toInt64) &&& (3689348814741910323 : Int64))).toUInt64 >>> ((4 : Int32).toInt64.toUInt64 &&& Int64.toUInt64 63)).toInt64)) &&& (1085102592571150095 : Int64)).toUInt64 >>> ((8 : Int32).toInt64.toUInt64 &&& Int64.toUInt64 63)).toInt64)), .long ((((((x0 - (((x0.toUInt64 >>> ((1 : Int32).toInt64.toUInt64 &&& Int64.toUInt64 63)).toInt64) &&& (6148914691236517205 : Int64))) &&& (3689348814741910323 : Int64)) + ((((x0 - (((x0.toUInt64 >>> ((1 : Int32).toInt64.toUInt64 &&& Int64.toUInt64 63)).toInt64) &&& (6148914691236517205 : Int64))).toUInt64 >>> ((2 : Int32).toInt64.toUInt64 &&& Int64.toUInt64 63)).toInt64) &&& (3689348814741910323 : Int64))) + (((((x0 - (((x0.toUInt64 >>> ((1 : Int32).toInt64.toUInt64 &&& Int64.toUInt64 63)).toInt64) &&& (6148914691236517205 : Int64))) &&& (3689348814741910323 : Int64)) + ((((x0 - (((x0.toUInt64 >>> ((1 : Int32).toInt64.toUInt64 &&& Int64.toUInt64 63)).toInt64) &&& (6148914691236517205 : Int64))).toUInt64 >>> ((2 : Int32).toInt64.toUInt64 &&& Int64.toUInt64 63)).toInt64) &&& (3689348814741910323 : Int64))).toUInt64 >>> ((4 : Int32).toInt64.toUInt64 &&& Int64.toUInt64 63)).toInt64)) &&& (1085102592571150095 : Int64)) + (((((((x0 - (((x0.toUInt64 >>> ((1 : Int32).toInt64.toUInt64 &&& Int64.toUInt64 63)).toInt64) &&& (6148914691236517205 : Int64))) &&& (3689348814741910323 : Int64)) + ((((x0 - (((x0.toUInt64 >>> ((1 : Int32).toInt64.toUInt64 &&& Int64.toUInt64 63)).toInt64) &&& (6148914691236517205 : Int64))).toUInt64 >>> ((2 : Int32).toInt64.toUInt64 &&& Int64.toUInt64 63)).toInt64) &&& (3689348814741910323 : Int64))) + (((((x0 - (((x0.toUInt64 >>> ((1 : Int32).toInt64.toUInt64 &&& Int64.toUInt64 63)).toInt64) &&& (6148914691236517205 : Int64))) &&& (3689348814741910323 : Int64)) + ((((x0 - (((x0.toUInt64 >>> ((1 : Int32).toInt64.toUInt64 &&& Int64.toUInt64 63)).toInt64) &&& (6148914691236517205 : Int64))).toUInt64 >>> ((2 : Int32).toInt64.toUInt64 &&& Int64.toUInt64 63)).toInt64) &&& (3689348814741910323 : Int64))).toUInt64 >>> ((4 : Int32).toInt64.toUInt64 &&& Int64.toUInt64 63)).toInt64)) &&& (1085102592571150095 : Int64)).toUInt64 >>> ((8 : Int32).toInt64.toUInt64 &&& Int64.toUInt64 63)).toInt64))]) hk rfl rfl rfl rfl rfl ?_
  refine g_s1 (pc2 := 46) hk rfl rfl rfl rfl rfl ?_
  refine g_s1 (pc2 := 47) hk rfl rfl rfl rfl rfl ?_
  refine g_s1 (pc2 := 48) (lo2 := [some (.long (((((((x0 - (((x0.toUInt64 >>> ((1 : Int32).toInt64.toUInt64 &&& Int64.toUInt64 63)).toInt64) &&& (6148914691236517205 : Int64))) &&& (3689348814741910323 : Int64)) + ((((x0 - (((x0.toUInt64 >>> ((1 : Int32).toInt64.toUInt64 &&& Int64.toUInt64 63)).toInt64) &&& (6148914691236517205 : Int64))).toUInt64 >>> ((2 : Int32).toInt64.toUInt64 &&& Int64.toUInt64 63)).toInt64) &&& (3689348814741910323 : Int64))) + (((((x0 - (((x0.toUInt64 >>> ((1 : Int32).toInt64.toUInt64 &&& Int64.toUInt64 63)).toInt64) &&& (6148914691236517205 : Int64))) &&& (3689348814741910323 : Int64)) + ((((x0 - (((x0.toUInt64 >>> ((1 : Int32).toInt64.toUInt64 &&& Int64.toUInt64 63)).toInt64) &&& (6148914691236517205 : Int64))).toUInt64 >>> ((2 : Int32).toInt64.toUInt64 &&& Int64.toUInt64 63)).toInt64) &&& (3689348814741910323 : Int64))).toUInt64 >>> ((4 : Int32).toInt64.toUInt64 &&& Int64.toUInt64 63)).toInt64)) &&& (1085102592571150095 : Int64)) + (((((((x0 - (((x0.toUInt64 >>> ((1 : Int32).toInt64.toUInt64 &&& Int64.toUInt64 63)).toInt64) &&& (6148914691236517205 : Int64))) &&& (3689348814741910323 : Int64)) + ((((x0 - (((x0.toUInt64 >>> ((1 : Int32).toInt64.toUInt64 &&& Int64.toUInt64 63)).toInt64) &&& (6148914691236517205 : Int64))).toUInt64 >>> ((2 : Int32).toInt64.toUInt64 &&& Int64.toUInt64 63)).toInt64) &&& (3689348814741910323 : Int64))) + (((((x0 - (((x0.toUInt64 >>> ((1 : Int32).toInt64.toUInt64 &&& Int64.toUInt64 63)).toInt64) &&& (6148914691236517205 : Int64))) &&& (3689348814741910323 : Int64)) + ((((x0 - (((x0.toUInt64 >>> ((1 : Int32).toInt64.toUInt64 &&& Int64.toUInt64 63)).toInt64) &&& (6148914691236517205 : Int64))).toUInt64 >>> ((2 : Int32).toInt64.toUInt64 &&& Int64.toUInt64 63)).toInt64) &&& (3689348814741910323 : Int64))).toUInt64 >>> ((4 : Int32).toInt64.toUInt64 &&& Int64.toUInt64 63)).toInt64)) &&& (1085102592571150095 : Int64)).toUInt64 >>> ((8 : Int32).toInt64.toUInt64 &&& Int64.toUInt64 63)).toInt64)) + ((((((((x0 - (((x0.toUInt64 >>> ((1 : Int32).toInt64.toUInt64 &&& Int64.toUInt64 63)).toInt64) &&& (6148914691236517205 : Int64))) &&& (3689348814741910323 : Int64)) + ((((x0 - (((x0.toUInt64 >>> ((1 : Int32).toInt64.toUInt64 &&& Int64.toUInt64 63)).toInt64) &&& (6148914691236517205 : Int64))).toUInt64 >>> ((2 : Int32).toInt64.toUInt64 &&& Int64.toUInt64 63)).toInt64) &&& (3689348814741910323 : Int64))) + (((((x0 - (((x0.toUInt64 >>> ((1 : Int32).toInt64.toUInt64 &&& Int64.toUInt64 63)).toInt64) &&& (6148914691236517205 : Int64))) &&& (3689348814741910323 : Int64)) + ((((x0 - (((x0.toUInt64 >>> ((1 : Int32).toInt64.toUInt64 &&& Int64.toUInt64 63)).toInt64) &&& (6148914691236517205 : Int64))).toUInt64 >>> ((2 : Int32).toInt64.toUInt64 &&& Int64.toUInt64 63)).toInt64) &&& (3689348814741910323 : Int64))).toUInt64 >>> ((4 : Int32).toInt64.toUInt64 &&& Int64.toUInt64 63)).toInt64)) &&& (1085102592571150095 : Int64)) + (((((((x0 - (((x0.toUInt64 >>> ((1 : Int32).toInt64.toUInt64 &&& Int64.toUInt64 63)).toInt64) &&& (6148914691236517205 : Int64))) &&& (3689348814741910323 : Int64)) + ((((x0 - (((x0.toUInt64 >>> ((1 : Int32).toInt64.toUInt64 &&& Int64.toUInt64 63)).toInt64) &&& (6148914691236517205 : Int64))).toUInt64 >>> ((2 : Int32).toInt64.toUInt64 &&& Int64.toUInt64 63)).toInt64) &&& (3689348814741910323 : Int64))) + (((((x0 - (((x0.toUInt64 >>> ((1 : Int32).toInt64.toUInt64 &&& Int64.toUInt64 63)).toInt64) &&& (6148914691236517205 : Int64))) &&& (3689348814741910323 : Int64)) + ((((x0 - (((x0.toUInt64 >>> ((1 : Int32).toInt64.toUInt64 &&& Int64.toUInt64 63)).toInt64) &&& (6148914691236517205 : Int64))).toUInt64 >>> ((2 : Int32).toInt64.toUInt64 &&& Int64.toUInt64 63)).toInt64) &&& (3689348814741910323 : Int64))).toUInt64 >>> ((4 : Int32).toInt64.toUInt64 &&& Int64.toUInt64 63)).toInt64)) &&& (1085102592571150095 : Int64)).toUInt64 >>> ((8 : Int32).toInt64.toUInt64 &&& Int64.toUInt64 63)).toInt64)).toUInt64 >>> ((16 : Int32).toInt64.toUInt64 &&& Int64.toUInt64 63)).toInt64))), none]) hk rfl rfl rfl rfl rfl ?_
  refine g_s1 (pc2 := 49) hk rfl rfl rfl rfl rfl ?_
  refine g_s1 (pc2 := 50) hk rfl rfl rfl rfl rfl ?_
  refine g_s1 (pc2 := 52) (st2 := [.int (32 : Int32), .long (((((((x0 - (((x0.toUInt64 >>> ((1 : Int32).toInt64.toUInt64 &&& Int64.toUInt64 63)).toInt64) &&& (6148914691236517205 : Int64))) &&& (3689348814741910323 : Int64)) + ((((x0 - (((x0.toUInt64 >>> ((1 : Int32).toInt64.toUInt64 &&& Int64.toUInt64 63)).toInt64) &&& (6148914691236517205 : Int64))).toUInt64 >>> ((2 : Int32).toInt64.toUInt64 &&& Int64.toUInt64 63)).toInt64) &&& (3689348814741910323 : Int64))) + (((((x0 - (((x0.toUInt64 >>> ((1 : Int32).toInt64.toUInt64 &&& Int64.toUInt64 63)).toInt64) &&& (6148914691236517205 : Int64))) &&& (3689348814741910323 : Int64)) + ((((x0 - (((x0.toUInt64 >>> ((1 : Int32).toInt64.toUInt64 &&& Int64.toUInt64 63)).toInt64) &&& (6148914691236517205 : Int64))).toUInt64 >>> ((2 : Int32).toInt64.toUInt64 &&& Int64.toUInt64 63)).toInt64) &&& (3689348814741910323 : Int64))).toUInt64 >>> ((4 : Int32).toInt64.toUInt64 &&& Int64.toUInt64 63)).toInt64)) &&& (1085102592571150095 : Int64)) + (((((((x0 - (((x0.toUInt64 >>> ((1 : Int32).toInt64.toUInt64 &&& Int64.toUInt64 63)).toInt64) &&& (6148914691236517205 : Int64))) &&& (3689348814741910323 : Int64)) + ((((x0 - (((x0.toUInt64 >>> ((1 : Int32).toInt64.toUInt64 &&& Int64.toUInt64 63)).toInt64) &&& (6148914691236517205 : Int64))).toUInt64 >>> ((2 : Int32).toInt64.toUInt64 &&& Int64.toUInt64 63)).toInt64) &&& (3689348814741910323 : Int64))) + (((((x0 - (((x0.toUInt64 >>> ((1 : Int32).toInt64.toUInt64 &&& Int64.toUInt64 63)).toInt64) &&& (6148914691236517205 : Int64))) &&& (3689348814741910323 : Int64)) + ((((x0 - (((x0.toUInt64 >>> ((1 : Int32).toInt64.toUInt64 &&& Int64.toUInt64 63)).toInt64) &&& (6148914691236517205 : Int64))).toUInt64 >>> ((2 : Int32).toInt64.toUInt64 &&& Int64.toUInt64 63)).toInt64) &&& (3689348814741910323 : Int64))).toUInt64 >>> ((4 : Int32).toInt64.toUInt64 &&& Int64.toUInt64 63)).toInt64)) &&& (1085102592571150095 : Int64)).toUInt64 >>> ((8 : Int32).toInt64.toUInt64 &&& Int64.toUInt64 63)).toInt64)) + ((((((((x0 - (((x0.toUInt64 >>> ((1 : Int32).toInt64.toUInt64 &&& Int64.toUInt64 63)).toInt64) &&& (6148914691236517205 : Int64))) &&& (3689348814741910323 : Int64)) + ((((x0 - (((x0.toUInt64 >>> ((1 : Int32).toInt64.toUInt64 &&& Int64.toUInt64 63)).toInt64) &&& (6148914691236517205 : Int64))).toUInt64 >>> ((2 : Int32).toInt64.toUInt64 &&& Int64.toUInt64 63)).toInt64) &&& (3689348814741910323 : Int64))) + (((((x0 - (((x0.toUInt64 >>> ((1 : Int32).toInt64.toUInt64 &&& Int64.toUInt64 63)).toInt64) &&& (6148914691236517205 : Int64))) &&& (3689348814741910323 : Int64)) + ((((x0 - (((x0.toUInt64 >>> ((1 : Int32).toInt64.toUInt64 &&& Int64.toUInt64 63)).toInt64) &&& (6148914691236517205 : Int64))).toUInt64 >>> ((2 : Int32).toInt64.toUInt64 &&& Int64.toUInt64 63)).toInt64) &&& (3689348814741910323 : Int64))).toUInt64 >>> ((4 : Int32).toInt64.toUInt64 &&& Int64.toUInt64 63)).toInt64)) &&& (1085102592571150095 : Int64)) + (((((((x0 - (((x0.toUInt64 >>> ((1 : Int32).toInt64.toUInt64 &&& Int64.toUInt64 63)).toInt64) &&& (6148914691236517205 : Int64))) &&& (3689348814741910323 : Int64)) + ((((x0 - (((x0.toUInt64 >>> ((1 : Int32).toInt64.toUInt64 &&& Int64.toUInt64 63)).toInt64) &&& (6148914691236517205 : Int64))).toUInt64 >>> ((2 : Int32).toInt64.toUInt64 &&& Int64.toUInt64 63)).toInt64) &&& (3689348814741910323 : Int64))) + (((((x0 - (((x0.toUInt64 >>> ((1 : Int32).toInt64.toUInt64 &&& Int64.toUInt64 63)).toInt64) &&& (6148914691236517205 : Int64))) &&& (3689348814741910323 : Int64)) + ((((x0 - (((x0.toUInt64 >>> ((1 : Int32).toInt64.toUInt64 &&& Int64.toUInt64 63)).toInt64) &&& (6148914691236517205 : Int64))).toUInt64 >>> ((2 : Int32).toInt64.toUInt64 &&& Int64.toUInt64 63)).toInt64) &&& (3689348814741910323 : Int64))).toUInt64 >>> ((4 : Int32).toInt64.toUInt64 &&& Int64.toUInt64 63)).toInt64)) &&& (1085102592571150095 : Int64)).toUInt64 >>> ((8 : Int32).toInt64.toUInt64 &&& Int64.toUInt64 63)).toInt64)).toUInt64 >>> ((16 : Int32).toInt64.toUInt64 &&& Int64.toUInt64 63)).toInt64)), .long (((((((x0 - (((x0.toUInt64 >>> ((1 : Int32).toInt64.toUInt64 &&& Int64.toUInt64 63)).toInt64) &&& (6148914691236517205 : Int64))) &&& (3689348814741910323 : Int64)) + ((((x0 - (((x0.toUInt64 >>> ((1 : Int32).toInt64.toUInt64 &&& Int64.toUInt64 63)).toInt64) &&& (6148914691236517205 : Int64))).toUInt64 >>> ((2 : Int32).toInt64.toUInt64 &&& Int64.toUInt64 63)).toInt64) &&& (3689348814741910323 : Int64))) + (((((x0 - (((x0.toUInt64 >>> ((1 : Int32).toInt64.toUInt64 &&& Int64.toUInt64 63)).toInt64) &&& (6148914691236517205 : Int64))) &&& (3689348814741910323 : Int64)) + ((((x0 - (((x0.toUInt64 >>> ((1 : Int32).toInt64.toUInt64 &&& Int64.toUInt64 63)).toInt64) &&& (6148914691236517205 : Int64))).toUInt64 >>> ((2 : Int32).toInt64.toUInt64 &&& Int64.toUInt64 63)).toInt64) &&& (3689348814741910323 : Int64))).toUInt64 >>> ((4 : Int32).toInt64.toUInt64 &&& Int64.toUInt64 63)).toInt64)) &&& (1085102592571150095 : Int64)) + (((((((x0 - (((x0.toUInt64 >>> ((1 : Int32).toInt64.toUInt64 &&& Int64.toUInt64 63)).toInt64) &&& (6148914691236517205 : Int64))) &&& (3689348814741910323 : Int64)) + ((((x0 - (((x0.toUInt64 >>> ((1 : Int32).toInt64.toUInt64 &&& Int64.toUInt64 63)).toInt64) &&& (6148914691236517205 : Int64))).toUInt64 >>> ((2 : Int32).toInt64.toUInt64 &&& Int64.toUInt64 63)).toInt64) &&& (3689348814741910323 : Int64))) + (((((x0 - (((x0.toUInt64 >>> ((1 : Int32).toInt64.toUInt64 &&& Int64.toUInt64 63)).toInt64) &&& (6148914691236517205 : Int64))) &&& (3689348814741910323 : Int64)) + ((((x0 - (((x0.toUInt64 >>> ((1 : Int32).toInt64.toUInt64 &&& Int64.toUInt64 63)).toInt64) &&& (6148914691236517205 : Int64))).toUInt64 >>> ((2 : Int32).toInt64.toUInt64 &&& Int64.toUInt64 63)).toInt64) &&& (3689348814741910323 : Int64))).toUInt64 >>> ((4 : Int32).toInt64.toUInt64 &&& Int64.toUInt64 63)).toInt64)) &&& (1085102592571150095 : Int64)).toUInt64 >>> ((8 : Int32).toInt64.toUInt64 &&& Int64.toUInt64 63)).toInt64)) + ((((((((x0 - (((x0.toUInt64 >>> ((1 : Int32).toInt64.toUInt64 &&& Int64.toUInt64 63)).toInt64) &&& (6148914691236517205 : Int64))) &&& (3689348814741910323 : Int64)) + ((((x0 - (((x0.toUInt64 >>> ((1 : Int32).toInt64.toUInt64 &&& Int64.toUInt64 63)).toInt64) &&& (6148914691236517205 : Int64))).toUInt64 >>> ((2 : Int32).toInt64.toUInt64 &&& Int64.toUInt64 63)).toInt64) &&& (3689348814741910323 : Int64))) + (((((x0 - (((x0.toUInt64 >>> ((1 : Int32).toInt64.toUInt64 &&& Int64.toUInt64 63)).toInt64) &&& (6148914691236517205 : Int64))) &&& (3689348814741910323 : Int64)) + ((((x0 - (((x0.toUInt64 >>> ((1 : Int32).toInt64.toUInt64 &&& Int64.toUInt64 63)).toInt64) &&& (6148914691236517205 : Int64))).toUInt64 >>> ((2 : Int32).toInt64.toUInt64 &&& Int64.toUInt64 63)).toInt64) &&& (3689348814741910323 : Int64))).toUInt64 >>> ((4 : Int32).toInt64.toUInt64 &&& Int64.toUInt64 63)).toInt64)) &&& (1085102592571150095 : Int64)) + (((((((x0 - (((x0.toUInt64 >>> ((1 : Int32).toInt64.toUInt64 &&& Int64.toUInt64 63)).toInt64) &&& (6148914691236517205 : Int64))) &&& (3689348814741910323 : Int64)) + ((((x0 - (((x0.toUInt64 >>> ((1 : Int32).toInt64.toUInt64 &&& Int64.toUInt64 63)).toInt64) &&& (6148914691236517205 : Int64))).toUInt64 >>> ((2 : Int32).toInt64.toUInt64 &&& Int64.toUInt64 63)).toInt64) &&& (3689348814741910323 : Int64))) + (((((x0 - (((x0.toUInt64 >>> ((1 : Int32).toInt64.toUInt64 &&& Int64.toUInt64 63)).toInt64) &&& (6148914691236517205 : Int64))) &&& (3689348814741910323 : Int64)) + ((((x0 - (((x0.toUInt64 >>> ((1 : Int32).toInt64.toUInt64 &&& Int64.toUInt64 63)).toInt64) &&& (6148914691236517205 : Int64))).toUInt64 >>> ((2 : Int32).toInt64.toUInt64 &&& Int64.toUInt64 63)).toInt64) &&& (3689348814741910323 : Int64))).toUInt64 >>> ((4 : Int32).toInt64.toUInt64 &&& Int64.toUInt64 63)).toInt64)) &&& (1085102592571150095 : Int64)).toUInt64 >>> ((8 : Int32).toInt64.toUInt64 &&& Int64.toUInt64 63)).toInt64)).toUInt64 >>> ((16 : Int32).toInt64.toUInt64 &&& Int64.toUInt64 63)).toInt64))]) hk rfl rfl rfl rfl rfl ?_
  refine g_s1 (pc2 := 53) hk rfl rfl rfl rfl rfl ?_
  refine g_s1 (pc2 := 54) hk rfl rfl rfl rfl rfl ?_
  refine g_s1 (pc2 := 55) (lo2 := [some (.long ((((((((x0 - (((x0.toUInt64 >>> ((1 : Int32).toInt64.toUInt64 &&& Int64.toUInt64 63)).toInt64) &&& (6148914691236517205 : Int64))) &&& (3689348814741910323 : Int64)) + ((((x0 - (((x0.toUInt64 >>> ((1 : Int32).toInt64.toUInt64 &&& Int64.toUInt64 63)).toInt64) &&& (6148914691236517205 : Int64))).toUInt64 >>> ((2 : Int32).toInt64.toUInt64 &&& Int64.toUInt64 63)).toInt64) &&& (3689348814741910323 : Int64))) + (((((x0 - (((x0.toUInt64 >>> ((1 : Int32).toInt64.toUInt64 &&& Int64.toUInt64 63)).toInt64) &&& (6148914691236517205 : Int64))) &&& (3689348814741910323 : Int64)) + ((((x0 - (((x0.toUInt64 >>> ((1 : Int32).toInt64.toUInt64 &&& Int64.toUInt64 63)).toInt64) &&& (6148914691236517205 : Int64))).toUInt64 >>> ((2 : Int32).toInt64.toUInt64 &&& Int64.toUInt64 63)).toInt64) &&& (3689348814741910323 : Int64))).toUInt64 >>> ((4 : Int32).toInt64.toUInt64 &&& Int64.toUInt64 63)).toInt64)) &&& (1085102592571150095 : Int64)) + (((((((x0 - (((x0.toUInt64 >>> ((1 : Int32).toInt64.toUInt64 &&& Int64.toUInt64 63)).toInt64) &&& (6148914691236517205 : Int64))) &&& (3689348814741910323 : Int64)) + ((((x0 - (((x0.toUInt64 >>> ((1 : Int32).toInt64.toUInt64 &&& Int64.toUInt64 63)).toInt64) &&& (6148914691236517205 : Int64))).toUInt64 >>> ((2 : Int32).toInt64.toUInt64 &&& Int64.toUInt64 63)).toInt64) &&& (3689348814741910323 : Int64))) + (((((x0 - (((x0.toUInt64 >>> ((1 : Int32).toInt64.toUInt64 &&& Int64.toUInt64 63)).toInt64) &&& (6148914691236517205 : Int64))) &&& (3689348814741910323 : Int64)) + ((((x0 - (((x0.toUInt64 >>> ((1 : Int32).toInt64.toUInt64 &&& Int64.toUInt64 63)).toInt64) &&& (6148914691236517205 : Int64))).toUInt64 >>> ((2 : Int32).toInt64.toUInt64 &&& Int64.toUInt64 63)).toInt64) &&& (3689348814741910323 : Int64))).toUInt64 >>> ((4 : Int32).toInt64.toUInt64 &&& Int64.toUInt64 63)).toInt64)) &&& (1085102592571150095 : Int64)).toUInt64 >>> ((8 : Int32).toInt64.toUInt64 &&& Int64.toUInt64 63)).toInt64)) + ((((((((x0 - (((x0.toUInt64 >>> ((1 : Int32).toInt64.toUInt64 &&& Int64.toUInt64 63)).toInt64) &&& (6148914691236517205 : Int64))) &&& (3689348814741910323 : Int64)) + ((((x0 - (((x0.toUInt64 >>> ((1 : Int32).toInt64.toUInt64 &&& Int64.toUInt64 63)).toInt64) &&& (6148914691236517205 : Int64))).toUInt64 >>> ((2 : Int32).toInt64.toUInt64 &&& Int64.toUInt64 63)).toInt64) &&& (3689348814741910323 : Int64))) + (((((x0 - (((x0.toUInt64 >>> ((1 : Int32).toInt64.toUInt64 &&& Int64.toUInt64 63)).toInt64) &&& (6148914691236517205 : Int64))) &&& (3689348814741910323 : Int64)) + ((((x0 - (((x0.toUInt64 >>> ((1 : Int32).toInt64.toUInt64 &&& Int64.toUInt64 63)).toInt64) &&& (6148914691236517205 : Int64))).toUInt64 >>> ((2 : Int32).toInt64.toUInt64 &&& Int64.toUInt64 63)).toInt64) &&& (3689348814741910323 : Int64))).toUInt64 >>> ((4 : Int32).toInt64.toUInt64 &&& Int64.toUInt64 63)).toInt64)) &&& (1085102592571150095 : Int64)) + (((((((x0 - (((x0.toUInt64 >>> ((1 : Int32).toInt64.toUInt64 &&& Int64.toUInt64 63)).toInt64) &&& (6148914691236517205 : Int64))) &&& (3689348814741910323 : Int64)) + ((((x0 - (((x0.toUInt64 >>> ((1 : Int32).toInt64.toUInt64 &&& Int64.toUInt64 63)).toInt64) &&& (6148914691236517205 : Int64))).toUInt64 >>> ((2 : Int32).toInt64.toUInt64 &&& Int64.toUInt64 63)).toInt64) &&& (3689348814741910323 : Int64))) + (((((x0 - (((x0.toUInt64 >>> ((1 : Int32).toInt64.toUInt64 &&& Int64.toUInt64 63)).toInt64) &&& (6148914691236517205 : Int64))) &&& (3689348814741910323 : Int64)) + ((((x0 - (((x0.toUInt64 >>> ((1 : Int32).toInt64.toUInt64 &&& Int64.toUInt64 63)).toInt64) &&& (6148914691236517205 : Int64))).toUInt64 >>> ((2 : Int32).toInt64.toUInt64 &&& Int64.toUInt64 63)).toInt64) &&& (3689348814741910323 : Int64))).toUInt64 >>> ((4 : Int32).toInt64.toUInt64 &&& Int64.toUInt64 63)).toInt64)) &&& (1085102592571150095 : Int64)).toUInt64 >>> ((8 : Int32).toInt64.toUInt64 &&& Int64.toUInt64 63)).toInt64)).toUInt64 >>> ((16 : Int32).toInt64.toUInt64 &&& Int64.toUInt64 63)).toInt64)) + (((((((((x0 - (((x0.toUInt64 >>> ((1 : Int32).toInt64.toUInt64 &&& Int64.toUInt64 63)).toInt64) &&& (6148914691236517205 : Int64))) &&& (3689348814741910323 : Int64)) + ((((x0 - (((x0.toUInt64 >>> ((1 : Int32).toInt64.toUInt64 &&& Int64.toUInt64 63)).toInt64) &&& (6148914691236517205 : Int64))).toUInt64 >>> ((2 : Int32).toInt64.toUInt64 &&& Int64.toUInt64 63)).toInt64) &&& (3689348814741910323 : Int64))) + (((((x0 - (((x0.toUInt64 >>> ((1 : Int32).toInt64.toUInt64 &&& Int64.toUInt64 63)).toInt64) &&& (6148914691236517205 : Int64))) &&& (3689348814741910323 : Int64)) + ((((x0 - (((x0.toUInt64 >>> ((1 : Int32).toInt64.toUInt64 &&& Int64.toUInt64 63)).toInt64) &&& (6148914691236517205 : Int64))).toUInt64 >>> ((2 : Int32).toInt64.toUInt64 &&& Int64.toUInt64 63)).toInt64) &&& (3689348814741910323 : Int64))).toUInt64 >>> ((4 : Int32).toInt64.toUInt64 &&& Int64.toUInt64 63)).toInt64)) &&& (1085102592571150095 : Int64)) + (((((((x0 - (((x0.toUInt64 >>> ((1 : Int32).toInt64.toUInt64 &&& Int64.toUInt64 63)).toInt64) &&& (6148914691236517205 : Int64))) &&& (3689348814741910323 : Int64)) + ((((x0 - (((x0.toUInt64 >>> ((1 : Int32).toInt64.toUInt64 &&& Int64.toUInt64 63)).toInt64) &&& (6148914691236517205 : Int64))).toUInt64 >>> ((2 : Int32).toInt64.toUInt64 &&& Int64.toUInt64 63)).toInt64) &&& (3689348814741910323 : Int64))) + (((((x0 - (((x0.toUInt64 >>> ((1 : Int32).toInt64.toUInt64 &&& Int64.toUInt64 63)).toInt64) &&& (6148914691236517205 : Int64))) &&& (3689348814741910323 : Int64)) + ((((x0 - (((x0.toUInt64 >>> ((1 : Int32).toInt64.toUInt64 &&& Int64.toUInt64 63)).toInt64) &&& (6148914691236517205 : Int64))).toUInt64 >>> ((2 : Int32).toInt64.toUInt64 &&& Int64.toUInt64 63)).toInt64) &&& (3689348814741910323 : Int64))).toUInt64 >>> ((4 : Int32).toInt64.toUInt64 &&& Int64.toUInt64 63)).toInt64)) &&& (1085102592571150095 : Int64)).toUInt64 >>> ((8 : Int32).toInt64.toUInt64 &&& Int64.toUInt64 63)).toInt64)) + ((((((((x0 - (((x0.toUInt64 >>> ((1 : Int32).toInt64.toUInt64 &&& Int64.toUInt64 63)).toInt64) &&& (6148914691236517205 : Int64))) &&& (3689348814741910323 : Int64)) + ((((x0 - (((x0.toUInt64 >>> ((1 : Int32).toInt64.toUInt64 &&& Int64.toUInt64 63)).toInt64) &&& (6148914691236517205 : Int64))).toUInt64 >>> ((2 : Int32).toInt64.toUInt64 &&& Int64.toUInt64 63)).toInt64) &&& (3689348814741910323 : Int64))) + (((((x0 - (((x0.toUInt64 >>> ((1 : Int32).toInt64.toUInt64 &&& Int64.toUInt64 63)).toInt64) &&& (6148914691236517205 : Int64))) &&& (3689348814741910323 : Int64)) + ((((x0 - (((x0.toUInt64 >>> ((1 : Int32).toInt64.toUInt64 &&& Int64.toUInt64 63)).toInt64) &&& (6148914691236517205 : Int64))).toUInt64 >>> ((2 : Int32).toInt64.toUInt64 &&& Int64.toUInt64 63)).toInt64) &&& (3689348814741910323 : Int64))).toUInt64 >>> ((4 : Int32).toInt64.toUInt64 &&& Int64.toUInt64 63)).toInt64)) &&& (1085102592571150095 : Int64)) + (((((((x0 - (((x0.toUInt64 >>> ((1 : Int32).toInt64.toUInt64 &&& Int64.toUInt64 63)).toInt64) &&& (6148914691236517205 : Int64))) &&& (3689348814741910323 : Int64)) + ((((x0 - (((x0.toUInt64 >>> ((1 : Int32).toInt64.toUInt64 &&& Int64.toUInt64 63)).toInt64) &&& (6148914691236517205 : Int64))).toUInt64 >>> ((2 : Int32).toInt64.toUInt64 &&& Int64.toUInt64 63)).toInt64) &&& (3689348814741910323 : Int64))) + (((((x0 - (((x0.toUInt64 >>> ((1 : Int32).toInt64.toUInt64 &&& Int64.toUInt64 63)).toInt64) &&& (6148914691236517205 : Int64))) &&& (3689348814741910323 : Int64)) + ((((x0 - (((x0.toUInt64 >>> ((1 : Int32).toInt64.toUInt64 &&& Int64.toUInt64 63)).toInt64) &&& (6148914691236517205 : Int64))).toUInt64 >>> ((2 : Int32).toInt64.toUInt64 &&& Int64.toUInt64 63)).toInt64) &&& (3689348814741910323 : Int64))).toUInt64 >>> ((4 : Int32).toInt64.toUInt64 &&& Int64.toUInt64 63)).toInt64)) &&& (1085102592571150095 : Int64)).toUInt64 >>> ((8 : Int32).toInt64.toUInt64 &&& Int64.toUInt64 63)).toInt64)).toUInt64 >>> ((16 : Int32).toInt64.toUInt64 &&& Int64.toUInt64 63)).toInt64)).toUInt64 >>> ((32 : Int32).toInt64.toUInt64 &&& Int64.toUInt64 63)).toInt64))), none]) hk rfl rfl rfl rfl rfl ?_
  refine g_s1 (pc2 := 56) hk rfl rfl rfl rfl rfl ?_
  refine g_s1 (pc2 := 57) hk rfl rfl rfl rfl rfl ?_
  refine g_s1 (pc2 := 59) (st2 := [.int (127 : Int32), .int (((((((((x0 - (((x0.toUInt64 >>> ((1 : Int32).toInt64.toUInt64 &&& Int64.toUInt64 63)).toInt64) &&& (6148914691236517205 : Int64))) &&& (3689348814741910323 : Int64)) + ((((x0 - (((x0.toUInt64 >>> ((1 : Int32).toInt64.toUInt64 &&& Int64.toUInt64 63)).toInt64) &&& (6148914691236517205 : Int64))).toUInt64 >>> ((2 : Int32).toInt64.toUInt64 &&& Int64.toUInt64 63)).toInt64) &&& (3689348814741910323 : Int64))) + (((((x0 - (((x0.toUInt64 >>> ((1 : Int32).toInt64.toUInt64 &&& Int64.toUInt64 63)).toInt64) &&& (6148914691236517205 : Int64))) &&& (3689348814741910323 : Int64)) + ((((x0 - (((x0.toUInt64 >>> ((1 : Int32).toInt64.toUInt64 &&& Int64.toUInt64 63)).toInt64) &&& (6148914691236517205 : Int64))).toUInt64 >>> ((2 : Int32).toInt64.toUInt64 &&& Int64.toUInt64 63)).toInt64) &&& (3689348814741910323 : Int64))).toUInt64 >>> ((4 : Int32).toInt64.toUInt64 &&& Int64.toUInt64 63)).toInt64)) &&& (1085102592571150095 : Int64)) + (((((((x0 - (((x0.toUInt64 >>> ((1 : Int32).toInt64.toUInt64 &&& Int64.toUInt64 63)).toInt64) &&& (6148914691236517205 : Int64))) &&& (3689348814741910323 : Int64)) + ((((x0 - (((x0.toUInt64 >>> ((1 : Int32).toInt64.toUInt64 &&& Int64.toUInt64 63)).toInt64) &&& (6148914691236517205 : Int64))).toUInt64 >>> ((2 : Int32).toInt64.toUInt64 &&& Int64.toUInt64 63)).toInt64) &&& (3689348814741910323 : Int64))) + (((((x0 - (((x0.toUInt64 >>> ((1 : Int32).toInt64.toUInt64 &&& Int64.toUInt64 63)).toInt64) &&& (6148914691236517205 : Int64))) &&& (3689348814741910323 : Int64)) + ((((x0 - (((x0.toUInt64 >>> ((1 : Int32).toInt64.toUInt64 &&& Int64.toUInt64 63)).toInt64) &&& (6148914691236517205 : Int64))).toUInt64 >>> ((2 : Int32).toInt64.toUInt64 &&& Int64.toUInt64 63)).toInt64) &&& (3689348814741910323 : Int64))).toUInt64 >>> ((4 : Int32).toInt64.toUInt64 &&& Int64.toUInt64 63)).toInt64)) &&& (1085102592571150095 : Int64)).toUInt64 >>> ((8 : Int32).toInt64.toUInt64 &&& Int64.toUInt64 63)).toInt64)) + ((((((((x0 - (((x0.toUInt64 >>> ((1 : Int32).toInt64.toUInt64 &&& Int64.toUInt64 63)).toInt64) &&& (6148914691236517205 : Int64))) &&& (3689348814741910323 : Int64)) + ((((x0 - (((x0.toUInt64 >>> ((1 : Int32).toInt64.toUInt64 &&& Int64.toUInt64 63)).toInt64) &&& (6148914691236517205 : Int64))).toUInt64 >>> ((2 : Int32).toInt64.toUInt64 &&& Int64.toUInt64 63)).toInt64) &&& (3689348814741910323 : Int64))) + (((((x0 - (((x0.toUInt64 >>> ((1 : Int32).toInt64.toUInt64 &&& Int64.toUInt64 63)).toInt64) &&& (6148914691236517205 : Int64))) &&& (3689348814741910323 : Int64)) + ((((x0 - (((x0.toUInt64 >>> ((1 : Int32).toInt64.toUInt64 &&& Int64.toUInt64 63)).toInt64) &&& (6148914691236517205 : Int64))).toUInt64 >>> ((2 : Int32).toInt64.toUInt64 &&& Int64.toUInt64 63)).toInt64) &&& (3689348814741910323 : Int64))).toUInt64 >>> ((4 : Int32).toInt64.toUInt64 &&& Int64.toUInt64 63)).toInt64)) &&& (1085102592571150095 : Int64)) + (((((((x0 - (((x0.toUInt64 >>> ((1 : Int32).toInt64.toUInt64 &&& Int64.toUInt64 63)).toInt64) &&& (6148914691236517205 : Int64))) &&& (3689348814741910323 : Int64)) + ((((x0 - (((x0.toUInt64 >>> ((1 : Int32).toInt64.toUInt64 &&& Int64.toUInt64 63)).toInt64) &&& (6148914691236517205 : Int64))).toUInt64 >>> ((2 : Int32).toInt64.toUInt64 &&& Int64.toUInt64 63)).toInt64) &&& (3689348814741910323 : Int64))) + (((((x0 - (((x0.toUInt64 >>> ((1 : Int32).toInt64.toUInt64 &&& Int64.toUInt64 63)).toInt64) &&& (6148914691236517205 : Int64))) &&& (3689348814741910323 : Int64)) + ((((x0 - (((x0.toUInt64 >>> ((1 : Int32).toInt64.toUInt64 &&& Int64.toUInt64 63)).toInt64) &&& (6148914691236517205 : Int64))).toUInt64 >>> ((2 : Int32).toInt64.toUInt64 &&& Int64.toUInt64 63)).toInt64) &&& (3689348814741910323 : Int64))).toUInt64 >>> ((4 : Int32).toInt64.toUInt64 &&& Int64.toUInt64 63)).toInt64)) &&& (1085102592571150095 : Int64)).toUInt64 >>> ((8 : Int32).toInt64.toUInt64 &&& Int64.toUInt64 63)).toInt64)).toUInt64 >>> ((16 : Int32).toInt64.toUInt64 &&& Int64.toUInt64 63)).toInt64)) + (((((((((x0 - (((x0.toUInt64 >>> ((1 : Int32).toInt64.toUInt64 &&& Int64.toUInt64 63)).toInt64) &&& (6148914691236517205 : Int64))) &&& (3689348814741910323 : Int64)) + ((((x0 - (((x0.toUInt64 >>> ((1 : Int32).toInt64.toUInt64 &&& Int64.toUInt64 63)).toInt64) &&& (6148914691236517205 : Int64))).toUInt64 >>> ((2 : Int32).toInt64.toUInt64 &&& Int64.toUInt64 63)).toInt64) &&& (3689348814741910323 : Int64))) + (((((x0 - (((x0.toUInt64 >>> ((1 : Int32).toInt64.toUInt64 &&& Int64.toUInt64 63)).toInt64) &&& (6148914691236517205 : Int64))) &&& (3689348814741910323 : Int64)) + ((((x0 - (((x0.toUInt64 >>> ((1 : Int32).toInt64.toUInt64 &&& Int64.toUInt64 63)).toInt64) &&& (6148914691236517205 : Int64))).toUInt64 >>> ((2 : Int32).toInt64.toUInt64 &&& Int64.toUInt64 63)).toInt64) &&& (3689348814741910323 : Int64))).toUInt64 >>> ((4 : Int32).toInt64.toUInt64 &&& Int64.toUInt64 63)).toInt64)) &&& (1085102592571150095 : Int64)) + (((((((x0 - (((x0.toUInt64 >>> ((1 : Int32).toInt64.toUInt64 &&& Int64.toUInt64 63)).toInt64) &&& (6148914691236517205 : Int64))) &&& (3689348814741910323 : Int64)) + ((((x0 - (((x0.toUInt64 >>> ((1 : Int32).toInt64.toUInt64 &&& Int64.toUInt64 63)).toInt64) &&& (6148914691236517205 : Int64))).toUInt64 >>> ((2 : Int32).toInt64.toUInt64 &&& Int64.toUInt64 63)).toInt64) &&& (3689348814741910323 : Int64))) + (((((x0 - (((x0.toUInt64 >>> ((1 : Int32).toInt64.toUInt64 &&& Int64.toUInt64 63)).toInt64) &&& (6148914691236517205 : Int64))) &&& (3689348814741910323 : Int64)) + ((((x0 - (((x0.toUInt64 >>> ((1 : Int32).toInt64.toUInt64 &&& Int64.toUInt64 63)).toInt64) &&& (6148914691236517205 : Int64))).toUInt64 >>> ((2 : Int32).toInt64.toUInt64 &&& Int64.toUInt64 63)).toInt64) &&& (3689348814741910323 : Int64))).toUInt64 >>> ((4 : Int32).toInt64.toUInt64 &&& Int64.toUInt64 63)).toInt64)) &&& (1085102592571150095 : Int64)).toUInt64 >>> ((8 : Int32).toInt64.toUInt64 &&& Int64.toUInt64 63)).toInt64)) + ((((((((x0 - (((x0.toUInt64 >>> ((1 : Int32).toInt64.toUInt64 &&& Int64.toUInt64 63)).toInt64) &&& (6148914691236517205 : Int64))) &&& (3689348814741910323 : Int64)) + ((((x0 - (((x0.toUInt64 >>> ((1 : Int32).toInt64.toUInt64 &&& Int64.toUInt64 63)).toInt64) &&& (6148914691236517205 : Int64))).toUInt64 >>> ((2 : Int32).toInt64.toUInt64 &&& Int64.toUInt64 63)).toInt64) &&& (3689348814741910323 : Int64))) + (((((x0 - (((x0.toUInt64 >>> ((1 : Int32).toInt64.toUInt64 &&& Int64.toUInt64 63)).toInt64) &&& (6148914691236517205 : Int64))) &&& (3689348814741910323 : Int64)) + ((((x0 - (((x0.toUInt64 >>> ((1 : Int32).toInt64.toUInt64 &&& Int64.toUInt64 63)).toInt64) &&& (6148914691236517205 : Int64))).toUInt64 >>> ((2 : Int32).toInt64.toUInt64 &&& Int64.toUInt64 63)).toInt64) &&& (3689348814741910323 : Int64))).toUInt64 >>> ((4 : Int32).toInt64.toUInt64 &&& Int64.toUInt64 63)).toInt64)) &&& (1085102592571150095 : Int64)) + (((((((x0 - (((x0.toUInt64 >>> ((1 : Int32).toInt64.toUInt64 &&& Int64.toUInt64 63)).toInt64) &&& (6148914691236517205 : Int64))) &&& (3689348814741910323 : Int64)) + ((((x0 - (((x0.toUInt64 >>> ((1 : Int32).toInt64.toUInt64 &&& Int64.toUInt64 63)).toInt64) &&& (6148914691236517205 : Int64))).toUInt64 >>> ((2 : Int32).toInt64.toUInt64 &&& Int64.toUInt64 63)).toInt64) &&& (3689348814741910323 : Int64))) + (((((x0 - (((x0.toUInt64 >>> ((1 : Int32).toInt64.toUInt64 &&& Int64.toUInt64 63)).toInt64) &&& (6148914691236517205 : Int64))) &&& (3689348814741910323 : Int64)) + ((((x0 - (((x0.toUInt64 >>> ((1 : Int32).toInt64.toUInt64 &&& Int64.toUInt64 63)).toInt64) &&& (6148914691236517205 : Int64))).toUInt64 >>> ((2 : Int32).toInt64.toUInt64 &&& Int64.toUInt64 63)).toInt64) &&& (3689348814741910323 : Int64))).toUInt64 >>> ((4 : Int32).toInt64.toUInt64 &&& Int64.toUInt64 63)).toInt64)) &&& (1085102592571150095 : Int64)).toUInt64 >>> ((8 : Int32).toInt64.toUInt64 &&& Int64.toUInt64 63)).toInt64)).toUInt64 >>> ((16 : Int32).toInt64.toUInt64 &&& Int64.toUInt64 63)).toInt64)).toUInt64 >>> ((32 : Int32).toInt64.toUInt64 &&& Int64.toUInt64 63)).toInt64)).toInt32)]) hk rfl rfl rfl rfl rfl ?_
  refine g_s1 (pc2 := 60) hk rfl rfl rfl rfl rfl ?_
  exact g_ireturn hk rfl (by decide) (by decide) rfl H
/-! java/lang/Math.abs(I)I -/
theorem e335 {x0 : Int32} {h : iH} {Q : Option Value → iH → Prop} (H : i_P i_MT i_AT L xs 335 0 [some (.int x0)] [] h 0 0 Q) : i_C i_MT i_AT L xs 335 [.int x0] h Q := ⟨i_m335, i_k335.1, Nat.le_of_ble_eq_true rfl, H⟩
theorem b335_0 {x0 : Int32} {h : iH} {Q : Option Value → iH → Prop} (H : ((0 ≤ x0 → i_P i_MT i_AT L xs 335 10 [some (.int x0)] [.int x0] h 0 0 Q) ∧ (¬ (0 ≤ x0) → i_P i_MT i_AT L xs 335 10 [some (.int x0)] [.int (-x0)] h 0 0 Q))) : i_P i_MT i_AT L xs 335 0 [some (.int x0)] [] h 0 0 Q := by
  have hk := i_k335
  refine g_s1 (pc2 := 1) hk rfl rfl rfl rfl rfl ?_
  refine g_if_ge hk rfl (fun hc => ?_) (fun hc => ?_)
  · have H := H.1 hc
    refine g_s1 (pc2 := 10) hk rfl rfl rfl rfl rfl ?_
    exact H
  · have H := H.2 hc
    refine g_s1 (pc2 := 5) hk rfl rfl rfl rfl rfl ?_
    refine g_s1 (pc2 := 6) hk rfl rfl rfl rfl rfl ?_
    refine g_s1 (pc2 := 10) hk rfl rfl rfl rfl rfl ?_
    exact H
theorem b335_10 {x0 : Int32} {s0 : Int32} {h : iH} {Q : Option Value → iH → Prop} (H : Q (some (.int s0)) h) : i_P i_MT i_AT L xs 335 10 [some (.int x0)] [.int s0] h 0 0 Q := by
  have hk := i_k335
  exact g_ireturn hk rfl (by decide) (by decide) rfl H
/-! java/lang/Math.max(II)I -/
theorem e336 {x0 : Int32} {x1 : Int32} {h : iH} {Q : Option Value → iH → Prop} (H : i_P i_MT i_AT L xs 336 0 [some (.int x0), some (.int x1)] [] h 0 0 Q) : i_C i_MT i_AT L xs 336 [.int x0, .int x1] h Q := ⟨i_m336, i_k336.1, Nat.le_of_ble_eq_true rfl, H⟩
theorem b336_0 {x0 : Int32} {x1 : Int32} {h : iH} {Q : Option Value → iH → Prop} (H : ((x0 < x1 → i_P i_MT i_AT L xs 336 10 [some (.int x0), some (.int x1)] [.int x1] h 0 0 Q) ∧ (¬ (x0 < x1) → i_P i_MT i_AT L xs 336 10 [some (.int x0), some (.int x1)] [.int x0] h 0 0 Q))) : i_P i_MT i_AT L xs 336 0 [some (.int x0), some (.int x1)] [] h 0 0 Q := by
  have hk := i_k336
  refine g_s1 (pc2 := 1) hk rfl rfl rfl rfl rfl ?_
  refine g_s1 (pc2 := 2) hk rfl rfl rfl rfl rfl ?_
  refine g_icmp_lt hk rfl (fun hc => ?_) (fun hc => ?_)
  · have H := H.1 hc
    refine g_s1 (pc2 := 10) hk rfl rfl rfl rfl rfl ?_
    exact H
  · have H := H.2 hc
    refine g_s1 (pc2 := 6) hk rfl rfl rfl rfl rfl ?_
    refine g_s1 (pc2 := 10) hk rfl rfl rfl rfl rfl ?_
    exact H
theorem b336_10 {x0 : Int32} {x1 : Int32} {s0 : Int32} {h : iH} {Q : Option Value → iH → Prop} (H : Q (some (.int s0)) h) : i_P i_MT i_AT L xs 336 10 [some (.int x0), some (.int x1)] [.int s0] h 0 0 Q := by
  have hk := i_k336
  exact g_ireturn hk rfl (by decide) (by decide) rfl H
/-! java/lang/Math.min(II)I -/
theorem e337 {x0 : Int32} {x1 : Int32} {h : iH} {Q : Option Value → iH → Prop} (H : i_P i_MT i_AT L xs 337 0 [some (.int x0), some (.int x1)] [] h 0 0 Q) : i_C i_MT i_AT L xs 337 [.int x0, .int x1] h Q := ⟨i_m337, i_k337.1, Nat.le_of_ble_eq_true rfl, H⟩
theorem b337_0 {x0 : Int32} {x1 : Int32} {h : iH} {Q : Option Value → iH → Prop} (H : ((x1 < x0 → i_P i_MT i_AT L xs 337 10 [some (.int x0), some (.int x1)] [.int x1] h 0 0 Q) ∧ (¬ (x1 < x0) → i_P i_MT i_AT L xs 337 10 [some (.int x0), some (.int x1)] [.int x0] h 0 0 Q))) : i_P i_MT i_AT L xs 337 0 [some (.int x0), some (.int x1)] [] h 0 0 Q := by
  have hk := i_k337
  refine g_s1 (pc2 := 1) hk rfl rfl rfl rfl rfl ?_
  refine g_s1 (pc2 := 2) hk rfl rfl rfl rfl rfl ?_
  refine g_icmp_gt hk rfl (fun hc => ?_) (fun hc => ?_)
  · have H := H.1 hc
    refine g_s1 (pc2 := 10) hk rfl rfl rfl rfl rfl ?_
    exact H
  · have H := H.2 hc
    refine g_s1 (pc2 := 6) hk rfl rfl rfl rfl rfl ?_
    refine g_s1 (pc2 := 10) hk rfl rfl rfl rfl rfl ?_
    exact H
theorem b337_10 {x0 : Int32} {x1 : Int32} {s0 : Int32} {h : iH} {Q : Option Value → iH → Prop} (H : Q (some (.int s0)) h) : i_P i_MT i_AT L xs 337 10 [some (.int x0), some (.int x1)] [.int s0] h 0 0 Q := by
  have hk := i_k337
  exact g_ireturn hk rfl (by decide) (by decide) rfl H
/-! java/lang/String.length()I -/
theorem e338 {x0 : Nat} {h : iH} {Q : Option Value → iH → Prop} (H : i_P i_MT i_AT L xs 338 0 [some (.retAddr x0)] [] h 0 0 Q) : i_C i_MT i_AT L xs 338 [.retAddr x0] h Q := ⟨i_m338, i_k338.1, Nat.le_of_ble_eq_true rfl, H⟩
theorem b338_0 {x0 : Nat} {h : iH} {Q : Option Value → iH → Prop} (H : (∃ v1 : Nat, i_oF x0 1 = some (.retAddr v1) ∧ (∃ f3 : List Int32, i_oA L xs v1 = none ∧ i_oB v1 = some f3 ∧ ((i_oR x0).isSome = true ∧ i_C i_MT i_AT L xs 340 [.retAddr x0] h (fun v h4 => ∃ r5 : Int32, v = some (.int r5) ∧ i_P i_MT i_AT L xs 338 9 [some (.retAddr x0)] [.int r5, .int (Int32.ofNat f3.length)] h4 0 0 Q))))) : i_P i_MT i_AT L xs 338 0 [some (.retAddr x0)] [] h 0 0 Q := by
  have hk := i_k338
  refine g_s1 (pc2 := 1) hk rfl rfl rfl rfl rfl ?_
  obtain ⟨v1, ev1, H⟩ := H
  refine g_step (pc2 := 4) hk rfl rfl rfl (s_getX ev1) ?_
  obtain ⟨f3, e0, ef3, H⟩ := H
  refine g_step (pc2 := 5) hk rfl rfl rfl (s_alenB e0 ef3) ?_
  refine g_s1 (pc2 := 6) hk rfl rfl rfl rfl rfl ?_
  obtain ⟨ho, H⟩ := H
  refine g_call hk rfl rfl i_k340.1 ⟨rfl, rfl⟩ rfl (i_rcv_x ho rfl rfl) rfl ?_
  exact H.mono (fun v h2 q => by obtain ⟨r, rfl, q⟩ := q; exact q)
theorem b338_9 {x0 : Nat} {s0 : Int32} {s1 : Int32} {h : iH} {Q : Option Value → iH → Prop} (H : Q (some (.int (s0 >>> (s1 &&& 31)))) h) : i_P i_MT i_AT L xs 338 9 [some (.retAddr x0)] [.int s1, .int s0] h 0 0 Q := by
  have hk := i_k338
  refine g_s1 (pc2 := 10) hk rfl rfl rfl rfl rfl ?_
  exact g_ireturn hk rfl (by decide) (by decide) rfl H
/-! java/lang/String.charAt(I)C -/
theorem e339 {x0 : Nat} {x1 : Int32} {h : iH} {Q : Option Value → iH → Prop} (H : i_P i_MT i_AT L xs 339 0 [some (.retAddr x0), some (.int x1)] [] h 0 0 Q) : i_C i_MT i_AT L xs 339 [.retAddr x0, .int x1] h Q := ⟨i_m339, i_k339.1, Nat.le_of_ble_eq_true rfl, H⟩
theorem b339_0 {x0 : Nat} {x1 : Int32} {h : iH} {Q : Option Value → iH → Prop} (H : ((i_oR x0).isSome = true ∧ i_C i_MT i_AT L xs 341 [.retAddr x0] h (fun v h1 => ∃ r2 : Int32, v = some (.int r2) ∧ i_P i_MT i_AT L xs 339 4 [some (.retAddr x0), some (.int x1)] [.int r2] h1 0 0 Q))) : i_P i_MT i_AT L xs 339 0 [some (.retAddr x0), some (.int x1)] [] h 0 0 Q := by
  have hk := i_k339
  refine g_s1 (pc2 := 1) hk rfl rfl rfl rfl rfl ?_
  obtain ⟨ho, H⟩ := H
  refine g_call hk rfl rfl i_k341.1 ⟨rfl, rfl⟩ rfl (i_rcv_x ho rfl rfl) rfl ?_
  exact H.mono (fun v h2 q => by obtain ⟨r, rfl, q⟩ := q; exact q)
theorem b339_4 {x0 : Nat} {x1 : Int32} {s0 : Int32} {h : iH} {Q : Option Value → iH → Prop} (H : ((s0 = 0 → (∃ v1 : Nat, i_oF x0 1 = some (.retAddr v1) ∧ (i_C i_MT i_AT L xs 346 [.retAddr v1, .int x1] h (fun v h2 => ∃ r3 : Int32, v = some (.int r3) ∧ i_P i_MT i_AT L xs 339 24 [some (.retAddr x0), some (.int x1)] [.int r3] h2 0 0 Q)))) ∧ (¬ (s0 = 0) → (∃ v4 : Nat, i_oF x0 1 = some (.retAddr v4) ∧ (i_C i_MT i_AT L xs 343 [.retAddr v4, .int x1] h (fun v h5 => ∃ r6 : Int32, v = some (.int r6) ∧ i_P i_MT i_AT L xs 339 15 [some (.retAddr x0), some (.int x1)] [.int r6] h5 0 0 Q)))))) : i_P i_MT i_AT L xs 339 4 [some (.retAddr x0), some (.int x1)] [.int s0] h 0 0 Q := by
  have hk := i_k339
  refine g_if_eq hk rfl (fun hc => ?_) (fun hc => ?_)
  · have H := H.1 hc
    refine g_s1 (pc2 := 17) hk rfl rfl rfl rfl rfl ?_
    obtain ⟨v1, ev1, H⟩ := H
    refine g_step (pc2 := 20) hk rfl rfl rfl (s_getX ev1) ?_
    refine g_s1 (pc2 := 21) hk rfl rfl rfl rfl rfl ?_
    refine g_call hk rfl rfl i_k346.1 ⟨rfl, rfl⟩ rfl (i_rcv_0 rfl) rfl ?_
    exact H.mono (fun v h2 q => by obtain ⟨r, rfl, q⟩ := q; exact q)
  · have H := H.2 hc
    refine g_s1 (pc2 := 8) hk rfl rfl rfl rfl rfl ?_
    obtain ⟨v4, ev4, H⟩ := H
    refine g_step (pc2 := 11) hk rfl rfl rfl (s_getX ev4) ?_
    refine g_s1 (pc2 := 12) hk rfl rfl rfl rfl rfl ?_
    refine g_call hk rfl rfl i_k343.1 ⟨rfl, rfl⟩ rfl (i_rcv_0 rfl) rfl ?_
    exact H.mono (fun v h2 q => by obtain ⟨r, rfl, q⟩ := q; exact q)
theorem b339_15 {x0 : Nat} {x1 : Int32} {s0 : Int32} {h : iH} {Q : Option Value → iH → Prop} (H : (i_ret (some .char) s0 = true ∧ Q (some (.int s0)) h)) : i_P i_MT i_AT L xs 339 15 [some (.retAddr x0), some (.int x1)] [.int s0] h 0 0 Q := by
  have hk := i_k339
  exact g_ireturn hk rfl (by decide) (by decide) H.1 H.2
theorem b339_24 {x0 : Nat} {x1 : Int32} {s0 : Int32} {h : iH} {Q : Option Value → iH → Prop} (H : (i_ret (some .char) s0 = true ∧ Q (some (.int s0)) h)) : i_P i_MT i_AT L xs 339 24 [some (.retAddr x0), some (.int x1)] [.int s0] h 0 0 Q := by
  have hk := i_k339
  exact g_ireturn hk rfl (by decide) (by decide) H.1 H.2
/-! java/lang/String.coder()B -/
theorem e340 {x0 : Nat} {h : iH} {Q : Option Value → iH → Prop} (H : i_P i_MT i_AT L xs 340 0 [some (.retAddr x0)] [] h 0 0 Q) : i_C i_MT i_AT L xs 340 [.retAddr x0] h Q := ⟨i_m340, i_k340.1, Nat.le_of_ble_eq_true rfl, H⟩
theorem b340_0 {x0 : Nat} {h : iH} {Q : Option Value → iH → Prop} (H : (((1 : Int32) = 0 → i_P i_MT i_AT L xs 340 14 [some (.retAddr x0)] [.int (1 : Int32)] h 0 0 Q) ∧ (¬ ((1 : Int32) = 0) → (∃ v1 : Int32, i_oF x0 0 = some (.int v1) ∧ i_P i_MT i_AT L xs 340 14 [some (.retAddr x0)] [.int v1] h 0 0 Q)))) : i_P i_MT i_AT L xs 340 0 [some (.retAddr x0)] [] h 0 0 Q := by
  have hk := i_k340
  refine g_step (pc2 := 3) (st2 := [.int (1 : Int32)]) hk rfl rfl rfl rfl ?_
  refine g_if_eq hk rfl (fun hc => ?_) (fun hc => ?_)
  · have H := H.1 hc
    refine g_s1 (pc2 := 14) (st2 := [.int (1 : Int32)]) hk rfl rfl rfl rfl rfl ?_
    exact H
  · have H := H.2 hc
    refine g_s1 (pc2 := 7) hk rfl rfl rfl rfl rfl ?_
    obtain ⟨v1, ev1, H⟩ := H
    refine g_step (pc2 := 10) hk rfl rfl rfl (s_getX ev1) ?_
    refine g_s1 (pc2 := 14) hk rfl rfl rfl rfl rfl ?_
    exact H
theorem b340_14 {x0 : Nat} {s0 : Int32} {h : iH} {Q : Option Value → iH → Prop} (H : (i_ret (some .byte) s0 = true ∧ Q (some (.int s0)) h)) : i_P i_MT i_AT L xs 340 14 [some (.retAddr x0)] [.int s0] h 0 0 Q := by
  have hk := i_k340
  exact g_ireturn hk rfl (by decide) (by decide) H.1 H.2
/-! java/lang/String.isLatin1()Z -/
theorem e341 {x0 : Nat} {h : iH} {Q : Option Value → iH → Prop} (H : i_P i_MT i_AT L xs 341 0 [some (.retAddr x0)] [] h 0 0 Q) : i_C i_MT i_AT L xs 341 [.retAddr x0] h Q := ⟨i_m341, i_k341.1, Nat.le_of_ble_eq_true rfl, H⟩
theorem b341_0 {x0 : Nat} {h : iH} {Q : Option Value → iH → Prop} (H : (((1 : Int32) = 0 → i_P i_MT i_AT L xs 341 17 [some (.retAddr x0)] [] h 0 0 Q) ∧ (¬ ((1 : Int32) = 0) → (∃ v1 : Int32, i_oF x0 0 = some (.int v1) ∧ ((¬ v1 = 0 → i_P i_MT i_AT L xs 341 17 [some (.retAddr x0)] [] h 0 0 Q) ∧ (¬ (¬ v1 = 0) → i_P i_MT i_AT L xs 341 18 [some (.retAddr x0)] [.int (1 : Int32)] h 0 0 Q)))))) : i_P i_MT i_AT L xs 341 0 [some (.retAddr x0)] [] h 0 0 Q := by
  have hk := i_k341
  refine g_step (pc2 := 3) (st2 := [.int (1 : Int32)]) hk rfl rfl rfl rfl ?_
  refine g_if_eq hk rfl (fun hc => ?_) (fun hc => ?_)
  · have H := H.1 hc
    exact H
  · have H := H.2 hc
    refine g_s1 (pc2 := 7) hk rfl rfl rfl rfl rfl ?_
    obtain ⟨v1, ev1, H⟩ := H
    refine g_step (pc2 := 10) hk rfl rfl rfl (s_getX ev1) ?_
    refine g_if_ne hk rfl (fun hc => ?_) (fun hc => ?_)
    · have H := H.1 hc
      exact H
    · have H := H.2 hc
      refine g_s1 (pc2 := 14) (st2 := [.int (1 : Int32)]) hk rfl rfl rfl rfl rfl ?_
      refine g_s1 (pc2 := 18) hk rfl rfl rfl rfl rfl ?_
      exact H
theorem b341_17 {x0 : Nat} {h : iH} {Q : Option Value → iH → Prop} (H : i_P i_MT i_AT L xs 341 18 [some (.retAddr x0)] [.int (0 : Int32)] h 0 0 Q) : i_P i_MT i_AT L xs 341 17 [some (.retAddr x0)] [] h 0 0 Q := by
  have hk := i_k341
  refine g_s1 (pc2 := 18) (st2 := [.int (0 : Int32)]) hk rfl rfl rfl rfl rfl ?_
  exact H
theorem b341_18 {x0 : Nat} {s0 : Int32} {h : iH} {Q : Option Value → iH → Prop} (H : (i_ret (some .boolean) s0 = true ∧ Q (some (.int s0)) h)) : i_P i_MT i_AT L xs 341 18 [some (.retAddr x0)] [.int s0] h 0 0 Q := by
  have hk := i_k341
  exact g_ireturn hk rfl (by decide) (by decide) H.1 H.2
/-! java/lang/String.checkIndex(II)V -/
theorem e342 {x0 : Int32} {x1 : Int32} {h : iH} {Q : Option Value → iH → Prop} (H : i_P i_MT i_AT L xs 342 0 [some (.int x0), some (.int x1)] [] h 0 0 Q) : i_C i_MT i_AT L xs 342 [.int x0, .int x1] h Q := ⟨i_m342, i_k342.1, Nat.le_of_ble_eq_true rfl, H⟩
theorem b342_0 {x0 : Int32} {x1 : Int32} {h : iH} {Q : Option Value → iH → Prop} (H : (i_C i_MT i_AT L xs 350 [.int x0, .int x1, .float 1] h (fun v h1 => ∃ r2 : Int32, v = some (.int r2) ∧ i_P i_MT i_AT L xs 342 8 [some (.int x0), some (.int x1)] [.int r2] h1 0 0 Q))) : i_P i_MT i_AT L xs 342 0 [some (.int x0), some (.int x1)] [] h 0 0 Q := by
  have hk := i_k342
  refine g_s1 (pc2 := 1) hk rfl rfl rfl rfl rfl ?_
  refine g_s1 (pc2 := 2) hk rfl rfl rfl rfl rfl ?_
  refine g_step (pc2 := 5) (st2 := [.float 1, .int x1, .int x0]) hk rfl rfl rfl rfl ?_
  refine g_call hk rfl rfl i_k350.1 ⟨rfl, rfl⟩ rfl (i_rcv_0 rfl) rfl ?_
  exact H.mono (fun v h2 q => by obtain ⟨r, rfl, q⟩ := q; exact q)
theorem b342_8 {x0 : Int32} {x1 : Int32} {s0 : Int32} {h : iH} {Q : Option Value → iH → Prop} (H : Q none h) : i_P i_MT i_AT L xs 342 8 [some (.int x0), some (.int x1)] [.int s0] h 0 0 Q := by
  have hk := i_k342
  refine g_s1 (pc2 := 9) hk rfl rfl rfl rfl rfl ?_
  exact g_return hk rfl (by decide) (by decide) rfl H
/-! java/lang/StringLatin1.charAt([BI)C -/
theorem e343 {x0 : Nat} {x1 : Int32} {h : iH} {Q : Option Value → iH → Prop} (H : i_P i_MT i_AT L xs 343 0 [some (.retAddr x0), some (.int x1)] [] h 0 0 Q) : i_C i_MT i_AT L xs 343 [.retAddr x0, .int x1] h Q := ⟨i_m343, i_k343.1, Nat.le_of_ble_eq_true rfl, H⟩
theorem b343_0 {x0 : Nat} {x1 : Int32} {h : iH} {Q : Option Value → iH → Prop} (H : (∃ f2 : List Int32, i_oA L xs x0 = none ∧ i_oB x0 = some f2 ∧ (i_C i_MT i_AT L xs 342 [.int x1, .int (Int32.ofNat f2.length)] h (fun v h3 => v = none ∧ i_P i_MT i_AT L xs 343 6 [some (.retAddr x0), some (.int x1)] [] h3 0 0 Q)))) : i_P i_MT i_AT L xs 343 0 [some (.retAddr x0), some (.int x1)] [] h 0 0 Q := by
  have hk := i_k343
  refine g_s1 (pc2 := 1) hk rfl rfl rfl rfl rfl ?_
  refine g_s1 (pc2 := 2) hk rfl rfl rfl rfl rfl ?_
  obtain ⟨f2, e0, ef2, H⟩ := H
  refine g_step (pc2 := 3) hk rfl rfl rfl (s_alenB e0 ef2) ?_
  refine g_call hk rfl rfl i_k342.1 ⟨rfl, rfl⟩ rfl (i_rcv_0 rfl) rfl ?_
  exact H.mono (fun v h2 q => by obtain ⟨rfl, q⟩ := q; exact q)
theorem b343_6 {x0 : Nat} {x1 : Int32} {h : iH} {Q : Option Value → iH → Prop} (H : (∃ f2 : List Int32, i_oB x0 = some f2 ∧ ¬ (x1 < 0 ∨ f2.length ≤ x1.toNatClampNeg) ∧ (i_ret (some .char) ((((f2.getD x1.toNatClampNeg 0) &&& (255 : Int32)).toUInt32 % 65536).toInt32) = true ∧ Q (some (.int ((((f2.getD x1.toNatClampNeg 0) &&& (255 : Int32)).toUInt32 % 65536).toInt32))) h))) : i_P i_MT i_AT L xs 343 6 [some (.retAddr x0), some (.int x1)] [] h 0 0 Q := by
  have hk := i_k343
  refine g_s1 (pc2 := 7) hk rfl rfl rfl rfl rfl ?_
  refine g_s1 (pc2 := 8) hk rfl rfl rfl rfl rfl ?_
  obtain ⟨f2, ef2, hi, H⟩ := H
  refine g_step (pc2 := 9) hk rfl rfl rfl (s_bgetX ef2 hi) ?_
  refine g_s1 (pc2 := 12) (st2 := [.int (255 : Int32), .int (f2.getD x1.toNatClampNeg 0)]) hk rfl rfl rfl rfl rfl ?_
  refine g_s1 (pc2 := 13) hk rfl rfl rfl rfl rfl ?_
  refine g_s1 (pc2 := 14) hk rfl rfl rfl rfl rfl ?_
  exact g_ireturn hk rfl (by decide) (by decide) H.1 H.2
/-! java/lang/StringUTF16.length([B)I -/
theorem e345 {x0 : Nat} {h : iH} {Q : Option Value → iH → Prop} (H : i_P i_MT i_AT L xs 345 0 [some (.retAddr x0)] [] h 0 0 Q) : i_C i_MT i_AT L xs 345 [.retAddr x0] h Q := ⟨i_m345, i_k345.1, Nat.le_of_ble_eq_true rfl, H⟩
theorem b345_0 {x0 : Nat} {h : iH} {Q : Option Value → iH → Prop} (H : (∃ f2 : List Int32, i_oA L xs x0 = none ∧ i_oB x0 = some f2 ∧ Q (some (.int ((Int32.ofNat f2.length) >>> ((1 : Int32) &&& 31)))) h)) : i_P i_MT i_AT L xs 345 0 [some (.retAddr x0)] [] h 0 0 Q := by
  have hk := i_k345
  refine g_s1 (pc2 := 1) hk rfl rfl rfl rfl rfl ?_
  obtain ⟨f2, e0, ef2, H⟩ := H
  refine g_step (pc2 := 2) hk rfl rfl rfl (s_alenB e0 ef2) ?_
  refine g_s1 (pc2 := 3) (st2 := [.int (1 : Int32), .int (Int32.ofNat f2.length)]) hk rfl rfl rfl rfl rfl ?_
  refine g_s1 (pc2 := 4) hk rfl rfl rfl rfl rfl ?_
  exact g_ireturn hk rfl (by decide) (by decide) rfl H
/-! java/lang/StringUTF16.charAt([BI)C -/
theorem e346 {x0 : Nat} {x1 : Int32} {h : iH} {Q : Option Value → iH → Prop} (H : i_P i_MT i_AT L xs 346 0 [some (.retAddr x0), some (.int x1)] [] h 0 0 Q) : i_C i_MT i_AT L xs 346 [.retAddr x0, .int x1] h Q := ⟨i_m346, i_k346.1, Nat.le_of_ble_eq_true rfl, H⟩
theorem b346_0 {x0 : Nat} {x1 : Int32} {h : iH} {Q : Option Value → iH → Prop} (H : (i_C i_MT i_AT L xs 347 [.int x1, .retAddr x0] h (fun v h1 => v = none ∧ i_P i_MT i_AT L xs 346 5 [some (.retAddr x0), some (.int x1)] [] h1 0 0 Q))) : i_P i_MT i_AT L xs 346 0 [some (.retAddr x0), some (.int x1)] [] h 0 0 Q := by
  have hk := i_k346
  refine g_s1 (pc2 := 1) hk rfl rfl rfl rfl rfl ?_
  refine g_s1 (pc2 := 2) hk rfl rfl rfl rfl rfl ?_
  refine g_call hk rfl rfl i_k347.1 ⟨rfl, rfl⟩ rfl (i_rcv_0 rfl) rfl ?_
  exact H.mono (fun v h2 q => by obtain ⟨rfl, q⟩ := q; exact q)
theorem b346_5 {x0 : Nat} {x1 : Int32} {h : iH} {Q : Option Value → iH → Prop} (H : (i_C i_MT i_AT L xs 344 [.retAddr x0, .int x1] h (fun v h1 => ∃ r2 : Int32, v = some (.int r2) ∧ i_P i_MT i_AT L xs 346 10 [some (.retAddr x0), some (.int x1)] [.int r2] h1 0 0 Q))) : i_P i_MT i_AT L xs 346 5 [some (.retAddr x0), some (.int x1)] [] h 0 0 Q := by
  have hk := i_k346
  refine g_s1 (pc2 := 6) hk rfl rfl rfl rfl rfl ?_
  refine g_s1 (pc2 := 7) hk rfl rfl rfl rfl rfl ?_
  refine g_call hk rfl rfl i_k344.1 ⟨rfl, rfl⟩ rfl (i_rcv_0 rfl) rfl ?_
  exact H.mono (fun v h2 q => by obtain ⟨r, rfl, q⟩ := q; exact q)
theorem b346_10 {x0 : Nat} {x1 : Int32} {s0 : Int32} {h : iH} {Q : Option Value → iH → Prop} (H : (i_ret (some .char) s0 = true ∧ Q (some (.int s0)) h)) : i_P i_MT i_AT L xs 346 10 [some (.retAddr x0), some (.int x1)] [.int s0] h 0 0 Q := by
  have hk := i_k346
  exact g_ireturn hk rfl (by decide) (by decide) H.1 H.2
/-! java/lang/StringUTF16.checkIndex(I[B)V -/
theorem e347 {x0 : Int32} {x1 : Nat} {h : iH} {Q : Option Value → iH → Prop} (H : i_P i_MT i_AT L xs 347 0 [some (.int x0), some (.retAddr x1)] [] h 0 0 Q) : i_C i_MT i_AT L xs 347 [.int x0, .retAddr x1] h Q := ⟨i_m347, i_k347.1, Nat.le_of_ble_eq_true rfl, H⟩
theorem b347_0 {x0 : Int32} {x1 : Nat} {h : iH} {Q : Option Value → iH → Prop} (H : (i_C i_MT i_AT L xs 345 [.retAddr x1] h (fun v h1 => ∃ r2 : Int32, v = some (.int r2) ∧ i_P i_MT i_AT L xs 347 5 [some (.int x0), some (.retAddr x1)] [.int r2, .int x0] h1 0 0 Q))) : i_P i_MT i_AT L xs 347 0 [some (.int x0), some (.retAddr x1)] [] h 0 0 Q := by
  have hk := i_k347
  refine g_s1 (pc2 := 1) hk rfl rfl rfl rfl rfl ?_
  refine g_s1 (pc2 := 2) hk rfl rfl rfl rfl rfl ?_
  refine g_call hk rfl rfl i_k345.1 ⟨rfl, rfl⟩ rfl (i_rcv_0 rfl) rfl ?_
  exact H.mono (fun v h2 q => by obtain ⟨r, rfl, q⟩ := q; exact q)
theorem b347_5 {x0 : Int32} {x1 : Nat} {s0 : Int32} {s1 : Int32} {h : iH} {Q : Option Value → iH → Prop} (H : (i_C i_MT i_AT L xs 342 [.int s0, .int s1] h (fun v h1 => v = none ∧ i_P i_MT i_AT L xs 347 8 [some (.int x0), some (.retAddr x1)] [] h1 0 0 Q))) : i_P i_MT i_AT L xs 347 5 [some (.int x0), some (.retAddr x1)] [.int s1, .int s0] h 0 0 Q := by
  have hk := i_k347
  refine g_call hk rfl rfl i_k342.1 ⟨rfl, rfl⟩ rfl (i_rcv_0 rfl) rfl ?_
  exact H.mono (fun v h2 q => by obtain ⟨rfl, q⟩ := q; exact q)
theorem b347_8 {x0 : Int32} {x1 : Nat} {h : iH} {Q : Option Value → iH → Prop} (H : Q none h) : i_P i_MT i_AT L xs 347 8 [some (.int x0), some (.retAddr x1)] [] h 0 0 Q := by
  have hk := i_k347
  exact g_return hk rfl (by decide) (by decide) rfl H
/-! java/util/Arrays.fill([JJ)V -/
theorem e348 {x0 : Nat} {x1 : Int64} {h : iH} {Q : Option Value → iH → Prop} (H : i_P i_MT i_AT L xs 348 0 [some (.ref x0), some (.long x1), none, none, none] [] h 0 0 Q) : i_C i_MT i_AT L xs 348 [.ref x0, .long x1] h Q := ⟨i_m348, i_k348.1, Nat.le_of_ble_eq_true rfl, H⟩
theorem b348_0 {x0 : Nat} {x1 : Int64} {x3 : Option Value} {x4 : Option Value} {h : iH} {Q : Option Value → iH → Prop} (H : (∃ (n1 : Nat) (f2 : Nat → Int64), i_arJ h x0 = some (n1, f2) ∧ i_P i_MT i_AT L xs 348 6 [some (.ref x0), some (.long x1), none, some (.int (0 : Int32)), some (.int (Int32.ofNat n1))] [] h 0 0 Q)) : i_P i_MT i_AT L xs 348 0 [some (.ref x0), some (.long x1), none, x3, x4] [] h 0 0 Q := by
  have hk := i_k348
  refine g_s1 (pc2 := 1) (st2 := [.int (0 : Int32)]) hk rfl rfl rfl rfl rfl ?_
  refine g_s1 (pc2 := 2) (lo2 := [some (.ref x0), some (.long x1), none, some (.int (0 : Int32)), x4]) hk rfl rfl rfl rfl rfl ?_
  refine g_s1 (pc2 := 3) hk rfl rfl rfl rfl rfl ?_
  obtain ⟨n1, f2, ef2, H⟩ := H
  refine g_step (pc2 := 4) hk rfl rfl rfl (s_alenJ (L := L) (xs := xs) ef2) ?_
  refine g_s1 (pc2 := 6) (lo2 := [some (.ref x0), some (.long x1), none, some (.int (0 : Int32)), some (.int (Int32.ofNat n1))]) hk rfl rfl rfl rfl rfl ?_
  exact H
theorem b348_6 {x0 : Nat} {x1 : Int64} {x3 : Int32} {x4 : Int32} {h : iH} {Q : Option Value → iH → Prop} (H : ((x4 ≤ x3 → Q none h) ∧ (¬ (x4 ≤ x3) → (∃ (n1 : Nat) (f2 : Nat → Int64), i_arJ h x0 = some (n1, f2) ∧ ¬ (x3 < 0 ∨ n1 ≤ x3.toNatClampNeg) ∧ i_P i_MT i_AT L xs 348 16 [some (.ref x0), some (.long x1), none, some (.int x3), some (.int x4)] [] (i_siJ h x0 x3.toNatClampNeg x1) 0 0 Q)))) : i_P i_MT i_AT L xs 348 6 [some (.ref x0), some (.long x1), none, some (.int x3), some (.int x4)] [] h 0 0 Q := by
  have hk := i_k348
  refine g_s1 (pc2 := 7) hk rfl rfl rfl rfl rfl ?_
  refine g_s1 (pc2 := 9) hk rfl rfl rfl rfl rfl ?_
  refine g_icmp_ge hk rfl (fun hc => ?_) (fun hc => ?_)
  · have H := H.1 hc
    exact g_return hk rfl (by decide) (by decide) rfl H
  · have H := H.2 hc
    refine g_s1 (pc2 := 13) hk rfl rfl rfl rfl rfl ?_
    refine g_s1 (pc2 := 14) hk rfl rfl rfl rfl rfl ?_
    refine g_s1 (pc2 := 15) hk rfl rfl rfl rfl rfl ?_
    obtain ⟨n1, f2, ef2, hi, H⟩ := H
    refine g_step (pc2 := 16) hk rfl rfl rfl (s_lput ef2 hi) ?_
    exact H
theorem b348_16 {x0 : Nat} {x1 : Int64} {x3 : Int32} {x4 : Int32} {h : iH} {Q : Option Value → iH → Prop} (H : i_P i_MT i_AT L xs 348 6 [some (.ref x0), some (.long x1), none, some (.int (x3 + 1)), some (.int x4)] [] h 0 0 Q) : i_P i_MT i_AT L xs 348 16 [some (.ref x0), some (.long x1), none, some (.int x3), some (.int x4)] [] h 0 0 Q := by
  have hk := i_k348
  refine g_s1 (pc2 := 19) (lo2 := [some (.ref x0), some (.long x1), none, some (.int (x3 + 1)), some (.int x4)]) hk rfl rfl rfl rfl rfl ?_
  refine g_s1 (pc2 := 6) hk rfl rfl rfl rfl rfl ?_
  exact H
/-! java/util/Arrays.fill([II)V -/
theorem e349 {x0 : Nat} {x1 : Int32} {h : iH} {Q : Option Value → iH → Prop} (H : i_P i_MT i_AT L xs 349 0 [some (.ref x0), some (.int x1), none, none] [] h 0 0 Q) : i_C i_MT i_AT L xs 349 [.ref x0, .int x1] h Q := ⟨i_m349, i_k349.1, Nat.le_of_ble_eq_true rfl, H⟩
theorem b349_0 {x0 : Nat} {x1 : Int32} {x2 : Option Value} {x3 : Option Value} {h : iH} {Q : Option Value → iH → Prop} (H : (∃ (n1 : Nat) (f2 : Nat → Int32), i_arI h 0 x0 = some (n1, f2) ∧ i_P i_MT i_AT L xs 349 5 [some (.ref x0), some (.int x1), some (.int (0 : Int32)), some (.int (Int32.ofNat n1))] [] h 0 0 Q)) : i_P i_MT i_AT L xs 349 0 [some (.ref x0), some (.int x1), x2, x3] [] h 0 0 Q := by
  have hk := i_k349
  refine g_s1 (pc2 := 1) (st2 := [.int (0 : Int32)]) hk rfl rfl rfl rfl rfl ?_
  refine g_s1 (pc2 := 2) (lo2 := [some (.ref x0), some (.int x1), some (.int (0 : Int32)), x3]) hk rfl rfl rfl rfl rfl ?_
  refine g_s1 (pc2 := 3) hk rfl rfl rfl rfl rfl ?_
  obtain ⟨n1, f2, ef2, H⟩ := H
  refine g_step (pc2 := 4) hk rfl rfl rfl (s_alenI (L := L) (xs := xs) (t := 0) (by decide) ef2) ?_
  refine g_s1 (pc2 := 5) (lo2 := [some (.ref x0), some (.int x1), some (.int (0 : Int32)), some (.int (Int32.ofNat n1))]) hk rfl rfl rfl rfl rfl ?_
  exact H
theorem b349_5 {x0 : Nat} {x1 : Int32} {x2 : Int32} {x3 : Int32} {h : iH} {Q : Option Value → iH → Prop} (H : ((x3 ≤ x2 → Q none h) ∧ (¬ (x3 ≤ x2) → (∃ (n1 : Nat) (f2 : Nat → Int32), i_arI h 0 x0 = some (n1, f2) ∧ ¬ (x2 < 0 ∨ n1 ≤ x2.toNatClampNeg) ∧ i_P i_MT i_AT L xs 349 14 [some (.ref x0), some (.int x1), some (.int x2), some (.int x3)] [] (i_siI h x0 x2.toNatClampNeg x1) 0 0 Q)))) : i_P i_MT i_AT L xs 349 5 [some (.ref x0), some (.int x1), some (.int x2), some (.int x3)] [] h 0 0 Q := by
  have hk := i_k349
  refine g_s1 (pc2 := 6) hk rfl rfl rfl rfl rfl ?_
  refine g_s1 (pc2 := 7) hk rfl rfl rfl rfl rfl ?_
  refine g_icmp_ge hk rfl (fun hc => ?_) (fun hc => ?_)
  · have H := H.1 hc
    exact g_return hk rfl (by decide) (by decide) rfl H
  · have H := H.2 hc
    refine g_s1 (pc2 := 11) hk rfl rfl rfl rfl rfl ?_
    refine g_s1 (pc2 := 12) hk rfl rfl rfl rfl rfl ?_
    refine g_s1 (pc2 := 13) hk rfl rfl rfl rfl rfl ?_
    obtain ⟨n1, f2, ef2, hi, H⟩ := H
    refine g_step (pc2 := 14) hk rfl rfl rfl (s_aput ef2 hi) ?_
    exact H
theorem b349_14 {x0 : Nat} {x1 : Int32} {x2 : Int32} {x3 : Int32} {h : iH} {Q : Option Value → iH → Prop} (H : i_P i_MT i_AT L xs 349 5 [some (.ref x0), some (.int x1), some (.int (x2 + 1)), some (.int x3)] [] h 0 0 Q) : i_P i_MT i_AT L xs 349 14 [some (.ref x0), some (.int x1), some (.int x2), some (.int x3)] [] h 0 0 Q := by
  have hk := i_k349
  refine g_s1 (pc2 := 17) (lo2 := [some (.ref x0), some (.int x1), some (.int (x2 + 1)), some (.int x3)]) hk rfl rfl rfl rfl rfl ?_
  refine g_s1 (pc2 := 5) hk rfl rfl rfl rfl rfl ?_
  exact H
/-! jdk/internal/util/Preconditions.checkIndex(IILjava/util/function/BiFunction;)I -/
theorem e350 {x0 : Int32} {x1 : Int32} {h : iH} {Q : Option Value → iH → Prop} (H : i_P i_MT i_AT L xs 350 0 [some (.int x0), some (.int x1), some (.float 1)] [] h 0 0 Q) : i_C i_MT i_AT L xs 350 [.int x0, .int x1, .float 1] h Q := ⟨i_m350, i_k350.1, Nat.le_of_ble_eq_true rfl, H⟩
theorem b350_0 {x0 : Int32} {x1 : Int32} {h : iH} {Q : Option Value → iH → Prop} (H : ((x0 < 0 → i_P i_MT i_AT L xs 350 9 [some (.int x0), some (.int x1), some (.float 1)] [] h 0 0 Q) ∧ (¬ (x0 < 0) → ((x0 < x1 → i_P i_MT i_AT L xs 350 16 [some (.int x0), some (.int x1), some (.float 1)] [] h 0 0 Q) ∧ (¬ (x0 < x1) → i_P i_MT i_AT L xs 350 9 [some (.int x0), some (.int x1), some (.float 1)] [] h 0 0 Q))))) : i_P i_MT i_AT L xs 350 0 [some (.int x0), some (.int x1), some (.float 1)] [] h 0 0 Q := by
  have hk := i_k350
  refine g_s1 (pc2 := 1) hk rfl rfl rfl rfl rfl ?_
  refine g_if_lt hk rfl (fun hc => ?_) (fun hc => ?_)
  · have H := H.1 hc
    exact H
  · have H := H.2 hc
    refine g_s1 (pc2 := 5) hk rfl rfl rfl rfl rfl ?_
    refine g_s1 (pc2 := 6) hk rfl rfl rfl rfl rfl ?_
    refine g_icmp_lt hk rfl (fun hc => ?_) (fun hc => ?_)
    · have H := H.1 hc
      exact H
    · have H := H.2 hc
      exact H
theorem b350_9 {x0 : Int32} {x1 : Int32} {h : iH} {Q : Option Value → iH → Prop} (H : False) : i_P i_MT i_AT L xs 350 9 [some (.int x0), some (.int x1), some (.float 1)] [] h 0 0 Q := by
  have hk := i_k350
  exact H.elim
theorem b350_16 {x0 : Int32} {x1 : Int32} {h : iH} {Q : Option Value → iH → Prop} (H : Q (some (.int x0)) h) : i_P i_MT i_AT L xs 350 16 [some (.int x0), some (.int x1), some (.float 1)] [] h 0 0 Q := by
  have hk := i_k350
  refine g_s1 (pc2 := 17) hk rfl rfl rfl rfl rfl ?_
  exact g_ireturn hk rfl (by decide) (by decide) rfl H
/-! StillTownLaw.law([I)Z -/
theorem b351_18 {x1 : Nat} {x2 : Nat} {x3 : Int32} {h : iH} {Q : Option Value → iH → Prop} (H : ((((Int32.ofNat L) - (6 : Int32)) < x3 → Q (some (.int 1)) h) ∧ (¬ (((Int32.ofNat L) - (6 : Int32)) < x3) → (¬ (x3 < 0 ∨ L ≤ x3.toNatClampNeg) ∧ ((((xs x3.toNatClampNeg) &&& (63 : Int32)).toInt < 0 ∨ 49 < ((xs x3.toNatClampNeg) &&& (63 : Int32)).toInt → i_P i_MT i_AT L xs 351 1853 [some (.retAddr 3), some (.ref x1), some (.ref x2), some (.int x3)] [] h 173 127414 Q) ∧ (((xs x3.toNatClampNeg) &&& (63 : Int32)).toInt = 0 → (i_obj? h x1 11 ∧ i_C i_MT i_AT L xs 129 [.ref x1] h (fun v h5 => ∃ r6 : Int32, v = some (.int r6) ∧ i_P i_MT i_AT L xs 351 252 [some (.retAddr 3), some (.ref x1), some (.ref x2), some (.int x3)] [.int r6] h5 173 127414 Q))) ∧ (((xs x3.toNatClampNeg) &&& (63 : Int32)).toInt = 1 → (i_obj? h x1 11 ∧ i_C i_MT i_AT L xs 130 [.ref x1] h (fun v h7 => ∃ r8 : Int64, v = some (.long r8) ∧ i_P i_MT i_AT L xs 351 265 [some (.retAddr 3), some (.ref x1), some (.ref x2), some (.int x3)] [.long r8] h7 173 127414 Q))) ∧ (((xs x3.toNatClampNeg) &&& (63 : Int32)).toInt = 2 → (i_obj? h x1 11 ∧ i_C i_MT i_AT L xs 131 [.ref x1] h (fun v h9 => ∃ r10 : Int64, v = some (.long r10) ∧ i_P i_MT i_AT L xs 351 279 [some (.retAddr 3), some (.ref x1), some (.ref x2), some (.int x3)] [.long r10] h9 173 127414 Q))) ∧ (((xs x3.toNatClampNeg) &&& (63 : Int32)).toInt = 3 → (¬ ((x3 + (1 : Int32)) < 0 ∨ L ≤ (x3 + (1 : Int32)).toNatClampNeg) ∧ (¬ ((x3 + (2 : Int32)) < 0 ∨ L ≤ (x3 + (2 : Int32)).toNatClampNeg) ∧ (¬ ((x3 + (3 : Int32)) < 0 ∨ L ≤ (x3 + (3 : Int32)).toNatClampNeg) ∧ (i_obj? h x1 11 ∧ i_C i_MT i_AT L xs 132 [.ref x1, .int (xs (x3 + (1 : Int32)).toNatClampNeg), .int (xs (x3 + (2 : Int32)).toNatClampNeg), .int (xs (x3 + (3 : Int32)).toNatClampNeg)] h (fun v h17 => ∃ r18 : Int32, v = some (.int r18) ∧ i_P i_MT i_AT L xs 351 308 [some (.retAddr 3), some (.ref x1), some (.ref x2), some (.int x3)] [.int r18] h17 173 127414 Q)))))) ∧ (((xs x3.toNatClampNeg) &&& (63 : Int32)).toInt = 4 → (¬ ((x3 + (1 : Int32)) < 0 ∨ L ≤ (x3 + (1 : Int32)).toNatClampNeg) ∧ (¬ ((x3 + (2 : Int32)) < 0 ∨ L ≤ (x3 + (2 : Int32)).toNatClampNeg) ∧ (¬ ((x3 + (3 : Int32)) < 0 ∨ L ≤ (x3 + (3 : Int32)).toNatClampNeg) ∧ (¬ ((x3 + (4 : Int32)) < 0 ∨ L ≤ (x3 + (4 : Int32)).toNatClampNeg) ∧ (i_obj? h x1 11 ∧ i_C i_MT i_AT L xs 133 [.ref x1, .int (xs (x3 + (1 : Int32)).toNatClampNeg), .int (xs (x3 + (2 : Int32)).toNatClampNeg), .long ((((xs (x3 + (3 : Int32)).toNatClampNeg).toInt64) <<< ((32 : Int32).toInt64 &&& 63)) ||| (((xs (x3 + (4 : Int32)).toNatClampNeg).toInt64) &&& (4294967295 : Int64)))] h (fun v h27 => ∃ r28 : Int32, v = some (.int r28) ∧ i_P i_MT i_AT L xs 351 366 [some (.retAddr 3), some (.ref x1), some (.ref x2), some (.int x3)] [.int r28] h27 173 127414 Q))))))) ∧ (((xs x3.toNatClampNeg) &&& (63 : Int32)).toInt = 5 → (¬ ((x3 + (1 : Int32)) < 0 ∨ L ≤ (x3 + (1 : Int32)).toNatClampNeg) ∧ (¬ ((x3 + (2 : Int32)) < 0 ∨ L ≤ (x3 + (2 : Int32)).toNatClampNeg) ∧ (i_obj? h x1 11 ∧ i_C i_MT i_AT L xs 134 [.ref x1, .int (xs (x3 + (1 : Int32)).toNatClampNeg), .int (xs (x3 + (2 : Int32)).toNatClampNeg)] h (fun v h33 => ∃ r34 : Int64, v = some (.long r34) ∧ i_P i_MT i_AT L xs 351 419 [some (.retAddr 3), some (.ref x1), some (.ref x2), some (.int x3)] [.long r34] h33 173 127414 Q))))) ∧ (((xs x3.toNatClampNeg) &&& (63 : Int32)).toInt = 6 → (¬ ((x3 + (1 : Int32)) < 0 ∨ L ≤ (x3 + (1 : Int32)).toNatClampNeg) ∧ (¬ ((x3 + (2 : Int32)) < 0 ∨ L ≤ (x3 + (2 : Int32)).toNatClampNeg) ∧ (¬ ((x3 + (3 : Int32)) < 0 ∨ L ≤ (x3 + (3 : Int32)).toNatClampNeg) ∧ (¬ ((x3 + (4 : Int32)) < 0 ∨ L ≤ (x3 + (4 : Int32)).toNatClampNeg) ∧ (¬ ((x3 + (5 : Int32)) < 0 ∨ L ≤ (x3 + (5 : Int32)).toNatClampNeg) ∧ (i_obj? h x1 11 ∧ i_C i_MT i_AT L xs 135 [.ref x1, .int (xs (x3 + (1 : Int32)).toNatClampNeg), .int (xs (x3 + (2 : Int32)).toNatClampNeg), .int (xs (x3 + (3 : Int32)).toNatClampNeg), .int (xs (x3 + (4 : Int32)).toNatClampNeg), .int (xs (x3 + (5 : Int32)).toNatClampNeg)] h (fun v h45 => ∃ r46 : Int32, v = some (.int r46) ∧ i_P i_MT i_AT L xs 351 468 [some (.retAddr 3), some (.ref x1), some (.ref x2), some (.int x3)] [.int r46] h45 173 127414 Q)))))))) ∧ (((xs x3.toNatClampNeg) &&& (63 : Int32)).toInt = 7 → (¬ ((x3 + (1 : Int32)) < 0 ∨ L ≤ (x3 + (1 : Int32)).toNatClampNeg) ∧ (¬ ((x3 + (2 : Int32)) < 0 ∨ L ≤ (x3 + (2 : Int32)).toNatClampNeg) ∧ (¬ ((x3 + (3 : Int32)) < 0 ∨ L ≤ (x3 + (3 : Int32)).toNatClampNeg) ∧ (¬ ((x3 + (4 : Int32)) < 0 ∨ L ≤ (x3 + (4 : Int32)).toNatClampNeg) ∧ (¬ ((x3 + (5 : Int32)) < 0 ∨ L ≤ (x3 + (5 : Int32)).toNatClampNeg) ∧ (i_obj? h x1 11 ∧ i_C i_MT i_AT L xs 136 [.ref x1, .int (xs (x3 + (1 : Int32)).toNatClampNeg), .int (xs (x3 + (2 : Int32)).toNatClampNeg), .int (xs (x3 + (3 : Int32)).toNatClampNeg), .int (xs (x3 + (4 : Int32)).toNatClampNeg), .int (xs (x3 + (5 : Int32)).toNatClampNeg)] h (fun v h57 => ∃ r58 : Int32, v = some (.int r58) ∧ i_P i_MT i_AT L xs 351 531 [some (.retAddr 3), some (.ref x1), some (.ref x2), some (.int x3)] [.int r58] h57 173 127414 Q)))))))) ∧ (((xs x3.toNatClampNeg) &&& (63 : Int32)).toInt = 8 → (¬ ((x3 + (1 : Int32)) < 0 ∨ L ≤ (x3 + (1 : Int32)).toNatClampNeg) ∧ (i_obj? h x1 11 ∧ i_C i_MT i_AT L xs 137 [.ref x1, .int (xs (x3 + (1 : Int32)).toNatClampNeg)] h (fun v h61 => ∃ r62 : Int32, v = some (.int r62) ∧ i_P i_MT i_AT L xs 351 574 [some (.retAddr 3), some (.ref x1), some (.ref x2), some (.int x3)] [.int r62] h61 173 127414 Q)))) ∧ (((xs x3.toNatClampNeg) &&& (63 : Int32)).toInt = 9 → (¬ ((x3 + (1 : Int32)) < 0 ∨ L ≤ (x3 + (1 : Int32)).toNatClampNeg) ∧ (i_obj? h x1 11 ∧ i_C i_MT i_AT L xs 138 [.ref x1, .int (xs (x3 + (1 : Int32)).toNatClampNeg)] h (fun v h65 => ∃ r66 : Int32, v = some (.int r66) ∧ i_P i_MT i_AT L xs 351 597 [some (.retAddr 3), some (.ref x1), some (.ref x2), some (.int x3)] [.int r66] h65 173 127414 Q)))) ∧ (((xs x3.toNatClampNeg) &&& (63 : Int32)).toInt = 10 → (¬ ((x3 + (1 : Int32)) < 0 ∨ L ≤ (x3 + (1 : Int32)).toNatClampNeg) ∧ (i_obj? h x1 11 ∧ i_C i_MT i_AT L xs 139 [.ref x1, .int (xs (x3 + (1 : Int32)).toNatClampNeg)] h (fun v h69 => ∃ r70 : Int32, v = some (.int r70) ∧ i_P i_MT i_AT L xs 351 620 [some (.retAddr 3), some (.ref x1), some (.ref x2), some (.int x3)] [.int r70] h69 173 127414 Q)))) ∧ (((xs x3.toNatClampNeg) &&& (63 : Int32)).toInt = 11 → (¬ ((x3 + (1 : Int32)) < 0 ∨ L ≤ (x3 + (1 : Int32)).toNatClampNeg) ∧ (i_obj? h x1 11 ∧ i_C i_MT i_AT L xs 140 [.ref x1, .int (xs (x3 + (1 : Int32)).toNatClampNeg)] h (fun v h73 => ∃ r74 : Int32, v = some (.int r74) ∧ i_P i_MT i_AT L xs 351 643 [some (.retAddr 3), some (.ref x1), some (.ref x2), some (.int x3)] [.int r74] h73 173 127414 Q)))) ∧ (((xs x3.toNatClampNeg) &&& (63 : Int32)).toInt = 12 → (¬ ((x3 + (1 : Int32)) < 0 ∨ L ≤ (x3 + (1 : Int32)).toNatClampNeg) ∧ (i_obj? h x1 11 ∧ i_C i_MT i_AT L xs 141 [.ref x1, .int (xs (x3 + (1 : Int32)).toNatClampNeg)] h (fun v h77 => ∃ r78 : Int32, v = some (.int r78) ∧ i_P i_MT i_AT L xs 351 666 [some (.retAddr 3), some (.ref x1), some (.ref x2), some (.int x3)] [.int r78] h77 173 127414 Q)))) ∧ (((xs x3.toNatClampNeg) &&& (63 : Int32)).toInt = 13 → (¬ ((x3 + (1 : Int32)) < 0 ∨ L ≤ (x3 + (1 : Int32)).toNatClampNeg) ∧ (i_obj? h x1 11 ∧ i_C i_MT i_AT L xs 142 [.ref x1, .int (xs (x3 + (1 : Int32)).toNatClampNeg)] h (fun v h81 => ∃ r82 : Int32, v = some (.int r82) ∧ i_P i_MT i_AT L xs 351 689 [some (.retAddr 3), some (.ref x1), some (.ref x2), some (.int x3)] [.int r82] h81 173 127414 Q)))) ∧ (((xs x3.toNatClampNeg) &&& (63 : Int32)).toInt = 14 → (¬ ((x3 + (1 : Int32)) < 0 ∨ L ≤ (x3 + (1 : Int32)).toNatClampNeg) ∧ (¬ ((x3 + (2 : Int32)) < 0 ∨ L ≤ (x3 + (2 : Int32)).toNatClampNeg) ∧ (i_obj? h x1 11 ∧ i_C i_MT i_AT L xs 143 [.ref x1, .int (xs (x3 + (1 : Int32)).toNatClampNeg), .int (xs (x3 + (2 : Int32)).toNatClampNeg)] h (fun v h87 => ∃ r88 : Int32, v = some (.int r88) ∧ i_P i_MT i_AT L xs 351 717 [some (.retAddr 3), some (.ref x1), some (.ref x2), some (.int x3)] [.int r88] h87 173 127414 Q))))) ∧ (((xs x3.toNatClampNeg) &&& (63 : Int32)).toInt = 15 → (¬ ((x3 + (1 : Int32)) < 0 ∨ L ≤ (x3 + (1 : Int32)).toNatClampNeg) ∧ (i_obj? h x1 11 ∧ i_C i_MT i_AT L xs 144 [.ref x1, .int (xs (x3 + (1 : Int32)).toNatClampNeg)] h (fun v h91 => ∃ r92 : Int32, v = some (.int r92) ∧ i_P i_MT i_AT L xs 351 745 [some (.retAddr 3), some (.ref x1), some (.ref x2), some (.int x3)] [.int r92] h91 173 127414 Q)))) ∧ (((xs x3.toNatClampNeg) &&& (63 : Int32)).toInt = 16 → (¬ ((x3 + (1 : Int32)) < 0 ∨ L ≤ (x3 + (1 : Int32)).toNatClampNeg) ∧ (¬ ((x3 + (2 : Int32)) < 0 ∨ L ≤ (x3 + (2 : Int32)).toNatClampNeg) ∧ (i_obj? h x1 11 ∧ i_C i_MT i_AT L xs 145 [.ref x1, .int (xs (x3 + (1 : Int32)).toNatClampNeg), .int (xs (x3 + (2 : Int32)).toNatClampNeg)] h (fun v h97 => ∃ r98 : Int32, v = some (.int r98) ∧ i_P i_MT i_AT L xs 351 773 [some (.retAddr 3), some (.ref x1), some (.ref x2), some (.int x3)] [.int r98] h97 173 127414 Q))))) ∧ (((xs x3.toNatClampNeg) &&& (63 : Int32)).toInt = 17 → (¬ ((x3 + (1 : Int32)) < 0 ∨ L ≤ (x3 + (1 : Int32)).toNatClampNeg) ∧ (¬ ((x3 + (2 : Int32)) < 0 ∨ L ≤ (x3 + (2 : Int32)).toNatClampNeg) ∧ (i_obj? h x1 11 ∧ i_C i_MT i_AT L xs 146 [.ref x1, .int (xs (x3 + (1 : Int32)).toNatClampNeg), .int (xs (x3 + (2 : Int32)).toNatClampNeg)] h (fun v h103 => ∃ r104 : Int32, v = some (.int r104) ∧ i_P i_MT i_AT L xs 351 806 [some (.retAddr 3), some (.ref x1), some (.ref x2), some (.int x3)] [.int r104] h103 173 127414 Q))))) ∧ (((xs x3.toNatClampNeg) &&& (63 : Int32)).toInt = 18 → (¬ ((x3 + (1 : Int32)) < 0 ∨ L ≤ (x3 + (1 : Int32)).toNatClampNeg) ∧ (¬ ((x3 + (2 : Int32)) < 0 ∨ L ≤ (x3 + (2 : Int32)).toNatClampNeg) ∧ (i_obj? h x1 11 ∧ i_C i_MT i_AT L xs 147 [.ref x1, .int (xs (x3 + (1 : Int32)).toNatClampNeg), .int (xs (x3 + (2 : Int32)).toNatClampNeg)] h (fun v h109 => ∃ r110 : Int32, v = some (.int r110) ∧ i_P i_MT i_AT L xs 351 839 [some (.retAddr 3), some (.ref x1), some (.ref x2), some (.int x3)] [.int r110] h109 173 127414 Q))))) ∧ (((xs x3.toNatClampNeg) &&& (63 : Int32)).toInt = 19 → (¬ ((x3 + (1 : Int32)) < 0 ∨ L ≤ (x3 + (1 : Int32)).toNatClampNeg) ∧ (¬ ((x3 + (2 : Int32)) < 0 ∨ L ≤ (x3 + (2 : Int32)).toNatClampNeg) ∧ (i_obj? h x1 11 ∧ i_C i_MT i_AT L xs 148 [.ref x1, .int (xs (x3 + (1 : Int32)).toNatClampNeg), .int (xs (x3 + (2 : Int32)).toNatClampNeg)] h (fun v h115 => ∃ r116 : Int32, v = some (.int r116) ∧ i_P i_MT i_AT L xs 351 872 [some (.retAddr 3), some (.ref x1), some (.ref x2), some (.int x3)] [.int r116] h115 173 127414 Q))))) ∧ (((xs x3.toNatClampNeg) &&& (63 : Int32)).toInt = 20 → (¬ ((x3 + (1 : Int32)) < 0 ∨ L ≤ (x3 + (1 : Int32)).toNatClampNeg) ∧ (¬ ((x3 + (2 : Int32)) < 0 ∨ L ≤ (x3 + (2 : Int32)).toNatClampNeg) ∧ (i_obj? h x1 11 ∧ i_C i_MT i_AT L xs 149 [.ref x1, .int (xs (x3 + (1 : Int32)).toNatClampNeg), .int (xs (x3 + (2 : Int32)).toNatClampNeg)] h (fun v h121 => ∃ r122 : Int64, v = some (.long r122) ∧ i_P i_MT i_AT L xs 351 905 [some (.retAddr 3), some (.ref x1), some (.ref x2), some (.int x3)] [.long r122] h121 173 127414 Q))))) ∧ (((xs x3.toNatClampNeg) &&& (63 : Int32)).toInt = 21 → (¬ ((x3 + (1 : Int32)) < 0 ∨ L ≤ (x3 + (1 : Int32)).toNatClampNeg) ∧ (¬ ((x3 + (2 : Int32)) < 0 ∨ L ≤ (x3 + (2 : Int32)).toNatClampNeg) ∧ (¬ ((x3 + (3 : Int32)) < 0 ∨ L ≤ (x3 + (3 : Int32)).toNatClampNeg) ∧ (i_obj? h x1 11 ∧ i_C i_MT i_AT L xs 150 [.ref x1, .int (xs (x3 + (1 : Int32)).toNatClampNeg), .int (xs (x3 + (2 : Int32)).toNatClampNeg), .int (xs (x3 + (3 : Int32)).toNatClampNeg)] h (fun v h129 => ∃ r130 : Int32, v = some (.int r130) ∧ i_P i_MT i_AT L xs 351 944 [some (.retAddr 3), some (.ref x1), some (.ref x2), some (.int x3)] [.int r130] h129 173 127414 Q)))))) ∧ (((xs x3.toNatClampNeg) &&& (63 : Int32)).toInt = 22 → (¬ ((x3 + (1 : Int32)) < 0 ∨ L ≤ (x3 + (1 : Int32)).toNatClampNeg) ∧ (¬ ((x3 + (2 : Int32)) < 0 ∨ L ≤ (x3 + (2 : Int32)).toNatClampNeg) ∧ (¬ ((x3 + (3 : Int32)) < 0 ∨ L ≤ (x3 + (3 : Int32)).toNatClampNeg) ∧ (i_obj? h x1 11 ∧ i_C i_MT i_AT L xs 151 [.ref x1, .int (xs (x3 + (1 : Int32)).toNatClampNeg), .int (xs (x3 + (2 : Int32)).toNatClampNeg), .int (xs (x3 + (3 : Int32)).toNatClampNeg)] h (fun v h137 => ∃ r138 : Int32, v = some (.int r138) ∧ i_P i_MT i_AT L xs 351 987 [some (.retAddr 3), some (.ref x1), some (.ref x2), some (.int x3)] [.int r138] h137 173 127414 Q)))))) ∧ (((xs x3.toNatClampNeg) &&& (63 : Int32)).toInt = 23 → (¬ ((x3 + (1 : Int32)) < 0 ∨ L ≤ (x3 + (1 : Int32)).toNatClampNeg) ∧ (¬ ((x3 + (2 : Int32)) < 0 ∨ L ≤ (x3 + (2 : Int32)).toNatClampNeg) ∧ (¬ ((x3 + (3 : Int32)) < 0 ∨ L ≤ (x3 + (3 : Int32)).toNatClampNeg) ∧ (i_obj? h x1 11 ∧ i_C i_MT i_AT L xs 152 [.ref x1, .int (xs (x3 + (1 : Int32)).toNatClampNeg), .int (xs (x3 + (2 : Int32)).toNatClampNeg), .int (xs (x3 + (3 : Int32)).toNatClampNeg)] h (fun v h145 => ∃ r146 : Int32, v = some (.int r146) ∧ i_P i_MT i_AT L xs 351 1030 [some (.retAddr 3), some (.ref x1), some (.ref x2), some (.int x3)] [.int r146] h145 173 127414 Q)))))) ∧ (((xs x3.toNatClampNeg) &&& (63 : Int32)).toInt = 24 → (¬ ((x3 + (1 : Int32)) < 0 ∨ L ≤ (x3 + (1 : Int32)).toNatClampNeg) ∧ (¬ ((x3 + (2 : Int32)) < 0 ∨ L ≤ (x3 + (2 : Int32)).toNatClampNeg) ∧ (¬ ((x3 + (3 : Int32)) < 0 ∨ L ≤ (x3 + (3 : Int32)).toNatClampNeg) ∧ (i_obj? h x1 11 ∧ i_C i_MT i_AT L xs 153 [.ref x1, .int (xs (x3 + (1 : Int32)).toNatClampNeg), .int (xs (x3 + (2 : Int32)).toNatClampNeg), .int (xs (x3 + (3 : Int32)).toNatClampNeg)] h (fun v h153 => ∃ r154 : Int32, v = some (.int r154) ∧ i_P i_MT i_AT L xs 351 1073 [some (.retAddr 3), some (.ref x1), some (.ref x2), some (.int x3)] [.int r154] h153 173 127414 Q)))))) ∧ (((xs x3.toNatClampNeg) &&& (63 : Int32)).toInt = 25 → (¬ ((x3 + (1 : Int32)) < 0 ∨ L ≤ (x3 + (1 : Int32)).toNatClampNeg) ∧ (i_obj? h x1 11 ∧ i_C i_MT i_AT L xs 154 [.ref x1, .int (xs (x3 + (1 : Int32)).toNatClampNeg)] h (fun v h157 => ∃ r158 : Int32, v = some (.int r158) ∧ i_P i_MT i_AT L xs 351 1106 [some (.retAddr 3), some (.ref x1), some (.ref x2), some (.int x3)] [.int r158] h157 173 127414 Q)))) ∧ (((xs x3.toNatClampNeg) &&& (63 : Int32)).toInt = 26 → (¬ ((x3 + (1 : Int32)) < 0 ∨ L ≤ (x3 + (1 : Int32)).toNatClampNeg) ∧ (¬ ((x3 + (2 : Int32)) < 0 ∨ L ≤ (x3 + (2 : Int32)).toNatClampNeg) ∧ (i_obj? h x1 11 ∧ i_C i_MT i_AT L xs 155 [.ref x1, .int (xs (x3 + (1 : Int32)).toNatClampNeg), .int (xs (x3 + (2 : Int32)).toNatClampNeg)] h (fun v h163 => ∃ r164 : Int32, v = some (.int r164) ∧ i_P i_MT i_AT L xs 351 1134 [some (.retAddr 3), some (.ref x1), some (.ref x2), some (.int x3)] [.int r164] h163 173 127414 Q))))) ∧ (((xs x3.toNatClampNeg) &&& (63 : Int32)).toInt = 27 → (¬ ((x3 + (1 : Int32)) < 0 ∨ L ≤ (x3 + (1 : Int32)).toNatClampNeg) ∧ (i_obj? h x1 11 ∧ i_C i_MT i_AT L xs 156 [.ref x1, .int (xs (x3 + (1 : Int32)).toNatClampNeg)] h (fun v h167 => ∃ r168 : Int32, v = some (.int r168) ∧ i_P i_MT i_AT L xs 351 1162 [some (.retAddr 3), some (.ref x1), some (.ref x2), some (.int x3)] [.int r168] h167 173 127414 Q)))) ∧ (((xs x3.toNatClampNeg) &&& (63 : Int32)).toInt = 28 → (¬ ((x3 + (1 : Int32)) < 0 ∨ L ≤ (x3 + (1 : Int32)).toNatClampNeg) ∧ (¬ ((x3 + (2 : Int32)) < 0 ∨ L ≤ (x3 + (2 : Int32)).toNatClampNeg) ∧ (¬ ((x3 + (3 : Int32)) < 0 ∨ L ≤ (x3 + (3 : Int32)).toNatClampNeg) ∧ (i_obj? h x1 11 ∧ i_C i_MT i_AT L xs 157 [.ref x1, .int (xs (x3 + (1 : Int32)).toNatClampNeg), .int (xs (x3 + (2 : Int32)).toNatClampNeg), .int (xs (x3 + (3 : Int32)).toNatClampNeg)] h (fun v h175 => ∃ r176 : Int32, v = some (.int r176) ∧ i_P i_MT i_AT L xs 351 1195 [some (.retAddr 3), some (.ref x1), some (.ref x2), some (.int x3)] [.int r176] h175 173 127414 Q)))))) ∧ (((xs x3.toNatClampNeg) &&& (63 : Int32)).toInt = 29 → (¬ ((x3 + (1 : Int32)) < 0 ∨ L ≤ (x3 + (1 : Int32)).toNatClampNeg) ∧ (i_obj? h x1 11 ∧ i_C i_MT i_AT L xs 158 [.ref x1, .int (xs (x3 + (1 : Int32)).toNatClampNeg)] h (fun v h179 => ∃ r180 : Int32, v = some (.int r180) ∧ i_P i_MT i_AT L xs 351 1228 [some (.retAddr 3), some (.ref x1), some (.ref x2), some (.int x3)] [.int r180] h179 173 127414 Q)))) ∧ (((xs x3.toNatClampNeg) &&& (63 : Int32)).toInt = 30 → (¬ ((x3 + (1 : Int32)) < 0 ∨ L ≤ (x3 + (1 : Int32)).toNatClampNeg) ∧ (¬ ((x3 + (2 : Int32)) < 0 ∨ L ≤ (x3 + (2 : Int32)).toNatClampNeg) ∧ (¬ ((x3 + (3 : Int32)) < 0 ∨ L ≤ (x3 + (3 : Int32)).toNatClampNeg) ∧ (i_obj? h x1 11 ∧ i_C i_MT i_AT L xs 159 [.ref x1, .int (xs (x3 + (1 : Int32)).toNatClampNeg), .long ((((xs (x3 + (2 : Int32)).toNatClampNeg).toInt64) <<< ((32 : Int32).toInt64 &&& 63)) ||| (((xs (x3 + (3 : Int32)).toNatClampNeg).toInt64) &&& (4294967295 : Int64)))] h (fun v h187 => ∃ r188 : Int32, v = some (.int r188) ∧ i_P i_MT i_AT L xs 351 1271 [some (.retAddr 3), some (.ref x1), some (.ref x2), some (.int x3)] [.int r188] h187 173 127414 Q)))))) ∧ (((xs x3.toNatClampNeg) &&& (63 : Int32)).toInt = 31 → (¬ ((x3 + (1 : Int32)) < 0 ∨ L ≤ (x3 + (1 : Int32)).toNatClampNeg) ∧ (¬ ((x3 + (2 : Int32)) < 0 ∨ L ≤ (x3 + (2 : Int32)).toNatClampNeg) ∧ (¬ ((x3 + (3 : Int32)) < 0 ∨ L ≤ (x3 + (3 : Int32)).toNatClampNeg) ∧ (i_obj? h x1 11 ∧ i_C i_MT i_AT L xs 160 [.ref x1, .int (xs (x3 + (1 : Int32)).toNatClampNeg), .int (xs (x3 + (2 : Int32)).toNatClampNeg), .int (xs (x3 + (3 : Int32)).toNatClampNeg)] h (fun v h195 => ∃ r196 : Int64, v = some (.long r196) ∧ i_P i_MT i_AT L xs 351 1324 [some (.retAddr 3), some (.ref x1), some (.ref x2), some (.int x3)] [.long r196] h195 173 127414 Q)))))) ∧ (((xs x3.toNatClampNeg) &&& (63 : Int32)).toInt = 32 → (¬ ((x3 + (1 : Int32)) < 0 ∨ L ≤ (x3 + (1 : Int32)).toNatClampNeg) ∧ (¬ ((x3 + (2 : Int32)) < 0 ∨ L ≤ (x3 + (2 : Int32)).toNatClampNeg) ∧ (i_obj? h x1 11 ∧ i_C i_MT i_AT L xs 161 [.ref x1, .int (xs (x3 + (1 : Int32)).toNatClampNeg), .int (xs (x3 + (2 : Int32)).toNatClampNeg)] h (fun v h201 => ∃ r202 : Int32, v = some (.int r202) ∧ i_P i_MT i_AT L xs 351 1363 [some (.retAddr 3), some (.ref x1), some (.ref x2), some (.int x3)] [.int r202] h201 173 127414 Q))))) ∧ (((xs x3.toNatClampNeg) &&& (63 : Int32)).toInt = 33 → (¬ ((x3 + (1 : Int32)) < 0 ∨ L ≤ (x3 + (1 : Int32)).toNatClampNeg) ∧ (¬ ((x3 + (2 : Int32)) < 0 ∨ L ≤ (x3 + (2 : Int32)).toNatClampNeg) ∧ (i_obj? h x1 11 ∧ i_C i_MT i_AT L xs 162 [.ref x1, .int (xs (x3 + (1 : Int32)).toNatClampNeg), .int (xs (x3 + (2 : Int32)).toNatClampNeg)] h (fun v h207 => ∃ r208 : Int32, v = some (.int r208) ∧ i_P i_MT i_AT L xs 351 1396 [some (.retAddr 3), some (.ref x1), some (.ref x2), some (.int x3)] [.int r208] h207 173 127414 Q))))) ∧ (((xs x3.toNatClampNeg) &&& (63 : Int32)).toInt = 34 → (¬ ((x3 + (1 : Int32)) < 0 ∨ L ≤ (x3 + (1 : Int32)).toNatClampNeg) ∧ (i_obj? h x1 11 ∧ i_C i_MT i_AT L xs 163 [.ref x1, .int (xs (x3 + (1 : Int32)).toNatClampNeg)] h (fun v h211 => ∃ r212 : Int32, v = some (.int r212) ∧ i_P i_MT i_AT L xs 351 1424 [some (.retAddr 3), some (.ref x1), some (.ref x2), some (.int x3)] [.int r212] h211 173 127414 Q)))) ∧ (((xs x3.toNatClampNeg) &&& (63 : Int32)).toInt = 35 → (¬ ((x3 + (1 : Int32)) < 0 ∨ L ≤ (x3 + (1 : Int32)).toNatClampNeg) ∧ (¬ ((x3 + (2 : Int32)) < 0 ∨ L ≤ (x3 + (2 : Int32)).toNatClampNeg) ∧ (¬ ((x3 + (3 : Int32)) < 0 ∨ L ≤ (x3 + (3 : Int32)).toNatClampNeg) ∧ (i_obj? h x1 11 ∧ i_C i_MT i_AT L xs 164 [.ref x1, .int (xs (x3 + (1 : Int32)).toNatClampNeg), .int (xs (x3 + (2 : Int32)).toNatClampNeg), .int (xs (x3 + (3 : Int32)).toNatClampNeg)] h (fun v h219 => ∃ r220 : Int32, v = some (.int r220) ∧ i_P i_MT i_AT L xs 351 1457 [some (.retAddr 3), some (.ref x1), some (.ref x2), some (.int x3)] [.int r220] h219 173 127414 Q)))))) ∧ (((xs x3.toNatClampNeg) &&& (63 : Int32)).toInt = 36 → (¬ ((x3 + (1 : Int32)) < 0 ∨ L ≤ (x3 + (1 : Int32)).toNatClampNeg) ∧ (i_obj? h x1 11 ∧ i_C i_MT i_AT L xs 165 [.ref x1, .int (xs (x3 + (1 : Int32)).toNatClampNeg)] h (fun v h223 => ∃ r224 : Int32, v = some (.int r224) ∧ i_P i_MT i_AT L xs 351 1490 [some (.retAddr 3), some (.ref x1), some (.ref x2), some (.int x3)] [.int r224] h223 173 127414 Q)))) ∧ (((xs x3.toNatClampNeg) &&& (63 : Int32)).toInt = 37 → (¬ ((x3 + (1 : Int32)) < 0 ∨ L ≤ (x3 + (1 : Int32)).toNatClampNeg) ∧ (i_obj? h x1 11 ∧ i_C i_MT i_AT L xs 166 [.ref x1, .int (xs (x3 + (1 : Int32)).toNatClampNeg)] h (fun v h227 => ∃ r228 : Int32, v = some (.int r228) ∧ i_P i_MT i_AT L xs 351 1513 [some (.retAddr 3), some (.ref x1), some (.ref x2), some (.int x3)] [.int r228] h227 173 127414 Q)))) ∧ (((xs x3.toNatClampNeg) &&& (63 : Int32)).toInt = 38 → (¬ ((x3 + (1 : Int32)) < 0 ∨ L ≤ (x3 + (1 : Int32)).toNatClampNeg) ∧ (¬ ((x3 + (2 : Int32)) < 0 ∨ L ≤ (x3 + (2 : Int32)).toNatClampNeg) ∧ (i_obj? h x1 11 ∧ i_C i_MT i_AT L xs 167 [.ref x1, .int (xs (x3 + (1 : Int32)).toNatClampNeg), .int (xs (x3 + (2 : Int32)).toNatClampNeg)] h (fun v h233 => ∃ r234 : Int32, v = some (.int r234) ∧ i_P i_MT i_AT L xs 351 1541 [some (.retAddr 3), some (.ref x1), some (.ref x2), some (.int x3)] [.int r234] h233 173 127414 Q))))) ∧ (((xs x3.toNatClampNeg) &&& (63 : Int32)).toInt = 39 → (¬ ((x3 + (1 : Int32)) < 0 ∨ L ≤ (x3 + (1 : Int32)).toNatClampNeg) ∧ (¬ ((x3 + (2 : Int32)) < 0 ∨ L ≤ (x3 + (2 : Int32)).toNatClampNeg) ∧ (i_obj? h x1 11 ∧ i_C i_MT i_AT L xs 168 [.ref x1, .int (xs (x3 + (1 : Int32)).toNatClampNeg), .int (xs (x3 + (2 : Int32)).toNatClampNeg)] h (fun v h239 => ∃ r240 : Int32, v = some (.int r240) ∧ i_P i_MT i_AT L xs 351 1574 [some (.retAddr 3), some (.ref x1), some (.ref x2), some (.int x3)] [.int r240] h239 173 127414 Q))))) ∧ (((xs x3.toNatClampNeg) &&& (63 : Int32)).toInt = 40 → (¬ ((x3 + (1 : Int32)) < 0 ∨ L ≤ (x3 + (1 : Int32)).toNatClampNeg) ∧ (¬ ((x3 + (2 : Int32)) < 0 ∨ L ≤ (x3 + (2 : Int32)).toNatClampNeg) ∧ (¬ ((x3 + (3 : Int32)) < 0 ∨ L ≤ (x3 + (3 : Int32)).toNatClampNeg) ∧ (i_obj? h x1 11 ∧ i_C i_MT i_AT L xs 169 [.ref x1, .int (xs (x3 + (1 : Int32)).toNatClampNeg), .int (xs (x3 + (2 : Int32)).toNatClampNeg), .int (xs (x3 + (3 : Int32)).toNatClampNeg)] h (fun v h247 => ∃ r248 : Int32, v = some (.int r248) ∧ i_P i_MT i_AT L xs 351 1612 [some (.retAddr 3), some (.ref x1), some (.ref x2), some (.int x3)] [.int r248] h247 173 127414 Q)))))) ∧ (((xs x3.toNatClampNeg) &&& (63 : Int32)).toInt = 41 → (¬ ((x3 + (1 : Int32)) < 0 ∨ L ≤ (x3 + (1 : Int32)).toNatClampNeg) ∧ (¬ ((x3 + (2 : Int32)) < 0 ∨ L ≤ (x3 + (2 : Int32)).toNatClampNeg) ∧ (¬ ((x3 + (3 : Int32)) < 0 ∨ L ≤ (x3 + (3 : Int32)).toNatClampNeg) ∧ (i_obj? h x1 11 ∧ i_C i_MT i_AT L xs 170 [.ref x1, .int (xs (x3 + (1 : Int32)).toNatClampNeg), .int (xs (x3 + (2 : Int32)).toNatClampNeg), .int (xs (x3 + (3 : Int32)).toNatClampNeg)] h (fun v h255 => ∃ r256 : Int32, v = some (.int r256) ∧ i_P i_MT i_AT L xs 351 1655 [some (.retAddr 3), some (.ref x1), some (.ref x2), some (.int x3)] [.int r256] h255 173 127414 Q)))))) ∧ (((xs x3.toNatClampNeg) &&& (63 : Int32)).toInt = 42 → (¬ ((x3 + (1 : Int32)) < 0 ∨ L ≤ (x3 + (1 : Int32)).toNatClampNeg) ∧ (¬ ((x3 + (2 : Int32)) < 0 ∨ L ≤ (x3 + (2 : Int32)).toNatClampNeg) ∧ (i_obj? h x1 11 ∧ i_C i_MT i_AT L xs 171 [.ref x1, .int (xs (x3 + (1 : Int32)).toNatClampNeg), .int (xs (x3 + (2 : Int32)).toNatClampNeg)] h (fun v h261 => ∃ r262 : Int32, v = some (.int r262) ∧ i_P i_MT i_AT L xs 351 1693 [some (.retAddr 3), some (.ref x1), some (.ref x2), some (.int x3)] [.int r262] h261 173 127414 Q))))) ∧ (((xs x3.toNatClampNeg) &&& (63 : Int32)).toInt = 43 → (¬ ((x3 + (1 : Int32)) < 0 ∨ L ≤ (x3 + (1 : Int32)).toNatClampNeg) ∧ (i_obj? h x1 11 ∧ i_C i_MT i_AT L xs 172 [.ref x1, .int (xs (x3 + (1 : Int32)).toNatClampNeg)] h (fun v h265 => ∃ r266 : Int32, v = some (.int r266) ∧ i_P i_MT i_AT L xs 351 1721 [some (.retAddr 3), some (.ref x1), some (.ref x2), some (.int x3)] [.int r266] h265 173 127414 Q)))) ∧ (((xs x3.toNatClampNeg) &&& (63 : Int32)).toInt = 44 → (¬ ((x3 + (1 : Int32)) < 0 ∨ L ≤ (x3 + (1 : Int32)).toNatClampNeg) ∧ (i_obj? h x1 11 ∧ i_C i_MT i_AT L xs 173 [.ref x1, .int (xs (x3 + (1 : Int32)).toNatClampNeg)] h (fun v h269 => ∃ r270 : Int32, v = some (.int r270) ∧ i_P i_MT i_AT L xs 351 1744 [some (.retAddr 3), some (.ref x1), some (.ref x2), some (.int x3)] [.int r270] h269 173 127414 Q)))) ∧ (((xs x3.toNatClampNeg) &&& (63 : Int32)).toInt = 45 → (¬ ((x3 + (1 : Int32)) < 0 ∨ L ≤ (x3 + (1 : Int32)).toNatClampNeg) ∧ (i_obj? h x1 11 ∧ i_C i_MT i_AT L xs 174 [.ref x1, .int (xs (x3 + (1 : Int32)).toNatClampNeg)] h (fun v h273 => ∃ r274 : Int32, v = some (.int r274) ∧ i_P i_MT i_AT L xs 351 1767 [some (.retAddr 3), some (.ref x1), some (.ref x2), some (.int x3)] [.int r274] h273 173 127414 Q)))) ∧ (((xs x3.toNatClampNeg) &&& (63 : Int32)).toInt = 46 → (i_obj? h x1 11 ∧ i_C i_MT i_AT L xs 175 [.ref x1] h (fun v h275 => ∃ r276 : Int32, v = some (.int r276) ∧ i_P i_MT i_AT L xs 351 1785 [some (.retAddr 3), some (.ref x1), some (.ref x2), some (.int x3)] [.int r276] h275 173 127414 Q))) ∧ (((xs x3.toNatClampNeg) &&& (63 : Int32)).toInt = 47 → (¬ ((x3 + (1 : Int32)) < 0 ∨ L ≤ (x3 + (1 : Int32)).toNatClampNeg) ∧ (¬ ((x3 + (2 : Int32)) < 0 ∨ L ≤ (x3 + (2 : Int32)).toNatClampNeg) ∧ (i_obj? h x1 11 ∧ i_C i_MT i_AT L xs 176 [.ref x1, .int (xs (x3 + (1 : Int32)).toNatClampNeg), .int (xs (x3 + (2 : Int32)).toNatClampNeg)] h (fun v h281 => ∃ r282 : Int32, v = some (.int r282) ∧ i_P i_MT i_AT L xs 351 1808 [some (.retAddr 3), some (.ref x1), some (.ref x2), some (.int x3)] [.int r282] h281 173 127414 Q))))) ∧ (((xs x3.toNatClampNeg) &&& (63 : Int32)).toInt = 48 → (i_obj? h x1 11 ∧ i_C i_MT i_AT L xs 177 [.ref x1] h (fun v h283 => ∃ r284 : Int32, v = some (.int r284) ∧ i_P i_MT i_AT L xs 351 1831 [some (.retAddr 3), some (.ref x1), some (.ref x2), some (.int x3)] [.int r284] h283 173 127414 Q))) ∧ (((xs x3.toNatClampNeg) &&& (63 : Int32)).toInt = 49 → (i_obj? h x1 11 ∧ i_C i_MT i_AT L xs 178 [.ref x1] h (fun v h285 => ∃ r286 : Int32, v = some (.int r286) ∧ i_P i_MT i_AT L xs 351 1844 [some (.retAddr 3), some (.ref x1), some (.ref x2), some (.int x3)] [.int r286] h285 173 127414 Q)))))))) : i_P i_MT i_AT L xs 351 18 [some (.retAddr 3), some (.ref x1), some (.ref x2), some (.int x3)] [] h 173 127414 Q := by
  have hk := i_k351
  refine g_s1 (pc2 := 19) hk rfl rfl rfl rfl rfl ?_
  refine g_s1 (pc2 := 20) hk rfl rfl rfl rfl rfl ?_
  refine g_step (pc2 := 21) hk rfl rfl rfl (s_alenX (L := L) (xs := xs) (j := 3) rfl) ?_
  refine g_s1 (pc2 := 23) (st2 := [.int (6 : Int32), .int (Int32.ofNat L), .int x3]) hk rfl rfl rfl rfl rfl ?_
  refine g_s1 (pc2 := 24) hk rfl rfl rfl rfl rfl ?_
  refine g_icmp_gt hk rfl (fun hc => ?_) (fun hc => ?_)
  · have H := H.1 hc
    refine g_s1 (pc2 := 1860) (st2 := [.int (1 : Int32)]) hk rfl rfl rfl rfl rfl ?_
    exact g_ireturn hk rfl (by decide) (by decide) rfl H
  · have H := H.2 hc
    refine g_s1 (pc2 := 28) hk rfl rfl rfl rfl rfl ?_
    refine g_s1 (pc2 := 29) hk rfl rfl rfl rfl rfl ?_
    obtain ⟨hi, H⟩ := H
    refine g_step (pc2 := 30) hk rfl rfl rfl (s_agetX (L := L) (xs := xs) (j := 3) rfl hi) ?_
    refine g_s1 (pc2 := 32) (st2 := [.int (63 : Int32), .int (xs x3.toNatClampNeg)]) hk rfl rfl rfl rfl rfl ?_
    refine g_s1 (pc2 := 33) hk rfl rfl rfl rfl rfl ?_
    rcases (show (((xs x3.toNatClampNeg) &&& (63 : Int32)).toInt < 0 ∨ 49 < ((xs x3.toNatClampNeg) &&& (63 : Int32)).toInt) ∨ ((xs x3.toNatClampNeg) &&& (63 : Int32)).toInt = 0 ∨ ((xs x3.toNatClampNeg) &&& (63 : Int32)).toInt = 1 ∨ ((xs x3.toNatClampNeg) &&& (63 : Int32)).toInt = 2 ∨ ((xs x3.toNatClampNeg) &&& (63 : Int32)).toInt = 3 ∨ ((xs x3.toNatClampNeg) &&& (63 : Int32)).toInt = 4 ∨ ((xs x3.toNatClampNeg) &&& (63 : Int32)).toInt = 5 ∨ ((xs x3.toNatClampNeg) &&& (63 : Int32)).toInt = 6 ∨ ((xs x3.toNatClampNeg) &&& (63 : Int32)).toInt = 7 ∨ ((xs x3.toNatClampNeg) &&& (63 : Int32)).toInt = 8 ∨ ((xs x3.toNatClampNeg) &&& (63 : Int32)).toInt = 9 ∨ ((xs x3.toNatClampNeg) &&& (63 : Int32)).toInt = 10 ∨ ((xs x3.toNatClampNeg) &&& (63 : Int32)).toInt = 11 ∨ ((xs x3.toNatClampNeg) &&& (63 : Int32)).toInt = 12 ∨ ((xs x3.toNatClampNeg) &&& (63 : Int32)).toInt = 13 ∨ ((xs x3.toNatClampNeg) &&& (63 : Int32)).toInt = 14 ∨ ((xs x3.toNatClampNeg) &&& (63 : Int32)).toInt = 15 ∨ ((xs x3.toNatClampNeg) &&& (63 : Int32)).toInt = 16 ∨ ((xs x3.toNatClampNeg) &&& (63 : Int32)).toInt = 17 ∨ ((xs x3.toNatClampNeg) &&& (63 : Int32)).toInt = 18 ∨ ((xs x3.toNatClampNeg) &&& (63 : Int32)).toInt = 19 ∨ ((xs x3.toNatClampNeg) &&& (63 : Int32)).toInt = 20 ∨ ((xs x3.toNatClampNeg) &&& (63 : Int32)).toInt = 21 ∨ ((xs x3.toNatClampNeg) &&& (63 : Int32)).toInt = 22 ∨ ((xs x3.toNatClampNeg) &&& (63 : Int32)).toInt = 23 ∨ ((xs x3.toNatClampNeg) &&& (63 : Int32)).toInt = 24 ∨ ((xs x3.toNatClampNeg) &&& (63 : Int32)).toInt = 25 ∨ ((xs x3.toNatClampNeg) &&& (63 : Int32)).toInt = 26 ∨ ((xs x3.toNatClampNeg) &&& (63 : Int32)).toInt = 27 ∨ ((xs x3.toNatClampNeg) &&& (63 : Int32)).toInt = 28 ∨ ((xs x3.toNatClampNeg) &&& (63 : Int32)).toInt = 29 ∨ ((xs x3.toNatClampNeg) &&& (63 : Int32)).toInt = 30 ∨ ((xs x3.toNatClampNeg) &&& (63 : Int32)).toInt = 31 ∨ ((xs x3.toNatClampNeg) &&& (63 : Int32)).toInt = 32 ∨ ((xs x3.toNatClampNeg) &&& (63 : Int32)).toInt = 33 ∨ ((xs x3.toNatClampNeg) &&& (63 : Int32)).toInt = 34 ∨ ((xs x3.toNatClampNeg) &&& (63 : Int32)).toInt = 35 ∨ ((xs x3.toNatClampNeg) &&& (63 : Int32)).toInt = 36 ∨ ((xs x3.toNatClampNeg) &&& (63 : Int32)).toInt = 37 ∨ ((xs x3.toNatClampNeg) &&& (63 : Int32)).toInt = 38 ∨ ((xs x3.toNatClampNeg) &&& (63 : Int32)).toInt = 39 ∨ ((xs x3.toNatClampNeg) &&& (63 : Int32)).toInt = 40 ∨ ((xs x3.toNatClampNeg) &&& (63 : Int32)).toInt = 41 ∨ ((xs x3.toNatClampNeg) &&& (63 : Int32)).toInt = 42 ∨ ((xs x3.toNatClampNeg) &&& (63 : Int32)).toInt = 43 ∨ ((xs x3.toNatClampNeg) &&& (63 : Int32)).toInt = 44 ∨ ((xs x3.toNatClampNeg) &&& (63 : Int32)).toInt = 45 ∨ ((xs x3.toNatClampNeg) &&& (63 : Int32)).toInt = 46 ∨ ((xs x3.toNatClampNeg) &&& (63 : Int32)).toInt = 47 ∨ ((xs x3.toNatClampNeg) &&& (63 : Int32)).toInt = 48 ∨ ((xs x3.toNatClampNeg) &&& (63 : Int32)).toInt = 49 by omega) with hx | hx | hx | hx | hx | hx | hx | hx | hx | hx | hx | hx | hx | hx | hx | hx | hx | hx | hx | hx | hx | hx | hx | hx | hx | hx | hx | hx | hx | hx | hx | hx | hx | hx | hx | hx | hx | hx | hx | hx | hx | hx | hx | hx | hx | hx | hx | hx | hx | hx | hx
    · refine g_sw (t := 1853) hk rfl (by unfold i_swt; rw [if_pos hx]; rfl) ?_
      have H := H.1 hx
      exact H
    · refine g_sw (t := 248) hk rfl (by rw [hx]; rfl) ?_
      have H := H.2.1 hx
      refine g_s1 (pc2 := 249) hk rfl rfl rfl rfl rfl ?_
      obtain ⟨ho, H⟩ := H
      refine g_call hk rfl rfl i_k129.1 ⟨rfl, rfl⟩ rfl (i_rcv_v ho rfl (by decide)) rfl ?_
      exact H.mono (fun v h2 q => by obtain ⟨r, rfl, q⟩ := q; exact q)
    · refine g_sw (t := 261) hk rfl (by rw [hx]; rfl) ?_
      have H := H.2.2.1 hx
      refine g_s1 (pc2 := 262) hk rfl rfl rfl rfl rfl ?_
      obtain ⟨ho, H⟩ := H
      refine g_call hk rfl rfl i_k130.1 ⟨rfl, rfl⟩ rfl (i_rcv_v ho rfl (by decide)) rfl ?_
      exact H.mono (fun v h2 q => by obtain ⟨r, rfl, q⟩ := q; exact q)
    · refine g_sw (t := 275) hk rfl (by rw [hx]; rfl) ?_
      have H := H.2.2.2.1 hx
      refine g_s1 (pc2 := 276) hk rfl rfl rfl rfl rfl ?_
      obtain ⟨ho, H⟩ := H
      refine g_call hk rfl rfl i_k131.1 ⟨rfl, rfl⟩ rfl (i_rcv_v ho rfl (by decide)) rfl ?_
      exact H.mono (fun v h2 q => by obtain ⟨r, rfl, q⟩ := q; exact q)
    · refine g_sw (t := 289) hk rfl (by rw [hx]; rfl) ?_
      have H := H.2.2.2.2.1 hx
      refine g_s1 (pc2 := 290) hk rfl rfl rfl rfl rfl ?_
      refine g_s1 (pc2 := 291) hk rfl rfl rfl rfl rfl ?_
      refine g_s1 (pc2 := 292) hk rfl rfl rfl rfl rfl ?_
      refine g_s1 (pc2 := 293) (st2 := [.int (1 : Int32), .int x3, .retAddr 3, .ref x1]) hk rfl rfl rfl rfl rfl ?_
      refine g_s1 (pc2 := 294) hk rfl rfl rfl rfl rfl ?_
      obtain ⟨hi, H⟩ := H
      refine g_step (pc2 := 295) hk rfl rfl rfl (s_agetX (L := L) (xs := xs) (j := 3) rfl hi) ?_
      refine g_s1 (pc2 := 296) hk rfl rfl rfl rfl rfl ?_
      refine g_s1 (pc2 := 297) hk rfl rfl rfl rfl rfl ?_
      refine g_s1 (pc2 := 298) (st2 := [.int (2 : Int32), .int x3, .retAddr 3, .int (xs (x3 + (1 : Int32)).toNatClampNeg), .ref x1]) hk rfl rfl rfl rfl rfl ?_
      refine g_s1 (pc2 := 299) hk rfl rfl rfl rfl rfl ?_
      obtain ⟨hi, H⟩ := H
      refine g_step (pc2 := 300) hk rfl rfl rfl (s_agetX (L := L) (xs := xs) (j := 3) rfl hi) ?_
      refine g_s1 (pc2 := 301) hk rfl rfl rfl rfl rfl ?_
      refine g_s1 (pc2 := 302) hk rfl rfl rfl rfl rfl ?_
      refine g_s1 (pc2 := 303) (st2 := [.int (3 : Int32), .int x3, .retAddr 3, .int (xs (x3 + (2 : Int32)).toNatClampNeg), .int (xs (x3 + (1 : Int32)).toNatClampNeg), .ref x1]) hk rfl rfl rfl rfl rfl ?_
      refine g_s1 (pc2 := 304) hk rfl rfl rfl rfl rfl ?_
      obtain ⟨hi, H⟩ := H
      refine g_step (pc2 := 305) hk rfl rfl rfl (s_agetX (L := L) (xs := xs) (j := 3) rfl hi) ?_
      obtain ⟨ho, H⟩ := H
      refine g_call hk rfl rfl i_k132.1 ⟨rfl, rfl⟩ rfl (i_rcv_v ho rfl (by decide)) rfl ?_
      exact H.mono (fun v h2 q => by obtain ⟨r, rfl, q⟩ := q; exact q)
    · refine g_sw (t := 332) hk rfl (by rw [hx]; rfl) ?_
      have H := H.2.2.2.2.2.1 hx
      refine g_s1 (pc2 := 333) hk rfl rfl rfl rfl rfl ?_
      refine g_s1 (pc2 := 334) hk rfl rfl rfl rfl rfl ?_
      refine g_s1 (pc2 := 335) hk rfl rfl rfl rfl rfl ?_
      refine g_s1 (pc2 := 336) (st2 := [.int (1 : Int32), .int x3, .retAddr 3, .ref x1]) hk rfl rfl rfl rfl rfl ?_
      refine g_s1 (pc2 := 337) hk rfl rfl rfl rfl rfl ?_
      obtain ⟨hi, H⟩ := H
      refine g_step (pc2 := 338) hk rfl rfl rfl (s_agetX (L := L) (xs := xs) (j := 3) rfl hi) ?_
      refine g_s1 (pc2 := 339) hk rfl rfl rfl rfl rfl ?_
      refine g_s1 (pc2 := 340) hk rfl rfl rfl rfl rfl ?_
      refine g_s1 (pc2 := 341) (st2 := [.int (2 : Int32), .int x3, .retAddr 3, .int (xs (x3 + (1 : Int32)).toNatClampNeg), .ref x1]) hk rfl rfl rfl rfl rfl ?_
      refine g_s1 (pc2 := 342) hk rfl rfl rfl rfl rfl ?_
      obtain ⟨hi, H⟩ := H
      refine g_step (pc2 := 343) hk rfl rfl rfl (s_agetX (L := L) (xs := xs) (j := 3) rfl hi) ?_
      refine g_s1 (pc2 := 344) hk rfl rfl rfl rfl rfl ?_
      refine g_s1 (pc2 := 345) hk rfl rfl rfl rfl rfl ?_
      refine g_s1 (pc2 := 346) (st2 := [.int (3 : Int32), .int x3, .retAddr 3, .int (xs (x3 + (2 : Int32)).toNatClampNeg), .int (xs (x3 + (1 : Int32)).toNatClampNeg), .ref x1]) hk rfl rfl rfl rfl rfl ?_
      refine g_s1 (pc2 := 347) hk rfl rfl rfl rfl rfl ?_
      obtain ⟨hi, H⟩ := H
      refine g_step (pc2 := 348) hk rfl rfl rfl (s_agetX (L := L) (xs := xs) (j := 3) rfl hi) ?_
      refine g_s1 (pc2 := 349) hk rfl rfl rfl rfl rfl ?_
      refine g_s1 (pc2 := 351) (st2 := [.int (32 : Int32), .long ((xs (x3 + (3 : Int32)).toNatClampNeg).toInt64), .int (xs (x3 + (2 : Int32)).toNatClampNeg), .int (xs (x3 + (1 : Int32)).toNatClampNeg), .ref x1]) hk rfl rfl rfl rfl rfl ?_
      refine g_s1 (pc2 := 352) hk rfl rfl rfl rfl rfl ?_
      refine g_s1 (pc2 := 353) hk rfl rfl rfl rfl rfl ?_
      refine g_s1 (pc2 := 354) hk rfl rfl rfl rfl rfl ?_
      refine g_s1 (pc2 := 355) (st2 := [.int (4 : Int32), .int x3, .retAddr 3, .long (((xs (x3 + (3 : Int32)).toNatClampNeg).toInt64) <<< ((32 : Int32).toInt64 &&& 63)), .int (xs (x3 + (2 : Int32)).toNatClampNeg), .int (xs (x3 + (1 : Int32)).toNatClampNeg), .ref x1]) hk rfl rfl rfl rfl rfl ?_
      refine g_s1 (pc2 := 356) hk rfl rfl rfl rfl rfl ?_
      obtain ⟨hi, H⟩ := H
      refine g_step (pc2 := 357) hk rfl rfl rfl (s_agetX (L := L) (xs := xs) (j := 3) rfl hi) ?_
      refine g_s1 (pc2 := 358) hk rfl rfl rfl rfl rfl ?_
      refine g_step (pc2 := 361) (st2 := [.long (4294967295 : Int64), .long ((xs (x3 + (4 : Int32)).toNatClampNeg).toInt64), .long (((xs (x3 + (3 : Int32)).toNatClampNeg).toInt64) <<< ((32 : Int32).toInt64 &&& 63)), .int (xs (x3 + (2 : Int32)).toNatClampNeg), .int (xs (x3 + (1 : Int32)).toNatClampNeg), .ref x1]) hk rfl rfl rfl rfl ?_
      refine g_s1 (pc2 := 362) hk rfl rfl rfl rfl rfl ?_
      refine g_s1 (pc2 := 363) hk rfl rfl rfl rfl rfl ?_
      obtain ⟨ho, H⟩ := H
      refine g_call hk rfl rfl i_k133.1 ⟨rfl, rfl⟩ rfl (i_rcv_v ho rfl (by decide)) rfl ?_
      exact H.mono (fun v h2 q => by obtain ⟨r, rfl, q⟩ := q; exact q)
    · refine g_sw (t := 405) hk rfl (by rw [hx]; rfl) ?_
      have H := H.2.2.2.2.2.2.1 hx
      refine g_s1 (pc2 := 406) hk rfl rfl rfl rfl rfl ?_
      refine g_s1 (pc2 := 407) hk rfl rfl rfl rfl rfl ?_
      refine g_s1 (pc2 := 408) hk rfl rfl rfl rfl rfl ?_
      refine g_s1 (pc2 := 409) (st2 := [.int (1 : Int32), .int x3, .retAddr 3, .ref x1]) hk rfl rfl rfl rfl rfl ?_
      refine g_s1 (pc2 := 410) hk rfl rfl rfl rfl rfl ?_
      obtain ⟨hi, H⟩ := H
      refine g_step (pc2 := 411) hk rfl rfl rfl (s_agetX (L := L) (xs := xs) (j := 3) rfl hi) ?_
      refine g_s1 (pc2 := 412) hk rfl rfl rfl rfl rfl ?_
      refine g_s1 (pc2 := 413) hk rfl rfl rfl rfl rfl ?_
      refine g_s1 (pc2 := 414) (st2 := [.int (2 : Int32), .int x3, .retAddr 3, .int (xs (x3 + (1 : Int32)).toNatClampNeg), .ref x1]) hk rfl rfl rfl rfl rfl ?_
      refine g_s1 (pc2 := 415) hk rfl rfl rfl rfl rfl ?_
      obtain ⟨hi, H⟩ := H
      refine g_step (pc2 := 416) hk rfl rfl rfl (s_agetX (L := L) (xs := xs) (j := 3) rfl hi) ?_
      obtain ⟨ho, H⟩ := H
      refine g_call hk rfl rfl i_k134.1 ⟨rfl, rfl⟩ rfl (i_rcv_v ho rfl (by decide)) rfl ?_
      exact H.mono (fun v h2 q => by obtain ⟨r, rfl, q⟩ := q; exact q)
    · refine g_sw (t := 439) hk rfl (by rw [hx]; rfl) ?_
      have H := H.2.2.2.2.2.2.2.1 hx
      refine g_s1 (pc2 := 440) hk rfl rfl rfl rfl rfl ?_
      refine g_s1 (pc2 := 441) hk rfl rfl rfl rfl rfl ?_
      refine g_s1 (pc2 := 442) hk rfl rfl rfl rfl rfl ?_
      refine g_s1 (pc2 := 443) (st2 := [.int (1 : Int32), .int x3, .retAddr 3, .ref x1]) hk rfl rfl rfl rfl rfl ?_
      refine g_s1 (pc2 := 444) hk rfl rfl rfl rfl rfl ?_
      obtain ⟨hi, H⟩ := H
      refine g_step (pc2 := 445) hk rfl rfl rfl (s_agetX (L := L) (xs := xs) (j := 3) rfl hi) ?_
      refine g_s1 (pc2 := 446) hk rfl rfl rfl rfl rfl ?_
      refine g_s1 (pc2 := 447) hk rfl rfl rfl rfl rfl ?_
      refine g_s1 (pc2 := 448) (st2 := [.int (2 : Int32), .int x3, .retAddr 3, .int (xs (x3 + (1 : Int32)).toNatClampNeg), .ref x1]) hk rfl rfl rfl rfl rfl ?_
      refine g_s1 (pc2 := 449) hk rfl rfl rfl rfl rfl ?_
      obtain ⟨hi, H⟩ := H
      refine g_step (pc2 := 450) hk rfl rfl rfl (s_agetX (L := L) (xs := xs) (j := 3) rfl hi) ?_
      refine g_s1 (pc2 := 451) hk rfl rfl rfl rfl rfl ?_
      refine g_s1 (pc2 := 452) hk rfl rfl rfl rfl rfl ?_
      refine g_s1 (pc2 := 453) (st2 := [.int (3 : Int32), .int x3, .retAddr 3, .int (xs (x3 + (2 : Int32)).toNatClampNeg), .int (xs (x3 + (1 : Int32)).toNatClampNeg), .ref x1]) hk rfl rfl rfl rfl rfl ?_
      refine g_s1 (pc2 := 454) hk rfl rfl rfl rfl rfl ?_
      obtain ⟨hi, H⟩ := H
      refine g_step (pc2 := 455) hk rfl rfl rfl (s_agetX (L := L) (xs := xs) (j := 3) rfl hi) ?_
      refine g_s1 (pc2 := 456) hk rfl rfl rfl rfl rfl ?_
      refine g_s1 (pc2 := 457) hk rfl rfl rfl rfl rfl ?_
      refine g_s1 (pc2 := 458) (st2 := [.int (4 : Int32), .int x3, .retAddr 3, .int (xs (x3 + (3 : Int32)).toNatClampNeg), .int (xs (x3 + (2 : Int32)).toNatClampNeg), .int (xs (x3 + (1 : Int32)).toNatClampNeg), .ref x1]) hk rfl rfl rfl rfl rfl ?_
      refine g_s1 (pc2 := 459) hk rfl rfl rfl rfl rfl ?_
      obtain ⟨hi, H⟩ := H
      refine g_step (pc2 := 460) hk rfl rfl rfl (s_agetX (L := L) (xs := xs) (j := 3) rfl hi) ?_
      refine g_s1 (pc2 := 461) hk rfl rfl rfl rfl rfl ?_
      refine g_s1 (pc2 := 462) hk rfl rfl rfl rfl rfl ?_
      refine g_s1 (pc2 := 463) (st2 := [.int (5 : Int32), .int x3, .retAddr 3, .int (xs (x3 + (4 : Int32)).toNatClampNeg), .int (xs (x3 + (3 : Int32)).toNatClampNeg), .int (xs (x3 + (2 : Int32)).toNatClampNeg), .int (xs (x3 + (1 : Int32)).toNatClampNeg), .ref x1]) hk rfl rfl rfl rfl rfl ?_
      refine g_s1 (pc2 := 464) hk rfl rfl rfl rfl rfl ?_
      obtain ⟨hi, H⟩ := H
      refine g_step (pc2 := 465) hk rfl rfl rfl (s_agetX (L := L) (xs := xs) (j := 3) rfl hi) ?_
      obtain ⟨ho, H⟩ := H
      refine g_call hk rfl rfl i_k135.1 ⟨rfl, rfl⟩ rfl (i_rcv_v ho rfl (by decide)) rfl ?_
      exact H.mono (fun v h2 q => by obtain ⟨r, rfl, q⟩ := q; exact q)
    · refine g_sw (t := 502) hk rfl (by rw [hx]; rfl) ?_
      have H := H.2.2.2.2.2.2.2.2.1 hx
      refine g_s1 (pc2 := 503) hk rfl rfl rfl rfl rfl ?_
      refine g_s1 (pc2 := 504) hk rfl rfl rfl rfl rfl ?_
      refine g_s1 (pc2 := 505) hk rfl rfl rfl rfl rfl ?_
      refine g_s1 (pc2 := 506) (st2 := [.int (1 : Int32), .int x3, .retAddr 3, .ref x1]) hk rfl rfl rfl rfl rfl ?_
      refine g_s1 (pc2 := 507) hk rfl rfl rfl rfl rfl ?_
      obtain ⟨hi, H⟩ := H
      refine g_step (pc2 := 508) hk rfl rfl rfl (s_agetX (L := L) (xs := xs) (j := 3) rfl hi) ?_
      refine g_s1 (pc2 := 509) hk rfl rfl rfl rfl rfl ?_
      refine g_s1 (pc2 := 510) hk rfl rfl rfl rfl rfl ?_
      refine g_s1 (pc2 := 511) (st2 := [.int (2 : Int32), .int x3, .retAddr 3, .int (xs (x3 + (1 : Int32)).toNatClampNeg), .ref x1]) hk rfl rfl rfl rfl rfl ?_
      refine g_s1 (pc2 := 512) hk rfl rfl rfl rfl rfl ?_
      obtain ⟨hi, H⟩ := H
      refine g_step (pc2 := 513) hk rfl rfl rfl (s_agetX (L := L) (xs := xs) (j := 3) rfl hi) ?_
      refine g_s1 (pc2 := 514) hk rfl rfl rfl rfl rfl ?_
      refine g_s1 (pc2 := 515) hk rfl rfl rfl rfl rfl ?_
      refine g_s1 (pc2 := 516) (st2 := [.int (3 : Int32), .int x3, .retAddr 3, .int (xs (x3 + (2 : Int32)).toNatClampNeg), .int (xs (x3 + (1 : Int32)).toNatClampNeg), .ref x1]) hk rfl rfl rfl rfl rfl ?_
      refine g_s1 (pc2 := 517) hk rfl rfl rfl rfl rfl ?_
      obtain ⟨hi, H⟩ := H
      refine g_step (pc2 := 518) hk rfl rfl rfl (s_agetX (L := L) (xs := xs) (j := 3) rfl hi) ?_
      refine g_s1 (pc2 := 519) hk rfl rfl rfl rfl rfl ?_
      refine g_s1 (pc2 := 520) hk rfl rfl rfl rfl rfl ?_
      refine g_s1 (pc2 := 521) (st2 := [.int (4 : Int32), .int x3, .retAddr 3, .int (xs (x3 + (3 : Int32)).toNatClampNeg), .int (xs (x3 + (2 : Int32)).toNatClampNeg), .int (xs (x3 + (1 : Int32)).toNatClampNeg), .ref x1]) hk rfl rfl rfl rfl rfl ?_
      refine g_s1 (pc2 := 522) hk rfl rfl rfl rfl rfl ?_
      obtain ⟨hi, H⟩ := H
      refine g_step (pc2 := 523) hk rfl rfl rfl (s_agetX (L := L) (xs := xs) (j := 3) rfl hi) ?_
      refine g_s1 (pc2 := 524) hk rfl rfl rfl rfl rfl ?_
      refine g_s1 (pc2 := 525) hk rfl rfl rfl rfl rfl ?_
      refine g_s1 (pc2 := 526) (st2 := [.int (5 : Int32), .int x3, .retAddr 3, .int (xs (x3 + (4 : Int32)).toNatClampNeg), .int (xs (x3 + (3 : Int32)).toNatClampNeg), .int (xs (x3 + (2 : Int32)).toNatClampNeg), .int (xs (x3 + (1 : Int32)).toNatClampNeg), .ref x1]) hk rfl rfl rfl rfl rfl ?_
      refine g_s1 (pc2 := 527) hk rfl rfl rfl rfl rfl ?_
      obtain ⟨hi, H⟩ := H
      refine g_step (pc2 := 528) hk rfl rfl rfl (s_agetX (L := L) (xs := xs) (j := 3) rfl hi) ?_
      obtain ⟨ho, H⟩ := H
      refine g_call hk rfl rfl i_k136.1 ⟨rfl, rfl⟩ rfl (i_rcv_v ho rfl (by decide)) rfl ?_
      exact H.mono (fun v h2 q => by obtain ⟨r, rfl, q⟩ := q; exact q)
    · refine g_sw (t := 565) hk rfl (by rw [hx]; rfl) ?_
      have H := H.2.2.2.2.2.2.2.2.2.1 hx
      refine g_s1 (pc2 := 566) hk rfl rfl rfl rfl rfl ?_
      refine g_s1 (pc2 := 567) hk rfl rfl rfl rfl rfl ?_
      refine g_s1 (pc2 := 568) hk rfl rfl rfl rfl rfl ?_
      refine g_s1 (pc2 := 569) (st2 := [.int (1 : Int32), .int x3, .retAddr 3, .ref x1]) hk rfl rfl rfl rfl rfl ?_
      refine g_s1 (pc2 := 570) hk rfl rfl rfl rfl rfl ?_
      obtain ⟨hi, H⟩ := H
      refine g_step (pc2 := 571) hk rfl rfl rfl (s_agetX (L := L) (xs := xs) (j := 3) rfl hi) ?_
      obtain ⟨ho, H⟩ := H
      refine g_call hk rfl rfl i_k137.1 ⟨rfl, rfl⟩ rfl (i_rcv_v ho rfl (by decide)) rfl ?_
      exact H.mono (fun v h2 q => by obtain ⟨r, rfl, q⟩ := q; exact q)
    · refine g_sw (t := 588) hk rfl (by rw [hx]; rfl) ?_
      have H := H.2.2.2.2.2.2.2.2.2.2.1 hx
      refine g_s1 (pc2 := 589) hk rfl rfl rfl rfl rfl ?_
      refine g_s1 (pc2 := 590) hk rfl rfl rfl rfl rfl ?_
      refine g_s1 (pc2 := 591) hk rfl rfl rfl rfl rfl ?_
      refine g_s1 (pc2 := 592) (st2 := [.int (1 : Int32), .int x3, .retAddr 3, .ref x1]) hk rfl rfl rfl rfl rfl ?_
      refine g_s1 (pc2 := 593) hk rfl rfl rfl rfl rfl ?_
      obtain ⟨hi, H⟩ := H
      refine g_step (pc2 := 594) hk rfl rfl rfl (s_agetX (L := L) (xs := xs) (j := 3) rfl hi) ?_
      obtain ⟨ho, H⟩ := H
      refine g_call hk rfl rfl i_k138.1 ⟨rfl, rfl⟩ rfl (i_rcv_v ho rfl (by decide)) rfl ?_
      exact H.mono (fun v h2 q => by obtain ⟨r, rfl, q⟩ := q; exact q)
    · refine g_sw (t := 611) hk rfl (by rw [hx]; rfl) ?_
      have H := H.2.2.2.2.2.2.2.2.2.2.2.1 hx
      refine g_s1 (pc2 := 612) hk rfl rfl rfl rfl rfl ?_
      refine g_s1 (pc2 := 613) hk rfl rfl rfl rfl rfl ?_
      refine g_s1 (pc2 := 614) hk rfl rfl rfl rfl rfl ?_
      refine g_s1 (pc2 := 615) (st2 := [.int (1 : Int32), .int x3, .retAddr 3, .ref x1]) hk rfl rfl rfl rfl rfl ?_
      refine g_s1 (pc2 := 616) hk rfl rfl rfl rfl rfl ?_
      obtain ⟨hi, H⟩ := H
      refine g_step (pc2 := 617) hk rfl rfl rfl (s_agetX (L := L) (xs := xs) (j := 3) rfl hi) ?_
      obtain ⟨ho, H⟩ := H
      refine g_call hk rfl rfl i_k139.1 ⟨rfl, rfl⟩ rfl (i_rcv_v ho rfl (by decide)) rfl ?_
      exact H.mono (fun v h2 q => by obtain ⟨r, rfl, q⟩ := q; exact q)
    · refine g_sw (t := 634) hk rfl (by rw [hx]; rfl) ?_
      have H := H.2.2.2.2.2.2.2.2.2.2.2.2.1 hx
      refine g_s1 (pc2 := 635) hk rfl rfl rfl rfl rfl ?_
      refine g_s1 (pc2 := 636) hk rfl rfl rfl rfl rfl ?_
      refine g_s1 (pc2 := 637) hk rfl rfl rfl rfl rfl ?_
      refine g_s1 (pc2 := 638) (st2 := [.int (1 : Int32), .int x3, .retAddr 3, .ref x1]) hk rfl rfl rfl rfl rfl ?_
      refine g_s1 (pc2 := 639) hk rfl rfl rfl rfl rfl ?_
      obtain ⟨hi, H⟩ := H
      refine g_step (pc2 := 640) hk rfl rfl rfl (s_agetX (L := L) (xs := xs) (j := 3) rfl hi) ?_
      obtain ⟨ho, H⟩ := H
      refine g_call hk rfl rfl i_k140.1 ⟨rfl, rfl⟩ rfl (i_rcv_v ho rfl (by decide)) rfl ?_
      exact H.mono (fun v h2 q => by obtain ⟨r, rfl, q⟩ := q; exact q)
    · refine g_sw (t := 657) hk rfl (by rw [hx]; rfl) ?_
      have H := H.2.2.2.2.2.2.2.2.2.2.2.2.2.1 hx
      refine g_s1 (pc2 := 658) hk rfl rfl rfl rfl rfl ?_
      refine g_s1 (pc2 := 659) hk rfl rfl rfl rfl rfl ?_
      refine g_s1 (pc2 := 660) hk rfl rfl rfl rfl rfl ?_
      refine g_s1 (pc2 := 661) (st2 := [.int (1 : Int32), .int x3, .retAddr 3, .ref x1]) hk rfl rfl rfl rfl rfl ?_
      refine g_s1 (pc2 := 662) hk rfl rfl rfl rfl rfl ?_
      obtain ⟨hi, H⟩ := H
      refine g_step (pc2 := 663) hk rfl rfl rfl (s_agetX (L := L) (xs := xs) (j := 3) rfl hi) ?_
      obtain ⟨ho, H⟩ := H
      refine g_call hk rfl rfl i_k141.1 ⟨rfl, rfl⟩ rfl (i_rcv_v ho rfl (by decide)) rfl ?_
      exact H.mono (fun v h2 q => by obtain ⟨r, rfl, q⟩ := q; exact q)
    · refine g_sw (t := 680) hk rfl (by rw [hx]; rfl) ?_
      have H := H.2.2.2.2.2.2.2.2.2.2.2.2.2.2.1 hx
      refine g_s1 (pc2 := 681) hk rfl rfl rfl rfl rfl ?_
      refine g_s1 (pc2 := 682) hk rfl rfl rfl rfl rfl ?_
      refine g_s1 (pc2 := 683) hk rfl rfl rfl rfl rfl ?_
      refine g_s1 (pc2 := 684) (st2 := [.int (1 : Int32), .int x3, .retAddr 3, .ref x1]) hk rfl rfl rfl rfl rfl ?_
      refine g_s1 (pc2 := 685) hk rfl rfl rfl rfl rfl ?_
      obtain ⟨hi, H⟩ := H
      refine g_step (pc2 := 686) hk rfl rfl rfl (s_agetX (L := L) (xs := xs) (j := 3) rfl hi) ?_
      obtain ⟨ho, H⟩ := H
      refine g_call hk rfl rfl i_k142.1 ⟨rfl, rfl⟩ rfl (i_rcv_v ho rfl (by decide)) rfl ?_
      exact H.mono (fun v h2 q => by obtain ⟨r, rfl, q⟩ := q; exact q)
    · refine g_sw (t := 703) hk rfl (by rw [hx]; rfl) ?_
      have H := H.2.2.2.2.2.2.2.2.2.2.2.2.2.2.2.1 hx
      refine g_s1 (pc2 := 704) hk rfl rfl rfl rfl rfl ?_
      refine g_s1 (pc2 := 705) hk rfl rfl rfl rfl rfl ?_
      refine g_s1 (pc2 := 706) hk rfl rfl rfl rfl rfl ?_
      refine g_s1 (pc2 := 707) (st2 := [.int (1 : Int32), .int x3, .retAddr 3, .ref x1]) hk rfl rfl rfl rfl rfl ?_
      refine g_s1 (pc2 := 708) hk rfl rfl rfl rfl rfl ?_
      obtain ⟨hi, H⟩ := H
      refine g_step (pc2 := 709) hk rfl rfl rfl (s_agetX (L := L) (xs := xs) (j := 3) rfl hi) ?_
      refine g_s1 (pc2 := 710) hk rfl rfl rfl rfl rfl ?_
      refine g_s1 (pc2 := 711) hk rfl rfl rfl rfl rfl ?_
      refine g_s1 (pc2 := 712) (st2 := [.int (2 : Int32), .int x3, .retAddr 3, .int (xs (x3 + (1 : Int32)).toNatClampNeg), .ref x1]) hk rfl rfl rfl rfl rfl ?_
      refine g_s1 (pc2 := 713) hk rfl rfl rfl rfl rfl ?_
      obtain ⟨hi, H⟩ := H
      refine g_step (pc2 := 714) hk rfl rfl rfl (s_agetX (L := L) (xs := xs) (j := 3) rfl hi) ?_
      obtain ⟨ho, H⟩ := H
      refine g_call hk rfl rfl i_k143.1 ⟨rfl, rfl⟩ rfl (i_rcv_v ho rfl (by decide)) rfl ?_
      exact H.mono (fun v h2 q => by obtain ⟨r, rfl, q⟩ := q; exact q)
    · refine g_sw (t := 736) hk rfl (by rw [hx]; rfl) ?_
      have H := H.2.2.2.2.2.2.2.2.2.2.2.2.2.2.2.2.1 hx
      refine g_s1 (pc2 := 737) hk rfl rfl rfl rfl rfl ?_
      refine g_s1 (pc2 := 738) hk rfl rfl rfl rfl rfl ?_
      refine g_s1 (pc2 := 739) hk rfl rfl rfl rfl rfl ?_
      refine g_s1 (pc2 := 740) (st2 := [.int (1 : Int32), .int x3, .retAddr 3, .ref x1]) hk rfl rfl rfl rfl rfl ?_
      refine g_s1 (pc2 := 741) hk rfl rfl rfl rfl rfl ?_
      obtain ⟨hi, H⟩ := H
      refine g_step (pc2 := 742) hk rfl rfl rfl (s_agetX (L := L) (xs := xs) (j := 3) rfl hi) ?_
      obtain ⟨ho, H⟩ := H
      refine g_call hk rfl rfl i_k144.1 ⟨rfl, rfl⟩ rfl (i_rcv_v ho rfl (by decide)) rfl ?_
      exact H.mono (fun v h2 q => by obtain ⟨r, rfl, q⟩ := q; exact q)
    · refine g_sw (t := 759) hk rfl (by rw [hx]; rfl) ?_
      have H := H.2.2.2.2.2.2.2.2.2.2.2.2.2.2.2.2.2.1 hx
      refine g_s1 (pc2 := 760) hk rfl rfl rfl rfl rfl ?_
      refine g_s1 (pc2 := 761) hk rfl rfl rfl rfl rfl ?_
      refine g_s1 (pc2 := 762) hk rfl rfl rfl rfl rfl ?_
      refine g_s1 (pc2 := 763) (st2 := [.int (1 : Int32), .int x3, .retAddr 3, .ref x1]) hk rfl rfl rfl rfl rfl ?_
      refine g_s1 (pc2 := 764) hk rfl rfl rfl rfl rfl ?_
      obtain ⟨hi, H⟩ := H
      refine g_step (pc2 := 765) hk rfl rfl rfl (s_agetX (L := L) (xs := xs) (j := 3) rfl hi) ?_
      refine g_s1 (pc2 := 766) hk rfl rfl rfl rfl rfl ?_
      refine g_s1 (pc2 := 767) hk rfl rfl rfl rfl rfl ?_
      refine g_s1 (pc2 := 768) (st2 := [.int (2 : Int32), .int x3, .retAddr 3, .int (xs (x3 + (1 : Int32)).toNatClampNeg), .ref x1]) hk rfl rfl rfl rfl rfl ?_
      refine g_s1 (pc2 := 769) hk rfl rfl rfl rfl rfl ?_
      obtain ⟨hi, H⟩ := H
      refine g_step (pc2 := 770) hk rfl rfl rfl (s_agetX (L := L) (xs := xs) (j := 3) rfl hi) ?_
      obtain ⟨ho, H⟩ := H
      refine g_call hk rfl rfl i_k145.1 ⟨rfl, rfl⟩ rfl (i_rcv_v ho rfl (by decide)) rfl ?_
      exact H.mono (fun v h2 q => by obtain ⟨r, rfl, q⟩ := q; exact q)
    · refine g_sw (t := 792) hk rfl (by rw [hx]; rfl) ?_
      have H := H.2.2.2.2.2.2.2.2.2.2.2.2.2.2.2.2.2.2.1 hx
      refine g_s1 (pc2 := 793) hk rfl rfl rfl rfl rfl ?_
      refine g_s1 (pc2 := 794) hk rfl rfl rfl rfl rfl ?_
      refine g_s1 (pc2 := 795) hk rfl rfl rfl rfl rfl ?_
      refine g_s1 (pc2 := 796) (st2 := [.int (1 : Int32), .int x3, .retAddr 3, .ref x1]) hk rfl rfl rfl rfl rfl ?_
      refine g_s1 (pc2 := 797) hk rfl rfl rfl rfl rfl ?_
      obtain ⟨hi, H⟩ := H
      refine g_step (pc2 := 798) hk rfl rfl rfl (s_agetX (L := L) (xs := xs) (j := 3) rfl hi) ?_
      refine g_s1 (pc2 := 799) hk rfl rfl rfl rfl rfl ?_
      refine g_s1 (pc2 := 800) hk rfl rfl rfl rfl rfl ?_
      refine g_s1 (pc2 := 801) (st2 := [.int (2 : Int32), .int x3, .retAddr 3, .int (xs (x3 + (1 : Int32)).toNatClampNeg), .ref x1]) hk rfl rfl rfl rfl rfl ?_
      refine g_s1 (pc2 := 802) hk rfl rfl rfl rfl rfl ?_
      obtain ⟨hi, H⟩ := H
      refine g_step (pc2 := 803) hk rfl rfl rfl (s_agetX (L := L) (xs := xs) (j := 3) rfl hi) ?_
      obtain ⟨ho, H⟩ := H
      refine g_call hk rfl rfl i_k146.1 ⟨rfl, rfl⟩ rfl (i_rcv_v ho rfl (by decide)) rfl ?_
      exact H.mono (fun v h2 q => by obtain ⟨r, rfl, q⟩ := q; exact q)
    · refine g_sw (t := 825) hk rfl (by rw [hx]; rfl) ?_
      have H := H.2.2.2.2.2.2.2.2.2.2.2.2.2.2.2.2.2.2.2.1 hx
      refine g_s1 (pc2 := 826) hk rfl rfl rfl rfl rfl ?_
      refine g_s1 (pc2 := 827) hk rfl rfl rfl rfl rfl ?_
      refine g_s1 (pc2 := 828) hk rfl rfl rfl rfl rfl ?_
      refine g_s1 (pc2 := 829) (st2 := [.int (1 : Int32), .int x3, .retAddr 3, .ref x1]) hk rfl rfl rfl rfl rfl ?_
      refine g_s1 (pc2 := 830) hk rfl rfl rfl rfl rfl ?_
      obtain ⟨hi, H⟩ := H
      refine g_step (pc2 := 831) hk rfl rfl rfl (s_agetX (L := L) (xs := xs) (j := 3) rfl hi) ?_
      refine g_s1 (pc2 := 832) hk rfl rfl rfl rfl rfl ?_
      refine g_s1 (pc2 := 833) hk rfl rfl rfl rfl rfl ?_
      refine g_s1 (pc2 := 834) (st2 := [.int (2 : Int32), .int x3, .retAddr 3, .int (xs (x3 + (1 : Int32)).toNatClampNeg), .ref x1]) hk rfl rfl rfl rfl rfl ?_
      refine g_s1 (pc2 := 835) hk rfl rfl rfl rfl rfl ?_
      obtain ⟨hi, H⟩ := H
      refine g_step (pc2 := 836) hk rfl rfl rfl (s_agetX (L := L) (xs := xs) (j := 3) rfl hi) ?_
      obtain ⟨ho, H⟩ := H
      refine g_call hk rfl rfl i_k147.1 ⟨rfl, rfl⟩ rfl (i_rcv_v ho rfl (by decide)) rfl ?_
      exact H.mono (fun v h2 q => by obtain ⟨r, rfl, q⟩ := q; exact q)
    · refine g_sw (t := 858) hk rfl (by rw [hx]; rfl) ?_
      have H := H.2.2.2.2.2.2.2.2.2.2.2.2.2.2.2.2.2.2.2.2.1 hx
      refine g_s1 (pc2 := 859) hk rfl rfl rfl rfl rfl ?_
      refine g_s1 (pc2 := 860) hk rfl rfl rfl rfl rfl ?_
      refine g_s1 (pc2 := 861) hk rfl rfl rfl rfl rfl ?_
      refine g_s1 (pc2 := 862) (st2 := [.int (1 : Int32), .int x3, .retAddr 3, .ref x1]) hk rfl rfl rfl rfl rfl ?_
      refine g_s1 (pc2 := 863) hk rfl rfl rfl rfl rfl ?_
      obtain ⟨hi, H⟩ := H
      refine g_step (pc2 := 864) hk rfl rfl rfl (s_agetX (L := L) (xs := xs) (j := 3) rfl hi) ?_
      refine g_s1 (pc2 := 865) hk rfl rfl rfl rfl rfl ?_
      refine g_s1 (pc2 := 866) hk rfl rfl rfl rfl rfl ?_
      refine g_s1 (pc2 := 867) (st2 := [.int (2 : Int32), .int x3, .retAddr 3, .int (xs (x3 + (1 : Int32)).toNatClampNeg), .ref x1]) hk rfl rfl rfl rfl rfl ?_
      refine g_s1 (pc2 := 868) hk rfl rfl rfl rfl rfl ?_
      obtain ⟨hi, H⟩ := H
      refine g_step (pc2 := 869) hk rfl rfl rfl (s_agetX (L := L) (xs := xs) (j := 3) rfl hi) ?_
      obtain ⟨ho, H⟩ := H
      refine g_call hk rfl rfl i_k148.1 ⟨rfl, rfl⟩ rfl (i_rcv_v ho rfl (by decide)) rfl ?_
      exact H.mono (fun v h2 q => by obtain ⟨r, rfl, q⟩ := q; exact q)
    · refine g_sw (t := 891) hk rfl (by rw [hx]; rfl) ?_
      have H := H.2.2.2.2.2.2.2.2.2.2.2.2.2.2.2.2.2.2.2.2.2.1 hx
      refine g_s1 (pc2 := 892) hk rfl rfl rfl rfl rfl ?_
      refine g_s1 (pc2 := 893) hk rfl rfl rfl rfl rfl ?_
      refine g_s1 (pc2 := 894) hk rfl rfl rfl rfl rfl ?_
      refine g_s1 (pc2 := 895) (st2 := [.int (1 : Int32), .int x3, .retAddr 3, .ref x1]) hk rfl rfl rfl rfl rfl ?_
      refine g_s1 (pc2 := 896) hk rfl rfl rfl rfl rfl ?_
      obtain ⟨hi, H⟩ := H
      refine g_step (pc2 := 897) hk rfl rfl rfl (s_agetX (L := L) (xs := xs) (j := 3) rfl hi) ?_
      refine g_s1 (pc2 := 898) hk rfl rfl rfl rfl rfl ?_
      refine g_s1 (pc2 := 899) hk rfl rfl rfl rfl rfl ?_
      refine g_s1 (pc2 := 900) (st2 := [.int (2 : Int32), .int x3, .retAddr 3, .int (xs (x3 + (1 : Int32)).toNatClampNeg), .ref x1]) hk rfl rfl rfl rfl rfl ?_
      refine g_s1 (pc2 := 901) hk rfl rfl rfl rfl rfl ?_
      obtain ⟨hi, H⟩ := H
      refine g_step (pc2 := 902) hk rfl rfl rfl (s_agetX (L := L) (xs := xs) (j := 3) rfl hi) ?_
      obtain ⟨ho, H⟩ := H
      refine g_call hk rfl rfl i_k149.1 ⟨rfl, rfl⟩ rfl (i_rcv_v ho rfl (by decide)) rfl ?_
      exact H.mono (fun v h2 q => by obtain ⟨r, rfl, q⟩ := q; exact q)
    · refine g_sw (t := 925) hk rfl (by rw [hx]; rfl) ?_
      have H := H.2.2.2.2.2.2.2.2.2.2.2.2.2.2.2.2.2.2.2.2.2.2.1 hx
      refine g_s1 (pc2 := 926) hk rfl rfl rfl rfl rfl ?_
      refine g_s1 (pc2 := 927) hk rfl rfl rfl rfl rfl ?_
      refine g_s1 (pc2 := 928) hk rfl rfl rfl rfl rfl ?_
      refine g_s1 (pc2 := 929) (st2 := [.int (1 : Int32), .int x3, .retAddr 3, .ref x1]) hk rfl rfl rfl rfl rfl ?_
      refine g_s1 (pc2 := 930) hk rfl rfl rfl rfl rfl ?_
      obtain ⟨hi, H⟩ := H
      refine g_step (pc2 := 931) hk rfl rfl rfl (s_agetX (L := L) (xs := xs) (j := 3) rfl hi) ?_
      refine g_s1 (pc2 := 932) hk rfl rfl rfl rfl rfl ?_
      refine g_s1 (pc2 := 933) hk rfl rfl rfl rfl rfl ?_
      refine g_s1 (pc2 := 934) (st2 := [.int (2 : Int32), .int x3, .retAddr 3, .int (xs (x3 + (1 : Int32)).toNatClampNeg), .ref x1]) hk rfl rfl rfl rfl rfl ?_
      refine g_s1 (pc2 := 935) hk rfl rfl rfl rfl rfl ?_
      obtain ⟨hi, H⟩ := H
      refine g_step (pc2 := 936) hk rfl rfl rfl (s_agetX (L := L) (xs := xs) (j := 3) rfl hi) ?_
      refine g_s1 (pc2 := 937) hk rfl rfl rfl rfl rfl ?_
      refine g_s1 (pc2 := 938) hk rfl rfl rfl rfl rfl ?_
      refine g_s1 (pc2 := 939) (st2 := [.int (3 : Int32), .int x3, .retAddr 3, .int (xs (x3 + (2 : Int32)).toNatClampNeg), .int (xs (x3 + (1 : Int32)).toNatClampNeg), .ref x1]) hk rfl rfl rfl rfl rfl ?_
      refine g_s1 (pc2 := 940) hk rfl rfl rfl rfl rfl ?_
      obtain ⟨hi, H⟩ := H
      refine g_step (pc2 := 941) hk rfl rfl rfl (s_agetX (L := L) (xs := xs) (j := 3) rfl hi) ?_
      obtain ⟨ho, H⟩ := H
      refine g_call hk rfl rfl i_k150.1 ⟨rfl, rfl⟩ rfl (i_rcv_v ho rfl (by decide)) rfl ?_
      exact H.mono (fun v h2 q => by obtain ⟨r, rfl, q⟩ := q; exact q)
    · refine g_sw (t := 968) hk rfl (by rw [hx]; rfl) ?_
      have H := H.2.2.2.2.2.2.2.2.2.2.2.2.2.2.2.2.2.2.2.2.2.2.2.1 hx
      refine g_s1 (pc2 := 969) hk rfl rfl rfl rfl rfl ?_
      refine g_s1 (pc2 := 970) hk rfl rfl rfl rfl rfl ?_
      refine g_s1 (pc2 := 971) hk rfl rfl rfl rfl rfl ?_
      refine g_s1 (pc2 := 972) (st2 := [.int (1 : Int32), .int x3, .retAddr 3, .ref x1]) hk rfl rfl rfl rfl rfl ?_
      refine g_s1 (pc2 := 973) hk rfl rfl rfl rfl rfl ?_
      obtain ⟨hi, H⟩ := H
      refine g_step (pc2 := 974) hk rfl rfl rfl (s_agetX (L := L) (xs := xs) (j := 3) rfl hi) ?_
      refine g_s1 (pc2 := 975) hk rfl rfl rfl rfl rfl ?_
      refine g_s1 (pc2 := 976) hk rfl rfl rfl rfl rfl ?_
      refine g_s1 (pc2 := 977) (st2 := [.int (2 : Int32), .int x3, .retAddr 3, .int (xs (x3 + (1 : Int32)).toNatClampNeg), .ref x1]) hk rfl rfl rfl rfl rfl ?_
      refine g_s1 (pc2 := 978) hk rfl rfl rfl rfl rfl ?_
      obtain ⟨hi, H⟩ := H
      refine g_step (pc2 := 979) hk rfl rfl rfl (s_agetX (L := L) (xs := xs) (j := 3) rfl hi) ?_
      refine g_s1 (pc2 := 980) hk rfl rfl rfl rfl rfl ?_
      refine g_s1 (pc2 := 981) hk rfl rfl rfl rfl rfl ?_
      refine g_s1 (pc2 := 982) (st2 := [.int (3 : Int32), .int x3, .retAddr 3, .int (xs (x3 + (2 : Int32)).toNatClampNeg), .int (xs (x3 + (1 : Int32)).toNatClampNeg), .ref x1]) hk rfl rfl rfl rfl rfl ?_
      refine g_s1 (pc2 := 983) hk rfl rfl rfl rfl rfl ?_
      obtain ⟨hi, H⟩ := H
      refine g_step (pc2 := 984) hk rfl rfl rfl (s_agetX (L := L) (xs := xs) (j := 3) rfl hi) ?_
      obtain ⟨ho, H⟩ := H
      refine g_call hk rfl rfl i_k151.1 ⟨rfl, rfl⟩ rfl (i_rcv_v ho rfl (by decide)) rfl ?_
      exact H.mono (fun v h2 q => by obtain ⟨r, rfl, q⟩ := q; exact q)
    · refine g_sw (t := 1011) hk rfl (by rw [hx]; rfl) ?_
      have H := H.2.2.2.2.2.2.2.2.2.2.2.2.2.2.2.2.2.2.2.2.2.2.2.2.1 hx
      refine g_s1 (pc2 := 1012) hk rfl rfl rfl rfl rfl ?_
      refine g_s1 (pc2 := 1013) hk rfl rfl rfl rfl rfl ?_
      refine g_s1 (pc2 := 1014) hk rfl rfl rfl rfl rfl ?_
      refine g_s1 (pc2 := 1015) (st2 := [.int (1 : Int32), .int x3, .retAddr 3, .ref x1]) hk rfl rfl rfl rfl rfl ?_
      refine g_s1 (pc2 := 1016) hk rfl rfl rfl rfl rfl ?_
      obtain ⟨hi, H⟩ := H
      refine g_step (pc2 := 1017) hk rfl rfl rfl (s_agetX (L := L) (xs := xs) (j := 3) rfl hi) ?_
      refine g_s1 (pc2 := 1018) hk rfl rfl rfl rfl rfl ?_
      refine g_s1 (pc2 := 1019) hk rfl rfl rfl rfl rfl ?_
      refine g_s1 (pc2 := 1020) (st2 := [.int (2 : Int32), .int x3, .retAddr 3, .int (xs (x3 + (1 : Int32)).toNatClampNeg), .ref x1]) hk rfl rfl rfl rfl rfl ?_
      refine g_s1 (pc2 := 1021) hk rfl rfl rfl rfl rfl ?_
      obtain ⟨hi, H⟩ := H
      refine g_step (pc2 := 1022) hk rfl rfl rfl (s_agetX (L := L) (xs := xs) (j := 3) rfl hi) ?_
      refine g_s1 (pc2 := 1023) hk rfl rfl rfl rfl rfl ?_
      refine g_s1 (pc2 := 1024) hk rfl rfl rfl rfl rfl ?_
      refine g_s1 (pc2 := 1025) (st2 := [.int (3 : Int32), .int x3, .retAddr 3, .int (xs (x3 + (2 : Int32)).toNatClampNeg), .int (xs (x3 + (1 : Int32)).toNatClampNeg), .ref x1]) hk rfl rfl rfl rfl rfl ?_
      refine g_s1 (pc2 := 1026) hk rfl rfl rfl rfl rfl ?_
      obtain ⟨hi, H⟩ := H
      refine g_step (pc2 := 1027) hk rfl rfl rfl (s_agetX (L := L) (xs := xs) (j := 3) rfl hi) ?_
      obtain ⟨ho, H⟩ := H
      refine g_call hk rfl rfl i_k152.1 ⟨rfl, rfl⟩ rfl (i_rcv_v ho rfl (by decide)) rfl ?_
      exact H.mono (fun v h2 q => by obtain ⟨r, rfl, q⟩ := q; exact q)
    · refine g_sw (t := 1054) hk rfl (by rw [hx]; rfl) ?_
      have H := H.2.2.2.2.2.2.2.2.2.2.2.2.2.2.2.2.2.2.2.2.2.2.2.2.2.1 hx
      refine g_s1 (pc2 := 1055) hk rfl rfl rfl rfl rfl ?_
      refine g_s1 (pc2 := 1056) hk rfl rfl rfl rfl rfl ?_
      refine g_s1 (pc2 := 1057) hk rfl rfl rfl rfl rfl ?_
      refine g_s1 (pc2 := 1058) (st2 := [.int (1 : Int32), .int x3, .retAddr 3, .ref x1]) hk rfl rfl rfl rfl rfl ?_
      refine g_s1 (pc2 := 1059) hk rfl rfl rfl rfl rfl ?_
      obtain ⟨hi, H⟩ := H
      refine g_step (pc2 := 1060) hk rfl rfl rfl (s_agetX (L := L) (xs := xs) (j := 3) rfl hi) ?_
      refine g_s1 (pc2 := 1061) hk rfl rfl rfl rfl rfl ?_
      refine g_s1 (pc2 := 1062) hk rfl rfl rfl rfl rfl ?_
      refine g_s1 (pc2 := 1063) (st2 := [.int (2 : Int32), .int x3, .retAddr 3, .int (xs (x3 + (1 : Int32)).toNatClampNeg), .ref x1]) hk rfl rfl rfl rfl rfl ?_
      refine g_s1 (pc2 := 1064) hk rfl rfl rfl rfl rfl ?_
      obtain ⟨hi, H⟩ := H
      refine g_step (pc2 := 1065) hk rfl rfl rfl (s_agetX (L := L) (xs := xs) (j := 3) rfl hi) ?_
      refine g_s1 (pc2 := 1066) hk rfl rfl rfl rfl rfl ?_
      refine g_s1 (pc2 := 1067) hk rfl rfl rfl rfl rfl ?_
      refine g_s1 (pc2 := 1068) (st2 := [.int (3 : Int32), .int x3, .retAddr 3, .int (xs (x3 + (2 : Int32)).toNatClampNeg), .int (xs (x3 + (1 : Int32)).toNatClampNeg), .ref x1]) hk rfl rfl rfl rfl rfl ?_
      refine g_s1 (pc2 := 1069) hk rfl rfl rfl rfl rfl ?_
      obtain ⟨hi, H⟩ := H
      refine g_step (pc2 := 1070) hk rfl rfl rfl (s_agetX (L := L) (xs := xs) (j := 3) rfl hi) ?_
      obtain ⟨ho, H⟩ := H
      refine g_call hk rfl rfl i_k153.1 ⟨rfl, rfl⟩ rfl (i_rcv_v ho rfl (by decide)) rfl ?_
      exact H.mono (fun v h2 q => by obtain ⟨r, rfl, q⟩ := q; exact q)
    · refine g_sw (t := 1097) hk rfl (by rw [hx]; rfl) ?_
      have H := H.2.2.2.2.2.2.2.2.2.2.2.2.2.2.2.2.2.2.2.2.2.2.2.2.2.2.1 hx
      refine g_s1 (pc2 := 1098) hk rfl rfl rfl rfl rfl ?_
      refine g_s1 (pc2 := 1099) hk rfl rfl rfl rfl rfl ?_
      refine g_s1 (pc2 := 1100) hk rfl rfl rfl rfl rfl ?_
      refine g_s1 (pc2 := 1101) (st2 := [.int (1 : Int32), .int x3, .retAddr 3, .ref x1]) hk rfl rfl rfl rfl rfl ?_
      refine g_s1 (pc2 := 1102) hk rfl rfl rfl rfl rfl ?_
      obtain ⟨hi, H⟩ := H
      refine g_step (pc2 := 1103) hk rfl rfl rfl (s_agetX (L := L) (xs := xs) (j := 3) rfl hi) ?_
      obtain ⟨ho, H⟩ := H
      refine g_call hk rfl rfl i_k154.1 ⟨rfl, rfl⟩ rfl (i_rcv_v ho rfl (by decide)) rfl ?_
      exact H.mono (fun v h2 q => by obtain ⟨r, rfl, q⟩ := q; exact q)
    · refine g_sw (t := 1120) hk rfl (by rw [hx]; rfl) ?_
      have H := H.2.2.2.2.2.2.2.2.2.2.2.2.2.2.2.2.2.2.2.2.2.2.2.2.2.2.2.1 hx
      refine g_s1 (pc2 := 1121) hk rfl rfl rfl rfl rfl ?_
      refine g_s1 (pc2 := 1122) hk rfl rfl rfl rfl rfl ?_
      refine g_s1 (pc2 := 1123) hk rfl rfl rfl rfl rfl ?_
      refine g_s1 (pc2 := 1124) (st2 := [.int (1 : Int32), .int x3, .retAddr 3, .ref x1]) hk rfl rfl rfl rfl rfl ?_
      refine g_s1 (pc2 := 1125) hk rfl rfl rfl rfl rfl ?_
      obtain ⟨hi, H⟩ := H
      refine g_step (pc2 := 1126) hk rfl rfl rfl (s_agetX (L := L) (xs := xs) (j := 3) rfl hi) ?_
      refine g_s1 (pc2 := 1127) hk rfl rfl rfl rfl rfl ?_
      refine g_s1 (pc2 := 1128) hk rfl rfl rfl rfl rfl ?_
      refine g_s1 (pc2 := 1129) (st2 := [.int (2 : Int32), .int x3, .retAddr 3, .int (xs (x3 + (1 : Int32)).toNatClampNeg), .ref x1]) hk rfl rfl rfl rfl rfl ?_
      refine g_s1 (pc2 := 1130) hk rfl rfl rfl rfl rfl ?_
      obtain ⟨hi, H⟩ := H
      refine g_step (pc2 := 1131) hk rfl rfl rfl (s_agetX (L := L) (xs := xs) (j := 3) rfl hi) ?_
      obtain ⟨ho, H⟩ := H
      refine g_call hk rfl rfl i_k155.1 ⟨rfl, rfl⟩ rfl (i_rcv_v ho rfl (by decide)) rfl ?_
      exact H.mono (fun v h2 q => by obtain ⟨r, rfl, q⟩ := q; exact q)
    · refine g_sw (t := 1153) hk rfl (by rw [hx]; rfl) ?_
      have H := H.2.2.2.2.2.2.2.2.2.2.2.2.2.2.2.2.2.2.2.2.2.2.2.2.2.2.2.2.1 hx
      refine g_s1 (pc2 := 1154) hk rfl rfl rfl rfl rfl ?_
      refine g_s1 (pc2 := 1155) hk rfl rfl rfl rfl rfl ?_
      refine g_s1 (pc2 := 1156) hk rfl rfl rfl rfl rfl ?_
      refine g_s1 (pc2 := 1157) (st2 := [.int (1 : Int32), .int x3, .retAddr 3, .ref x1]) hk rfl rfl rfl rfl rfl ?_
      refine g_s1 (pc2 := 1158) hk rfl rfl rfl rfl rfl ?_
      obtain ⟨hi, H⟩ := H
      refine g_step (pc2 := 1159) hk rfl rfl rfl (s_agetX (L := L) (xs := xs) (j := 3) rfl hi) ?_
      obtain ⟨ho, H⟩ := H
      refine g_call hk rfl rfl i_k156.1 ⟨rfl, rfl⟩ rfl (i_rcv_v ho rfl (by decide)) rfl ?_
      exact H.mono (fun v h2 q => by obtain ⟨r, rfl, q⟩ := q; exact q)
    · refine g_sw (t := 1176) hk rfl (by rw [hx]; rfl) ?_
      have H := H.2.2.2.2.2.2.2.2.2.2.2.2.2.2.2.2.2.2.2.2.2.2.2.2.2.2.2.2.2.1 hx
      refine g_s1 (pc2 := 1177) hk rfl rfl rfl rfl rfl ?_
      refine g_s1 (pc2 := 1178) hk rfl rfl rfl rfl rfl ?_
      refine g_s1 (pc2 := 1179) hk rfl rfl rfl rfl rfl ?_
      refine g_s1 (pc2 := 1180) (st2 := [.int (1 : Int32), .int x3, .retAddr 3, .ref x1]) hk rfl rfl rfl rfl rfl ?_
      refine g_s1 (pc2 := 1181) hk rfl rfl rfl rfl rfl ?_
      obtain ⟨hi, H⟩ := H
      refine g_step (pc2 := 1182) hk rfl rfl rfl (s_agetX (L := L) (xs := xs) (j := 3) rfl hi) ?_
      refine g_s1 (pc2 := 1183) hk rfl rfl rfl rfl rfl ?_
      refine g_s1 (pc2 := 1184) hk rfl rfl rfl rfl rfl ?_
      refine g_s1 (pc2 := 1185) (st2 := [.int (2 : Int32), .int x3, .retAddr 3, .int (xs (x3 + (1 : Int32)).toNatClampNeg), .ref x1]) hk rfl rfl rfl rfl rfl ?_
      refine g_s1 (pc2 := 1186) hk rfl rfl rfl rfl rfl ?_
      obtain ⟨hi, H⟩ := H
      refine g_step (pc2 := 1187) hk rfl rfl rfl (s_agetX (L := L) (xs := xs) (j := 3) rfl hi) ?_
      refine g_s1 (pc2 := 1188) hk rfl rfl rfl rfl rfl ?_
      refine g_s1 (pc2 := 1189) hk rfl rfl rfl rfl rfl ?_
      refine g_s1 (pc2 := 1190) (st2 := [.int (3 : Int32), .int x3, .retAddr 3, .int (xs (x3 + (2 : Int32)).toNatClampNeg), .int (xs (x3 + (1 : Int32)).toNatClampNeg), .ref x1]) hk rfl rfl rfl rfl rfl ?_
      refine g_s1 (pc2 := 1191) hk rfl rfl rfl rfl rfl ?_
      obtain ⟨hi, H⟩ := H
      refine g_step (pc2 := 1192) hk rfl rfl rfl (s_agetX (L := L) (xs := xs) (j := 3) rfl hi) ?_
      obtain ⟨ho, H⟩ := H
      refine g_call hk rfl rfl i_k157.1 ⟨rfl, rfl⟩ rfl (i_rcv_v ho rfl (by decide)) rfl ?_
      exact H.mono (fun v h2 q => by obtain ⟨r, rfl, q⟩ := q; exact q)
    · refine g_sw (t := 1219) hk rfl (by rw [hx]; rfl) ?_
      have H := H.2.2.2.2.2.2.2.2.2.2.2.2.2.2.2.2.2.2.2.2.2.2.2.2.2.2.2.2.2.2.1 hx
      refine g_s1 (pc2 := 1220) hk rfl rfl rfl rfl rfl ?_
      refine g_s1 (pc2 := 1221) hk rfl rfl rfl rfl rfl ?_
      refine g_s1 (pc2 := 1222) hk rfl rfl rfl rfl rfl ?_
      refine g_s1 (pc2 := 1223) (st2 := [.int (1 : Int32), .int x3, .retAddr 3, .ref x1]) hk rfl rfl rfl rfl rfl ?_
      refine g_s1 (pc2 := 1224) hk rfl rfl rfl rfl rfl ?_
      obtain ⟨hi, H⟩ := H
      refine g_step (pc2 := 1225) hk rfl rfl rfl (s_agetX (L := L) (xs := xs) (j := 3) rfl hi) ?_
      obtain ⟨ho, H⟩ := H
      refine g_call hk rfl rfl i_k158.1 ⟨rfl, rfl⟩ rfl (i_rcv_v ho rfl (by decide)) rfl ?_
      exact H.mono (fun v h2 q => by obtain ⟨r, rfl, q⟩ := q; exact q)
    · refine g_sw (t := 1242) hk rfl (by rw [hx]; rfl) ?_
      have H := H.2.2.2.2.2.2.2.2.2.2.2.2.2.2.2.2.2.2.2.2.2.2.2.2.2.2.2.2.2.2.2.1 hx
      refine g_s1 (pc2 := 1243) hk rfl rfl rfl rfl rfl ?_
      refine g_s1 (pc2 := 1244) hk rfl rfl rfl rfl rfl ?_
      refine g_s1 (pc2 := 1245) hk rfl rfl rfl rfl rfl ?_
      refine g_s1 (pc2 := 1246) (st2 := [.int (1 : Int32), .int x3, .retAddr 3, .ref x1]) hk rfl rfl rfl rfl rfl ?_
      refine g_s1 (pc2 := 1247) hk rfl rfl rfl rfl rfl ?_
      obtain ⟨hi, H⟩ := H
      refine g_step (pc2 := 1248) hk rfl rfl rfl (s_agetX (L := L) (xs := xs) (j := 3) rfl hi) ?_
      refine g_s1 (pc2 := 1249) hk rfl rfl rfl rfl rfl ?_
      refine g_s1 (pc2 := 1250) hk rfl rfl rfl rfl rfl ?_
      refine g_s1 (pc2 := 1251) (st2 := [.int (2 : Int32), .int x3, .retAddr 3, .int (xs (x3 + (1 : Int32)).toNatClampNeg), .ref x1]) hk rfl rfl rfl rfl rfl ?_
      refine g_s1 (pc2 := 1252) hk rfl rfl rfl rfl rfl ?_
      obtain ⟨hi, H⟩ := H
      refine g_step (pc2 := 1253) hk rfl rfl rfl (s_agetX (L := L) (xs := xs) (j := 3) rfl hi) ?_
      refine g_s1 (pc2 := 1254) hk rfl rfl rfl rfl rfl ?_
      refine g_s1 (pc2 := 1256) (st2 := [.int (32 : Int32), .long ((xs (x3 + (2 : Int32)).toNatClampNeg).toInt64), .int (xs (x3 + (1 : Int32)).toNatClampNeg), .ref x1]) hk rfl rfl rfl rfl rfl ?_
      refine g_s1 (pc2 := 1257) hk rfl rfl rfl rfl rfl ?_
      refine g_s1 (pc2 := 1258) hk rfl rfl rfl rfl rfl ?_
      refine g_s1 (pc2 := 1259) hk rfl rfl rfl rfl rfl ?_
      refine g_s1 (pc2 := 1260) (st2 := [.int (3 : Int32), .int x3, .retAddr 3, .long (((xs (x3 + (2 : Int32)).toNatClampNeg).toInt64) <<< ((32 : Int32).toInt64 &&& 63)), .int (xs (x3 + (1 : Int32)).toNatClampNeg), .ref x1]) hk rfl rfl rfl rfl rfl ?_
      refine g_s1 (pc2 := 1261) hk rfl rfl rfl rfl rfl ?_
      obtain ⟨hi, H⟩ := H
      refine g_step (pc2 := 1262) hk rfl rfl rfl (s_agetX (L := L) (xs := xs) (j := 3) rfl hi) ?_
      refine g_s1 (pc2 := 1263) hk rfl rfl rfl rfl rfl ?_
      refine g_step (pc2 := 1266) (st2 := [.long (4294967295 : Int64), .long ((xs (x3 + (3 : Int32)).toNatClampNeg).toInt64), .long (((xs (x3 + (2 : Int32)).toNatClampNeg).toInt64) <<< ((32 : Int32).toInt64 &&& 63)), .int (xs (x3 + (1 : Int32)).toNatClampNeg), .ref x1]) hk rfl rfl rfl rfl ?_
      refine g_s1 (pc2 := 1267) hk rfl rfl rfl rfl rfl ?_
      refine g_s1 (pc2 := 1268) hk rfl rfl rfl rfl rfl ?_
      obtain ⟨ho, H⟩ := H
      refine g_call hk rfl rfl i_k159.1 ⟨rfl, rfl⟩ rfl (i_rcv_v ho rfl (by decide)) rfl ?_
      exact H.mono (fun v h2 q => by obtain ⟨r, rfl, q⟩ := q; exact q)
    · refine g_sw (t := 1305) hk rfl (by rw [hx]; rfl) ?_
      have H := H.2.2.2.2.2.2.2.2.2.2.2.2.2.2.2.2.2.2.2.2.2.2.2.2.2.2.2.2.2.2.2.2.1 hx
      refine g_s1 (pc2 := 1306) hk rfl rfl rfl rfl rfl ?_
      refine g_s1 (pc2 := 1307) hk rfl rfl rfl rfl rfl ?_
      refine g_s1 (pc2 := 1308) hk rfl rfl rfl rfl rfl ?_
      refine g_s1 (pc2 := 1309) (st2 := [.int (1 : Int32), .int x3, .retAddr 3, .ref x1]) hk rfl rfl rfl rfl rfl ?_
      refine g_s1 (pc2 := 1310) hk rfl rfl rfl rfl rfl ?_
      obtain ⟨hi, H⟩ := H
      refine g_step (pc2 := 1311) hk rfl rfl rfl (s_agetX (L := L) (xs := xs) (j := 3) rfl hi) ?_
      refine g_s1 (pc2 := 1312) hk rfl rfl rfl rfl rfl ?_
      refine g_s1 (pc2 := 1313) hk rfl rfl rfl rfl rfl ?_
      refine g_s1 (pc2 := 1314) (st2 := [.int (2 : Int32), .int x3, .retAddr 3, .int (xs (x3 + (1 : Int32)).toNatClampNeg), .ref x1]) hk rfl rfl rfl rfl rfl ?_
      refine g_s1 (pc2 := 1315) hk rfl rfl rfl rfl rfl ?_
      obtain ⟨hi, H⟩ := H
      refine g_step (pc2 := 1316) hk rfl rfl rfl (s_agetX (L := L) (xs := xs) (j := 3) rfl hi) ?_
      refine g_s1 (pc2 := 1317) hk rfl rfl rfl rfl rfl ?_
      refine g_s1 (pc2 := 1318) hk rfl rfl rfl rfl rfl ?_
      refine g_s1 (pc2 := 1319) (st2 := [.int (3 : Int32), .int x3, .retAddr 3, .int (xs (x3 + (2 : Int32)).toNatClampNeg), .int (xs (x3 + (1 : Int32)).toNatClampNeg), .ref x1]) hk rfl rfl rfl rfl rfl ?_
      refine g_s1 (pc2 := 1320) hk rfl rfl rfl rfl rfl ?_
      obtain ⟨hi, H⟩ := H
      refine g_step (pc2 := 1321) hk rfl rfl rfl (s_agetX (L := L) (xs := xs) (j := 3) rfl hi) ?_
      obtain ⟨ho, H⟩ := H
      refine g_call hk rfl rfl i_k160.1 ⟨rfl, rfl⟩ rfl (i_rcv_v ho rfl (by decide)) rfl ?_
      exact H.mono (fun v h2 q => by obtain ⟨r, rfl, q⟩ := q; exact q)
    · refine g_sw (t := 1349) hk rfl (by rw [hx]; rfl) ?_
      have H := H.2.2.2.2.2.2.2.2.2.2.2.2.2.2.2.2.2.2.2.2.2.2.2.2.2.2.2.2.2.2.2.2.2.1 hx
      refine g_s1 (pc2 := 1350) hk rfl rfl rfl rfl rfl ?_
      refine g_s1 (pc2 := 1351) hk rfl rfl rfl rfl rfl ?_
      refine g_s1 (pc2 := 1352) hk rfl rfl rfl rfl rfl ?_
      refine g_s1 (pc2 := 1353) (st2 := [.int (1 : Int32), .int x3, .retAddr 3, .ref x1]) hk rfl rfl rfl rfl rfl ?_
      refine g_s1 (pc2 := 1354) hk rfl rfl rfl rfl rfl ?_
      obtain ⟨hi, H⟩ := H
      refine g_step (pc2 := 1355) hk rfl rfl rfl (s_agetX (L := L) (xs := xs) (j := 3) rfl hi) ?_
      refine g_s1 (pc2 := 1356) hk rfl rfl rfl rfl rfl ?_
      refine g_s1 (pc2 := 1357) hk rfl rfl rfl rfl rfl ?_
      refine g_s1 (pc2 := 1358) (st2 := [.int (2 : Int32), .int x3, .retAddr 3, .int (xs (x3 + (1 : Int32)).toNatClampNeg), .ref x1]) hk rfl rfl rfl rfl rfl ?_
      refine g_s1 (pc2 := 1359) hk rfl rfl rfl rfl rfl ?_
      obtain ⟨hi, H⟩ := H
      refine g_step (pc2 := 1360) hk rfl rfl rfl (s_agetX (L := L) (xs := xs) (j := 3) rfl hi) ?_
      obtain ⟨ho, H⟩ := H
      refine g_call hk rfl rfl i_k161.1 ⟨rfl, rfl⟩ rfl (i_rcv_v ho rfl (by decide)) rfl ?_
      exact H.mono (fun v h2 q => by obtain ⟨r, rfl, q⟩ := q; exact q)
    · refine g_sw (t := 1382) hk rfl (by rw [hx]; rfl) ?_
      have H := H.2.2.2.2.2.2.2.2.2.2.2.2.2.2.2.2.2.2.2.2.2.2.2.2.2.2.2.2.2.2.2.2.2.2.1 hx
      refine g_s1 (pc2 := 1383) hk rfl rfl rfl rfl rfl ?_
      refine g_s1 (pc2 := 1384) hk rfl rfl rfl rfl rfl ?_
      refine g_s1 (pc2 := 1385) hk rfl rfl rfl rfl rfl ?_
      refine g_s1 (pc2 := 1386) (st2 := [.int (1 : Int32), .int x3, .retAddr 3, .ref x1]) hk rfl rfl rfl rfl rfl ?_
      refine g_s1 (pc2 := 1387) hk rfl rfl rfl rfl rfl ?_
      obtain ⟨hi, H⟩ := H
      refine g_step (pc2 := 1388) hk rfl rfl rfl (s_agetX (L := L) (xs := xs) (j := 3) rfl hi) ?_
      refine g_s1 (pc2 := 1389) hk rfl rfl rfl rfl rfl ?_
      refine g_s1 (pc2 := 1390) hk rfl rfl rfl rfl rfl ?_
      refine g_s1 (pc2 := 1391) (st2 := [.int (2 : Int32), .int x3, .retAddr 3, .int (xs (x3 + (1 : Int32)).toNatClampNeg), .ref x1]) hk rfl rfl rfl rfl rfl ?_
      refine g_s1 (pc2 := 1392) hk rfl rfl rfl rfl rfl ?_
      obtain ⟨hi, H⟩ := H
      refine g_step (pc2 := 1393) hk rfl rfl rfl (s_agetX (L := L) (xs := xs) (j := 3) rfl hi) ?_
      obtain ⟨ho, H⟩ := H
      refine g_call hk rfl rfl i_k162.1 ⟨rfl, rfl⟩ rfl (i_rcv_v ho rfl (by decide)) rfl ?_
      exact H.mono (fun v h2 q => by obtain ⟨r, rfl, q⟩ := q; exact q)
    · refine g_sw (t := 1415) hk rfl (by rw [hx]; rfl) ?_
      have H := H.2.2.2.2.2.2.2.2.2.2.2.2.2.2.2.2.2.2.2.2.2.2.2.2.2.2.2.2.2.2.2.2.2.2.2.1 hx
      refine g_s1 (pc2 := 1416) hk rfl rfl rfl rfl rfl ?_
      refine g_s1 (pc2 := 1417) hk rfl rfl rfl rfl rfl ?_
      refine g_s1 (pc2 := 1418) hk rfl rfl rfl rfl rfl ?_
      refine g_s1 (pc2 := 1419) (st2 := [.int (1 : Int32), .int x3, .retAddr 3, .ref x1]) hk rfl rfl rfl rfl rfl ?_
      refine g_s1 (pc2 := 1420) hk rfl rfl rfl rfl rfl ?_
      obtain ⟨hi, H⟩ := H
      refine g_step (pc2 := 1421) hk rfl rfl rfl (s_agetX (L := L) (xs := xs) (j := 3) rfl hi) ?_
      obtain ⟨ho, H⟩ := H
      refine g_call hk rfl rfl i_k163.1 ⟨rfl, rfl⟩ rfl (i_rcv_v ho rfl (by decide)) rfl ?_
      exact H.mono (fun v h2 q => by obtain ⟨r, rfl, q⟩ := q; exact q)
    · refine g_sw (t := 1438) hk rfl (by rw [hx]; rfl) ?_
      have H := H.2.2.2.2.2.2.2.2.2.2.2.2.2.2.2.2.2.2.2.2.2.2.2.2.2.2.2.2.2.2.2.2.2.2.2.2.1 hx
      refine g_s1 (pc2 := 1439) hk rfl rfl rfl rfl rfl ?_
      refine g_s1 (pc2 := 1440) hk rfl rfl rfl rfl rfl ?_
      refine g_s1 (pc2 := 1441) hk rfl rfl rfl rfl rfl ?_
      refine g_s1 (pc2 := 1442) (st2 := [.int (1 : Int32), .int x3, .retAddr 3, .ref x1]) hk rfl rfl rfl rfl rfl ?_
      refine g_s1 (pc2 := 1443) hk rfl rfl rfl rfl rfl ?_
      obtain ⟨hi, H⟩ := H
      refine g_step (pc2 := 1444) hk rfl rfl rfl (s_agetX (L := L) (xs := xs) (j := 3) rfl hi) ?_
      refine g_s1 (pc2 := 1445) hk rfl rfl rfl rfl rfl ?_
      refine g_s1 (pc2 := 1446) hk rfl rfl rfl rfl rfl ?_
      refine g_s1 (pc2 := 1447) (st2 := [.int (2 : Int32), .int x3, .retAddr 3, .int (xs (x3 + (1 : Int32)).toNatClampNeg), .ref x1]) hk rfl rfl rfl rfl rfl ?_
      refine g_s1 (pc2 := 1448) hk rfl rfl rfl rfl rfl ?_
      obtain ⟨hi, H⟩ := H
      refine g_step (pc2 := 1449) hk rfl rfl rfl (s_agetX (L := L) (xs := xs) (j := 3) rfl hi) ?_
      refine g_s1 (pc2 := 1450) hk rfl rfl rfl rfl rfl ?_
      refine g_s1 (pc2 := 1451) hk rfl rfl rfl rfl rfl ?_
      refine g_s1 (pc2 := 1452) (st2 := [.int (3 : Int32), .int x3, .retAddr 3, .int (xs (x3 + (2 : Int32)).toNatClampNeg), .int (xs (x3 + (1 : Int32)).toNatClampNeg), .ref x1]) hk rfl rfl rfl rfl rfl ?_
      refine g_s1 (pc2 := 1453) hk rfl rfl rfl rfl rfl ?_
      obtain ⟨hi, H⟩ := H
      refine g_step (pc2 := 1454) hk rfl rfl rfl (s_agetX (L := L) (xs := xs) (j := 3) rfl hi) ?_
      obtain ⟨ho, H⟩ := H
      refine g_call hk rfl rfl i_k164.1 ⟨rfl, rfl⟩ rfl (i_rcv_v ho rfl (by decide)) rfl ?_
      exact H.mono (fun v h2 q => by obtain ⟨r, rfl, q⟩ := q; exact q)
    · refine g_sw (t := 1481) hk rfl (by rw [hx]; rfl) ?_
      have H := H.2.2.2.2.2.2.2.2.2.2.2.2.2.2.2.2.2.2.2.2.2.2.2.2.2.2.2.2.2.2.2.2.2.2.2.2.2.1 hx
      refine g_s1 (pc2 := 1482) hk rfl rfl rfl rfl rfl ?_
      refine g_s1 (pc2 := 1483) hk rfl rfl rfl rfl rfl ?_
      refine g_s1 (pc2 := 1484) hk rfl rfl rfl rfl rfl ?_
      refine g_s1 (pc2 := 1485) (st2 := [.int (1 : Int32), .int x3, .retAddr 3, .ref x1]) hk rfl rfl rfl rfl rfl ?_
      refine g_s1 (pc2 := 1486) hk rfl rfl rfl rfl rfl ?_
      obtain ⟨hi, H⟩ := H
      refine g_step (pc2 := 1487) hk rfl rfl rfl (s_agetX (L := L) (xs := xs) (j := 3) rfl hi) ?_
      obtain ⟨ho, H⟩ := H
      refine g_call hk rfl rfl i_k165.1 ⟨rfl, rfl⟩ rfl (i_rcv_v ho rfl (by decide)) rfl ?_
      exact H.mono (fun v h2 q => by obtain ⟨r, rfl, q⟩ := q; exact q)
    · refine g_sw (t := 1504) hk rfl (by rw [hx]; rfl) ?_
      have H := H.2.2.2.2.2.2.2.2.2.2.2.2.2.2.2.2.2.2.2.2.2.2.2.2.2.2.2.2.2.2.2.2.2.2.2.2.2.2.1 hx
      refine g_s1 (pc2 := 1505) hk rfl rfl rfl rfl rfl ?_
      refine g_s1 (pc2 := 1506) hk rfl rfl rfl rfl rfl ?_
      refine g_s1 (pc2 := 1507) hk rfl rfl rfl rfl rfl ?_
      refine g_s1 (pc2 := 1508) (st2 := [.int (1 : Int32), .int x3, .retAddr 3, .ref x1]) hk rfl rfl rfl rfl rfl ?_
      refine g_s1 (pc2 := 1509) hk rfl rfl rfl rfl rfl ?_
      obtain ⟨hi, H⟩ := H
      refine g_step (pc2 := 1510) hk rfl rfl rfl (s_agetX (L := L) (xs := xs) (j := 3) rfl hi) ?_
      obtain ⟨ho, H⟩ := H
      refine g_call hk rfl rfl i_k166.1 ⟨rfl, rfl⟩ rfl (i_rcv_v ho rfl (by decide)) rfl ?_
      exact H.mono (fun v h2 q => by obtain ⟨r, rfl, q⟩ := q; exact q)
    · refine g_sw (t := 1527) hk rfl (by rw [hx]; rfl) ?_
      have H := H.2.2.2.2.2.2.2.2.2.2.2.2.2.2.2.2.2.2.2.2.2.2.2.2.2.2.2.2.2.2.2.2.2.2.2.2.2.2.2.1 hx
      refine g_s1 (pc2 := 1528) hk rfl rfl rfl rfl rfl ?_
      refine g_s1 (pc2 := 1529) hk rfl rfl rfl rfl rfl ?_
      refine g_s1 (pc2 := 1530) hk rfl rfl rfl rfl rfl ?_
      refine g_s1 (pc2 := 1531) (st2 := [.int (1 : Int32), .int x3, .retAddr 3, .ref x1]) hk rfl rfl rfl rfl rfl ?_
      refine g_s1 (pc2 := 1532) hk rfl rfl rfl rfl rfl ?_
      obtain ⟨hi, H⟩ := H
      refine g_step (pc2 := 1533) hk rfl rfl rfl (s_agetX (L := L) (xs := xs) (j := 3) rfl hi) ?_
      refine g_s1 (pc2 := 1534) hk rfl rfl rfl rfl rfl ?_
      refine g_s1 (pc2 := 1535) hk rfl rfl rfl rfl rfl ?_
      refine g_s1 (pc2 := 1536) (st2 := [.int (2 : Int32), .int x3, .retAddr 3, .int (xs (x3 + (1 : Int32)).toNatClampNeg), .ref x1]) hk rfl rfl rfl rfl rfl ?_
      refine g_s1 (pc2 := 1537) hk rfl rfl rfl rfl rfl ?_
      obtain ⟨hi, H⟩ := H
      refine g_step (pc2 := 1538) hk rfl rfl rfl (s_agetX (L := L) (xs := xs) (j := 3) rfl hi) ?_
      obtain ⟨ho, H⟩ := H
      refine g_call hk rfl rfl i_k167.1 ⟨rfl, rfl⟩ rfl (i_rcv_v ho rfl (by decide)) rfl ?_
      exact H.mono (fun v h2 q => by obtain ⟨r, rfl, q⟩ := q; exact q)
    · refine g_sw (t := 1560) hk rfl (by rw [hx]; rfl) ?_
      have H := H.2.2.2.2.2.2.2.2.2.2.2.2.2.2.2.2.2.2.2.2.2.2.2.2.2.2.2.2.2.2.2.2.2.2.2.2.2.2.2.2.1 hx
      refine g_s1 (pc2 := 1561) hk rfl rfl rfl rfl rfl ?_
      refine g_s1 (pc2 := 1562) hk rfl rfl rfl rfl rfl ?_
      refine g_s1 (pc2 := 1563) hk rfl rfl rfl rfl rfl ?_
      refine g_s1 (pc2 := 1564) (st2 := [.int (1 : Int32), .int x3, .retAddr 3, .ref x1]) hk rfl rfl rfl rfl rfl ?_
      refine g_s1 (pc2 := 1565) hk rfl rfl rfl rfl rfl ?_
      obtain ⟨hi, H⟩ := H
      refine g_step (pc2 := 1566) hk rfl rfl rfl (s_agetX (L := L) (xs := xs) (j := 3) rfl hi) ?_
      refine g_s1 (pc2 := 1567) hk rfl rfl rfl rfl rfl ?_
      refine g_s1 (pc2 := 1568) hk rfl rfl rfl rfl rfl ?_
      refine g_s1 (pc2 := 1569) (st2 := [.int (2 : Int32), .int x3, .retAddr 3, .int (xs (x3 + (1 : Int32)).toNatClampNeg), .ref x1]) hk rfl rfl rfl rfl rfl ?_
      refine g_s1 (pc2 := 1570) hk rfl rfl rfl rfl rfl ?_
      obtain ⟨hi, H⟩ := H
      refine g_step (pc2 := 1571) hk rfl rfl rfl (s_agetX (L := L) (xs := xs) (j := 3) rfl hi) ?_
      obtain ⟨ho, H⟩ := H
      refine g_call hk rfl rfl i_k168.1 ⟨rfl, rfl⟩ rfl (i_rcv_v ho rfl (by decide)) rfl ?_
      exact H.mono (fun v h2 q => by obtain ⟨r, rfl, q⟩ := q; exact q)
    · refine g_sw (t := 1593) hk rfl (by rw [hx]; rfl) ?_
      have H := H.2.2.2.2.2.2.2.2.2.2.2.2.2.2.2.2.2.2.2.2.2.2.2.2.2.2.2.2.2.2.2.2.2.2.2.2.2.2.2.2.2.1 hx
      refine g_s1 (pc2 := 1594) hk rfl rfl rfl rfl rfl ?_
      refine g_s1 (pc2 := 1595) hk rfl rfl rfl rfl rfl ?_
      refine g_s1 (pc2 := 1596) hk rfl rfl rfl rfl rfl ?_
      refine g_s1 (pc2 := 1597) (st2 := [.int (1 : Int32), .int x3, .retAddr 3, .ref x1]) hk rfl rfl rfl rfl rfl ?_
      refine g_s1 (pc2 := 1598) hk rfl rfl rfl rfl rfl ?_
      obtain ⟨hi, H⟩ := H
      refine g_step (pc2 := 1599) hk rfl rfl rfl (s_agetX (L := L) (xs := xs) (j := 3) rfl hi) ?_
      refine g_s1 (pc2 := 1600) hk rfl rfl rfl rfl rfl ?_
      refine g_s1 (pc2 := 1601) hk rfl rfl rfl rfl rfl ?_
      refine g_s1 (pc2 := 1602) (st2 := [.int (2 : Int32), .int x3, .retAddr 3, .int (xs (x3 + (1 : Int32)).toNatClampNeg), .ref x1]) hk rfl rfl rfl rfl rfl ?_
      refine g_s1 (pc2 := 1603) hk rfl rfl rfl rfl rfl ?_
      obtain ⟨hi, H⟩ := H
      refine g_step (pc2 := 1604) hk rfl rfl rfl (s_agetX (L := L) (xs := xs) (j := 3) rfl hi) ?_
      refine g_s1 (pc2 := 1605) hk rfl rfl rfl rfl rfl ?_
      refine g_s1 (pc2 := 1606) hk rfl rfl rfl rfl rfl ?_
      refine g_s1 (pc2 := 1607) (st2 := [.int (3 : Int32), .int x3, .retAddr 3, .int (xs (x3 + (2 : Int32)).toNatClampNeg), .int (xs (x3 + (1 : Int32)).toNatClampNeg), .ref x1]) hk rfl rfl rfl rfl rfl ?_
      refine g_s1 (pc2 := 1608) hk rfl rfl rfl rfl rfl ?_
      obtain ⟨hi, H⟩ := H
      refine g_step (pc2 := 1609) hk rfl rfl rfl (s_agetX (L := L) (xs := xs) (j := 3) rfl hi) ?_
      obtain ⟨ho, H⟩ := H
      refine g_call hk rfl rfl i_k169.1 ⟨rfl, rfl⟩ rfl (i_rcv_v ho rfl (by decide)) rfl ?_
      exact H.mono (fun v h2 q => by obtain ⟨r, rfl, q⟩ := q; exact q)
    · refine g_sw (t := 1636) hk rfl (by rw [hx]; rfl) ?_
      have H := H.2.2.2.2.2.2.2.2.2.2.2.2.2.2.2.2.2.2.2.2.2.2.2.2.2.2.2.2.2.2.2.2.2.2.2.2.2.2.2.2.2.2.1 hx
      refine g_s1 (pc2 := 1637) hk rfl rfl rfl rfl rfl ?_
      refine g_s1 (pc2 := 1638) hk rfl rfl rfl rfl rfl ?_
      refine g_s1 (pc2 := 1639) hk rfl rfl rfl rfl rfl ?_
      refine g_s1 (pc2 := 1640) (st2 := [.int (1 : Int32), .int x3, .retAddr 3, .ref x1]) hk rfl rfl rfl rfl rfl ?_
      refine g_s1 (pc2 := 1641) hk rfl rfl rfl rfl rfl ?_
      obtain ⟨hi, H⟩ := H
      refine g_step (pc2 := 1642) hk rfl rfl rfl (s_agetX (L := L) (xs := xs) (j := 3) rfl hi) ?_
      refine g_s1 (pc2 := 1643) hk rfl rfl rfl rfl rfl ?_
      refine g_s1 (pc2 := 1644) hk rfl rfl rfl rfl rfl ?_
      refine g_s1 (pc2 := 1645) (st2 := [.int (2 : Int32), .int x3, .retAddr 3, .int (xs (x3 + (1 : Int32)).toNatClampNeg), .ref x1]) hk rfl rfl rfl rfl rfl ?_
      refine g_s1 (pc2 := 1646) hk rfl rfl rfl rfl rfl ?_
      obtain ⟨hi, H⟩ := H
      refine g_step (pc2 := 1647) hk rfl rfl rfl (s_agetX (L := L) (xs := xs) (j := 3) rfl hi) ?_
      refine g_s1 (pc2 := 1648) hk rfl rfl rfl rfl rfl ?_
      refine g_s1 (pc2 := 1649) hk rfl rfl rfl rfl rfl ?_
      refine g_s1 (pc2 := 1650) (st2 := [.int (3 : Int32), .int x3, .retAddr 3, .int (xs (x3 + (2 : Int32)).toNatClampNeg), .int (xs (x3 + (1 : Int32)).toNatClampNeg), .ref x1]) hk rfl rfl rfl rfl rfl ?_
      refine g_s1 (pc2 := 1651) hk rfl rfl rfl rfl rfl ?_
      obtain ⟨hi, H⟩ := H
      refine g_step (pc2 := 1652) hk rfl rfl rfl (s_agetX (L := L) (xs := xs) (j := 3) rfl hi) ?_
      obtain ⟨ho, H⟩ := H
      refine g_call hk rfl rfl i_k170.1 ⟨rfl, rfl⟩ rfl (i_rcv_v ho rfl (by decide)) rfl ?_
      exact H.mono (fun v h2 q => by obtain ⟨r, rfl, q⟩ := q; exact q)
    · refine g_sw (t := 1679) hk rfl (by rw [hx]; rfl) ?_
      have H := H.2.2.2.2.2.2.2.2.2.2.2.2.2.2.2.2.2.2.2.2.2.2.2.2.2.2.2.2.2.2.2.2.2.2.2.2.2.2.2.2.2.2.2.1 hx
      refine g_s1 (pc2 := 1680) hk rfl rfl rfl rfl rfl ?_
      refine g_s1 (pc2 := 1681) hk rfl rfl rfl rfl rfl ?_
      refine g_s1 (pc2 := 1682) hk rfl rfl rfl rfl rfl ?_
      refine g_s1 (pc2 := 1683) (st2 := [.int (1 : Int32), .int x3, .retAddr 3, .ref x1]) hk rfl rfl rfl rfl rfl ?_
      refine g_s1 (pc2 := 1684) hk rfl rfl rfl rfl rfl ?_
      obtain ⟨hi, H⟩ := H
      refine g_step (pc2 := 1685) hk rfl rfl rfl (s_agetX (L := L) (xs := xs) (j := 3) rfl hi) ?_
      refine g_s1 (pc2 := 1686) hk rfl rfl rfl rfl rfl ?_
      refine g_s1 (pc2 := 1687) hk rfl rfl rfl rfl rfl ?_
      refine g_s1 (pc2 := 1688) (st2 := [.int (2 : Int32), .int x3, .retAddr 3, .int (xs (x3 + (1 : Int32)).toNatClampNeg), .ref x1]) hk rfl rfl rfl rfl rfl ?_
      refine g_s1 (pc2 := 1689) hk rfl rfl rfl rfl rfl ?_
      obtain ⟨hi, H⟩ := H
      refine g_step (pc2 := 1690) hk rfl rfl rfl (s_agetX (L := L) (xs := xs) (j := 3) rfl hi) ?_
      obtain ⟨ho, H⟩ := H
      refine g_call hk rfl rfl i_k171.1 ⟨rfl, rfl⟩ rfl (i_rcv_v ho rfl (by decide)) rfl ?_
      exact H.mono (fun v h2 q => by obtain ⟨r, rfl, q⟩ := q; exact q)
    · refine g_sw (t := 1712) hk rfl (by rw [hx]; rfl) ?_
      have H := H.2.2.2.2.2.2.2.2.2.2.2.2.2.2.2.2.2.2.2.2.2.2.2.2.2.2.2.2.2.2.2.2.2.2.2.2.2.2.2.2.2.2.2.2.1 hx
      refine g_s1 (pc2 := 1713) hk rfl rfl rfl rfl rfl ?_
      refine g_s1 (pc2 := 1714) hk rfl rfl rfl rfl rfl ?_
      refine g_s1 (pc2 := 1715) hk rfl rfl rfl rfl rfl ?_
      refine g_s1 (pc2 := 1716) (st2 := [.int (1 : Int32), .int x3, .retAddr 3, .ref x1]) hk rfl rfl rfl rfl rfl ?_
      refine g_s1 (pc2 := 1717) hk rfl rfl rfl rfl rfl ?_
      obtain ⟨hi, H⟩ := H
      refine g_step (pc2 := 1718) hk rfl rfl rfl (s_agetX (L := L) (xs := xs) (j := 3) rfl hi) ?_
      obtain ⟨ho, H⟩ := H
      refine g_call hk rfl rfl i_k172.1 ⟨rfl, rfl⟩ rfl (i_rcv_v ho rfl (by decide)) rfl ?_
      exact H.mono (fun v h2 q => by obtain ⟨r, rfl, q⟩ := q; exact q)
    · refine g_sw (t := 1735) hk rfl (by rw [hx]; rfl) ?_
      have H := H.2.2.2.2.2.2.2.2.2.2.2.2.2.2.2.2.2.2.2.2.2.2.2.2.2.2.2.2.2.2.2.2.2.2.2.2.2.2.2.2.2.2.2.2.2.1 hx
      refine g_s1 (pc2 := 1736) hk rfl rfl rfl rfl rfl ?_
      refine g_s1 (pc2 := 1737) hk rfl rfl rfl rfl rfl ?_
      refine g_s1 (pc2 := 1738) hk rfl rfl rfl rfl rfl ?_
      refine g_s1 (pc2 := 1739) (st2 := [.int (1 : Int32), .int x3, .retAddr 3, .ref x1]) hk rfl rfl rfl rfl rfl ?_
      refine g_s1 (pc2 := 1740) hk rfl rfl rfl rfl rfl ?_
      obtain ⟨hi, H⟩ := H
      refine g_step (pc2 := 1741) hk rfl rfl rfl (s_agetX (L := L) (xs := xs) (j := 3) rfl hi) ?_
      obtain ⟨ho, H⟩ := H
      refine g_call hk rfl rfl i_k173.1 ⟨rfl, rfl⟩ rfl (i_rcv_v ho rfl (by decide)) rfl ?_
      exact H.mono (fun v h2 q => by obtain ⟨r, rfl, q⟩ := q; exact q)
    · refine g_sw (t := 1758) hk rfl (by rw [hx]; rfl) ?_
      have H := H.2.2.2.2.2.2.2.2.2.2.2.2.2.2.2.2.2.2.2.2.2.2.2.2.2.2.2.2.2.2.2.2.2.2.2.2.2.2.2.2.2.2.2.2.2.2.1 hx
      refine g_s1 (pc2 := 1759) hk rfl rfl rfl rfl rfl ?_
      refine g_s1 (pc2 := 1760) hk rfl rfl rfl rfl rfl ?_
      refine g_s1 (pc2 := 1761) hk rfl rfl rfl rfl rfl ?_
      refine g_s1 (pc2 := 1762) (st2 := [.int (1 : Int32), .int x3, .retAddr 3, .ref x1]) hk rfl rfl rfl rfl rfl ?_
      refine g_s1 (pc2 := 1763) hk rfl rfl rfl rfl rfl ?_
      obtain ⟨hi, H⟩ := H
      refine g_step (pc2 := 1764) hk rfl rfl rfl (s_agetX (L := L) (xs := xs) (j := 3) rfl hi) ?_
      obtain ⟨ho, H⟩ := H
      refine g_call hk rfl rfl i_k174.1 ⟨rfl, rfl⟩ rfl (i_rcv_v ho rfl (by decide)) rfl ?_
      exact H.mono (fun v h2 q => by obtain ⟨r, rfl, q⟩ := q; exact q)
    · refine g_sw (t := 1781) hk rfl (by rw [hx]; rfl) ?_
      have H := H.2.2.2.2.2.2.2.2.2.2.2.2.2.2.2.2.2.2.2.2.2.2.2.2.2.2.2.2.2.2.2.2.2.2.2.2.2.2.2.2.2.2.2.2.2.2.2.1 hx
      refine g_s1 (pc2 := 1782) hk rfl rfl rfl rfl rfl ?_
      obtain ⟨ho, H⟩ := H
      refine g_call hk rfl rfl i_k175.1 ⟨rfl, rfl⟩ rfl (i_rcv_v ho rfl (by decide)) rfl ?_
      exact H.mono (fun v h2 q => by obtain ⟨r, rfl, q⟩ := q; exact q)
    · refine g_sw (t := 1794) hk rfl (by rw [hx]; rfl) ?_
      have H := H.2.2.2.2.2.2.2.2.2.2.2.2.2.2.2.2.2.2.2.2.2.2.2.2.2.2.2.2.2.2.2.2.2.2.2.2.2.2.2.2.2.2.2.2.2.2.2.2.1 hx
      refine g_s1 (pc2 := 1795) hk rfl rfl rfl rfl rfl ?_
      refine g_s1 (pc2 := 1796) hk rfl rfl rfl rfl rfl ?_
      refine g_s1 (pc2 := 1797) hk rfl rfl rfl rfl rfl ?_
      refine g_s1 (pc2 := 1798) (st2 := [.int (1 : Int32), .int x3, .retAddr 3, .ref x1]) hk rfl rfl rfl rfl rfl ?_
      refine g_s1 (pc2 := 1799) hk rfl rfl rfl rfl rfl ?_
      obtain ⟨hi, H⟩ := H
      refine g_step (pc2 := 1800) hk rfl rfl rfl (s_agetX (L := L) (xs := xs) (j := 3) rfl hi) ?_
      refine g_s1 (pc2 := 1801) hk rfl rfl rfl rfl rfl ?_
      refine g_s1 (pc2 := 1802) hk rfl rfl rfl rfl rfl ?_
      refine g_s1 (pc2 := 1803) (st2 := [.int (2 : Int32), .int x3, .retAddr 3, .int (xs (x3 + (1 : Int32)).toNatClampNeg), .ref x1]) hk rfl rfl rfl rfl rfl ?_
      refine g_s1 (pc2 := 1804) hk rfl rfl rfl rfl rfl ?_
      obtain ⟨hi, H⟩ := H
      refine g_step (pc2 := 1805) hk rfl rfl rfl (s_agetX (L := L) (xs := xs) (j := 3) rfl hi) ?_
      obtain ⟨ho, H⟩ := H
      refine g_call hk rfl rfl i_k176.1 ⟨rfl, rfl⟩ rfl (i_rcv_v ho rfl (by decide)) rfl ?_
      exact H.mono (fun v h2 q => by obtain ⟨r, rfl, q⟩ := q; exact q)
    · refine g_sw (t := 1827) hk rfl (by rw [hx]; rfl) ?_
      have H := H.2.2.2.2.2.2.2.2.2.2.2.2.2.2.2.2.2.2.2.2.2.2.2.2.2.2.2.2.2.2.2.2.2.2.2.2.2.2.2.2.2.2.2.2.2.2.2.2.2.1 hx
      refine g_s1 (pc2 := 1828) hk rfl rfl rfl rfl rfl ?_
      obtain ⟨ho, H⟩ := H
      refine g_call hk rfl rfl i_k177.1 ⟨rfl, rfl⟩ rfl (i_rcv_v ho rfl (by decide)) rfl ?_
      exact H.mono (fun v h2 q => by obtain ⟨r, rfl, q⟩ := q; exact q)
    · refine g_sw (t := 1840) hk rfl (by rw [hx]; rfl) ?_
      have H := H.2.2.2.2.2.2.2.2.2.2.2.2.2.2.2.2.2.2.2.2.2.2.2.2.2.2.2.2.2.2.2.2.2.2.2.2.2.2.2.2.2.2.2.2.2.2.2.2.2.2 hx
      refine g_s1 (pc2 := 1841) hk rfl rfl rfl rfl rfl ?_
      obtain ⟨ho, H⟩ := H
      refine g_call hk rfl rfl i_k178.1 ⟨rfl, rfl⟩ rfl (i_rcv_v ho rfl (by decide)) rfl ?_
      exact H.mono (fun v h2 q => by obtain ⟨r, rfl, q⟩ := q; exact q)
theorem b351_252 {x1 : Nat} {x2 : Nat} {x3 : Int32} {s0 : Int32} {h : iH} {Q : Option Value → iH → Prop} (H : (i_obj? h x2 12 ∧ i_C i_MT i_AT L xs 197 [.ref x2] h (fun v h1 => ∃ r2 : Int32, v = some (.int r2) ∧ i_P i_MT i_AT L xs 351 256 [some (.retAddr 3), some (.ref x1), some (.ref x2), some (.int x3)] [.int r2, .int s0] h1 173 127414 Q))) : i_P i_MT i_AT L xs 351 252 [some (.retAddr 3), some (.ref x1), some (.ref x2), some (.int x3)] [.int s0] h 173 127414 Q := by
  have hk := i_k351
  refine g_s1 (pc2 := 253) hk rfl rfl rfl rfl rfl ?_
  obtain ⟨ho, H⟩ := H
  refine g_call hk rfl rfl i_k197.1 ⟨rfl, rfl⟩ rfl (i_rcv_v ho rfl (by decide)) rfl ?_
  exact H.mono (fun v h2 q => by obtain ⟨r, rfl, q⟩ := q; exact q)
theorem b351_256 {x1 : Nat} {x2 : Nat} {x3 : Int32} {s0 : Int32} {s1 : Int32} {h : iH} {Q : Option Value → iH → Prop} (H : ((s0 = s1 → i_P i_MT i_AT L xs 351 1853 [some (.retAddr 3), some (.ref x1), some (.ref x2), some (.int x3)] [] h 173 127414 Q) ∧ (¬ (s0 = s1) → Q (some (.int 0)) h))) : i_P i_MT i_AT L xs 351 256 [some (.retAddr 3), some (.ref x1), some (.ref x2), some (.int x3)] [.int s1, .int s0] h 173 127414 Q := by
  have hk := i_k351
  refine g_icmp_eq hk rfl (fun hc => ?_) (fun hc => ?_)
  · have H := H.1 hc
    exact H
  · have H := H.2 hc
    refine g_s1 (pc2 := 260) (st2 := [.int (0 : Int32)]) hk rfl rfl rfl rfl rfl ?_
    exact g_ireturn hk rfl (by decide) (by decide) rfl H
theorem b351_265 {x1 : Nat} {x2 : Nat} {x3 : Int32} {s0 : Int64} {h : iH} {Q : Option Value → iH → Prop} (H : (i_obj? h x2 12 ∧ i_C i_MT i_AT L xs 198 [.ref x2] h (fun v h1 => ∃ r2 : Int64, v = some (.long r2) ∧ i_P i_MT i_AT L xs 351 269 [some (.retAddr 3), some (.ref x1), some (.ref x2), some (.int x3)] [.long r2, .long s0] h1 173 127414 Q))) : i_P i_MT i_AT L xs 351 265 [some (.retAddr 3), some (.ref x1), some (.ref x2), some (.int x3)] [.long s0] h 173 127414 Q := by
  have hk := i_k351
  refine g_s1 (pc2 := 266) hk rfl rfl rfl rfl rfl ?_
  obtain ⟨ho, H⟩ := H
  refine g_call hk rfl rfl i_k198.1 ⟨rfl, rfl⟩ rfl (i_rcv_v ho rfl (by decide)) rfl ?_
  exact H.mono (fun v h2 q => by obtain ⟨r, rfl, q⟩ := q; exact q)
theorem b351_269 {x1 : Nat} {x2 : Nat} {x3 : Int32} {s0 : Int64} {s1 : Int64} {h : iH} {Q : Option Value → iH → Prop} (H : (((lg_cmp s0 s1) = 0 → i_P i_MT i_AT L xs 351 1853 [some (.retAddr 3), some (.ref x1), some (.ref x2), some (.int x3)] [] h 173 127414 Q) ∧ (¬ ((lg_cmp s0 s1) = 0) → Q (some (.int 0)) h))) : i_P i_MT i_AT L xs 351 269 [some (.retAddr 3), some (.ref x1), some (.ref x2), some (.int x3)] [.long s1, .long s0] h 173 127414 Q := by
  have hk := i_k351
  refine g_s1 (pc2 := 270) hk rfl rfl rfl rfl rfl ?_
  refine g_if_eq hk rfl (fun hc => ?_) (fun hc => ?_)
  · have H := H.1 hc
    exact H
  · have H := H.2 hc
    refine g_s1 (pc2 := 274) (st2 := [.int (0 : Int32)]) hk rfl rfl rfl rfl rfl ?_
    exact g_ireturn hk rfl (by decide) (by decide) rfl H
theorem b351_279 {x1 : Nat} {x2 : Nat} {x3 : Int32} {s0 : Int64} {h : iH} {Q : Option Value → iH → Prop} (H : (i_obj? h x2 12 ∧ i_C i_MT i_AT L xs 199 [.ref x2] h (fun v h1 => ∃ r2 : Int64, v = some (.long r2) ∧ i_P i_MT i_AT L xs 351 283 [some (.retAddr 3), some (.ref x1), some (.ref x2), some (.int x3)] [.long r2, .long s0] h1 173 127414 Q))) : i_P i_MT i_AT L xs 351 279 [some (.retAddr 3), some (.ref x1), some (.ref x2), some (.int x3)] [.long s0] h 173 127414 Q := by
  have hk := i_k351
  refine g_s1 (pc2 := 280) hk rfl rfl rfl rfl rfl ?_
  obtain ⟨ho, H⟩ := H
  refine g_call hk rfl rfl i_k199.1 ⟨rfl, rfl⟩ rfl (i_rcv_v ho rfl (by decide)) rfl ?_
  exact H.mono (fun v h2 q => by obtain ⟨r, rfl, q⟩ := q; exact q)
theorem b351_283 {x1 : Nat} {x2 : Nat} {x3 : Int32} {s0 : Int64} {s1 : Int64} {h : iH} {Q : Option Value → iH → Prop} (H : (((lg_cmp s0 s1) = 0 → i_P i_MT i_AT L xs 351 1853 [some (.retAddr 3), some (.ref x1), some (.ref x2), some (.int x3)] [] h 173 127414 Q) ∧ (¬ ((lg_cmp s0 s1) = 0) → Q (some (.int 0)) h))) : i_P i_MT i_AT L xs 351 283 [some (.retAddr 3), some (.ref x1), some (.ref x2), some (.int x3)] [.long s1, .long s0] h 173 127414 Q := by
  have hk := i_k351
  refine g_s1 (pc2 := 284) hk rfl rfl rfl rfl rfl ?_
  refine g_if_eq hk rfl (fun hc => ?_) (fun hc => ?_)
  · have H := H.1 hc
    exact H
  · have H := H.2 hc
    refine g_s1 (pc2 := 288) (st2 := [.int (0 : Int32)]) hk rfl rfl rfl rfl rfl ?_
    exact g_ireturn hk rfl (by decide) (by decide) rfl H
theorem b351_308 {x1 : Nat} {x2 : Nat} {x3 : Int32} {s0 : Int32} {h : iH} {Q : Option Value → iH → Prop} (H : (¬ ((x3 + (1 : Int32)) < 0 ∨ L ≤ (x3 + (1 : Int32)).toNatClampNeg) ∧ (¬ ((x3 + (2 : Int32)) < 0 ∨ L ≤ (x3 + (2 : Int32)).toNatClampNeg) ∧ (¬ ((x3 + (3 : Int32)) < 0 ∨ L ≤ (x3 + (3 : Int32)).toNatClampNeg) ∧ (i_obj? h x2 12 ∧ i_C i_MT i_AT L xs 207 [.ref x2, .int (xs (x3 + (1 : Int32)).toNatClampNeg), .int (xs (x3 + (2 : Int32)).toNatClampNeg), .int (xs (x3 + (3 : Int32)).toNatClampNeg)] h (fun v h7 => ∃ r8 : Int32, v = some (.int r8) ∧ i_P i_MT i_AT L xs 351 327 [some (.retAddr 3), some (.ref x1), some (.ref x2), some (.int x3)] [.int r8, .int s0] h7 173 127414 Q)))))) : i_P i_MT i_AT L xs 351 308 [some (.retAddr 3), some (.ref x1), some (.ref x2), some (.int x3)] [.int s0] h 173 127414 Q := by
  have hk := i_k351
  refine g_s1 (pc2 := 309) hk rfl rfl rfl rfl rfl ?_
  refine g_s1 (pc2 := 310) hk rfl rfl rfl rfl rfl ?_
  refine g_s1 (pc2 := 311) hk rfl rfl rfl rfl rfl ?_
  refine g_s1 (pc2 := 312) (st2 := [.int (1 : Int32), .int x3, .retAddr 3, .ref x2, .int s0]) hk rfl rfl rfl rfl rfl ?_
  refine g_s1 (pc2 := 313) hk rfl rfl rfl rfl rfl ?_
  obtain ⟨hi, H⟩ := H
  refine g_step (pc2 := 314) hk rfl rfl rfl (s_agetX (L := L) (xs := xs) (j := 3) rfl hi) ?_
  refine g_s1 (pc2 := 315) hk rfl rfl rfl rfl rfl ?_
  refine g_s1 (pc2 := 316) hk rfl rfl rfl rfl rfl ?_
  refine g_s1 (pc2 := 317) (st2 := [.int (2 : Int32), .int x3, .retAddr 3, .int (xs (x3 + (1 : Int32)).toNatClampNeg), .ref x2, .int s0]) hk rfl rfl rfl rfl rfl ?_
  refine g_s1 (pc2 := 318) hk rfl rfl rfl rfl rfl ?_
  obtain ⟨hi, H⟩ := H
  refine g_step (pc2 := 319) hk rfl rfl rfl (s_agetX (L := L) (xs := xs) (j := 3) rfl hi) ?_
  refine g_s1 (pc2 := 320) hk rfl rfl rfl rfl rfl ?_
  refine g_s1 (pc2 := 321) hk rfl rfl rfl rfl rfl ?_
  refine g_s1 (pc2 := 322) (st2 := [.int (3 : Int32), .int x3, .retAddr 3, .int (xs (x3 + (2 : Int32)).toNatClampNeg), .int (xs (x3 + (1 : Int32)).toNatClampNeg), .ref x2, .int s0]) hk rfl rfl rfl rfl rfl ?_
  refine g_s1 (pc2 := 323) hk rfl rfl rfl rfl rfl ?_
  obtain ⟨hi, H⟩ := H
  refine g_step (pc2 := 324) hk rfl rfl rfl (s_agetX (L := L) (xs := xs) (j := 3) rfl hi) ?_
  obtain ⟨ho, H⟩ := H
  refine g_call hk rfl rfl i_k207.1 ⟨rfl, rfl⟩ rfl (i_rcv_v ho rfl (by decide)) rfl ?_
  exact H.mono (fun v h2 q => by obtain ⟨r, rfl, q⟩ := q; exact q)
theorem b351_327 {x1 : Nat} {x2 : Nat} {x3 : Int32} {s0 : Int32} {s1 : Int32} {h : iH} {Q : Option Value → iH → Prop} (H : ((s0 = s1 → i_P i_MT i_AT L xs 351 1853 [some (.retAddr 3), some (.ref x1), some (.ref x2), some (.int x3)] [] h 173 127414 Q) ∧ (¬ (s0 = s1) → Q (some (.int 0)) h))) : i_P i_MT i_AT L xs 351 327 [some (.retAddr 3), some (.ref x1), some (.ref x2), some (.int x3)] [.int s1, .int s0] h 173 127414 Q := by
  have hk := i_k351
  refine g_icmp_eq hk rfl (fun hc => ?_) (fun hc => ?_)
  · have H := H.1 hc
    exact H
  · have H := H.2 hc
    refine g_s1 (pc2 := 331) (st2 := [.int (0 : Int32)]) hk rfl rfl rfl rfl rfl ?_
    exact g_ireturn hk rfl (by decide) (by decide) rfl H
theorem b351_366 {x1 : Nat} {x2 : Nat} {x3 : Int32} {s0 : Int32} {h : iH} {Q : Option Value → iH → Prop} (H : (¬ ((x3 + (1 : Int32)) < 0 ∨ L ≤ (x3 + (1 : Int32)).toNatClampNeg) ∧ (¬ ((x3 + (2 : Int32)) < 0 ∨ L ≤ (x3 + (2 : Int32)).toNatClampNeg) ∧ (¬ ((x3 + (3 : Int32)) < 0 ∨ L ≤ (x3 + (3 : Int32)).toNatClampNeg) ∧ (¬ ((x3 + (4 : Int32)) < 0 ∨ L ≤ (x3 + (4 : Int32)).toNatClampNeg) ∧ (i_obj? h x2 12 ∧ i_C i_MT i_AT L xs 209 [.ref x2, .int (xs (x3 + (1 : Int32)).toNatClampNeg), .int (xs (x3 + (2 : Int32)).toNatClampNeg), .long ((((xs (x3 + (3 : Int32)).toNatClampNeg).toInt64) <<< ((32 : Int32).toInt64 &&& 63)) ||| (((xs (x3 + (4 : Int32)).toNatClampNeg).toInt64) &&& (4294967295 : Int64)))] h (fun v h9 => ∃ r10 : Int32, v = some (.int r10) ∧ i_P i_MT i_AT L xs 351 400 [some (.retAddr 3), some (.ref x1), some (.ref x2), some (.int x3)] [.int r10, .int s0] h9 173 127414 Q))))))) : i_P i_MT i_AT L xs 351 366 [some (.retAddr 3), some (.ref x1), some (.ref x2), some (.int x3)] [.int s0] h 173 127414 Q := by
  have hk := i_k351
  refine g_s1 (pc2 := 367) hk rfl rfl rfl rfl rfl ?_
  refine g_s1 (pc2 := 368) hk rfl rfl rfl rfl rfl ?_
  refine g_s1 (pc2 := 369) hk rfl rfl rfl rfl rfl ?_
  refine g_s1 (pc2 := 370) (st2 := [.int (1 : Int32), .int x3, .retAddr 3, .ref x2, .int s0]) hk rfl rfl rfl rfl rfl ?_
  refine g_s1 (pc2 := 371) hk rfl rfl rfl rfl rfl ?_
  obtain ⟨hi, H⟩ := H
  refine g_step (pc2 := 372) hk rfl rfl rfl (s_agetX (L := L) (xs := xs) (j := 3) rfl hi) ?_
  refine g_s1 (pc2 := 373) hk rfl rfl rfl rfl rfl ?_
  refine g_s1 (pc2 := 374) hk rfl rfl rfl rfl rfl ?_
  refine g_s1 (pc2 := 375) (st2 := [.int (2 : Int32), .int x3, .retAddr 3, .int (xs (x3 + (1 : Int32)).toNatClampNeg), .ref x2, .int s0]) hk rfl rfl rfl rfl rfl ?_
  refine g_s1 (pc2 := 376) hk rfl rfl rfl rfl rfl ?_
  obtain ⟨hi, H⟩ := H
  refine g_step (pc2 := 377) hk rfl rfl rfl (s_agetX (L := L) (xs := xs) (j := 3) rfl hi) ?_
  refine g_s1 (pc2 := 378) hk rfl rfl rfl rfl rfl ?_
  refine g_s1 (pc2 := 379) hk rfl rfl rfl rfl rfl ?_
  refine g_s1 (pc2 := 380) (st2 := [.int (3 : Int32), .int x3, .retAddr 3, .int (xs (x3 + (2 : Int32)).toNatClampNeg), .int (xs (x3 + (1 : Int32)).toNatClampNeg), .ref x2, .int s0]) hk rfl rfl rfl rfl rfl ?_
  refine g_s1 (pc2 := 381) hk rfl rfl rfl rfl rfl ?_
  obtain ⟨hi, H⟩ := H
  refine g_step (pc2 := 382) hk rfl rfl rfl (s_agetX (L := L) (xs := xs) (j := 3) rfl hi) ?_
  refine g_s1 (pc2 := 383) hk rfl rfl rfl rfl rfl ?_
  refine g_s1 (pc2 := 385) (st2 := [.int (32 : Int32), .long ((xs (x3 + (3 : Int32)).toNatClampNeg).toInt64), .int (xs (x3 + (2 : Int32)).toNatClampNeg), .int (xs (x3 + (1 : Int32)).toNatClampNeg), .ref x2, .int s0]) hk rfl rfl rfl rfl rfl ?_
  refine g_s1 (pc2 := 386) hk rfl rfl rfl rfl rfl ?_
  refine g_s1 (pc2 := 387) hk rfl rfl rfl rfl rfl ?_
  refine g_s1 (pc2 := 388) hk rfl rfl rfl rfl rfl ?_
  refine g_s1 (pc2 := 389) (st2 := [.int (4 : Int32), .int x3, .retAddr 3, .long (((xs (x3 + (3 : Int32)).toNatClampNeg).toInt64) <<< ((32 : Int32).toInt64 &&& 63)), .int (xs (x3 + (2 : Int32)).toNatClampNeg), .int (xs (x3 + (1 : Int32)).toNatClampNeg), .ref x2, .int s0]) hk rfl rfl rfl rfl rfl ?_
  refine g_s1 (pc2 := 390) hk rfl rfl rfl rfl rfl ?_
  obtain ⟨hi, H⟩ := H
  refine g_step (pc2 := 391) hk rfl rfl rfl (s_agetX (L := L) (xs := xs) (j := 3) rfl hi) ?_
  refine g_s1 (pc2 := 392) hk rfl rfl rfl rfl rfl ?_
  refine g_step (pc2 := 395) (st2 := [.long (4294967295 : Int64), .long ((xs (x3 + (4 : Int32)).toNatClampNeg).toInt64), .long (((xs (x3 + (3 : Int32)).toNatClampNeg).toInt64) <<< ((32 : Int32).toInt64 &&& 63)), .int (xs (x3 + (2 : Int32)).toNatClampNeg), .int (xs (x3 + (1 : Int32)).toNatClampNeg), .ref x2, .int s0]) hk rfl rfl rfl rfl ?_
  refine g_s1 (pc2 := 396) hk rfl rfl rfl rfl rfl ?_
  refine g_s1 (pc2 := 397) hk rfl rfl rfl rfl rfl ?_
  obtain ⟨ho, H⟩ := H
  refine g_call hk rfl rfl i_k209.1 ⟨rfl, rfl⟩ rfl (i_rcv_v ho rfl (by decide)) rfl ?_
  exact H.mono (fun v h2 q => by obtain ⟨r, rfl, q⟩ := q; exact q)
theorem b351_400 {x1 : Nat} {x2 : Nat} {x3 : Int32} {s0 : Int32} {s1 : Int32} {h : iH} {Q : Option Value → iH → Prop} (H : ((s0 = s1 → i_P i_MT i_AT L xs 351 1853 [some (.retAddr 3), some (.ref x1), some (.ref x2), some (.int x3)] [] h 173 127414 Q) ∧ (¬ (s0 = s1) → Q (some (.int 0)) h))) : i_P i_MT i_AT L xs 351 400 [some (.retAddr 3), some (.ref x1), some (.ref x2), some (.int x3)] [.int s1, .int s0] h 173 127414 Q := by
  have hk := i_k351
  refine g_icmp_eq hk rfl (fun hc => ?_) (fun hc => ?_)
  · have H := H.1 hc
    exact H
  · have H := H.2 hc
    refine g_s1 (pc2 := 404) (st2 := [.int (0 : Int32)]) hk rfl rfl rfl rfl rfl ?_
    exact g_ireturn hk rfl (by decide) (by decide) rfl H
theorem b351_419 {x1 : Nat} {x2 : Nat} {x3 : Int32} {s0 : Int64} {h : iH} {Q : Option Value → iH → Prop} (H : (¬ ((x3 + (1 : Int32)) < 0 ∨ L ≤ (x3 + (1 : Int32)).toNatClampNeg) ∧ (¬ ((x3 + (2 : Int32)) < 0 ∨ L ≤ (x3 + (2 : Int32)).toNatClampNeg) ∧ (i_obj? h x2 12 ∧ i_C i_MT i_AT L xs 210 [.ref x2, .int (xs (x3 + (1 : Int32)).toNatClampNeg), .int (xs (x3 + (2 : Int32)).toNatClampNeg)] h (fun v h5 => ∃ r6 : Int64, v = some (.long r6) ∧ i_P i_MT i_AT L xs 351 433 [some (.retAddr 3), some (.ref x1), some (.ref x2), some (.int x3)] [.long r6, .long s0] h5 173 127414 Q))))) : i_P i_MT i_AT L xs 351 419 [some (.retAddr 3), some (.ref x1), some (.ref x2), some (.int x3)] [.long s0] h 173 127414 Q := by
  have hk := i_k351
  refine g_s1 (pc2 := 420) hk rfl rfl rfl rfl rfl ?_
  refine g_s1 (pc2 := 421) hk rfl rfl rfl rfl rfl ?_
  refine g_s1 (pc2 := 422) hk rfl rfl rfl rfl rfl ?_
  refine g_s1 (pc2 := 423) (st2 := [.int (1 : Int32), .int x3, .retAddr 3, .ref x2, .long s0]) hk rfl rfl rfl rfl rfl ?_
  refine g_s1 (pc2 := 424) hk rfl rfl rfl rfl rfl ?_
  obtain ⟨hi, H⟩ := H
  refine g_step (pc2 := 425) hk rfl rfl rfl (s_agetX (L := L) (xs := xs) (j := 3) rfl hi) ?_
  refine g_s1 (pc2 := 426) hk rfl rfl rfl rfl rfl ?_
  refine g_s1 (pc2 := 427) hk rfl rfl rfl rfl rfl ?_
  refine g_s1 (pc2 := 428) (st2 := [.int (2 : Int32), .int x3, .retAddr 3, .int (xs (x3 + (1 : Int32)).toNatClampNeg), .ref x2, .long s0]) hk rfl rfl rfl rfl rfl ?_
  refine g_s1 (pc2 := 429) hk rfl rfl rfl rfl rfl ?_
  obtain ⟨hi, H⟩ := H
  refine g_step (pc2 := 430) hk rfl rfl rfl (s_agetX (L := L) (xs := xs) (j := 3) rfl hi) ?_
  obtain ⟨ho, H⟩ := H
  refine g_call hk rfl rfl i_k210.1 ⟨rfl, rfl⟩ rfl (i_rcv_v ho rfl (by decide)) rfl ?_
  exact H.mono (fun v h2 q => by obtain ⟨r, rfl, q⟩ := q; exact q)
theorem b351_433 {x1 : Nat} {x2 : Nat} {x3 : Int32} {s0 : Int64} {s1 : Int64} {h : iH} {Q : Option Value → iH → Prop} (H : (((lg_cmp s0 s1) = 0 → i_P i_MT i_AT L xs 351 1853 [some (.retAddr 3), some (.ref x1), some (.ref x2), some (.int x3)] [] h 173 127414 Q) ∧ (¬ ((lg_cmp s0 s1) = 0) → Q (some (.int 0)) h))) : i_P i_MT i_AT L xs 351 433 [some (.retAddr 3), some (.ref x1), some (.ref x2), some (.int x3)] [.long s1, .long s0] h 173 127414 Q := by
  have hk := i_k351
  refine g_s1 (pc2 := 434) hk rfl rfl rfl rfl rfl ?_
  refine g_if_eq hk rfl (fun hc => ?_) (fun hc => ?_)
  · have H := H.1 hc
    exact H
  · have H := H.2 hc
    refine g_s1 (pc2 := 438) (st2 := [.int (0 : Int32)]) hk rfl rfl rfl rfl rfl ?_
    exact g_ireturn hk rfl (by decide) (by decide) rfl H
theorem b351_468 {x1 : Nat} {x2 : Nat} {x3 : Int32} {s0 : Int32} {h : iH} {Q : Option Value → iH → Prop} (H : (¬ ((x3 + (1 : Int32)) < 0 ∨ L ≤ (x3 + (1 : Int32)).toNatClampNeg) ∧ (¬ ((x3 + (2 : Int32)) < 0 ∨ L ≤ (x3 + (2 : Int32)).toNatClampNeg) ∧ (¬ ((x3 + (3 : Int32)) < 0 ∨ L ≤ (x3 + (3 : Int32)).toNatClampNeg) ∧ (¬ ((x3 + (4 : Int32)) < 0 ∨ L ≤ (x3 + (4 : Int32)).toNatClampNeg) ∧ (¬ ((x3 + (5 : Int32)) < 0 ∨ L ≤ (x3 + (5 : Int32)).toNatClampNeg) ∧ (i_obj? h x2 12 ∧ i_C i_MT i_AT L xs 211 [.ref x2, .int (xs (x3 + (1 : Int32)).toNatClampNeg), .int (xs (x3 + (2 : Int32)).toNatClampNeg), .int (xs (x3 + (3 : Int32)).toNatClampNeg), .int (xs (x3 + (4 : Int32)).toNatClampNeg), .int (xs (x3 + (5 : Int32)).toNatClampNeg)] h (fun v h11 => ∃ r12 : Int32, v = some (.int r12) ∧ i_P i_MT i_AT L xs 351 497 [some (.retAddr 3), some (.ref x1), some (.ref x2), some (.int x3)] [.int r12, .int s0] h11 173 127414 Q)))))))) : i_P i_MT i_AT L xs 351 468 [some (.retAddr 3), some (.ref x1), some (.ref x2), some (.int x3)] [.int s0] h 173 127414 Q := by
  have hk := i_k351
  refine g_s1 (pc2 := 469) hk rfl rfl rfl rfl rfl ?_
  refine g_s1 (pc2 := 470) hk rfl rfl rfl rfl rfl ?_
  refine g_s1 (pc2 := 471) hk rfl rfl rfl rfl rfl ?_
  refine g_s1 (pc2 := 472) (st2 := [.int (1 : Int32), .int x3, .retAddr 3, .ref x2, .int s0]) hk rfl rfl rfl rfl rfl ?_
  refine g_s1 (pc2 := 473) hk rfl rfl rfl rfl rfl ?_
  obtain ⟨hi, H⟩ := H
  refine g_step (pc2 := 474) hk rfl rfl rfl (s_agetX (L := L) (xs := xs) (j := 3) rfl hi) ?_
  refine g_s1 (pc2 := 475) hk rfl rfl rfl rfl rfl ?_
  refine g_s1 (pc2 := 476) hk rfl rfl rfl rfl rfl ?_
  refine g_s1 (pc2 := 477) (st2 := [.int (2 : Int32), .int x3, .retAddr 3, .int (xs (x3 + (1 : Int32)).toNatClampNeg), .ref x2, .int s0]) hk rfl rfl rfl rfl rfl ?_
  refine g_s1 (pc2 := 478) hk rfl rfl rfl rfl rfl ?_
  obtain ⟨hi, H⟩ := H
  refine g_step (pc2 := 479) hk rfl rfl rfl (s_agetX (L := L) (xs := xs) (j := 3) rfl hi) ?_
  refine g_s1 (pc2 := 480) hk rfl rfl rfl rfl rfl ?_
  refine g_s1 (pc2 := 481) hk rfl rfl rfl rfl rfl ?_
  refine g_s1 (pc2 := 482) (st2 := [.int (3 : Int32), .int x3, .retAddr 3, .int (xs (x3 + (2 : Int32)).toNatClampNeg), .int (xs (x3 + (1 : Int32)).toNatClampNeg), .ref x2, .int s0]) hk rfl rfl rfl rfl rfl ?_
  refine g_s1 (pc2 := 483) hk rfl rfl rfl rfl rfl ?_
  obtain ⟨hi, H⟩ := H
  refine g_step (pc2 := 484) hk rfl rfl rfl (s_agetX (L := L) (xs := xs) (j := 3) rfl hi) ?_
  refine g_s1 (pc2 := 485) hk rfl rfl rfl rfl rfl ?_
  refine g_s1 (pc2 := 486) hk rfl rfl rfl rfl rfl ?_
  refine g_s1 (pc2 := 487) (st2 := [.int (4 : Int32), .int x3, .retAddr 3, .int (xs (x3 + (3 : Int32)).toNatClampNeg), .int (xs (x3 + (2 : Int32)).toNatClampNeg), .int (xs (x3 + (1 : Int32)).toNatClampNeg), .ref x2, .int s0]) hk rfl rfl rfl rfl rfl ?_
  refine g_s1 (pc2 := 488) hk rfl rfl rfl rfl rfl ?_
  obtain ⟨hi, H⟩ := H
  refine g_step (pc2 := 489) hk rfl rfl rfl (s_agetX (L := L) (xs := xs) (j := 3) rfl hi) ?_
  refine g_s1 (pc2 := 490) hk rfl rfl rfl rfl rfl ?_
  refine g_s1 (pc2 := 491) hk rfl rfl rfl rfl rfl ?_
  refine g_s1 (pc2 := 492) (st2 := [.int (5 : Int32), .int x3, .retAddr 3, .int (xs (x3 + (4 : Int32)).toNatClampNeg), .int (xs (x3 + (3 : Int32)).toNatClampNeg), .int (xs (x3 + (2 : Int32)).toNatClampNeg), .int (xs (x3 + (1 : Int32)).toNatClampNeg), .ref x2, .int s0]) hk rfl rfl rfl rfl rfl ?_
  refine g_s1 (pc2 := 493) hk rfl rfl rfl rfl rfl ?_
  obtain ⟨hi, H⟩ := H
  refine g_step (pc2 := 494) hk rfl rfl rfl (s_agetX (L := L) (xs := xs) (j := 3) rfl hi) ?_
  obtain ⟨ho, H⟩ := H
  refine g_call hk rfl rfl i_k211.1 ⟨rfl, rfl⟩ rfl (i_rcv_v ho rfl (by decide)) rfl ?_
  exact H.mono (fun v h2 q => by obtain ⟨r, rfl, q⟩ := q; exact q)
theorem b351_497 {x1 : Nat} {x2 : Nat} {x3 : Int32} {s0 : Int32} {s1 : Int32} {h : iH} {Q : Option Value → iH → Prop} (H : ((s0 = s1 → i_P i_MT i_AT L xs 351 1853 [some (.retAddr 3), some (.ref x1), some (.ref x2), some (.int x3)] [] h 173 127414 Q) ∧ (¬ (s0 = s1) → Q (some (.int 0)) h))) : i_P i_MT i_AT L xs 351 497 [some (.retAddr 3), some (.ref x1), some (.ref x2), some (.int x3)] [.int s1, .int s0] h 173 127414 Q := by
  have hk := i_k351
  refine g_icmp_eq hk rfl (fun hc => ?_) (fun hc => ?_)
  · have H := H.1 hc
    exact H
  · have H := H.2 hc
    refine g_s1 (pc2 := 501) (st2 := [.int (0 : Int32)]) hk rfl rfl rfl rfl rfl ?_
    exact g_ireturn hk rfl (by decide) (by decide) rfl H
theorem b351_531 {x1 : Nat} {x2 : Nat} {x3 : Int32} {s0 : Int32} {h : iH} {Q : Option Value → iH → Prop} (H : (¬ ((x3 + (1 : Int32)) < 0 ∨ L ≤ (x3 + (1 : Int32)).toNatClampNeg) ∧ (¬ ((x3 + (2 : Int32)) < 0 ∨ L ≤ (x3 + (2 : Int32)).toNatClampNeg) ∧ (¬ ((x3 + (3 : Int32)) < 0 ∨ L ≤ (x3 + (3 : Int32)).toNatClampNeg) ∧ (¬ ((x3 + (4 : Int32)) < 0 ∨ L ≤ (x3 + (4 : Int32)).toNatClampNeg) ∧ (¬ ((x3 + (5 : Int32)) < 0 ∨ L ≤ (x3 + (5 : Int32)).toNatClampNeg) ∧ (i_obj? h x2 12 ∧ i_C i_MT i_AT L xs 213 [.ref x2, .int (xs (x3 + (1 : Int32)).toNatClampNeg), .int (xs (x3 + (2 : Int32)).toNatClampNeg), .int (xs (x3 + (3 : Int32)).toNatClampNeg), .int (xs (x3 + (4 : Int32)).toNatClampNeg), .int (xs (x3 + (5 : Int32)).toNatClampNeg)] h (fun v h11 => ∃ r12 : Int32, v = some (.int r12) ∧ i_P i_MT i_AT L xs 351 560 [some (.retAddr 3), some (.ref x1), some (.ref x2), some (.int x3)] [.int r12, .int s0] h11 173 127414 Q)))))))) : i_P i_MT i_AT L xs 351 531 [some (.retAddr 3), some (.ref x1), some (.ref x2), some (.int x3)] [.int s0] h 173 127414 Q := by
  have hk := i_k351
  refine g_s1 (pc2 := 532) hk rfl rfl rfl rfl rfl ?_
  refine g_s1 (pc2 := 533) hk rfl rfl rfl rfl rfl ?_
  refine g_s1 (pc2 := 534) hk rfl rfl rfl rfl rfl ?_
  refine g_s1 (pc2 := 535) (st2 := [.int (1 : Int32), .int x3, .retAddr 3, .ref x2, .int s0]) hk rfl rfl rfl rfl rfl ?_
  refine g_s1 (pc2 := 536) hk rfl rfl rfl rfl rfl ?_
  obtain ⟨hi, H⟩ := H
  refine g_step (pc2 := 537) hk rfl rfl rfl (s_agetX (L := L) (xs := xs) (j := 3) rfl hi) ?_
  refine g_s1 (pc2 := 538) hk rfl rfl rfl rfl rfl ?_
  refine g_s1 (pc2 := 539) hk rfl rfl rfl rfl rfl ?_
  refine g_s1 (pc2 := 540) (st2 := [.int (2 : Int32), .int x3, .retAddr 3, .int (xs (x3 + (1 : Int32)).toNatClampNeg), .ref x2, .int s0]) hk rfl rfl rfl rfl rfl ?_
  refine g_s1 (pc2 := 541) hk rfl rfl rfl rfl rfl ?_
  obtain ⟨hi, H⟩ := H
  refine g_step (pc2 := 542) hk rfl rfl rfl (s_agetX (L := L) (xs := xs) (j := 3) rfl hi) ?_
  refine g_s1 (pc2 := 543) hk rfl rfl rfl rfl rfl ?_
  refine g_s1 (pc2 := 544) hk rfl rfl rfl rfl rfl ?_
  refine g_s1 (pc2 := 545) (st2 := [.int (3 : Int32), .int x3, .retAddr 3, .int (xs (x3 + (2 : Int32)).toNatClampNeg), .int (xs (x3 + (1 : Int32)).toNatClampNeg), .ref x2, .int s0]) hk rfl rfl rfl rfl rfl ?_
  refine g_s1 (pc2 := 546) hk rfl rfl rfl rfl rfl ?_
  obtain ⟨hi, H⟩ := H
  refine g_step (pc2 := 547) hk rfl rfl rfl (s_agetX (L := L) (xs := xs) (j := 3) rfl hi) ?_
  refine g_s1 (pc2 := 548) hk rfl rfl rfl rfl rfl ?_
  refine g_s1 (pc2 := 549) hk rfl rfl rfl rfl rfl ?_
  refine g_s1 (pc2 := 550) (st2 := [.int (4 : Int32), .int x3, .retAddr 3, .int (xs (x3 + (3 : Int32)).toNatClampNeg), .int (xs (x3 + (2 : Int32)).toNatClampNeg), .int (xs (x3 + (1 : Int32)).toNatClampNeg), .ref x2, .int s0]) hk rfl rfl rfl rfl rfl ?_
  refine g_s1 (pc2 := 551) hk rfl rfl rfl rfl rfl ?_
  obtain ⟨hi, H⟩ := H
  refine g_step (pc2 := 552) hk rfl rfl rfl (s_agetX (L := L) (xs := xs) (j := 3) rfl hi) ?_
  refine g_s1 (pc2 := 553) hk rfl rfl rfl rfl rfl ?_
  refine g_s1 (pc2 := 554) hk rfl rfl rfl rfl rfl ?_
  refine g_s1 (pc2 := 555) (st2 := [.int (5 : Int32), .int x3, .retAddr 3, .int (xs (x3 + (4 : Int32)).toNatClampNeg), .int (xs (x3 + (3 : Int32)).toNatClampNeg), .int (xs (x3 + (2 : Int32)).toNatClampNeg), .int (xs (x3 + (1 : Int32)).toNatClampNeg), .ref x2, .int s0]) hk rfl rfl rfl rfl rfl ?_
  refine g_s1 (pc2 := 556) hk rfl rfl rfl rfl rfl ?_
  obtain ⟨hi, H⟩ := H
  refine g_step (pc2 := 557) hk rfl rfl rfl (s_agetX (L := L) (xs := xs) (j := 3) rfl hi) ?_
  obtain ⟨ho, H⟩ := H
  refine g_call hk rfl rfl i_k213.1 ⟨rfl, rfl⟩ rfl (i_rcv_v ho rfl (by decide)) rfl ?_
  exact H.mono (fun v h2 q => by obtain ⟨r, rfl, q⟩ := q; exact q)
theorem b351_560 {x1 : Nat} {x2 : Nat} {x3 : Int32} {s0 : Int32} {s1 : Int32} {h : iH} {Q : Option Value → iH → Prop} (H : ((s0 = s1 → i_P i_MT i_AT L xs 351 1853 [some (.retAddr 3), some (.ref x1), some (.ref x2), some (.int x3)] [] h 173 127414 Q) ∧ (¬ (s0 = s1) → Q (some (.int 0)) h))) : i_P i_MT i_AT L xs 351 560 [some (.retAddr 3), some (.ref x1), some (.ref x2), some (.int x3)] [.int s1, .int s0] h 173 127414 Q := by
  have hk := i_k351
  refine g_icmp_eq hk rfl (fun hc => ?_) (fun hc => ?_)
  · have H := H.1 hc
    exact H
  · have H := H.2 hc
    refine g_s1 (pc2 := 564) (st2 := [.int (0 : Int32)]) hk rfl rfl rfl rfl rfl ?_
    exact g_ireturn hk rfl (by decide) (by decide) rfl H
theorem b351_574 {x1 : Nat} {x2 : Nat} {x3 : Int32} {s0 : Int32} {h : iH} {Q : Option Value → iH → Prop} (H : (¬ ((x3 + (1 : Int32)) < 0 ∨ L ≤ (x3 + (1 : Int32)).toNatClampNeg) ∧ (i_obj? h x2 12 ∧ i_C i_MT i_AT L xs 243 [.ref x2, .int (xs (x3 + (1 : Int32)).toNatClampNeg)] h (fun v h3 => ∃ r4 : Int32, v = some (.int r4) ∧ i_P i_MT i_AT L xs 351 583 [some (.retAddr 3), some (.ref x1), some (.ref x2), some (.int x3)] [.int r4, .int s0] h3 173 127414 Q)))) : i_P i_MT i_AT L xs 351 574 [some (.retAddr 3), some (.ref x1), some (.ref x2), some (.int x3)] [.int s0] h 173 127414 Q := by
  have hk := i_k351
  refine g_s1 (pc2 := 575) hk rfl rfl rfl rfl rfl ?_
  refine g_s1 (pc2 := 576) hk rfl rfl rfl rfl rfl ?_
  refine g_s1 (pc2 := 577) hk rfl rfl rfl rfl rfl ?_
  refine g_s1 (pc2 := 578) (st2 := [.int (1 : Int32), .int x3, .retAddr 3, .ref x2, .int s0]) hk rfl rfl rfl rfl rfl ?_
  refine g_s1 (pc2 := 579) hk rfl rfl rfl rfl rfl ?_
  obtain ⟨hi, H⟩ := H
  refine g_step (pc2 := 580) hk rfl rfl rfl (s_agetX (L := L) (xs := xs) (j := 3) rfl hi) ?_
  obtain ⟨ho, H⟩ := H
  refine g_call hk rfl rfl i_k243.1 ⟨rfl, rfl⟩ rfl (i_rcv_v ho rfl (by decide)) rfl ?_
  exact H.mono (fun v h2 q => by obtain ⟨r, rfl, q⟩ := q; exact q)
theorem b351_583 {x1 : Nat} {x2 : Nat} {x3 : Int32} {s0 : Int32} {s1 : Int32} {h : iH} {Q : Option Value → iH → Prop} (H : ((s0 = s1 → i_P i_MT i_AT L xs 351 1853 [some (.retAddr 3), some (.ref x1), some (.ref x2), some (.int x3)] [] h 173 127414 Q) ∧ (¬ (s0 = s1) → Q (some (.int 0)) h))) : i_P i_MT i_AT L xs 351 583 [some (.retAddr 3), some (.ref x1), some (.ref x2), some (.int x3)] [.int s1, .int s0] h 173 127414 Q := by
  have hk := i_k351
  refine g_icmp_eq hk rfl (fun hc => ?_) (fun hc => ?_)
  · have H := H.1 hc
    exact H
  · have H := H.2 hc
    refine g_s1 (pc2 := 587) (st2 := [.int (0 : Int32)]) hk rfl rfl rfl rfl rfl ?_
    exact g_ireturn hk rfl (by decide) (by decide) rfl H
theorem b351_597 {x1 : Nat} {x2 : Nat} {x3 : Int32} {s0 : Int32} {h : iH} {Q : Option Value → iH → Prop} (H : (¬ ((x3 + (1 : Int32)) < 0 ∨ L ≤ (x3 + (1 : Int32)).toNatClampNeg) ∧ (i_obj? h x2 12 ∧ i_C i_MT i_AT L xs 247 [.ref x2, .int (xs (x3 + (1 : Int32)).toNatClampNeg)] h (fun v h3 => ∃ r4 : Int32, v = some (.int r4) ∧ i_P i_MT i_AT L xs 351 606 [some (.retAddr 3), some (.ref x1), some (.ref x2), some (.int x3)] [.int r4, .int s0] h3 173 127414 Q)))) : i_P i_MT i_AT L xs 351 597 [some (.retAddr 3), some (.ref x1), some (.ref x2), some (.int x3)] [.int s0] h 173 127414 Q := by
  have hk := i_k351
  refine g_s1 (pc2 := 598) hk rfl rfl rfl rfl rfl ?_
  refine g_s1 (pc2 := 599) hk rfl rfl rfl rfl rfl ?_
  refine g_s1 (pc2 := 600) hk rfl rfl rfl rfl rfl ?_
  refine g_s1 (pc2 := 601) (st2 := [.int (1 : Int32), .int x3, .retAddr 3, .ref x2, .int s0]) hk rfl rfl rfl rfl rfl ?_
  refine g_s1 (pc2 := 602) hk rfl rfl rfl rfl rfl ?_
  obtain ⟨hi, H⟩ := H
  refine g_step (pc2 := 603) hk rfl rfl rfl (s_agetX (L := L) (xs := xs) (j := 3) rfl hi) ?_
  obtain ⟨ho, H⟩ := H
  refine g_call hk rfl rfl i_k247.1 ⟨rfl, rfl⟩ rfl (i_rcv_v ho rfl (by decide)) rfl ?_
  exact H.mono (fun v h2 q => by obtain ⟨r, rfl, q⟩ := q; exact q)
theorem b351_606 {x1 : Nat} {x2 : Nat} {x3 : Int32} {s0 : Int32} {s1 : Int32} {h : iH} {Q : Option Value → iH → Prop} (H : ((s0 = s1 → i_P i_MT i_AT L xs 351 1853 [some (.retAddr 3), some (.ref x1), some (.ref x2), some (.int x3)] [] h 173 127414 Q) ∧ (¬ (s0 = s1) → Q (some (.int 0)) h))) : i_P i_MT i_AT L xs 351 606 [some (.retAddr 3), some (.ref x1), some (.ref x2), some (.int x3)] [.int s1, .int s0] h 173 127414 Q := by
  have hk := i_k351
  refine g_icmp_eq hk rfl (fun hc => ?_) (fun hc => ?_)
  · have H := H.1 hc
    exact H
  · have H := H.2 hc
    refine g_s1 (pc2 := 610) (st2 := [.int (0 : Int32)]) hk rfl rfl rfl rfl rfl ?_
    exact g_ireturn hk rfl (by decide) (by decide) rfl H
theorem b351_620 {x1 : Nat} {x2 : Nat} {x3 : Int32} {s0 : Int32} {h : iH} {Q : Option Value → iH → Prop} (H : (¬ ((x3 + (1 : Int32)) < 0 ∨ L ≤ (x3 + (1 : Int32)).toNatClampNeg) ∧ (i_obj? h x2 12 ∧ i_C i_MT i_AT L xs 229 [.ref x2, .int (xs (x3 + (1 : Int32)).toNatClampNeg)] h (fun v h3 => ∃ r4 : Int32, v = some (.int r4) ∧ i_P i_MT i_AT L xs 351 629 [some (.retAddr 3), some (.ref x1), some (.ref x2), some (.int x3)] [.int r4, .int s0] h3 173 127414 Q)))) : i_P i_MT i_AT L xs 351 620 [some (.retAddr 3), some (.ref x1), some (.ref x2), some (.int x3)] [.int s0] h 173 127414 Q := by
  have hk := i_k351
  refine g_s1 (pc2 := 621) hk rfl rfl rfl rfl rfl ?_
  refine g_s1 (pc2 := 622) hk rfl rfl rfl rfl rfl ?_
  refine g_s1 (pc2 := 623) hk rfl rfl rfl rfl rfl ?_
  refine g_s1 (pc2 := 624) (st2 := [.int (1 : Int32), .int x3, .retAddr 3, .ref x2, .int s0]) hk rfl rfl rfl rfl rfl ?_
  refine g_s1 (pc2 := 625) hk rfl rfl rfl rfl rfl ?_
  obtain ⟨hi, H⟩ := H
  refine g_step (pc2 := 626) hk rfl rfl rfl (s_agetX (L := L) (xs := xs) (j := 3) rfl hi) ?_
  obtain ⟨ho, H⟩ := H
  refine g_call hk rfl rfl i_k229.1 ⟨rfl, rfl⟩ rfl (i_rcv_v ho rfl (by decide)) rfl ?_
  exact H.mono (fun v h2 q => by obtain ⟨r, rfl, q⟩ := q; exact q)
theorem b351_629 {x1 : Nat} {x2 : Nat} {x3 : Int32} {s0 : Int32} {s1 : Int32} {h : iH} {Q : Option Value → iH → Prop} (H : ((s0 = s1 → i_P i_MT i_AT L xs 351 1853 [some (.retAddr 3), some (.ref x1), some (.ref x2), some (.int x3)] [] h 173 127414 Q) ∧ (¬ (s0 = s1) → Q (some (.int 0)) h))) : i_P i_MT i_AT L xs 351 629 [some (.retAddr 3), some (.ref x1), some (.ref x2), some (.int x3)] [.int s1, .int s0] h 173 127414 Q := by
  have hk := i_k351
  refine g_icmp_eq hk rfl (fun hc => ?_) (fun hc => ?_)
  · have H := H.1 hc
    exact H
  · have H := H.2 hc
    refine g_s1 (pc2 := 633) (st2 := [.int (0 : Int32)]) hk rfl rfl rfl rfl rfl ?_
    exact g_ireturn hk rfl (by decide) (by decide) rfl H
theorem b351_643 {x1 : Nat} {x2 : Nat} {x3 : Int32} {s0 : Int32} {h : iH} {Q : Option Value → iH → Prop} (H : (¬ ((x3 + (1 : Int32)) < 0 ∨ L ≤ (x3 + (1 : Int32)).toNatClampNeg) ∧ (i_obj? h x2 12 ∧ i_C i_MT i_AT L xs 257 [.ref x2, .int (xs (x3 + (1 : Int32)).toNatClampNeg)] h (fun v h3 => ∃ r4 : Int32, v = some (.int r4) ∧ i_P i_MT i_AT L xs 351 652 [some (.retAddr 3), some (.ref x1), some (.ref x2), some (.int x3)] [.int r4, .int s0] h3 173 127414 Q)))) : i_P i_MT i_AT L xs 351 643 [some (.retAddr 3), some (.ref x1), some (.ref x2), some (.int x3)] [.int s0] h 173 127414 Q := by
  have hk := i_k351
  refine g_s1 (pc2 := 644) hk rfl rfl rfl rfl rfl ?_
  refine g_s1 (pc2 := 645) hk rfl rfl rfl rfl rfl ?_
  refine g_s1 (pc2 := 646) hk rfl rfl rfl rfl rfl ?_
  refine g_s1 (pc2 := 647) (st2 := [.int (1 : Int32), .int x3, .retAddr 3, .ref x2, .int s0]) hk rfl rfl rfl rfl rfl ?_
  refine g_s1 (pc2 := 648) hk rfl rfl rfl rfl rfl ?_
  obtain ⟨hi, H⟩ := H
  refine g_step (pc2 := 649) hk rfl rfl rfl (s_agetX (L := L) (xs := xs) (j := 3) rfl hi) ?_
  obtain ⟨ho, H⟩ := H
  refine g_call hk rfl rfl i_k257.1 ⟨rfl, rfl⟩ rfl (i_rcv_v ho rfl (by decide)) rfl ?_
  exact H.mono (fun v h2 q => by obtain ⟨r, rfl, q⟩ := q; exact q)
theorem b351_652 {x1 : Nat} {x2 : Nat} {x3 : Int32} {s0 : Int32} {s1 : Int32} {h : iH} {Q : Option Value → iH → Prop} (H : ((s0 = s1 → i_P i_MT i_AT L xs 351 1853 [some (.retAddr 3), some (.ref x1), some (.ref x2), some (.int x3)] [] h 173 127414 Q) ∧ (¬ (s0 = s1) → Q (some (.int 0)) h))) : i_P i_MT i_AT L xs 351 652 [some (.retAddr 3), some (.ref x1), some (.ref x2), some (.int x3)] [.int s1, .int s0] h 173 127414 Q := by
  have hk := i_k351
  refine g_icmp_eq hk rfl (fun hc => ?_) (fun hc => ?_)
  · have H := H.1 hc
    exact H
  · have H := H.2 hc
    refine g_s1 (pc2 := 656) (st2 := [.int (0 : Int32)]) hk rfl rfl rfl rfl rfl ?_
    exact g_ireturn hk rfl (by decide) (by decide) rfl H
theorem b351_666 {x1 : Nat} {x2 : Nat} {x3 : Int32} {s0 : Int32} {h : iH} {Q : Option Value → iH → Prop} (H : (¬ ((x3 + (1 : Int32)) < 0 ∨ L ≤ (x3 + (1 : Int32)).toNatClampNeg) ∧ (i_obj? h x2 12 ∧ i_C i_MT i_AT L xs 258 [.ref x2, .int (xs (x3 + (1 : Int32)).toNatClampNeg)] h (fun v h3 => ∃ r4 : Int32, v = some (.int r4) ∧ i_P i_MT i_AT L xs 351 675 [some (.retAddr 3), some (.ref x1), some (.ref x2), some (.int x3)] [.int r4, .int s0] h3 173 127414 Q)))) : i_P i_MT i_AT L xs 351 666 [some (.retAddr 3), some (.ref x1), some (.ref x2), some (.int x3)] [.int s0] h 173 127414 Q := by
  have hk := i_k351
  refine g_s1 (pc2 := 667) hk rfl rfl rfl rfl rfl ?_
  refine g_s1 (pc2 := 668) hk rfl rfl rfl rfl rfl ?_
  refine g_s1 (pc2 := 669) hk rfl rfl rfl rfl rfl ?_
  refine g_s1 (pc2 := 670) (st2 := [.int (1 : Int32), .int x3, .retAddr 3, .ref x2, .int s0]) hk rfl rfl rfl rfl rfl ?_
  refine g_s1 (pc2 := 671) hk rfl rfl rfl rfl rfl ?_
  obtain ⟨hi, H⟩ := H
  refine g_step (pc2 := 672) hk rfl rfl rfl (s_agetX (L := L) (xs := xs) (j := 3) rfl hi) ?_
  obtain ⟨ho, H⟩ := H
  refine g_call hk rfl rfl i_k258.1 ⟨rfl, rfl⟩ rfl (i_rcv_v ho rfl (by decide)) rfl ?_
  exact H.mono (fun v h2 q => by obtain ⟨r, rfl, q⟩ := q; exact q)
theorem b351_675 {x1 : Nat} {x2 : Nat} {x3 : Int32} {s0 : Int32} {s1 : Int32} {h : iH} {Q : Option Value → iH → Prop} (H : ((s0 = s1 → i_P i_MT i_AT L xs 351 1853 [some (.retAddr 3), some (.ref x1), some (.ref x2), some (.int x3)] [] h 173 127414 Q) ∧ (¬ (s0 = s1) → Q (some (.int 0)) h))) : i_P i_MT i_AT L xs 351 675 [some (.retAddr 3), some (.ref x1), some (.ref x2), some (.int x3)] [.int s1, .int s0] h 173 127414 Q := by
  have hk := i_k351
  refine g_icmp_eq hk rfl (fun hc => ?_) (fun hc => ?_)
  · have H := H.1 hc
    exact H
  · have H := H.2 hc
    refine g_s1 (pc2 := 679) (st2 := [.int (0 : Int32)]) hk rfl rfl rfl rfl rfl ?_
    exact g_ireturn hk rfl (by decide) (by decide) rfl H
theorem b351_689 {x1 : Nat} {x2 : Nat} {x3 : Int32} {s0 : Int32} {h : iH} {Q : Option Value → iH → Prop} (H : (¬ ((x3 + (1 : Int32)) < 0 ∨ L ≤ (x3 + (1 : Int32)).toNatClampNeg) ∧ (i_obj? h x2 12 ∧ i_C i_MT i_AT L xs 260 [.ref x2, .int (xs (x3 + (1 : Int32)).toNatClampNeg)] h (fun v h3 => ∃ r4 : Int32, v = some (.int r4) ∧ i_P i_MT i_AT L xs 351 698 [some (.retAddr 3), some (.ref x1), some (.ref x2), some (.int x3)] [.int r4, .int s0] h3 173 127414 Q)))) : i_P i_MT i_AT L xs 351 689 [some (.retAddr 3), some (.ref x1), some (.ref x2), some (.int x3)] [.int s0] h 173 127414 Q := by
  have hk := i_k351
  refine g_s1 (pc2 := 690) hk rfl rfl rfl rfl rfl ?_
  refine g_s1 (pc2 := 691) hk rfl rfl rfl rfl rfl ?_
  refine g_s1 (pc2 := 692) hk rfl rfl rfl rfl rfl ?_
  refine g_s1 (pc2 := 693) (st2 := [.int (1 : Int32), .int x3, .retAddr 3, .ref x2, .int s0]) hk rfl rfl rfl rfl rfl ?_
  refine g_s1 (pc2 := 694) hk rfl rfl rfl rfl rfl ?_
  obtain ⟨hi, H⟩ := H
  refine g_step (pc2 := 695) hk rfl rfl rfl (s_agetX (L := L) (xs := xs) (j := 3) rfl hi) ?_
  obtain ⟨ho, H⟩ := H
  refine g_call hk rfl rfl i_k260.1 ⟨rfl, rfl⟩ rfl (i_rcv_v ho rfl (by decide)) rfl ?_
  exact H.mono (fun v h2 q => by obtain ⟨r, rfl, q⟩ := q; exact q)
theorem b351_698 {x1 : Nat} {x2 : Nat} {x3 : Int32} {s0 : Int32} {s1 : Int32} {h : iH} {Q : Option Value → iH → Prop} (H : ((s0 = s1 → i_P i_MT i_AT L xs 351 1853 [some (.retAddr 3), some (.ref x1), some (.ref x2), some (.int x3)] [] h 173 127414 Q) ∧ (¬ (s0 = s1) → Q (some (.int 0)) h))) : i_P i_MT i_AT L xs 351 698 [some (.retAddr 3), some (.ref x1), some (.ref x2), some (.int x3)] [.int s1, .int s0] h 173 127414 Q := by
  have hk := i_k351
  refine g_icmp_eq hk rfl (fun hc => ?_) (fun hc => ?_)
  · have H := H.1 hc
    exact H
  · have H := H.2 hc
    refine g_s1 (pc2 := 702) (st2 := [.int (0 : Int32)]) hk rfl rfl rfl rfl rfl ?_
    exact g_ireturn hk rfl (by decide) (by decide) rfl H
theorem b351_717 {x1 : Nat} {x2 : Nat} {x3 : Int32} {s0 : Int32} {h : iH} {Q : Option Value → iH → Prop} (H : (¬ ((x3 + (1 : Int32)) < 0 ∨ L ≤ (x3 + (1 : Int32)).toNatClampNeg) ∧ (¬ ((x3 + (2 : Int32)) < 0 ∨ L ≤ (x3 + (2 : Int32)).toNatClampNeg) ∧ (i_obj? h x2 12 ∧ i_C i_MT i_AT L xs 261 [.ref x2, .int (xs (x3 + (1 : Int32)).toNatClampNeg), .int (xs (x3 + (2 : Int32)).toNatClampNeg)] h (fun v h5 => ∃ r6 : Int32, v = some (.int r6) ∧ i_P i_MT i_AT L xs 351 731 [some (.retAddr 3), some (.ref x1), some (.ref x2), some (.int x3)] [.int r6, .int s0] h5 173 127414 Q))))) : i_P i_MT i_AT L xs 351 717 [some (.retAddr 3), some (.ref x1), some (.ref x2), some (.int x3)] [.int s0] h 173 127414 Q := by
  have hk := i_k351
  refine g_s1 (pc2 := 718) hk rfl rfl rfl rfl rfl ?_
  refine g_s1 (pc2 := 719) hk rfl rfl rfl rfl rfl ?_
  refine g_s1 (pc2 := 720) hk rfl rfl rfl rfl rfl ?_
  refine g_s1 (pc2 := 721) (st2 := [.int (1 : Int32), .int x3, .retAddr 3, .ref x2, .int s0]) hk rfl rfl rfl rfl rfl ?_
  refine g_s1 (pc2 := 722) hk rfl rfl rfl rfl rfl ?_
  obtain ⟨hi, H⟩ := H
  refine g_step (pc2 := 723) hk rfl rfl rfl (s_agetX (L := L) (xs := xs) (j := 3) rfl hi) ?_
  refine g_s1 (pc2 := 724) hk rfl rfl rfl rfl rfl ?_
  refine g_s1 (pc2 := 725) hk rfl rfl rfl rfl rfl ?_
  refine g_s1 (pc2 := 726) (st2 := [.int (2 : Int32), .int x3, .retAddr 3, .int (xs (x3 + (1 : Int32)).toNatClampNeg), .ref x2, .int s0]) hk rfl rfl rfl rfl rfl ?_
  refine g_s1 (pc2 := 727) hk rfl rfl rfl rfl rfl ?_
  obtain ⟨hi, H⟩ := H
  refine g_step (pc2 := 728) hk rfl rfl rfl (s_agetX (L := L) (xs := xs) (j := 3) rfl hi) ?_
  obtain ⟨ho, H⟩ := H
  refine g_call hk rfl rfl i_k261.1 ⟨rfl, rfl⟩ rfl (i_rcv_v ho rfl (by decide)) rfl ?_
  exact H.mono (fun v h2 q => by obtain ⟨r, rfl, q⟩ := q; exact q)
theorem b351_731 {x1 : Nat} {x2 : Nat} {x3 : Int32} {s0 : Int32} {s1 : Int32} {h : iH} {Q : Option Value → iH → Prop} (H : ((s0 = s1 → i_P i_MT i_AT L xs 351 1853 [some (.retAddr 3), some (.ref x1), some (.ref x2), some (.int x3)] [] h 173 127414 Q) ∧ (¬ (s0 = s1) → Q (some (.int 0)) h))) : i_P i_MT i_AT L xs 351 731 [some (.retAddr 3), some (.ref x1), some (.ref x2), some (.int x3)] [.int s1, .int s0] h 173 127414 Q := by
  have hk := i_k351
  refine g_icmp_eq hk rfl (fun hc => ?_) (fun hc => ?_)
  · have H := H.1 hc
    exact H
  · have H := H.2 hc
    refine g_s1 (pc2 := 735) (st2 := [.int (0 : Int32)]) hk rfl rfl rfl rfl rfl ?_
    exact g_ireturn hk rfl (by decide) (by decide) rfl H
theorem b351_745 {x1 : Nat} {x2 : Nat} {x3 : Int32} {s0 : Int32} {h : iH} {Q : Option Value → iH → Prop} (H : (¬ ((x3 + (1 : Int32)) < 0 ∨ L ≤ (x3 + (1 : Int32)).toNatClampNeg) ∧ (i_obj? h x2 12 ∧ i_C i_MT i_AT L xs 262 [.ref x2, .int (xs (x3 + (1 : Int32)).toNatClampNeg)] h (fun v h3 => ∃ r4 : Int32, v = some (.int r4) ∧ i_P i_MT i_AT L xs 351 754 [some (.retAddr 3), some (.ref x1), some (.ref x2), some (.int x3)] [.int r4, .int s0] h3 173 127414 Q)))) : i_P i_MT i_AT L xs 351 745 [some (.retAddr 3), some (.ref x1), some (.ref x2), some (.int x3)] [.int s0] h 173 127414 Q := by
  have hk := i_k351
  refine g_s1 (pc2 := 746) hk rfl rfl rfl rfl rfl ?_
  refine g_s1 (pc2 := 747) hk rfl rfl rfl rfl rfl ?_
  refine g_s1 (pc2 := 748) hk rfl rfl rfl rfl rfl ?_
  refine g_s1 (pc2 := 749) (st2 := [.int (1 : Int32), .int x3, .retAddr 3, .ref x2, .int s0]) hk rfl rfl rfl rfl rfl ?_
  refine g_s1 (pc2 := 750) hk rfl rfl rfl rfl rfl ?_
  obtain ⟨hi, H⟩ := H
  refine g_step (pc2 := 751) hk rfl rfl rfl (s_agetX (L := L) (xs := xs) (j := 3) rfl hi) ?_
  obtain ⟨ho, H⟩ := H
  refine g_call hk rfl rfl i_k262.1 ⟨rfl, rfl⟩ rfl (i_rcv_v ho rfl (by decide)) rfl ?_
  exact H.mono (fun v h2 q => by obtain ⟨r, rfl, q⟩ := q; exact q)
theorem b351_754 {x1 : Nat} {x2 : Nat} {x3 : Int32} {s0 : Int32} {s1 : Int32} {h : iH} {Q : Option Value → iH → Prop} (H : ((s0 = s1 → i_P i_MT i_AT L xs 351 1853 [some (.retAddr 3), some (.ref x1), some (.ref x2), some (.int x3)] [] h 173 127414 Q) ∧ (¬ (s0 = s1) → Q (some (.int 0)) h))) : i_P i_MT i_AT L xs 351 754 [some (.retAddr 3), some (.ref x1), some (.ref x2), some (.int x3)] [.int s1, .int s0] h 173 127414 Q := by
  have hk := i_k351
  refine g_icmp_eq hk rfl (fun hc => ?_) (fun hc => ?_)
  · have H := H.1 hc
    exact H
  · have H := H.2 hc
    refine g_s1 (pc2 := 758) (st2 := [.int (0 : Int32)]) hk rfl rfl rfl rfl rfl ?_
    exact g_ireturn hk rfl (by decide) (by decide) rfl H
theorem b351_773 {x1 : Nat} {x2 : Nat} {x3 : Int32} {s0 : Int32} {h : iH} {Q : Option Value → iH → Prop} (H : (¬ ((x3 + (1 : Int32)) < 0 ∨ L ≤ (x3 + (1 : Int32)).toNatClampNeg) ∧ (¬ ((x3 + (2 : Int32)) < 0 ∨ L ≤ (x3 + (2 : Int32)).toNatClampNeg) ∧ (i_obj? h x2 12 ∧ i_C i_MT i_AT L xs 263 [.ref x2, .int (xs (x3 + (1 : Int32)).toNatClampNeg), .int (xs (x3 + (2 : Int32)).toNatClampNeg)] h (fun v h5 => ∃ r6 : Int32, v = some (.int r6) ∧ i_P i_MT i_AT L xs 351 787 [some (.retAddr 3), some (.ref x1), some (.ref x2), some (.int x3)] [.int r6, .int s0] h5 173 127414 Q))))) : i_P i_MT i_AT L xs 351 773 [some (.retAddr 3), some (.ref x1), some (.ref x2), some (.int x3)] [.int s0] h 173 127414 Q := by
  have hk := i_k351
  refine g_s1 (pc2 := 774) hk rfl rfl rfl rfl rfl ?_
  refine g_s1 (pc2 := 775) hk rfl rfl rfl rfl rfl ?_
  refine g_s1 (pc2 := 776) hk rfl rfl rfl rfl rfl ?_
  refine g_s1 (pc2 := 777) (st2 := [.int (1 : Int32), .int x3, .retAddr 3, .ref x2, .int s0]) hk rfl rfl rfl rfl rfl ?_
  refine g_s1 (pc2 := 778) hk rfl rfl rfl rfl rfl ?_
  obtain ⟨hi, H⟩ := H
  refine g_step (pc2 := 779) hk rfl rfl rfl (s_agetX (L := L) (xs := xs) (j := 3) rfl hi) ?_
  refine g_s1 (pc2 := 780) hk rfl rfl rfl rfl rfl ?_
  refine g_s1 (pc2 := 781) hk rfl rfl rfl rfl rfl ?_
  refine g_s1 (pc2 := 782) (st2 := [.int (2 : Int32), .int x3, .retAddr 3, .int (xs (x3 + (1 : Int32)).toNatClampNeg), .ref x2, .int s0]) hk rfl rfl rfl rfl rfl ?_
  refine g_s1 (pc2 := 783) hk rfl rfl rfl rfl rfl ?_
  obtain ⟨hi, H⟩ := H
  refine g_step (pc2 := 784) hk rfl rfl rfl (s_agetX (L := L) (xs := xs) (j := 3) rfl hi) ?_
  obtain ⟨ho, H⟩ := H
  refine g_call hk rfl rfl i_k263.1 ⟨rfl, rfl⟩ rfl (i_rcv_v ho rfl (by decide)) rfl ?_
  exact H.mono (fun v h2 q => by obtain ⟨r, rfl, q⟩ := q; exact q)
theorem b351_787 {x1 : Nat} {x2 : Nat} {x3 : Int32} {s0 : Int32} {s1 : Int32} {h : iH} {Q : Option Value → iH → Prop} (H : ((s0 = s1 → i_P i_MT i_AT L xs 351 1853 [some (.retAddr 3), some (.ref x1), some (.ref x2), some (.int x3)] [] h 173 127414 Q) ∧ (¬ (s0 = s1) → Q (some (.int 0)) h))) : i_P i_MT i_AT L xs 351 787 [some (.retAddr 3), some (.ref x1), some (.ref x2), some (.int x3)] [.int s1, .int s0] h 173 127414 Q := by
  have hk := i_k351
  refine g_icmp_eq hk rfl (fun hc => ?_) (fun hc => ?_)
  · have H := H.1 hc
    exact H
  · have H := H.2 hc
    refine g_s1 (pc2 := 791) (st2 := [.int (0 : Int32)]) hk rfl rfl rfl rfl rfl ?_
    exact g_ireturn hk rfl (by decide) (by decide) rfl H
theorem b351_806 {x1 : Nat} {x2 : Nat} {x3 : Int32} {s0 : Int32} {h : iH} {Q : Option Value → iH → Prop} (H : (¬ ((x3 + (1 : Int32)) < 0 ∨ L ≤ (x3 + (1 : Int32)).toNatClampNeg) ∧ (¬ ((x3 + (2 : Int32)) < 0 ∨ L ≤ (x3 + (2 : Int32)).toNatClampNeg) ∧ (i_obj? h x2 12 ∧ i_C i_MT i_AT L xs 264 [.ref x2, .int (xs (x3 + (1 : Int32)).toNatClampNeg), .int (xs (x3 + (2 : Int32)).toNatClampNeg)] h (fun v h5 => ∃ r6 : Int32, v = some (.int r6) ∧ i_P i_MT i_AT L xs 351 820 [some (.retAddr 3), some (.ref x1), some (.ref x2), some (.int x3)] [.int r6, .int s0] h5 173 127414 Q))))) : i_P i_MT i_AT L xs 351 806 [some (.retAddr 3), some (.ref x1), some (.ref x2), some (.int x3)] [.int s0] h 173 127414 Q := by
  have hk := i_k351
  refine g_s1 (pc2 := 807) hk rfl rfl rfl rfl rfl ?_
  refine g_s1 (pc2 := 808) hk rfl rfl rfl rfl rfl ?_
  refine g_s1 (pc2 := 809) hk rfl rfl rfl rfl rfl ?_
  refine g_s1 (pc2 := 810) (st2 := [.int (1 : Int32), .int x3, .retAddr 3, .ref x2, .int s0]) hk rfl rfl rfl rfl rfl ?_
  refine g_s1 (pc2 := 811) hk rfl rfl rfl rfl rfl ?_
  obtain ⟨hi, H⟩ := H
  refine g_step (pc2 := 812) hk rfl rfl rfl (s_agetX (L := L) (xs := xs) (j := 3) rfl hi) ?_
  refine g_s1 (pc2 := 813) hk rfl rfl rfl rfl rfl ?_
  refine g_s1 (pc2 := 814) hk rfl rfl rfl rfl rfl ?_
  refine g_s1 (pc2 := 815) (st2 := [.int (2 : Int32), .int x3, .retAddr 3, .int (xs (x3 + (1 : Int32)).toNatClampNeg), .ref x2, .int s0]) hk rfl rfl rfl rfl rfl ?_
  refine g_s1 (pc2 := 816) hk rfl rfl rfl rfl rfl ?_
  obtain ⟨hi, H⟩ := H
  refine g_step (pc2 := 817) hk rfl rfl rfl (s_agetX (L := L) (xs := xs) (j := 3) rfl hi) ?_
  obtain ⟨ho, H⟩ := H
  refine g_call hk rfl rfl i_k264.1 ⟨rfl, rfl⟩ rfl (i_rcv_v ho rfl (by decide)) rfl ?_
  exact H.mono (fun v h2 q => by obtain ⟨r, rfl, q⟩ := q; exact q)
theorem b351_820 {x1 : Nat} {x2 : Nat} {x3 : Int32} {s0 : Int32} {s1 : Int32} {h : iH} {Q : Option Value → iH → Prop} (H : ((s0 = s1 → i_P i_MT i_AT L xs 351 1853 [some (.retAddr 3), some (.ref x1), some (.ref x2), some (.int x3)] [] h 173 127414 Q) ∧ (¬ (s0 = s1) → Q (some (.int 0)) h))) : i_P i_MT i_AT L xs 351 820 [some (.retAddr 3), some (.ref x1), some (.ref x2), some (.int x3)] [.int s1, .int s0] h 173 127414 Q := by
  have hk := i_k351
  refine g_icmp_eq hk rfl (fun hc => ?_) (fun hc => ?_)
  · have H := H.1 hc
    exact H
  · have H := H.2 hc
    refine g_s1 (pc2 := 824) (st2 := [.int (0 : Int32)]) hk rfl rfl rfl rfl rfl ?_
    exact g_ireturn hk rfl (by decide) (by decide) rfl H
theorem b351_839 {x1 : Nat} {x2 : Nat} {x3 : Int32} {s0 : Int32} {h : iH} {Q : Option Value → iH → Prop} (H : (¬ ((x3 + (1 : Int32)) < 0 ∨ L ≤ (x3 + (1 : Int32)).toNatClampNeg) ∧ (¬ ((x3 + (2 : Int32)) < 0 ∨ L ≤ (x3 + (2 : Int32)).toNatClampNeg) ∧ (i_obj? h x2 12 ∧ i_C i_MT i_AT L xs 265 [.ref x2, .int (xs (x3 + (1 : Int32)).toNatClampNeg), .int (xs (x3 + (2 : Int32)).toNatClampNeg)] h (fun v h5 => ∃ r6 : Int32, v = some (.int r6) ∧ i_P i_MT i_AT L xs 351 853 [some (.retAddr 3), some (.ref x1), some (.ref x2), some (.int x3)] [.int r6, .int s0] h5 173 127414 Q))))) : i_P i_MT i_AT L xs 351 839 [some (.retAddr 3), some (.ref x1), some (.ref x2), some (.int x3)] [.int s0] h 173 127414 Q := by
  have hk := i_k351
  refine g_s1 (pc2 := 840) hk rfl rfl rfl rfl rfl ?_
  refine g_s1 (pc2 := 841) hk rfl rfl rfl rfl rfl ?_
  refine g_s1 (pc2 := 842) hk rfl rfl rfl rfl rfl ?_
  refine g_s1 (pc2 := 843) (st2 := [.int (1 : Int32), .int x3, .retAddr 3, .ref x2, .int s0]) hk rfl rfl rfl rfl rfl ?_
  refine g_s1 (pc2 := 844) hk rfl rfl rfl rfl rfl ?_
  obtain ⟨hi, H⟩ := H
  refine g_step (pc2 := 845) hk rfl rfl rfl (s_agetX (L := L) (xs := xs) (j := 3) rfl hi) ?_
  refine g_s1 (pc2 := 846) hk rfl rfl rfl rfl rfl ?_
  refine g_s1 (pc2 := 847) hk rfl rfl rfl rfl rfl ?_
  refine g_s1 (pc2 := 848) (st2 := [.int (2 : Int32), .int x3, .retAddr 3, .int (xs (x3 + (1 : Int32)).toNatClampNeg), .ref x2, .int s0]) hk rfl rfl rfl rfl rfl ?_
  refine g_s1 (pc2 := 849) hk rfl rfl rfl rfl rfl ?_
  obtain ⟨hi, H⟩ := H
  refine g_step (pc2 := 850) hk rfl rfl rfl (s_agetX (L := L) (xs := xs) (j := 3) rfl hi) ?_
  obtain ⟨ho, H⟩ := H
  refine g_call hk rfl rfl i_k265.1 ⟨rfl, rfl⟩ rfl (i_rcv_v ho rfl (by decide)) rfl ?_
  exact H.mono (fun v h2 q => by obtain ⟨r, rfl, q⟩ := q; exact q)
theorem b351_853 {x1 : Nat} {x2 : Nat} {x3 : Int32} {s0 : Int32} {s1 : Int32} {h : iH} {Q : Option Value → iH → Prop} (H : ((s0 = s1 → i_P i_MT i_AT L xs 351 1853 [some (.retAddr 3), some (.ref x1), some (.ref x2), some (.int x3)] [] h 173 127414 Q) ∧ (¬ (s0 = s1) → Q (some (.int 0)) h))) : i_P i_MT i_AT L xs 351 853 [some (.retAddr 3), some (.ref x1), some (.ref x2), some (.int x3)] [.int s1, .int s0] h 173 127414 Q := by
  have hk := i_k351
  refine g_icmp_eq hk rfl (fun hc => ?_) (fun hc => ?_)
  · have H := H.1 hc
    exact H
  · have H := H.2 hc
    refine g_s1 (pc2 := 857) (st2 := [.int (0 : Int32)]) hk rfl rfl rfl rfl rfl ?_
    exact g_ireturn hk rfl (by decide) (by decide) rfl H
theorem b351_872 {x1 : Nat} {x2 : Nat} {x3 : Int32} {s0 : Int32} {h : iH} {Q : Option Value → iH → Prop} (H : (¬ ((x3 + (1 : Int32)) < 0 ∨ L ≤ (x3 + (1 : Int32)).toNatClampNeg) ∧ (¬ ((x3 + (2 : Int32)) < 0 ∨ L ≤ (x3 + (2 : Int32)).toNatClampNeg) ∧ (i_obj? h x2 12 ∧ i_C i_MT i_AT L xs 266 [.ref x2, .int (xs (x3 + (1 : Int32)).toNatClampNeg), .int (xs (x3 + (2 : Int32)).toNatClampNeg)] h (fun v h5 => ∃ r6 : Int32, v = some (.int r6) ∧ i_P i_MT i_AT L xs 351 886 [some (.retAddr 3), some (.ref x1), some (.ref x2), some (.int x3)] [.int r6, .int s0] h5 173 127414 Q))))) : i_P i_MT i_AT L xs 351 872 [some (.retAddr 3), some (.ref x1), some (.ref x2), some (.int x3)] [.int s0] h 173 127414 Q := by
  have hk := i_k351
  refine g_s1 (pc2 := 873) hk rfl rfl rfl rfl rfl ?_
  refine g_s1 (pc2 := 874) hk rfl rfl rfl rfl rfl ?_
  refine g_s1 (pc2 := 875) hk rfl rfl rfl rfl rfl ?_
  refine g_s1 (pc2 := 876) (st2 := [.int (1 : Int32), .int x3, .retAddr 3, .ref x2, .int s0]) hk rfl rfl rfl rfl rfl ?_
  refine g_s1 (pc2 := 877) hk rfl rfl rfl rfl rfl ?_
  obtain ⟨hi, H⟩ := H
  refine g_step (pc2 := 878) hk rfl rfl rfl (s_agetX (L := L) (xs := xs) (j := 3) rfl hi) ?_
  refine g_s1 (pc2 := 879) hk rfl rfl rfl rfl rfl ?_
  refine g_s1 (pc2 := 880) hk rfl rfl rfl rfl rfl ?_
  refine g_s1 (pc2 := 881) (st2 := [.int (2 : Int32), .int x3, .retAddr 3, .int (xs (x3 + (1 : Int32)).toNatClampNeg), .ref x2, .int s0]) hk rfl rfl rfl rfl rfl ?_
  refine g_s1 (pc2 := 882) hk rfl rfl rfl rfl rfl ?_
  obtain ⟨hi, H⟩ := H
  refine g_step (pc2 := 883) hk rfl rfl rfl (s_agetX (L := L) (xs := xs) (j := 3) rfl hi) ?_
  obtain ⟨ho, H⟩ := H
  refine g_call hk rfl rfl i_k266.1 ⟨rfl, rfl⟩ rfl (i_rcv_v ho rfl (by decide)) rfl ?_
  exact H.mono (fun v h2 q => by obtain ⟨r, rfl, q⟩ := q; exact q)
theorem b351_886 {x1 : Nat} {x2 : Nat} {x3 : Int32} {s0 : Int32} {s1 : Int32} {h : iH} {Q : Option Value → iH → Prop} (H : ((s0 = s1 → i_P i_MT i_AT L xs 351 1853 [some (.retAddr 3), some (.ref x1), some (.ref x2), some (.int x3)] [] h 173 127414 Q) ∧ (¬ (s0 = s1) → Q (some (.int 0)) h))) : i_P i_MT i_AT L xs 351 886 [some (.retAddr 3), some (.ref x1), some (.ref x2), some (.int x3)] [.int s1, .int s0] h 173 127414 Q := by
  have hk := i_k351
  refine g_icmp_eq hk rfl (fun hc => ?_) (fun hc => ?_)
  · have H := H.1 hc
    exact H
  · have H := H.2 hc
    refine g_s1 (pc2 := 890) (st2 := [.int (0 : Int32)]) hk rfl rfl rfl rfl rfl ?_
    exact g_ireturn hk rfl (by decide) (by decide) rfl H
theorem b351_905 {x1 : Nat} {x2 : Nat} {x3 : Int32} {s0 : Int64} {h : iH} {Q : Option Value → iH → Prop} (H : (¬ ((x3 + (1 : Int32)) < 0 ∨ L ≤ (x3 + (1 : Int32)).toNatClampNeg) ∧ (¬ ((x3 + (2 : Int32)) < 0 ∨ L ≤ (x3 + (2 : Int32)).toNatClampNeg) ∧ (i_obj? h x2 12 ∧ i_C i_MT i_AT L xs 273 [.ref x2, .int (xs (x3 + (1 : Int32)).toNatClampNeg), .int (xs (x3 + (2 : Int32)).toNatClampNeg)] h (fun v h5 => ∃ r6 : Int64, v = some (.long r6) ∧ i_P i_MT i_AT L xs 351 919 [some (.retAddr 3), some (.ref x1), some (.ref x2), some (.int x3)] [.long r6, .long s0] h5 173 127414 Q))))) : i_P i_MT i_AT L xs 351 905 [some (.retAddr 3), some (.ref x1), some (.ref x2), some (.int x3)] [.long s0] h 173 127414 Q := by
  have hk := i_k351
  refine g_s1 (pc2 := 906) hk rfl rfl rfl rfl rfl ?_
  refine g_s1 (pc2 := 907) hk rfl rfl rfl rfl rfl ?_
  refine g_s1 (pc2 := 908) hk rfl rfl rfl rfl rfl ?_
  refine g_s1 (pc2 := 909) (st2 := [.int (1 : Int32), .int x3, .retAddr 3, .ref x2, .long s0]) hk rfl rfl rfl rfl rfl ?_
  refine g_s1 (pc2 := 910) hk rfl rfl rfl rfl rfl ?_
  obtain ⟨hi, H⟩ := H
  refine g_step (pc2 := 911) hk rfl rfl rfl (s_agetX (L := L) (xs := xs) (j := 3) rfl hi) ?_
  refine g_s1 (pc2 := 912) hk rfl rfl rfl rfl rfl ?_
  refine g_s1 (pc2 := 913) hk rfl rfl rfl rfl rfl ?_
  refine g_s1 (pc2 := 914) (st2 := [.int (2 : Int32), .int x3, .retAddr 3, .int (xs (x3 + (1 : Int32)).toNatClampNeg), .ref x2, .long s0]) hk rfl rfl rfl rfl rfl ?_
  refine g_s1 (pc2 := 915) hk rfl rfl rfl rfl rfl ?_
  obtain ⟨hi, H⟩ := H
  refine g_step (pc2 := 916) hk rfl rfl rfl (s_agetX (L := L) (xs := xs) (j := 3) rfl hi) ?_
  obtain ⟨ho, H⟩ := H
  refine g_call hk rfl rfl i_k273.1 ⟨rfl, rfl⟩ rfl (i_rcv_v ho rfl (by decide)) rfl ?_
  exact H.mono (fun v h2 q => by obtain ⟨r, rfl, q⟩ := q; exact q)
theorem b351_919 {x1 : Nat} {x2 : Nat} {x3 : Int32} {s0 : Int64} {s1 : Int64} {h : iH} {Q : Option Value → iH → Prop} (H : (((lg_cmp s0 s1) = 0 → i_P i_MT i_AT L xs 351 1853 [some (.retAddr 3), some (.ref x1), some (.ref x2), some (.int x3)] [] h 173 127414 Q) ∧ (¬ ((lg_cmp s0 s1) = 0) → Q (some (.int 0)) h))) : i_P i_MT i_AT L xs 351 919 [some (.retAddr 3), some (.ref x1), some (.ref x2), some (.int x3)] [.long s1, .long s0] h 173 127414 Q := by
  have hk := i_k351
  refine g_s1 (pc2 := 920) hk rfl rfl rfl rfl rfl ?_
  refine g_if_eq hk rfl (fun hc => ?_) (fun hc => ?_)
  · have H := H.1 hc
    exact H
  · have H := H.2 hc
    refine g_s1 (pc2 := 924) (st2 := [.int (0 : Int32)]) hk rfl rfl rfl rfl rfl ?_
    exact g_ireturn hk rfl (by decide) (by decide) rfl H
theorem b351_944 {x1 : Nat} {x2 : Nat} {x3 : Int32} {s0 : Int32} {h : iH} {Q : Option Value → iH → Prop} (H : (¬ ((x3 + (1 : Int32)) < 0 ∨ L ≤ (x3 + (1 : Int32)).toNatClampNeg) ∧ (¬ ((x3 + (2 : Int32)) < 0 ∨ L ≤ (x3 + (2 : Int32)).toNatClampNeg) ∧ (¬ ((x3 + (3 : Int32)) < 0 ∨ L ≤ (x3 + (3 : Int32)).toNatClampNeg) ∧ (i_obj? h x2 12 ∧ i_C i_MT i_AT L xs 278 [.ref x2, .int (xs (x3 + (1 : Int32)).toNatClampNeg), .int (xs (x3 + (2 : Int32)).toNatClampNeg), .int (xs (x3 + (3 : Int32)).toNatClampNeg)] h (fun v h7 => ∃ r8 : Int32, v = some (.int r8) ∧ i_P i_MT i_AT L xs 351 963 [some (.retAddr 3), some (.ref x1), some (.ref x2), some (.int x3)] [.int r8, .int s0] h7 173 127414 Q)))))) : i_P i_MT i_AT L xs 351 944 [some (.retAddr 3), some (.ref x1), some (.ref x2), some (.int x3)] [.int s0] h 173 127414 Q := by
  have hk := i_k351
  refine g_s1 (pc2 := 945) hk rfl rfl rfl rfl rfl ?_
  refine g_s1 (pc2 := 946) hk rfl rfl rfl rfl rfl ?_
  refine g_s1 (pc2 := 947) hk rfl rfl rfl rfl rfl ?_
  refine g_s1 (pc2 := 948) (st2 := [.int (1 : Int32), .int x3, .retAddr 3, .ref x2, .int s0]) hk rfl rfl rfl rfl rfl ?_
  refine g_s1 (pc2 := 949) hk rfl rfl rfl rfl rfl ?_
  obtain ⟨hi, H⟩ := H
  refine g_step (pc2 := 950) hk rfl rfl rfl (s_agetX (L := L) (xs := xs) (j := 3) rfl hi) ?_
  refine g_s1 (pc2 := 951) hk rfl rfl rfl rfl rfl ?_
  refine g_s1 (pc2 := 952) hk rfl rfl rfl rfl rfl ?_
  refine g_s1 (pc2 := 953) (st2 := [.int (2 : Int32), .int x3, .retAddr 3, .int (xs (x3 + (1 : Int32)).toNatClampNeg), .ref x2, .int s0]) hk rfl rfl rfl rfl rfl ?_
  refine g_s1 (pc2 := 954) hk rfl rfl rfl rfl rfl ?_
  obtain ⟨hi, H⟩ := H
  refine g_step (pc2 := 955) hk rfl rfl rfl (s_agetX (L := L) (xs := xs) (j := 3) rfl hi) ?_
  refine g_s1 (pc2 := 956) hk rfl rfl rfl rfl rfl ?_
  refine g_s1 (pc2 := 957) hk rfl rfl rfl rfl rfl ?_
  refine g_s1 (pc2 := 958) (st2 := [.int (3 : Int32), .int x3, .retAddr 3, .int (xs (x3 + (2 : Int32)).toNatClampNeg), .int (xs (x3 + (1 : Int32)).toNatClampNeg), .ref x2, .int s0]) hk rfl rfl rfl rfl rfl ?_
  refine g_s1 (pc2 := 959) hk rfl rfl rfl rfl rfl ?_
  obtain ⟨hi, H⟩ := H
  refine g_step (pc2 := 960) hk rfl rfl rfl (s_agetX (L := L) (xs := xs) (j := 3) rfl hi) ?_
  obtain ⟨ho, H⟩ := H
  refine g_call hk rfl rfl i_k278.1 ⟨rfl, rfl⟩ rfl (i_rcv_v ho rfl (by decide)) rfl ?_
  exact H.mono (fun v h2 q => by obtain ⟨r, rfl, q⟩ := q; exact q)
theorem b351_963 {x1 : Nat} {x2 : Nat} {x3 : Int32} {s0 : Int32} {s1 : Int32} {h : iH} {Q : Option Value → iH → Prop} (H : ((s0 = s1 → i_P i_MT i_AT L xs 351 1853 [some (.retAddr 3), some (.ref x1), some (.ref x2), some (.int x3)] [] h 173 127414 Q) ∧ (¬ (s0 = s1) → Q (some (.int 0)) h))) : i_P i_MT i_AT L xs 351 963 [some (.retAddr 3), some (.ref x1), some (.ref x2), some (.int x3)] [.int s1, .int s0] h 173 127414 Q := by
  have hk := i_k351
  refine g_icmp_eq hk rfl (fun hc => ?_) (fun hc => ?_)
  · have H := H.1 hc
    exact H
  · have H := H.2 hc
    refine g_s1 (pc2 := 967) (st2 := [.int (0 : Int32)]) hk rfl rfl rfl rfl rfl ?_
    exact g_ireturn hk rfl (by decide) (by decide) rfl H
theorem b351_987 {x1 : Nat} {x2 : Nat} {x3 : Int32} {s0 : Int32} {h : iH} {Q : Option Value → iH → Prop} (H : (¬ ((x3 + (1 : Int32)) < 0 ∨ L ≤ (x3 + (1 : Int32)).toNatClampNeg) ∧ (¬ ((x3 + (2 : Int32)) < 0 ∨ L ≤ (x3 + (2 : Int32)).toNatClampNeg) ∧ (¬ ((x3 + (3 : Int32)) < 0 ∨ L ≤ (x3 + (3 : Int32)).toNatClampNeg) ∧ (i_obj? h x2 12 ∧ i_C i_MT i_AT L xs 279 [.ref x2, .int (xs (x3 + (1 : Int32)).toNatClampNeg), .int (xs (x3 + (2 : Int32)).toNatClampNeg), .int (xs (x3 + (3 : Int32)).toNatClampNeg)] h (fun v h7 => ∃ r8 : Int32, v = some (.int r8) ∧ i_P i_MT i_AT L xs 351 1006 [some (.retAddr 3), some (.ref x1), some (.ref x2), some (.int x3)] [.int r8, .int s0] h7 173 127414 Q)))))) : i_P i_MT i_AT L xs 351 987 [some (.retAddr 3), some (.ref x1), some (.ref x2), some (.int x3)] [.int s0] h 173 127414 Q := by
  have hk := i_k351
  refine g_s1 (pc2 := 988) hk rfl rfl rfl rfl rfl ?_
  refine g_s1 (pc2 := 989) hk rfl rfl rfl rfl rfl ?_
  refine g_s1 (pc2 := 990) hk rfl rfl rfl rfl rfl ?_
  refine g_s1 (pc2 := 991) (st2 := [.int (1 : Int32), .int x3, .retAddr 3, .ref x2, .int s0]) hk rfl rfl rfl rfl rfl ?_
  refine g_s1 (pc2 := 992) hk rfl rfl rfl rfl rfl ?_
  obtain ⟨hi, H⟩ := H
  refine g_step (pc2 := 993) hk rfl rfl rfl (s_agetX (L := L) (xs := xs) (j := 3) rfl hi) ?_
  refine g_s1 (pc2 := 994) hk rfl rfl rfl rfl rfl ?_
  refine g_s1 (pc2 := 995) hk rfl rfl rfl rfl rfl ?_
  refine g_s1 (pc2 := 996) (st2 := [.int (2 : Int32), .int x3, .retAddr 3, .int (xs (x3 + (1 : Int32)).toNatClampNeg), .ref x2, .int s0]) hk rfl rfl rfl rfl rfl ?_
  refine g_s1 (pc2 := 997) hk rfl rfl rfl rfl rfl ?_
  obtain ⟨hi, H⟩ := H
  refine g_step (pc2 := 998) hk rfl rfl rfl (s_agetX (L := L) (xs := xs) (j := 3) rfl hi) ?_
  refine g_s1 (pc2 := 999) hk rfl rfl rfl rfl rfl ?_
  refine g_s1 (pc2 := 1000) hk rfl rfl rfl rfl rfl ?_
  refine g_s1 (pc2 := 1001) (st2 := [.int (3 : Int32), .int x3, .retAddr 3, .int (xs (x3 + (2 : Int32)).toNatClampNeg), .int (xs (x3 + (1 : Int32)).toNatClampNeg), .ref x2, .int s0]) hk rfl rfl rfl rfl rfl ?_
  refine g_s1 (pc2 := 1002) hk rfl rfl rfl rfl rfl ?_
  obtain ⟨hi, H⟩ := H
  refine g_step (pc2 := 1003) hk rfl rfl rfl (s_agetX (L := L) (xs := xs) (j := 3) rfl hi) ?_
  obtain ⟨ho, H⟩ := H
  refine g_call hk rfl rfl i_k279.1 ⟨rfl, rfl⟩ rfl (i_rcv_v ho rfl (by decide)) rfl ?_
  exact H.mono (fun v h2 q => by obtain ⟨r, rfl, q⟩ := q; exact q)
theorem b351_1006 {x1 : Nat} {x2 : Nat} {x3 : Int32} {s0 : Int32} {s1 : Int32} {h : iH} {Q : Option Value → iH → Prop} (H : ((s0 = s1 → i_P i_MT i_AT L xs 351 1853 [some (.retAddr 3), some (.ref x1), some (.ref x2), some (.int x3)] [] h 173 127414 Q) ∧ (¬ (s0 = s1) → Q (some (.int 0)) h))) : i_P i_MT i_AT L xs 351 1006 [some (.retAddr 3), some (.ref x1), some (.ref x2), some (.int x3)] [.int s1, .int s0] h 173 127414 Q := by
  have hk := i_k351
  refine g_icmp_eq hk rfl (fun hc => ?_) (fun hc => ?_)
  · have H := H.1 hc
    exact H
  · have H := H.2 hc
    refine g_s1 (pc2 := 1010) (st2 := [.int (0 : Int32)]) hk rfl rfl rfl rfl rfl ?_
    exact g_ireturn hk rfl (by decide) (by decide) rfl H
theorem b351_1030 {x1 : Nat} {x2 : Nat} {x3 : Int32} {s0 : Int32} {h : iH} {Q : Option Value → iH → Prop} (H : (¬ ((x3 + (1 : Int32)) < 0 ∨ L ≤ (x3 + (1 : Int32)).toNatClampNeg) ∧ (¬ ((x3 + (2 : Int32)) < 0 ∨ L ≤ (x3 + (2 : Int32)).toNatClampNeg) ∧ (¬ ((x3 + (3 : Int32)) < 0 ∨ L ≤ (x3 + (3 : Int32)).toNatClampNeg) ∧ (i_obj? h x2 12 ∧ i_C i_MT i_AT L xs 280 [.ref x2, .int (xs (x3 + (1 : Int32)).toNatClampNeg), .int (xs (x3 + (2 : Int32)).toNatClampNeg), .int (xs (x3 + (3 : Int32)).toNatClampNeg)] h (fun v h7 => ∃ r8 : Int32, v = some (.int r8) ∧ i_P i_MT i_AT L xs 351 1049 [some (.retAddr 3), some (.ref x1), some (.ref x2), some (.int x3)] [.int r8, .int s0] h7 173 127414 Q)))))) : i_P i_MT i_AT L xs 351 1030 [some (.retAddr 3), some (.ref x1), some (.ref x2), some (.int x3)] [.int s0] h 173 127414 Q := by
  have hk := i_k351
  refine g_s1 (pc2 := 1031) hk rfl rfl rfl rfl rfl ?_
  refine g_s1 (pc2 := 1032) hk rfl rfl rfl rfl rfl ?_
  refine g_s1 (pc2 := 1033) hk rfl rfl rfl rfl rfl ?_
  refine g_s1 (pc2 := 1034) (st2 := [.int (1 : Int32), .int x3, .retAddr 3, .ref x2, .int s0]) hk rfl rfl rfl rfl rfl ?_
  refine g_s1 (pc2 := 1035) hk rfl rfl rfl rfl rfl ?_
  obtain ⟨hi, H⟩ := H
  refine g_step (pc2 := 1036) hk rfl rfl rfl (s_agetX (L := L) (xs := xs) (j := 3) rfl hi) ?_
  refine g_s1 (pc2 := 1037) hk rfl rfl rfl rfl rfl ?_
  refine g_s1 (pc2 := 1038) hk rfl rfl rfl rfl rfl ?_
  refine g_s1 (pc2 := 1039) (st2 := [.int (2 : Int32), .int x3, .retAddr 3, .int (xs (x3 + (1 : Int32)).toNatClampNeg), .ref x2, .int s0]) hk rfl rfl rfl rfl rfl ?_
  refine g_s1 (pc2 := 1040) hk rfl rfl rfl rfl rfl ?_
  obtain ⟨hi, H⟩ := H
  refine g_step (pc2 := 1041) hk rfl rfl rfl (s_agetX (L := L) (xs := xs) (j := 3) rfl hi) ?_
  refine g_s1 (pc2 := 1042) hk rfl rfl rfl rfl rfl ?_
  refine g_s1 (pc2 := 1043) hk rfl rfl rfl rfl rfl ?_
  refine g_s1 (pc2 := 1044) (st2 := [.int (3 : Int32), .int x3, .retAddr 3, .int (xs (x3 + (2 : Int32)).toNatClampNeg), .int (xs (x3 + (1 : Int32)).toNatClampNeg), .ref x2, .int s0]) hk rfl rfl rfl rfl rfl ?_
  refine g_s1 (pc2 := 1045) hk rfl rfl rfl rfl rfl ?_
  obtain ⟨hi, H⟩ := H
  refine g_step (pc2 := 1046) hk rfl rfl rfl (s_agetX (L := L) (xs := xs) (j := 3) rfl hi) ?_
  obtain ⟨ho, H⟩ := H
  refine g_call hk rfl rfl i_k280.1 ⟨rfl, rfl⟩ rfl (i_rcv_v ho rfl (by decide)) rfl ?_
  exact H.mono (fun v h2 q => by obtain ⟨r, rfl, q⟩ := q; exact q)
theorem b351_1049 {x1 : Nat} {x2 : Nat} {x3 : Int32} {s0 : Int32} {s1 : Int32} {h : iH} {Q : Option Value → iH → Prop} (H : ((s0 = s1 → i_P i_MT i_AT L xs 351 1853 [some (.retAddr 3), some (.ref x1), some (.ref x2), some (.int x3)] [] h 173 127414 Q) ∧ (¬ (s0 = s1) → Q (some (.int 0)) h))) : i_P i_MT i_AT L xs 351 1049 [some (.retAddr 3), some (.ref x1), some (.ref x2), some (.int x3)] [.int s1, .int s0] h 173 127414 Q := by
  have hk := i_k351
  refine g_icmp_eq hk rfl (fun hc => ?_) (fun hc => ?_)
  · have H := H.1 hc
    exact H
  · have H := H.2 hc
    refine g_s1 (pc2 := 1053) (st2 := [.int (0 : Int32)]) hk rfl rfl rfl rfl rfl ?_
    exact g_ireturn hk rfl (by decide) (by decide) rfl H
theorem b351_1073 {x1 : Nat} {x2 : Nat} {x3 : Int32} {s0 : Int32} {h : iH} {Q : Option Value → iH → Prop} (H : (¬ ((x3 + (1 : Int32)) < 0 ∨ L ≤ (x3 + (1 : Int32)).toNatClampNeg) ∧ (¬ ((x3 + (2 : Int32)) < 0 ∨ L ≤ (x3 + (2 : Int32)).toNatClampNeg) ∧ (¬ ((x3 + (3 : Int32)) < 0 ∨ L ≤ (x3 + (3 : Int32)).toNatClampNeg) ∧ (i_obj? h x2 12 ∧ i_C i_MT i_AT L xs 281 [.ref x2, .int (xs (x3 + (1 : Int32)).toNatClampNeg), .int (xs (x3 + (2 : Int32)).toNatClampNeg), .int (xs (x3 + (3 : Int32)).toNatClampNeg)] h (fun v h7 => ∃ r8 : Int32, v = some (.int r8) ∧ i_P i_MT i_AT L xs 351 1092 [some (.retAddr 3), some (.ref x1), some (.ref x2), some (.int x3)] [.int r8, .int s0] h7 173 127414 Q)))))) : i_P i_MT i_AT L xs 351 1073 [some (.retAddr 3), some (.ref x1), some (.ref x2), some (.int x3)] [.int s0] h 173 127414 Q := by
  have hk := i_k351
  refine g_s1 (pc2 := 1074) hk rfl rfl rfl rfl rfl ?_
  refine g_s1 (pc2 := 1075) hk rfl rfl rfl rfl rfl ?_
  refine g_s1 (pc2 := 1076) hk rfl rfl rfl rfl rfl ?_
  refine g_s1 (pc2 := 1077) (st2 := [.int (1 : Int32), .int x3, .retAddr 3, .ref x2, .int s0]) hk rfl rfl rfl rfl rfl ?_
  refine g_s1 (pc2 := 1078) hk rfl rfl rfl rfl rfl ?_
  obtain ⟨hi, H⟩ := H
  refine g_step (pc2 := 1079) hk rfl rfl rfl (s_agetX (L := L) (xs := xs) (j := 3) rfl hi) ?_
  refine g_s1 (pc2 := 1080) hk rfl rfl rfl rfl rfl ?_
  refine g_s1 (pc2 := 1081) hk rfl rfl rfl rfl rfl ?_
  refine g_s1 (pc2 := 1082) (st2 := [.int (2 : Int32), .int x3, .retAddr 3, .int (xs (x3 + (1 : Int32)).toNatClampNeg), .ref x2, .int s0]) hk rfl rfl rfl rfl rfl ?_
  refine g_s1 (pc2 := 1083) hk rfl rfl rfl rfl rfl ?_
  obtain ⟨hi, H⟩ := H
  refine g_step (pc2 := 1084) hk rfl rfl rfl (s_agetX (L := L) (xs := xs) (j := 3) rfl hi) ?_
  refine g_s1 (pc2 := 1085) hk rfl rfl rfl rfl rfl ?_
  refine g_s1 (pc2 := 1086) hk rfl rfl rfl rfl rfl ?_
  refine g_s1 (pc2 := 1087) (st2 := [.int (3 : Int32), .int x3, .retAddr 3, .int (xs (x3 + (2 : Int32)).toNatClampNeg), .int (xs (x3 + (1 : Int32)).toNatClampNeg), .ref x2, .int s0]) hk rfl rfl rfl rfl rfl ?_
  refine g_s1 (pc2 := 1088) hk rfl rfl rfl rfl rfl ?_
  obtain ⟨hi, H⟩ := H
  refine g_step (pc2 := 1089) hk rfl rfl rfl (s_agetX (L := L) (xs := xs) (j := 3) rfl hi) ?_
  obtain ⟨ho, H⟩ := H
  refine g_call hk rfl rfl i_k281.1 ⟨rfl, rfl⟩ rfl (i_rcv_v ho rfl (by decide)) rfl ?_
  exact H.mono (fun v h2 q => by obtain ⟨r, rfl, q⟩ := q; exact q)
theorem b351_1092 {x1 : Nat} {x2 : Nat} {x3 : Int32} {s0 : Int32} {s1 : Int32} {h : iH} {Q : Option Value → iH → Prop} (H : ((s0 = s1 → i_P i_MT i_AT L xs 351 1853 [some (.retAddr 3), some (.ref x1), some (.ref x2), some (.int x3)] [] h 173 127414 Q) ∧ (¬ (s0 = s1) → Q (some (.int 0)) h))) : i_P i_MT i_AT L xs 351 1092 [some (.retAddr 3), some (.ref x1), some (.ref x2), some (.int x3)] [.int s1, .int s0] h 173 127414 Q := by
  have hk := i_k351
  refine g_icmp_eq hk rfl (fun hc => ?_) (fun hc => ?_)
  · have H := H.1 hc
    exact H
  · have H := H.2 hc
    refine g_s1 (pc2 := 1096) (st2 := [.int (0 : Int32)]) hk rfl rfl rfl rfl rfl ?_
    exact g_ireturn hk rfl (by decide) (by decide) rfl H
theorem b351_1106 {x1 : Nat} {x2 : Nat} {x3 : Int32} {s0 : Int32} {h : iH} {Q : Option Value → iH → Prop} (H : (¬ ((x3 + (1 : Int32)) < 0 ∨ L ≤ (x3 + (1 : Int32)).toNatClampNeg) ∧ (i_obj? h x2 12 ∧ i_C i_MT i_AT L xs 283 [.ref x2, .int (xs (x3 + (1 : Int32)).toNatClampNeg)] h (fun v h3 => ∃ r4 : Int32, v = some (.int r4) ∧ i_P i_MT i_AT L xs 351 1115 [some (.retAddr 3), some (.ref x1), some (.ref x2), some (.int x3)] [.int r4, .int s0] h3 173 127414 Q)))) : i_P i_MT i_AT L xs 351 1106 [some (.retAddr 3), some (.ref x1), some (.ref x2), some (.int x3)] [.int s0] h 173 127414 Q := by
  have hk := i_k351
  refine g_s1 (pc2 := 1107) hk rfl rfl rfl rfl rfl ?_
  refine g_s1 (pc2 := 1108) hk rfl rfl rfl rfl rfl ?_
  refine g_s1 (pc2 := 1109) hk rfl rfl rfl rfl rfl ?_
  refine g_s1 (pc2 := 1110) (st2 := [.int (1 : Int32), .int x3, .retAddr 3, .ref x2, .int s0]) hk rfl rfl rfl rfl rfl ?_
  refine g_s1 (pc2 := 1111) hk rfl rfl rfl rfl rfl ?_
  obtain ⟨hi, H⟩ := H
  refine g_step (pc2 := 1112) hk rfl rfl rfl (s_agetX (L := L) (xs := xs) (j := 3) rfl hi) ?_
  obtain ⟨ho, H⟩ := H
  refine g_call hk rfl rfl i_k283.1 ⟨rfl, rfl⟩ rfl (i_rcv_v ho rfl (by decide)) rfl ?_
  exact H.mono (fun v h2 q => by obtain ⟨r, rfl, q⟩ := q; exact q)
theorem b351_1115 {x1 : Nat} {x2 : Nat} {x3 : Int32} {s0 : Int32} {s1 : Int32} {h : iH} {Q : Option Value → iH → Prop} (H : ((s0 = s1 → i_P i_MT i_AT L xs 351 1853 [some (.retAddr 3), some (.ref x1), some (.ref x2), some (.int x3)] [] h 173 127414 Q) ∧ (¬ (s0 = s1) → Q (some (.int 0)) h))) : i_P i_MT i_AT L xs 351 1115 [some (.retAddr 3), some (.ref x1), some (.ref x2), some (.int x3)] [.int s1, .int s0] h 173 127414 Q := by
  have hk := i_k351
  refine g_icmp_eq hk rfl (fun hc => ?_) (fun hc => ?_)
  · have H := H.1 hc
    exact H
  · have H := H.2 hc
    refine g_s1 (pc2 := 1119) (st2 := [.int (0 : Int32)]) hk rfl rfl rfl rfl rfl ?_
    exact g_ireturn hk rfl (by decide) (by decide) rfl H
theorem b351_1134 {x1 : Nat} {x2 : Nat} {x3 : Int32} {s0 : Int32} {h : iH} {Q : Option Value → iH → Prop} (H : (¬ ((x3 + (1 : Int32)) < 0 ∨ L ≤ (x3 + (1 : Int32)).toNatClampNeg) ∧ (¬ ((x3 + (2 : Int32)) < 0 ∨ L ≤ (x3 + (2 : Int32)).toNatClampNeg) ∧ (i_obj? h x2 12 ∧ i_C i_MT i_AT L xs 287 [.ref x2, .int (xs (x3 + (1 : Int32)).toNatClampNeg), .int (xs (x3 + (2 : Int32)).toNatClampNeg)] h (fun v h5 => ∃ r6 : Int32, v = some (.int r6) ∧ i_P i_MT i_AT L xs 351 1148 [some (.retAddr 3), some (.ref x1), some (.ref x2), some (.int x3)] [.int r6, .int s0] h5 173 127414 Q))))) : i_P i_MT i_AT L xs 351 1134 [some (.retAddr 3), some (.ref x1), some (.ref x2), some (.int x3)] [.int s0] h 173 127414 Q := by
  have hk := i_k351
  refine g_s1 (pc2 := 1135) hk rfl rfl rfl rfl rfl ?_
  refine g_s1 (pc2 := 1136) hk rfl rfl rfl rfl rfl ?_
  refine g_s1 (pc2 := 1137) hk rfl rfl rfl rfl rfl ?_
  refine g_s1 (pc2 := 1138) (st2 := [.int (1 : Int32), .int x3, .retAddr 3, .ref x2, .int s0]) hk rfl rfl rfl rfl rfl ?_
  refine g_s1 (pc2 := 1139) hk rfl rfl rfl rfl rfl ?_
  obtain ⟨hi, H⟩ := H
  refine g_step (pc2 := 1140) hk rfl rfl rfl (s_agetX (L := L) (xs := xs) (j := 3) rfl hi) ?_
  refine g_s1 (pc2 := 1141) hk rfl rfl rfl rfl rfl ?_
  refine g_s1 (pc2 := 1142) hk rfl rfl rfl rfl rfl ?_
  refine g_s1 (pc2 := 1143) (st2 := [.int (2 : Int32), .int x3, .retAddr 3, .int (xs (x3 + (1 : Int32)).toNatClampNeg), .ref x2, .int s0]) hk rfl rfl rfl rfl rfl ?_
  refine g_s1 (pc2 := 1144) hk rfl rfl rfl rfl rfl ?_
  obtain ⟨hi, H⟩ := H
  refine g_step (pc2 := 1145) hk rfl rfl rfl (s_agetX (L := L) (xs := xs) (j := 3) rfl hi) ?_
  obtain ⟨ho, H⟩ := H
  refine g_call hk rfl rfl i_k287.1 ⟨rfl, rfl⟩ rfl (i_rcv_v ho rfl (by decide)) rfl ?_
  exact H.mono (fun v h2 q => by obtain ⟨r, rfl, q⟩ := q; exact q)
theorem b351_1148 {x1 : Nat} {x2 : Nat} {x3 : Int32} {s0 : Int32} {s1 : Int32} {h : iH} {Q : Option Value → iH → Prop} (H : ((s0 = s1 → i_P i_MT i_AT L xs 351 1853 [some (.retAddr 3), some (.ref x1), some (.ref x2), some (.int x3)] [] h 173 127414 Q) ∧ (¬ (s0 = s1) → Q (some (.int 0)) h))) : i_P i_MT i_AT L xs 351 1148 [some (.retAddr 3), some (.ref x1), some (.ref x2), some (.int x3)] [.int s1, .int s0] h 173 127414 Q := by
  have hk := i_k351
  refine g_icmp_eq hk rfl (fun hc => ?_) (fun hc => ?_)
  · have H := H.1 hc
    exact H
  · have H := H.2 hc
    refine g_s1 (pc2 := 1152) (st2 := [.int (0 : Int32)]) hk rfl rfl rfl rfl rfl ?_
    exact g_ireturn hk rfl (by decide) (by decide) rfl H
theorem b351_1162 {x1 : Nat} {x2 : Nat} {x3 : Int32} {s0 : Int32} {h : iH} {Q : Option Value → iH → Prop} (H : (¬ ((x3 + (1 : Int32)) < 0 ∨ L ≤ (x3 + (1 : Int32)).toNatClampNeg) ∧ (i_obj? h x2 12 ∧ i_C i_MT i_AT L xs 288 [.ref x2, .int (xs (x3 + (1 : Int32)).toNatClampNeg)] h (fun v h3 => ∃ r4 : Int32, v = some (.int r4) ∧ i_P i_MT i_AT L xs 351 1171 [some (.retAddr 3), some (.ref x1), some (.ref x2), some (.int x3)] [.int r4, .int s0] h3 173 127414 Q)))) : i_P i_MT i_AT L xs 351 1162 [some (.retAddr 3), some (.ref x1), some (.ref x2), some (.int x3)] [.int s0] h 173 127414 Q := by
  have hk := i_k351
  refine g_s1 (pc2 := 1163) hk rfl rfl rfl rfl rfl ?_
  refine g_s1 (pc2 := 1164) hk rfl rfl rfl rfl rfl ?_
  refine g_s1 (pc2 := 1165) hk rfl rfl rfl rfl rfl ?_
  refine g_s1 (pc2 := 1166) (st2 := [.int (1 : Int32), .int x3, .retAddr 3, .ref x2, .int s0]) hk rfl rfl rfl rfl rfl ?_
  refine g_s1 (pc2 := 1167) hk rfl rfl rfl rfl rfl ?_
  obtain ⟨hi, H⟩ := H
  refine g_step (pc2 := 1168) hk rfl rfl rfl (s_agetX (L := L) (xs := xs) (j := 3) rfl hi) ?_
  obtain ⟨ho, H⟩ := H
  refine g_call hk rfl rfl i_k288.1 ⟨rfl, rfl⟩ rfl (i_rcv_v ho rfl (by decide)) rfl ?_
  exact H.mono (fun v h2 q => by obtain ⟨r, rfl, q⟩ := q; exact q)
theorem b351_1171 {x1 : Nat} {x2 : Nat} {x3 : Int32} {s0 : Int32} {s1 : Int32} {h : iH} {Q : Option Value → iH → Prop} (H : ((s0 = s1 → i_P i_MT i_AT L xs 351 1853 [some (.retAddr 3), some (.ref x1), some (.ref x2), some (.int x3)] [] h 173 127414 Q) ∧ (¬ (s0 = s1) → Q (some (.int 0)) h))) : i_P i_MT i_AT L xs 351 1171 [some (.retAddr 3), some (.ref x1), some (.ref x2), some (.int x3)] [.int s1, .int s0] h 173 127414 Q := by
  have hk := i_k351
  refine g_icmp_eq hk rfl (fun hc => ?_) (fun hc => ?_)
  · have H := H.1 hc
    exact H
  · have H := H.2 hc
    refine g_s1 (pc2 := 1175) (st2 := [.int (0 : Int32)]) hk rfl rfl rfl rfl rfl ?_
    exact g_ireturn hk rfl (by decide) (by decide) rfl H
theorem b351_1195 {x1 : Nat} {x2 : Nat} {x3 : Int32} {s0 : Int32} {h : iH} {Q : Option Value → iH → Prop} (H : (¬ ((x3 + (1 : Int32)) < 0 ∨ L ≤ (x3 + (1 : Int32)).toNatClampNeg) ∧ (¬ ((x3 + (2 : Int32)) < 0 ∨ L ≤ (x3 + (2 : Int32)).toNatClampNeg) ∧ (¬ ((x3 + (3 : Int32)) < 0 ∨ L ≤ (x3 + (3 : Int32)).toNatClampNeg) ∧ (i_obj? h x2 12 ∧ i_C i_MT i_AT L xs 290 [.ref x2, .int (xs (x3 + (1 : Int32)).toNatClampNeg), .int (xs (x3 + (2 : Int32)).toNatClampNeg), .int (xs (x3 + (3 : Int32)).toNatClampNeg)] h (fun v h7 => ∃ r8 : Int32, v = some (.int r8) ∧ i_P i_MT i_AT L xs 351 1214 [some (.retAddr 3), some (.ref x1), some (.ref x2), some (.int x3)] [.int r8, .int s0] h7 173 127414 Q)))))) : i_P i_MT i_AT L xs 351 1195 [some (.retAddr 3), some (.ref x1), some (.ref x2), some (.int x3)] [.int s0] h 173 127414 Q := by
  have hk := i_k351
  refine g_s1 (pc2 := 1196) hk rfl rfl rfl rfl rfl ?_
  refine g_s1 (pc2 := 1197) hk rfl rfl rfl rfl rfl ?_
  refine g_s1 (pc2 := 1198) hk rfl rfl rfl rfl rfl ?_
  refine g_s1 (pc2 := 1199) (st2 := [.int (1 : Int32), .int x3, .retAddr 3, .ref x2, .int s0]) hk rfl rfl rfl rfl rfl ?_
  refine g_s1 (pc2 := 1200) hk rfl rfl rfl rfl rfl ?_
  obtain ⟨hi, H⟩ := H
  refine g_step (pc2 := 1201) hk rfl rfl rfl (s_agetX (L := L) (xs := xs) (j := 3) rfl hi) ?_
  refine g_s1 (pc2 := 1202) hk rfl rfl rfl rfl rfl ?_
  refine g_s1 (pc2 := 1203) hk rfl rfl rfl rfl rfl ?_
  refine g_s1 (pc2 := 1204) (st2 := [.int (2 : Int32), .int x3, .retAddr 3, .int (xs (x3 + (1 : Int32)).toNatClampNeg), .ref x2, .int s0]) hk rfl rfl rfl rfl rfl ?_
  refine g_s1 (pc2 := 1205) hk rfl rfl rfl rfl rfl ?_
  obtain ⟨hi, H⟩ := H
  refine g_step (pc2 := 1206) hk rfl rfl rfl (s_agetX (L := L) (xs := xs) (j := 3) rfl hi) ?_
  refine g_s1 (pc2 := 1207) hk rfl rfl rfl rfl rfl ?_
  refine g_s1 (pc2 := 1208) hk rfl rfl rfl rfl rfl ?_
  refine g_s1 (pc2 := 1209) (st2 := [.int (3 : Int32), .int x3, .retAddr 3, .int (xs (x3 + (2 : Int32)).toNatClampNeg), .int (xs (x3 + (1 : Int32)).toNatClampNeg), .ref x2, .int s0]) hk rfl rfl rfl rfl rfl ?_
  refine g_s1 (pc2 := 1210) hk rfl rfl rfl rfl rfl ?_
  obtain ⟨hi, H⟩ := H
  refine g_step (pc2 := 1211) hk rfl rfl rfl (s_agetX (L := L) (xs := xs) (j := 3) rfl hi) ?_
  obtain ⟨ho, H⟩ := H
  refine g_call hk rfl rfl i_k290.1 ⟨rfl, rfl⟩ rfl (i_rcv_v ho rfl (by decide)) rfl ?_
  exact H.mono (fun v h2 q => by obtain ⟨r, rfl, q⟩ := q; exact q)
theorem b351_1214 {x1 : Nat} {x2 : Nat} {x3 : Int32} {s0 : Int32} {s1 : Int32} {h : iH} {Q : Option Value → iH → Prop} (H : ((s0 = s1 → i_P i_MT i_AT L xs 351 1853 [some (.retAddr 3), some (.ref x1), some (.ref x2), some (.int x3)] [] h 173 127414 Q) ∧ (¬ (s0 = s1) → Q (some (.int 0)) h))) : i_P i_MT i_AT L xs 351 1214 [some (.retAddr 3), some (.ref x1), some (.ref x2), some (.int x3)] [.int s1, .int s0] h 173 127414 Q := by
  have hk := i_k351
  refine g_icmp_eq hk rfl (fun hc => ?_) (fun hc => ?_)
  · have H := H.1 hc
    exact H
  · have H := H.2 hc
    refine g_s1 (pc2 := 1218) (st2 := [.int (0 : Int32)]) hk rfl rfl rfl rfl rfl ?_
    exact g_ireturn hk rfl (by decide) (by decide) rfl H
theorem b351_1228 {x1 : Nat} {x2 : Nat} {x3 : Int32} {s0 : Int32} {h : iH} {Q : Option Value → iH → Prop} (H : (¬ ((x3 + (1 : Int32)) < 0 ∨ L ≤ (x3 + (1 : Int32)).toNatClampNeg) ∧ (i_obj? h x2 12 ∧ i_C i_MT i_AT L xs 294 [.ref x2, .int (xs (x3 + (1 : Int32)).toNatClampNeg)] h (fun v h3 => ∃ r4 : Int32, v = some (.int r4) ∧ i_P i_MT i_AT L xs 351 1237 [some (.retAddr 3), some (.ref x1), some (.ref x2), some (.int x3)] [.int r4, .int s0] h3 173 127414 Q)))) : i_P i_MT i_AT L xs 351 1228 [some (.retAddr 3), some (.ref x1), some (.ref x2), some (.int x3)] [.int s0] h 173 127414 Q := by
  have hk := i_k351
  refine g_s1 (pc2 := 1229) hk rfl rfl rfl rfl rfl ?_
  refine g_s1 (pc2 := 1230) hk rfl rfl rfl rfl rfl ?_
  refine g_s1 (pc2 := 1231) hk rfl rfl rfl rfl rfl ?_
  refine g_s1 (pc2 := 1232) (st2 := [.int (1 : Int32), .int x3, .retAddr 3, .ref x2, .int s0]) hk rfl rfl rfl rfl rfl ?_
  refine g_s1 (pc2 := 1233) hk rfl rfl rfl rfl rfl ?_
  obtain ⟨hi, H⟩ := H
  refine g_step (pc2 := 1234) hk rfl rfl rfl (s_agetX (L := L) (xs := xs) (j := 3) rfl hi) ?_
  obtain ⟨ho, H⟩ := H
  refine g_call hk rfl rfl i_k294.1 ⟨rfl, rfl⟩ rfl (i_rcv_v ho rfl (by decide)) rfl ?_
  exact H.mono (fun v h2 q => by obtain ⟨r, rfl, q⟩ := q; exact q)
theorem b351_1237 {x1 : Nat} {x2 : Nat} {x3 : Int32} {s0 : Int32} {s1 : Int32} {h : iH} {Q : Option Value → iH → Prop} (H : ((s0 = s1 → i_P i_MT i_AT L xs 351 1853 [some (.retAddr 3), some (.ref x1), some (.ref x2), some (.int x3)] [] h 173 127414 Q) ∧ (¬ (s0 = s1) → Q (some (.int 0)) h))) : i_P i_MT i_AT L xs 351 1237 [some (.retAddr 3), some (.ref x1), some (.ref x2), some (.int x3)] [.int s1, .int s0] h 173 127414 Q := by
  have hk := i_k351
  refine g_icmp_eq hk rfl (fun hc => ?_) (fun hc => ?_)
  · have H := H.1 hc
    exact H
  · have H := H.2 hc
    refine g_s1 (pc2 := 1241) (st2 := [.int (0 : Int32)]) hk rfl rfl rfl rfl rfl ?_
    exact g_ireturn hk rfl (by decide) (by decide) rfl H
theorem b351_1271 {x1 : Nat} {x2 : Nat} {x3 : Int32} {s0 : Int32} {h : iH} {Q : Option Value → iH → Prop} (H : (¬ ((x3 + (1 : Int32)) < 0 ∨ L ≤ (x3 + (1 : Int32)).toNatClampNeg) ∧ (¬ ((x3 + (2 : Int32)) < 0 ∨ L ≤ (x3 + (2 : Int32)).toNatClampNeg) ∧ (¬ ((x3 + (3 : Int32)) < 0 ∨ L ≤ (x3 + (3 : Int32)).toNatClampNeg) ∧ (i_obj? h x2 12 ∧ i_C i_MT i_AT L xs 298 [.ref x2, .int (xs (x3 + (1 : Int32)).toNatClampNeg), .long ((((xs (x3 + (2 : Int32)).toNatClampNeg).toInt64) <<< ((32 : Int32).toInt64 &&& 63)) ||| (((xs (x3 + (3 : Int32)).toNatClampNeg).toInt64) &&& (4294967295 : Int64)))] h (fun v h7 => ∃ r8 : Int32, v = some (.int r8) ∧ i_P i_MT i_AT L xs 351 1300 [some (.retAddr 3), some (.ref x1), some (.ref x2), some (.int x3)] [.int r8, .int s0] h7 173 127414 Q)))))) : i_P i_MT i_AT L xs 351 1271 [some (.retAddr 3), some (.ref x1), some (.ref x2), some (.int x3)] [.int s0] h 173 127414 Q := by
  have hk := i_k351
  refine g_s1 (pc2 := 1272) hk rfl rfl rfl rfl rfl ?_
  refine g_s1 (pc2 := 1273) hk rfl rfl rfl rfl rfl ?_
  refine g_s1 (pc2 := 1274) hk rfl rfl rfl rfl rfl ?_
  refine g_s1 (pc2 := 1275) (st2 := [.int (1 : Int32), .int x3, .retAddr 3, .ref x2, .int s0]) hk rfl rfl rfl rfl rfl ?_
  refine g_s1 (pc2 := 1276) hk rfl rfl rfl rfl rfl ?_
  obtain ⟨hi, H⟩ := H
  refine g_step (pc2 := 1277) hk rfl rfl rfl (s_agetX (L := L) (xs := xs) (j := 3) rfl hi) ?_
  refine g_s1 (pc2 := 1278) hk rfl rfl rfl rfl rfl ?_
  refine g_s1 (pc2 := 1279) hk rfl rfl rfl rfl rfl ?_
  refine g_s1 (pc2 := 1280) (st2 := [.int (2 : Int32), .int x3, .retAddr 3, .int (xs (x3 + (1 : Int32)).toNatClampNeg), .ref x2, .int s0]) hk rfl rfl rfl rfl rfl ?_
  refine g_s1 (pc2 := 1281) hk rfl rfl rfl rfl rfl ?_
  obtain ⟨hi, H⟩ := H
  refine g_step (pc2 := 1282) hk rfl rfl rfl (s_agetX (L := L) (xs := xs) (j := 3) rfl hi) ?_
  refine g_s1 (pc2 := 1283) hk rfl rfl rfl rfl rfl ?_
  refine g_s1 (pc2 := 1285) (st2 := [.int (32 : Int32), .long ((xs (x3 + (2 : Int32)).toNatClampNeg).toInt64), .int (xs (x3 + (1 : Int32)).toNatClampNeg), .ref x2, .int s0]) hk rfl rfl rfl rfl rfl ?_
  refine g_s1 (pc2 := 1286) hk rfl rfl rfl rfl rfl ?_
  refine g_s1 (pc2 := 1287) hk rfl rfl rfl rfl rfl ?_
  refine g_s1 (pc2 := 1288) hk rfl rfl rfl rfl rfl ?_
  refine g_s1 (pc2 := 1289) (st2 := [.int (3 : Int32), .int x3, .retAddr 3, .long (((xs (x3 + (2 : Int32)).toNatClampNeg).toInt64) <<< ((32 : Int32).toInt64 &&& 63)), .int (xs (x3 + (1 : Int32)).toNatClampNeg), .ref x2, .int s0]) hk rfl rfl rfl rfl rfl ?_
  refine g_s1 (pc2 := 1290) hk rfl rfl rfl rfl rfl ?_
  obtain ⟨hi, H⟩ := H
  refine g_step (pc2 := 1291) hk rfl rfl rfl (s_agetX (L := L) (xs := xs) (j := 3) rfl hi) ?_
  refine g_s1 (pc2 := 1292) hk rfl rfl rfl rfl rfl ?_
  refine g_step (pc2 := 1295) (st2 := [.long (4294967295 : Int64), .long ((xs (x3 + (3 : Int32)).toNatClampNeg).toInt64), .long (((xs (x3 + (2 : Int32)).toNatClampNeg).toInt64) <<< ((32 : Int32).toInt64 &&& 63)), .int (xs (x3 + (1 : Int32)).toNatClampNeg), .ref x2, .int s0]) hk rfl rfl rfl rfl ?_
  refine g_s1 (pc2 := 1296) hk rfl rfl rfl rfl rfl ?_
  refine g_s1 (pc2 := 1297) hk rfl rfl rfl rfl rfl ?_
  obtain ⟨ho, H⟩ := H
  refine g_call hk rfl rfl i_k298.1 ⟨rfl, rfl⟩ rfl (i_rcv_v ho rfl (by decide)) rfl ?_
  exact H.mono (fun v h2 q => by obtain ⟨r, rfl, q⟩ := q; exact q)
theorem b351_1300 {x1 : Nat} {x2 : Nat} {x3 : Int32} {s0 : Int32} {s1 : Int32} {h : iH} {Q : Option Value → iH → Prop} (H : ((s0 = s1 → i_P i_MT i_AT L xs 351 1853 [some (.retAddr 3), some (.ref x1), some (.ref x2), some (.int x3)] [] h 173 127414 Q) ∧ (¬ (s0 = s1) → Q (some (.int 0)) h))) : i_P i_MT i_AT L xs 351 1300 [some (.retAddr 3), some (.ref x1), some (.ref x2), some (.int x3)] [.int s1, .int s0] h 173 127414 Q := by
  have hk := i_k351
  refine g_icmp_eq hk rfl (fun hc => ?_) (fun hc => ?_)
  · have H := H.1 hc
    exact H
  · have H := H.2 hc
    refine g_s1 (pc2 := 1304) (st2 := [.int (0 : Int32)]) hk rfl rfl rfl rfl rfl ?_
    exact g_ireturn hk rfl (by decide) (by decide) rfl H
theorem b351_1324 {x1 : Nat} {x2 : Nat} {x3 : Int32} {s0 : Int64} {h : iH} {Q : Option Value → iH → Prop} (H : (¬ ((x3 + (1 : Int32)) < 0 ∨ L ≤ (x3 + (1 : Int32)).toNatClampNeg) ∧ (¬ ((x3 + (2 : Int32)) < 0 ∨ L ≤ (x3 + (2 : Int32)).toNatClampNeg) ∧ (¬ ((x3 + (3 : Int32)) < 0 ∨ L ≤ (x3 + (3 : Int32)).toNatClampNeg) ∧ (i_obj? h x2 12 ∧ i_C i_MT i_AT L xs 299 [.ref x2, .int (xs (x3 + (1 : Int32)).toNatClampNeg), .int (xs (x3 + (2 : Int32)).toNatClampNeg), .int (xs (x3 + (3 : Int32)).toNatClampNeg)] h (fun v h7 => ∃ r8 : Int64, v = some (.long r8) ∧ i_P i_MT i_AT L xs 351 1343 [some (.retAddr 3), some (.ref x1), some (.ref x2), some (.int x3)] [.long r8, .long s0] h7 173 127414 Q)))))) : i_P i_MT i_AT L xs 351 1324 [some (.retAddr 3), some (.ref x1), some (.ref x2), some (.int x3)] [.long s0] h 173 127414 Q := by
  have hk := i_k351
  refine g_s1 (pc2 := 1325) hk rfl rfl rfl rfl rfl ?_
  refine g_s1 (pc2 := 1326) hk rfl rfl rfl rfl rfl ?_
  refine g_s1 (pc2 := 1327) hk rfl rfl rfl rfl rfl ?_
  refine g_s1 (pc2 := 1328) (st2 := [.int (1 : Int32), .int x3, .retAddr 3, .ref x2, .long s0]) hk rfl rfl rfl rfl rfl ?_
  refine g_s1 (pc2 := 1329) hk rfl rfl rfl rfl rfl ?_
  obtain ⟨hi, H⟩ := H
  refine g_step (pc2 := 1330) hk rfl rfl rfl (s_agetX (L := L) (xs := xs) (j := 3) rfl hi) ?_
  refine g_s1 (pc2 := 1331) hk rfl rfl rfl rfl rfl ?_
  refine g_s1 (pc2 := 1332) hk rfl rfl rfl rfl rfl ?_
  refine g_s1 (pc2 := 1333) (st2 := [.int (2 : Int32), .int x3, .retAddr 3, .int (xs (x3 + (1 : Int32)).toNatClampNeg), .ref x2, .long s0]) hk rfl rfl rfl rfl rfl ?_
  refine g_s1 (pc2 := 1334) hk rfl rfl rfl rfl rfl ?_
  obtain ⟨hi, H⟩ := H
  refine g_step (pc2 := 1335) hk rfl rfl rfl (s_agetX (L := L) (xs := xs) (j := 3) rfl hi) ?_
  refine g_s1 (pc2 := 1336) hk rfl rfl rfl rfl rfl ?_
  refine g_s1 (pc2 := 1337) hk rfl rfl rfl rfl rfl ?_
  refine g_s1 (pc2 := 1338) (st2 := [.int (3 : Int32), .int x3, .retAddr 3, .int (xs (x3 + (2 : Int32)).toNatClampNeg), .int (xs (x3 + (1 : Int32)).toNatClampNeg), .ref x2, .long s0]) hk rfl rfl rfl rfl rfl ?_
  refine g_s1 (pc2 := 1339) hk rfl rfl rfl rfl rfl ?_
  obtain ⟨hi, H⟩ := H
  refine g_step (pc2 := 1340) hk rfl rfl rfl (s_agetX (L := L) (xs := xs) (j := 3) rfl hi) ?_
  obtain ⟨ho, H⟩ := H
  refine g_call hk rfl rfl i_k299.1 ⟨rfl, rfl⟩ rfl (i_rcv_v ho rfl (by decide)) rfl ?_
  exact H.mono (fun v h2 q => by obtain ⟨r, rfl, q⟩ := q; exact q)
theorem b351_1343 {x1 : Nat} {x2 : Nat} {x3 : Int32} {s0 : Int64} {s1 : Int64} {h : iH} {Q : Option Value → iH → Prop} (H : (((lg_cmp s0 s1) = 0 → i_P i_MT i_AT L xs 351 1853 [some (.retAddr 3), some (.ref x1), some (.ref x2), some (.int x3)] [] h 173 127414 Q) ∧ (¬ ((lg_cmp s0 s1) = 0) → Q (some (.int 0)) h))) : i_P i_MT i_AT L xs 351 1343 [some (.retAddr 3), some (.ref x1), some (.ref x2), some (.int x3)] [.long s1, .long s0] h 173 127414 Q := by
  have hk := i_k351
  refine g_s1 (pc2 := 1344) hk rfl rfl rfl rfl rfl ?_
  refine g_if_eq hk rfl (fun hc => ?_) (fun hc => ?_)
  · have H := H.1 hc
    exact H
  · have H := H.2 hc
    refine g_s1 (pc2 := 1348) (st2 := [.int (0 : Int32)]) hk rfl rfl rfl rfl rfl ?_
    exact g_ireturn hk rfl (by decide) (by decide) rfl H
theorem b351_1363 {x1 : Nat} {x2 : Nat} {x3 : Int32} {s0 : Int32} {h : iH} {Q : Option Value → iH → Prop} (H : (¬ ((x3 + (1 : Int32)) < 0 ∨ L ≤ (x3 + (1 : Int32)).toNatClampNeg) ∧ (¬ ((x3 + (2 : Int32)) < 0 ∨ L ≤ (x3 + (2 : Int32)).toNatClampNeg) ∧ (i_obj? h x2 12 ∧ i_C i_MT i_AT L xs 303 [.ref x2, .int (xs (x3 + (1 : Int32)).toNatClampNeg), .int (xs (x3 + (2 : Int32)).toNatClampNeg)] h (fun v h5 => ∃ r6 : Int32, v = some (.int r6) ∧ i_P i_MT i_AT L xs 351 1377 [some (.retAddr 3), some (.ref x1), some (.ref x2), some (.int x3)] [.int r6, .int s0] h5 173 127414 Q))))) : i_P i_MT i_AT L xs 351 1363 [some (.retAddr 3), some (.ref x1), some (.ref x2), some (.int x3)] [.int s0] h 173 127414 Q := by
  have hk := i_k351
  refine g_s1 (pc2 := 1364) hk rfl rfl rfl rfl rfl ?_
  refine g_s1 (pc2 := 1365) hk rfl rfl rfl rfl rfl ?_
  refine g_s1 (pc2 := 1366) hk rfl rfl rfl rfl rfl ?_
  refine g_s1 (pc2 := 1367) (st2 := [.int (1 : Int32), .int x3, .retAddr 3, .ref x2, .int s0]) hk rfl rfl rfl rfl rfl ?_
  refine g_s1 (pc2 := 1368) hk rfl rfl rfl rfl rfl ?_
  obtain ⟨hi, H⟩ := H
  refine g_step (pc2 := 1369) hk rfl rfl rfl (s_agetX (L := L) (xs := xs) (j := 3) rfl hi) ?_
  refine g_s1 (pc2 := 1370) hk rfl rfl rfl rfl rfl ?_
  refine g_s1 (pc2 := 1371) hk rfl rfl rfl rfl rfl ?_
  refine g_s1 (pc2 := 1372) (st2 := [.int (2 : Int32), .int x3, .retAddr 3, .int (xs (x3 + (1 : Int32)).toNatClampNeg), .ref x2, .int s0]) hk rfl rfl rfl rfl rfl ?_
  refine g_s1 (pc2 := 1373) hk rfl rfl rfl rfl rfl ?_
  obtain ⟨hi, H⟩ := H
  refine g_step (pc2 := 1374) hk rfl rfl rfl (s_agetX (L := L) (xs := xs) (j := 3) rfl hi) ?_
  obtain ⟨ho, H⟩ := H
  refine g_call hk rfl rfl i_k303.1 ⟨rfl, rfl⟩ rfl (i_rcv_v ho rfl (by decide)) rfl ?_
  exact H.mono (fun v h2 q => by obtain ⟨r, rfl, q⟩ := q; exact q)
theorem b351_1377 {x1 : Nat} {x2 : Nat} {x3 : Int32} {s0 : Int32} {s1 : Int32} {h : iH} {Q : Option Value → iH → Prop} (H : ((s0 = s1 → i_P i_MT i_AT L xs 351 1853 [some (.retAddr 3), some (.ref x1), some (.ref x2), some (.int x3)] [] h 173 127414 Q) ∧ (¬ (s0 = s1) → Q (some (.int 0)) h))) : i_P i_MT i_AT L xs 351 1377 [some (.retAddr 3), some (.ref x1), some (.ref x2), some (.int x3)] [.int s1, .int s0] h 173 127414 Q := by
  have hk := i_k351
  refine g_icmp_eq hk rfl (fun hc => ?_) (fun hc => ?_)
  · have H := H.1 hc
    exact H
  · have H := H.2 hc
    refine g_s1 (pc2 := 1381) (st2 := [.int (0 : Int32)]) hk rfl rfl rfl rfl rfl ?_
    exact g_ireturn hk rfl (by decide) (by decide) rfl H
theorem b351_1396 {x1 : Nat} {x2 : Nat} {x3 : Int32} {s0 : Int32} {h : iH} {Q : Option Value → iH → Prop} (H : (¬ ((x3 + (1 : Int32)) < 0 ∨ L ≤ (x3 + (1 : Int32)).toNatClampNeg) ∧ (¬ ((x3 + (2 : Int32)) < 0 ∨ L ≤ (x3 + (2 : Int32)).toNatClampNeg) ∧ (i_obj? h x2 12 ∧ i_C i_MT i_AT L xs 306 [.ref x2, .int (xs (x3 + (1 : Int32)).toNatClampNeg), .int (xs (x3 + (2 : Int32)).toNatClampNeg)] h (fun v h5 => ∃ r6 : Int32, v = some (.int r6) ∧ i_P i_MT i_AT L xs 351 1410 [some (.retAddr 3), some (.ref x1), some (.ref x2), some (.int x3)] [.int r6, .int s0] h5 173 127414 Q))))) : i_P i_MT i_AT L xs 351 1396 [some (.retAddr 3), some (.ref x1), some (.ref x2), some (.int x3)] [.int s0] h 173 127414 Q := by
  have hk := i_k351
  refine g_s1 (pc2 := 1397) hk rfl rfl rfl rfl rfl ?_
  refine g_s1 (pc2 := 1398) hk rfl rfl rfl rfl rfl ?_
  refine g_s1 (pc2 := 1399) hk rfl rfl rfl rfl rfl ?_
  refine g_s1 (pc2 := 1400) (st2 := [.int (1 : Int32), .int x3, .retAddr 3, .ref x2, .int s0]) hk rfl rfl rfl rfl rfl ?_
  refine g_s1 (pc2 := 1401) hk rfl rfl rfl rfl rfl ?_
  obtain ⟨hi, H⟩ := H
  refine g_step (pc2 := 1402) hk rfl rfl rfl (s_agetX (L := L) (xs := xs) (j := 3) rfl hi) ?_
  refine g_s1 (pc2 := 1403) hk rfl rfl rfl rfl rfl ?_
  refine g_s1 (pc2 := 1404) hk rfl rfl rfl rfl rfl ?_
  refine g_s1 (pc2 := 1405) (st2 := [.int (2 : Int32), .int x3, .retAddr 3, .int (xs (x3 + (1 : Int32)).toNatClampNeg), .ref x2, .int s0]) hk rfl rfl rfl rfl rfl ?_
  refine g_s1 (pc2 := 1406) hk rfl rfl rfl rfl rfl ?_
  obtain ⟨hi, H⟩ := H
  refine g_step (pc2 := 1407) hk rfl rfl rfl (s_agetX (L := L) (xs := xs) (j := 3) rfl hi) ?_
  obtain ⟨ho, H⟩ := H
  refine g_call hk rfl rfl i_k306.1 ⟨rfl, rfl⟩ rfl (i_rcv_v ho rfl (by decide)) rfl ?_
  exact H.mono (fun v h2 q => by obtain ⟨r, rfl, q⟩ := q; exact q)
theorem b351_1410 {x1 : Nat} {x2 : Nat} {x3 : Int32} {s0 : Int32} {s1 : Int32} {h : iH} {Q : Option Value → iH → Prop} (H : ((s0 = s1 → i_P i_MT i_AT L xs 351 1853 [some (.retAddr 3), some (.ref x1), some (.ref x2), some (.int x3)] [] h 173 127414 Q) ∧ (¬ (s0 = s1) → Q (some (.int 0)) h))) : i_P i_MT i_AT L xs 351 1410 [some (.retAddr 3), some (.ref x1), some (.ref x2), some (.int x3)] [.int s1, .int s0] h 173 127414 Q := by
  have hk := i_k351
  refine g_icmp_eq hk rfl (fun hc => ?_) (fun hc => ?_)
  · have H := H.1 hc
    exact H
  · have H := H.2 hc
    refine g_s1 (pc2 := 1414) (st2 := [.int (0 : Int32)]) hk rfl rfl rfl rfl rfl ?_
    exact g_ireturn hk rfl (by decide) (by decide) rfl H
theorem b351_1424 {x1 : Nat} {x2 : Nat} {x3 : Int32} {s0 : Int32} {h : iH} {Q : Option Value → iH → Prop} (H : (¬ ((x3 + (1 : Int32)) < 0 ∨ L ≤ (x3 + (1 : Int32)).toNatClampNeg) ∧ (i_obj? h x2 12 ∧ i_C i_MT i_AT L xs 309 [.ref x2, .int (xs (x3 + (1 : Int32)).toNatClampNeg)] h (fun v h3 => ∃ r4 : Int32, v = some (.int r4) ∧ i_P i_MT i_AT L xs 351 1433 [some (.retAddr 3), some (.ref x1), some (.ref x2), some (.int x3)] [.int r4, .int s0] h3 173 127414 Q)))) : i_P i_MT i_AT L xs 351 1424 [some (.retAddr 3), some (.ref x1), some (.ref x2), some (.int x3)] [.int s0] h 173 127414 Q := by
  have hk := i_k351
  refine g_s1 (pc2 := 1425) hk rfl rfl rfl rfl rfl ?_
  refine g_s1 (pc2 := 1426) hk rfl rfl rfl rfl rfl ?_
  refine g_s1 (pc2 := 1427) hk rfl rfl rfl rfl rfl ?_
  refine g_s1 (pc2 := 1428) (st2 := [.int (1 : Int32), .int x3, .retAddr 3, .ref x2, .int s0]) hk rfl rfl rfl rfl rfl ?_
  refine g_s1 (pc2 := 1429) hk rfl rfl rfl rfl rfl ?_
  obtain ⟨hi, H⟩ := H
  refine g_step (pc2 := 1430) hk rfl rfl rfl (s_agetX (L := L) (xs := xs) (j := 3) rfl hi) ?_
  obtain ⟨ho, H⟩ := H
  refine g_call hk rfl rfl i_k309.1 ⟨rfl, rfl⟩ rfl (i_rcv_v ho rfl (by decide)) rfl ?_
  exact H.mono (fun v h2 q => by obtain ⟨r, rfl, q⟩ := q; exact q)
theorem b351_1433 {x1 : Nat} {x2 : Nat} {x3 : Int32} {s0 : Int32} {s1 : Int32} {h : iH} {Q : Option Value → iH → Prop} (H : ((s0 = s1 → i_P i_MT i_AT L xs 351 1853 [some (.retAddr 3), some (.ref x1), some (.ref x2), some (.int x3)] [] h 173 127414 Q) ∧ (¬ (s0 = s1) → Q (some (.int 0)) h))) : i_P i_MT i_AT L xs 351 1433 [some (.retAddr 3), some (.ref x1), some (.ref x2), some (.int x3)] [.int s1, .int s0] h 173 127414 Q := by
  have hk := i_k351
  refine g_icmp_eq hk rfl (fun hc => ?_) (fun hc => ?_)
  · have H := H.1 hc
    exact H
  · have H := H.2 hc
    refine g_s1 (pc2 := 1437) (st2 := [.int (0 : Int32)]) hk rfl rfl rfl rfl rfl ?_
    exact g_ireturn hk rfl (by decide) (by decide) rfl H
theorem b351_1457 {x1 : Nat} {x2 : Nat} {x3 : Int32} {s0 : Int32} {h : iH} {Q : Option Value → iH → Prop} (H : (¬ ((x3 + (1 : Int32)) < 0 ∨ L ≤ (x3 + (1 : Int32)).toNatClampNeg) ∧ (¬ ((x3 + (2 : Int32)) < 0 ∨ L ≤ (x3 + (2 : Int32)).toNatClampNeg) ∧ (¬ ((x3 + (3 : Int32)) < 0 ∨ L ≤ (x3 + (3 : Int32)).toNatClampNeg) ∧ (i_obj? h x2 12 ∧ i_C i_MT i_AT L xs 310 [.ref x2, .int (xs (x3 + (1 : Int32)).toNatClampNeg), .int (xs (x3 + (2 : Int32)).toNatClampNeg), .int (xs (x3 + (3 : Int32)).toNatClampNeg)] h (fun v h7 => ∃ r8 : Int32, v = some (.int r8) ∧ i_P i_MT i_AT L xs 351 1476 [some (.retAddr 3), some (.ref x1), some (.ref x2), some (.int x3)] [.int r8, .int s0] h7 173 127414 Q)))))) : i_P i_MT i_AT L xs 351 1457 [some (.retAddr 3), some (.ref x1), some (.ref x2), some (.int x3)] [.int s0] h 173 127414 Q := by
  have hk := i_k351
  refine g_s1 (pc2 := 1458) hk rfl rfl rfl rfl rfl ?_
  refine g_s1 (pc2 := 1459) hk rfl rfl rfl rfl rfl ?_
  refine g_s1 (pc2 := 1460) hk rfl rfl rfl rfl rfl ?_
  refine g_s1 (pc2 := 1461) (st2 := [.int (1 : Int32), .int x3, .retAddr 3, .ref x2, .int s0]) hk rfl rfl rfl rfl rfl ?_
  refine g_s1 (pc2 := 1462) hk rfl rfl rfl rfl rfl ?_
  obtain ⟨hi, H⟩ := H
  refine g_step (pc2 := 1463) hk rfl rfl rfl (s_agetX (L := L) (xs := xs) (j := 3) rfl hi) ?_
  refine g_s1 (pc2 := 1464) hk rfl rfl rfl rfl rfl ?_
  refine g_s1 (pc2 := 1465) hk rfl rfl rfl rfl rfl ?_
  refine g_s1 (pc2 := 1466) (st2 := [.int (2 : Int32), .int x3, .retAddr 3, .int (xs (x3 + (1 : Int32)).toNatClampNeg), .ref x2, .int s0]) hk rfl rfl rfl rfl rfl ?_
  refine g_s1 (pc2 := 1467) hk rfl rfl rfl rfl rfl ?_
  obtain ⟨hi, H⟩ := H
  refine g_step (pc2 := 1468) hk rfl rfl rfl (s_agetX (L := L) (xs := xs) (j := 3) rfl hi) ?_
  refine g_s1 (pc2 := 1469) hk rfl rfl rfl rfl rfl ?_
  refine g_s1 (pc2 := 1470) hk rfl rfl rfl rfl rfl ?_
  refine g_s1 (pc2 := 1471) (st2 := [.int (3 : Int32), .int x3, .retAddr 3, .int (xs (x3 + (2 : Int32)).toNatClampNeg), .int (xs (x3 + (1 : Int32)).toNatClampNeg), .ref x2, .int s0]) hk rfl rfl rfl rfl rfl ?_
  refine g_s1 (pc2 := 1472) hk rfl rfl rfl rfl rfl ?_
  obtain ⟨hi, H⟩ := H
  refine g_step (pc2 := 1473) hk rfl rfl rfl (s_agetX (L := L) (xs := xs) (j := 3) rfl hi) ?_
  obtain ⟨ho, H⟩ := H
  refine g_call hk rfl rfl i_k310.1 ⟨rfl, rfl⟩ rfl (i_rcv_v ho rfl (by decide)) rfl ?_
  exact H.mono (fun v h2 q => by obtain ⟨r, rfl, q⟩ := q; exact q)
theorem b351_1476 {x1 : Nat} {x2 : Nat} {x3 : Int32} {s0 : Int32} {s1 : Int32} {h : iH} {Q : Option Value → iH → Prop} (H : ((s0 = s1 → i_P i_MT i_AT L xs 351 1853 [some (.retAddr 3), some (.ref x1), some (.ref x2), some (.int x3)] [] h 173 127414 Q) ∧ (¬ (s0 = s1) → Q (some (.int 0)) h))) : i_P i_MT i_AT L xs 351 1476 [some (.retAddr 3), some (.ref x1), some (.ref x2), some (.int x3)] [.int s1, .int s0] h 173 127414 Q := by
  have hk := i_k351
  refine g_icmp_eq hk rfl (fun hc => ?_) (fun hc => ?_)
  · have H := H.1 hc
    exact H
  · have H := H.2 hc
    refine g_s1 (pc2 := 1480) (st2 := [.int (0 : Int32)]) hk rfl rfl rfl rfl rfl ?_
    exact g_ireturn hk rfl (by decide) (by decide) rfl H
theorem b351_1490 {x1 : Nat} {x2 : Nat} {x3 : Int32} {s0 : Int32} {h : iH} {Q : Option Value → iH → Prop} (H : (¬ ((x3 + (1 : Int32)) < 0 ∨ L ≤ (x3 + (1 : Int32)).toNatClampNeg) ∧ (i_obj? h x2 12 ∧ i_C i_MT i_AT L xs 311 [.ref x2, .int (xs (x3 + (1 : Int32)).toNatClampNeg)] h (fun v h3 => ∃ r4 : Int32, v = some (.int r4) ∧ i_P i_MT i_AT L xs 351 1499 [some (.retAddr 3), some (.ref x1), some (.ref x2), some (.int x3)] [.int r4, .int s0] h3 173 127414 Q)))) : i_P i_MT i_AT L xs 351 1490 [some (.retAddr 3), some (.ref x1), some (.ref x2), some (.int x3)] [.int s0] h 173 127414 Q := by
  have hk := i_k351
  refine g_s1 (pc2 := 1491) hk rfl rfl rfl rfl rfl ?_
  refine g_s1 (pc2 := 1492) hk rfl rfl rfl rfl rfl ?_
  refine g_s1 (pc2 := 1493) hk rfl rfl rfl rfl rfl ?_
  refine g_s1 (pc2 := 1494) (st2 := [.int (1 : Int32), .int x3, .retAddr 3, .ref x2, .int s0]) hk rfl rfl rfl rfl rfl ?_
  refine g_s1 (pc2 := 1495) hk rfl rfl rfl rfl rfl ?_
  obtain ⟨hi, H⟩ := H
  refine g_step (pc2 := 1496) hk rfl rfl rfl (s_agetX (L := L) (xs := xs) (j := 3) rfl hi) ?_
  obtain ⟨ho, H⟩ := H
  refine g_call hk rfl rfl i_k311.1 ⟨rfl, rfl⟩ rfl (i_rcv_v ho rfl (by decide)) rfl ?_
  exact H.mono (fun v h2 q => by obtain ⟨r, rfl, q⟩ := q; exact q)
theorem b351_1499 {x1 : Nat} {x2 : Nat} {x3 : Int32} {s0 : Int32} {s1 : Int32} {h : iH} {Q : Option Value → iH → Prop} (H : ((s0 = s1 → i_P i_MT i_AT L xs 351 1853 [some (.retAddr 3), some (.ref x1), some (.ref x2), some (.int x3)] [] h 173 127414 Q) ∧ (¬ (s0 = s1) → Q (some (.int 0)) h))) : i_P i_MT i_AT L xs 351 1499 [some (.retAddr 3), some (.ref x1), some (.ref x2), some (.int x3)] [.int s1, .int s0] h 173 127414 Q := by
  have hk := i_k351
  refine g_icmp_eq hk rfl (fun hc => ?_) (fun hc => ?_)
  · have H := H.1 hc
    exact H
  · have H := H.2 hc
    refine g_s1 (pc2 := 1503) (st2 := [.int (0 : Int32)]) hk rfl rfl rfl rfl rfl ?_
    exact g_ireturn hk rfl (by decide) (by decide) rfl H
theorem b351_1513 {x1 : Nat} {x2 : Nat} {x3 : Int32} {s0 : Int32} {h : iH} {Q : Option Value → iH → Prop} (H : (¬ ((x3 + (1 : Int32)) < 0 ∨ L ≤ (x3 + (1 : Int32)).toNatClampNeg) ∧ (i_obj? h x2 12 ∧ i_C i_MT i_AT L xs 313 [.ref x2, .int (xs (x3 + (1 : Int32)).toNatClampNeg)] h (fun v h3 => ∃ r4 : Int32, v = some (.int r4) ∧ i_P i_MT i_AT L xs 351 1522 [some (.retAddr 3), some (.ref x1), some (.ref x2), some (.int x3)] [.int r4, .int s0] h3 173 127414 Q)))) : i_P i_MT i_AT L xs 351 1513 [some (.retAddr 3), some (.ref x1), some (.ref x2), some (.int x3)] [.int s0] h 173 127414 Q := by
  have hk := i_k351
  refine g_s1 (pc2 := 1514) hk rfl rfl rfl rfl rfl ?_
  refine g_s1 (pc2 := 1515) hk rfl rfl rfl rfl rfl ?_
  refine g_s1 (pc2 := 1516) hk rfl rfl rfl rfl rfl ?_
  refine g_s1 (pc2 := 1517) (st2 := [.int (1 : Int32), .int x3, .retAddr 3, .ref x2, .int s0]) hk rfl rfl rfl rfl rfl ?_
  refine g_s1 (pc2 := 1518) hk rfl rfl rfl rfl rfl ?_
  obtain ⟨hi, H⟩ := H
  refine g_step (pc2 := 1519) hk rfl rfl rfl (s_agetX (L := L) (xs := xs) (j := 3) rfl hi) ?_
  obtain ⟨ho, H⟩ := H
  refine g_call hk rfl rfl i_k313.1 ⟨rfl, rfl⟩ rfl (i_rcv_v ho rfl (by decide)) rfl ?_
  exact H.mono (fun v h2 q => by obtain ⟨r, rfl, q⟩ := q; exact q)
theorem b351_1522 {x1 : Nat} {x2 : Nat} {x3 : Int32} {s0 : Int32} {s1 : Int32} {h : iH} {Q : Option Value → iH → Prop} (H : ((s0 = s1 → i_P i_MT i_AT L xs 351 1853 [some (.retAddr 3), some (.ref x1), some (.ref x2), some (.int x3)] [] h 173 127414 Q) ∧ (¬ (s0 = s1) → Q (some (.int 0)) h))) : i_P i_MT i_AT L xs 351 1522 [some (.retAddr 3), some (.ref x1), some (.ref x2), some (.int x3)] [.int s1, .int s0] h 173 127414 Q := by
  have hk := i_k351
  refine g_icmp_eq hk rfl (fun hc => ?_) (fun hc => ?_)
  · have H := H.1 hc
    exact H
  · have H := H.2 hc
    refine g_s1 (pc2 := 1526) (st2 := [.int (0 : Int32)]) hk rfl rfl rfl rfl rfl ?_
    exact g_ireturn hk rfl (by decide) (by decide) rfl H
theorem b351_1541 {x1 : Nat} {x2 : Nat} {x3 : Int32} {s0 : Int32} {h : iH} {Q : Option Value → iH → Prop} (H : (¬ ((x3 + (1 : Int32)) < 0 ∨ L ≤ (x3 + (1 : Int32)).toNatClampNeg) ∧ (¬ ((x3 + (2 : Int32)) < 0 ∨ L ≤ (x3 + (2 : Int32)).toNatClampNeg) ∧ (i_obj? h x2 12 ∧ i_C i_MT i_AT L xs 314 [.ref x2, .int (xs (x3 + (1 : Int32)).toNatClampNeg), .int (xs (x3 + (2 : Int32)).toNatClampNeg)] h (fun v h5 => ∃ r6 : Int32, v = some (.int r6) ∧ i_P i_MT i_AT L xs 351 1555 [some (.retAddr 3), some (.ref x1), some (.ref x2), some (.int x3)] [.int r6, .int s0] h5 173 127414 Q))))) : i_P i_MT i_AT L xs 351 1541 [some (.retAddr 3), some (.ref x1), some (.ref x2), some (.int x3)] [.int s0] h 173 127414 Q := by
  have hk := i_k351
  refine g_s1 (pc2 := 1542) hk rfl rfl rfl rfl rfl ?_
  refine g_s1 (pc2 := 1543) hk rfl rfl rfl rfl rfl ?_
  refine g_s1 (pc2 := 1544) hk rfl rfl rfl rfl rfl ?_
  refine g_s1 (pc2 := 1545) (st2 := [.int (1 : Int32), .int x3, .retAddr 3, .ref x2, .int s0]) hk rfl rfl rfl rfl rfl ?_
  refine g_s1 (pc2 := 1546) hk rfl rfl rfl rfl rfl ?_
  obtain ⟨hi, H⟩ := H
  refine g_step (pc2 := 1547) hk rfl rfl rfl (s_agetX (L := L) (xs := xs) (j := 3) rfl hi) ?_
  refine g_s1 (pc2 := 1548) hk rfl rfl rfl rfl rfl ?_
  refine g_s1 (pc2 := 1549) hk rfl rfl rfl rfl rfl ?_
  refine g_s1 (pc2 := 1550) (st2 := [.int (2 : Int32), .int x3, .retAddr 3, .int (xs (x3 + (1 : Int32)).toNatClampNeg), .ref x2, .int s0]) hk rfl rfl rfl rfl rfl ?_
  refine g_s1 (pc2 := 1551) hk rfl rfl rfl rfl rfl ?_
  obtain ⟨hi, H⟩ := H
  refine g_step (pc2 := 1552) hk rfl rfl rfl (s_agetX (L := L) (xs := xs) (j := 3) rfl hi) ?_
  obtain ⟨ho, H⟩ := H
  refine g_call hk rfl rfl i_k314.1 ⟨rfl, rfl⟩ rfl (i_rcv_v ho rfl (by decide)) rfl ?_
  exact H.mono (fun v h2 q => by obtain ⟨r, rfl, q⟩ := q; exact q)
theorem b351_1555 {x1 : Nat} {x2 : Nat} {x3 : Int32} {s0 : Int32} {s1 : Int32} {h : iH} {Q : Option Value → iH → Prop} (H : ((s0 = s1 → i_P i_MT i_AT L xs 351 1853 [some (.retAddr 3), some (.ref x1), some (.ref x2), some (.int x3)] [] h 173 127414 Q) ∧ (¬ (s0 = s1) → Q (some (.int 0)) h))) : i_P i_MT i_AT L xs 351 1555 [some (.retAddr 3), some (.ref x1), some (.ref x2), some (.int x3)] [.int s1, .int s0] h 173 127414 Q := by
  have hk := i_k351
  refine g_icmp_eq hk rfl (fun hc => ?_) (fun hc => ?_)
  · have H := H.1 hc
    exact H
  · have H := H.2 hc
    refine g_s1 (pc2 := 1559) (st2 := [.int (0 : Int32)]) hk rfl rfl rfl rfl rfl ?_
    exact g_ireturn hk rfl (by decide) (by decide) rfl H
theorem b351_1574 {x1 : Nat} {x2 : Nat} {x3 : Int32} {s0 : Int32} {h : iH} {Q : Option Value → iH → Prop} (H : (¬ ((x3 + (1 : Int32)) < 0 ∨ L ≤ (x3 + (1 : Int32)).toNatClampNeg) ∧ (¬ ((x3 + (2 : Int32)) < 0 ∨ L ≤ (x3 + (2 : Int32)).toNatClampNeg) ∧ (i_obj? h x2 12 ∧ i_C i_MT i_AT L xs 315 [.ref x2, .int (xs (x3 + (1 : Int32)).toNatClampNeg), .int (xs (x3 + (2 : Int32)).toNatClampNeg)] h (fun v h5 => ∃ r6 : Int32, v = some (.int r6) ∧ i_P i_MT i_AT L xs 351 1588 [some (.retAddr 3), some (.ref x1), some (.ref x2), some (.int x3)] [.int r6, .int s0] h5 173 127414 Q))))) : i_P i_MT i_AT L xs 351 1574 [some (.retAddr 3), some (.ref x1), some (.ref x2), some (.int x3)] [.int s0] h 173 127414 Q := by
  have hk := i_k351
  refine g_s1 (pc2 := 1575) hk rfl rfl rfl rfl rfl ?_
  refine g_s1 (pc2 := 1576) hk rfl rfl rfl rfl rfl ?_
  refine g_s1 (pc2 := 1577) hk rfl rfl rfl rfl rfl ?_
  refine g_s1 (pc2 := 1578) (st2 := [.int (1 : Int32), .int x3, .retAddr 3, .ref x2, .int s0]) hk rfl rfl rfl rfl rfl ?_
  refine g_s1 (pc2 := 1579) hk rfl rfl rfl rfl rfl ?_
  obtain ⟨hi, H⟩ := H
  refine g_step (pc2 := 1580) hk rfl rfl rfl (s_agetX (L := L) (xs := xs) (j := 3) rfl hi) ?_
  refine g_s1 (pc2 := 1581) hk rfl rfl rfl rfl rfl ?_
  refine g_s1 (pc2 := 1582) hk rfl rfl rfl rfl rfl ?_
  refine g_s1 (pc2 := 1583) (st2 := [.int (2 : Int32), .int x3, .retAddr 3, .int (xs (x3 + (1 : Int32)).toNatClampNeg), .ref x2, .int s0]) hk rfl rfl rfl rfl rfl ?_
  refine g_s1 (pc2 := 1584) hk rfl rfl rfl rfl rfl ?_
  obtain ⟨hi, H⟩ := H
  refine g_step (pc2 := 1585) hk rfl rfl rfl (s_agetX (L := L) (xs := xs) (j := 3) rfl hi) ?_
  obtain ⟨ho, H⟩ := H
  refine g_call hk rfl rfl i_k315.1 ⟨rfl, rfl⟩ rfl (i_rcv_v ho rfl (by decide)) rfl ?_
  exact H.mono (fun v h2 q => by obtain ⟨r, rfl, q⟩ := q; exact q)
theorem b351_1588 {x1 : Nat} {x2 : Nat} {x3 : Int32} {s0 : Int32} {s1 : Int32} {h : iH} {Q : Option Value → iH → Prop} (H : ((s0 = s1 → i_P i_MT i_AT L xs 351 1853 [some (.retAddr 3), some (.ref x1), some (.ref x2), some (.int x3)] [] h 173 127414 Q) ∧ (¬ (s0 = s1) → Q (some (.int 0)) h))) : i_P i_MT i_AT L xs 351 1588 [some (.retAddr 3), some (.ref x1), some (.ref x2), some (.int x3)] [.int s1, .int s0] h 173 127414 Q := by
  have hk := i_k351
  refine g_icmp_eq hk rfl (fun hc => ?_) (fun hc => ?_)
  · have H := H.1 hc
    exact H
  · have H := H.2 hc
    refine g_s1 (pc2 := 1592) (st2 := [.int (0 : Int32)]) hk rfl rfl rfl rfl rfl ?_
    exact g_ireturn hk rfl (by decide) (by decide) rfl H
theorem b351_1612 {x1 : Nat} {x2 : Nat} {x3 : Int32} {s0 : Int32} {h : iH} {Q : Option Value → iH → Prop} (H : (¬ ((x3 + (1 : Int32)) < 0 ∨ L ≤ (x3 + (1 : Int32)).toNatClampNeg) ∧ (¬ ((x3 + (2 : Int32)) < 0 ∨ L ≤ (x3 + (2 : Int32)).toNatClampNeg) ∧ (¬ ((x3 + (3 : Int32)) < 0 ∨ L ≤ (x3 + (3 : Int32)).toNatClampNeg) ∧ (i_obj? h x2 12 ∧ i_C i_MT i_AT L xs 317 [.ref x2, .int (xs (x3 + (1 : Int32)).toNatClampNeg), .int (xs (x3 + (2 : Int32)).toNatClampNeg), .int (xs (x3 + (3 : Int32)).toNatClampNeg)] h (fun v h7 => ∃ r8 : Int32, v = some (.int r8) ∧ i_P i_MT i_AT L xs 351 1631 [some (.retAddr 3), some (.ref x1), some (.ref x2), some (.int x3)] [.int r8, .int s0] h7 173 127414 Q)))))) : i_P i_MT i_AT L xs 351 1612 [some (.retAddr 3), some (.ref x1), some (.ref x2), some (.int x3)] [.int s0] h 173 127414 Q := by
  have hk := i_k351
  refine g_s1 (pc2 := 1613) hk rfl rfl rfl rfl rfl ?_
  refine g_s1 (pc2 := 1614) hk rfl rfl rfl rfl rfl ?_
  refine g_s1 (pc2 := 1615) hk rfl rfl rfl rfl rfl ?_
  refine g_s1 (pc2 := 1616) (st2 := [.int (1 : Int32), .int x3, .retAddr 3, .ref x2, .int s0]) hk rfl rfl rfl rfl rfl ?_
  refine g_s1 (pc2 := 1617) hk rfl rfl rfl rfl rfl ?_
  obtain ⟨hi, H⟩ := H
  refine g_step (pc2 := 1618) hk rfl rfl rfl (s_agetX (L := L) (xs := xs) (j := 3) rfl hi) ?_
  refine g_s1 (pc2 := 1619) hk rfl rfl rfl rfl rfl ?_
  refine g_s1 (pc2 := 1620) hk rfl rfl rfl rfl rfl ?_
  refine g_s1 (pc2 := 1621) (st2 := [.int (2 : Int32), .int x3, .retAddr 3, .int (xs (x3 + (1 : Int32)).toNatClampNeg), .ref x2, .int s0]) hk rfl rfl rfl rfl rfl ?_
  refine g_s1 (pc2 := 1622) hk rfl rfl rfl rfl rfl ?_
  obtain ⟨hi, H⟩ := H
  refine g_step (pc2 := 1623) hk rfl rfl rfl (s_agetX (L := L) (xs := xs) (j := 3) rfl hi) ?_
  refine g_s1 (pc2 := 1624) hk rfl rfl rfl rfl rfl ?_
  refine g_s1 (pc2 := 1625) hk rfl rfl rfl rfl rfl ?_
  refine g_s1 (pc2 := 1626) (st2 := [.int (3 : Int32), .int x3, .retAddr 3, .int (xs (x3 + (2 : Int32)).toNatClampNeg), .int (xs (x3 + (1 : Int32)).toNatClampNeg), .ref x2, .int s0]) hk rfl rfl rfl rfl rfl ?_
  refine g_s1 (pc2 := 1627) hk rfl rfl rfl rfl rfl ?_
  obtain ⟨hi, H⟩ := H
  refine g_step (pc2 := 1628) hk rfl rfl rfl (s_agetX (L := L) (xs := xs) (j := 3) rfl hi) ?_
  obtain ⟨ho, H⟩ := H
  refine g_call hk rfl rfl i_k317.1 ⟨rfl, rfl⟩ rfl (i_rcv_v ho rfl (by decide)) rfl ?_
  exact H.mono (fun v h2 q => by obtain ⟨r, rfl, q⟩ := q; exact q)
theorem b351_1631 {x1 : Nat} {x2 : Nat} {x3 : Int32} {s0 : Int32} {s1 : Int32} {h : iH} {Q : Option Value → iH → Prop} (H : ((s0 = s1 → i_P i_MT i_AT L xs 351 1853 [some (.retAddr 3), some (.ref x1), some (.ref x2), some (.int x3)] [] h 173 127414 Q) ∧ (¬ (s0 = s1) → Q (some (.int 0)) h))) : i_P i_MT i_AT L xs 351 1631 [some (.retAddr 3), some (.ref x1), some (.ref x2), some (.int x3)] [.int s1, .int s0] h 173 127414 Q := by
  have hk := i_k351
  refine g_icmp_eq hk rfl (fun hc => ?_) (fun hc => ?_)
  · have H := H.1 hc
    exact H
  · have H := H.2 hc
    refine g_s1 (pc2 := 1635) (st2 := [.int (0 : Int32)]) hk rfl rfl rfl rfl rfl ?_
    exact g_ireturn hk rfl (by decide) (by decide) rfl H
theorem b351_1655 {x1 : Nat} {x2 : Nat} {x3 : Int32} {s0 : Int32} {h : iH} {Q : Option Value → iH → Prop} (H : (¬ ((x3 + (1 : Int32)) < 0 ∨ L ≤ (x3 + (1 : Int32)).toNatClampNeg) ∧ (¬ ((x3 + (2 : Int32)) < 0 ∨ L ≤ (x3 + (2 : Int32)).toNatClampNeg) ∧ (¬ ((x3 + (3 : Int32)) < 0 ∨ L ≤ (x3 + (3 : Int32)).toNatClampNeg) ∧ (i_obj? h x2 12 ∧ i_C i_MT i_AT L xs 318 [.ref x2, .int (xs (x3 + (1 : Int32)).toNatClampNeg), .int (xs (x3 + (2 : Int32)).toNatClampNeg), .int (xs (x3 + (3 : Int32)).toNatClampNeg)] h (fun v h7 => ∃ r8 : Int32, v = some (.int r8) ∧ i_P i_MT i_AT L xs 351 1674 [some (.retAddr 3), some (.ref x1), some (.ref x2), some (.int x3)] [.int r8, .int s0] h7 173 127414 Q)))))) : i_P i_MT i_AT L xs 351 1655 [some (.retAddr 3), some (.ref x1), some (.ref x2), some (.int x3)] [.int s0] h 173 127414 Q := by
  have hk := i_k351
  refine g_s1 (pc2 := 1656) hk rfl rfl rfl rfl rfl ?_
  refine g_s1 (pc2 := 1657) hk rfl rfl rfl rfl rfl ?_
  refine g_s1 (pc2 := 1658) hk rfl rfl rfl rfl rfl ?_
  refine g_s1 (pc2 := 1659) (st2 := [.int (1 : Int32), .int x3, .retAddr 3, .ref x2, .int s0]) hk rfl rfl rfl rfl rfl ?_
  refine g_s1 (pc2 := 1660) hk rfl rfl rfl rfl rfl ?_
  obtain ⟨hi, H⟩ := H
  refine g_step (pc2 := 1661) hk rfl rfl rfl (s_agetX (L := L) (xs := xs) (j := 3) rfl hi) ?_
  refine g_s1 (pc2 := 1662) hk rfl rfl rfl rfl rfl ?_
  refine g_s1 (pc2 := 1663) hk rfl rfl rfl rfl rfl ?_
  refine g_s1 (pc2 := 1664) (st2 := [.int (2 : Int32), .int x3, .retAddr 3, .int (xs (x3 + (1 : Int32)).toNatClampNeg), .ref x2, .int s0]) hk rfl rfl rfl rfl rfl ?_
  refine g_s1 (pc2 := 1665) hk rfl rfl rfl rfl rfl ?_
  obtain ⟨hi, H⟩ := H
  refine g_step (pc2 := 1666) hk rfl rfl rfl (s_agetX (L := L) (xs := xs) (j := 3) rfl hi) ?_
  refine g_s1 (pc2 := 1667) hk rfl rfl rfl rfl rfl ?_
  refine g_s1 (pc2 := 1668) hk rfl rfl rfl rfl rfl ?_
  refine g_s1 (pc2 := 1669) (st2 := [.int (3 : Int32), .int x3, .retAddr 3, .int (xs (x3 + (2 : Int32)).toNatClampNeg), .int (xs (x3 + (1 : Int32)).toNatClampNeg), .ref x2, .int s0]) hk rfl rfl rfl rfl rfl ?_
  refine g_s1 (pc2 := 1670) hk rfl rfl rfl rfl rfl ?_
  obtain ⟨hi, H⟩ := H
  refine g_step (pc2 := 1671) hk rfl rfl rfl (s_agetX (L := L) (xs := xs) (j := 3) rfl hi) ?_
  obtain ⟨ho, H⟩ := H
  refine g_call hk rfl rfl i_k318.1 ⟨rfl, rfl⟩ rfl (i_rcv_v ho rfl (by decide)) rfl ?_
  exact H.mono (fun v h2 q => by obtain ⟨r, rfl, q⟩ := q; exact q)
theorem b351_1674 {x1 : Nat} {x2 : Nat} {x3 : Int32} {s0 : Int32} {s1 : Int32} {h : iH} {Q : Option Value → iH → Prop} (H : ((s0 = s1 → i_P i_MT i_AT L xs 351 1853 [some (.retAddr 3), some (.ref x1), some (.ref x2), some (.int x3)] [] h 173 127414 Q) ∧ (¬ (s0 = s1) → Q (some (.int 0)) h))) : i_P i_MT i_AT L xs 351 1674 [some (.retAddr 3), some (.ref x1), some (.ref x2), some (.int x3)] [.int s1, .int s0] h 173 127414 Q := by
  have hk := i_k351
  refine g_icmp_eq hk rfl (fun hc => ?_) (fun hc => ?_)
  · have H := H.1 hc
    exact H
  · have H := H.2 hc
    refine g_s1 (pc2 := 1678) (st2 := [.int (0 : Int32)]) hk rfl rfl rfl rfl rfl ?_
    exact g_ireturn hk rfl (by decide) (by decide) rfl H
theorem b351_1693 {x1 : Nat} {x2 : Nat} {x3 : Int32} {s0 : Int32} {h : iH} {Q : Option Value → iH → Prop} (H : (¬ ((x3 + (1 : Int32)) < 0 ∨ L ≤ (x3 + (1 : Int32)).toNatClampNeg) ∧ (¬ ((x3 + (2 : Int32)) < 0 ∨ L ≤ (x3 + (2 : Int32)).toNatClampNeg) ∧ (i_obj? h x2 12 ∧ i_C i_MT i_AT L xs 321 [.ref x2, .int (xs (x3 + (1 : Int32)).toNatClampNeg), .int (xs (x3 + (2 : Int32)).toNatClampNeg)] h (fun v h5 => ∃ r6 : Int32, v = some (.int r6) ∧ i_P i_MT i_AT L xs 351 1707 [some (.retAddr 3), some (.ref x1), some (.ref x2), some (.int x3)] [.int r6, .int s0] h5 173 127414 Q))))) : i_P i_MT i_AT L xs 351 1693 [some (.retAddr 3), some (.ref x1), some (.ref x2), some (.int x3)] [.int s0] h 173 127414 Q := by
  have hk := i_k351
  refine g_s1 (pc2 := 1694) hk rfl rfl rfl rfl rfl ?_
  refine g_s1 (pc2 := 1695) hk rfl rfl rfl rfl rfl ?_
  refine g_s1 (pc2 := 1696) hk rfl rfl rfl rfl rfl ?_
  refine g_s1 (pc2 := 1697) (st2 := [.int (1 : Int32), .int x3, .retAddr 3, .ref x2, .int s0]) hk rfl rfl rfl rfl rfl ?_
  refine g_s1 (pc2 := 1698) hk rfl rfl rfl rfl rfl ?_
  obtain ⟨hi, H⟩ := H
  refine g_step (pc2 := 1699) hk rfl rfl rfl (s_agetX (L := L) (xs := xs) (j := 3) rfl hi) ?_
  refine g_s1 (pc2 := 1700) hk rfl rfl rfl rfl rfl ?_
  refine g_s1 (pc2 := 1701) hk rfl rfl rfl rfl rfl ?_
  refine g_s1 (pc2 := 1702) (st2 := [.int (2 : Int32), .int x3, .retAddr 3, .int (xs (x3 + (1 : Int32)).toNatClampNeg), .ref x2, .int s0]) hk rfl rfl rfl rfl rfl ?_
  refine g_s1 (pc2 := 1703) hk rfl rfl rfl rfl rfl ?_
  obtain ⟨hi, H⟩ := H
  refine g_step (pc2 := 1704) hk rfl rfl rfl (s_agetX (L := L) (xs := xs) (j := 3) rfl hi) ?_
  obtain ⟨ho, H⟩ := H
  refine g_call hk rfl rfl i_k321.1 ⟨rfl, rfl⟩ rfl (i_rcv_v ho rfl (by decide)) rfl ?_
  exact H.mono (fun v h2 q => by obtain ⟨r, rfl, q⟩ := q; exact q)
theorem b351_1707 {x1 : Nat} {x2 : Nat} {x3 : Int32} {s0 : Int32} {s1 : Int32} {h : iH} {Q : Option Value → iH → Prop} (H : ((s0 = s1 → i_P i_MT i_AT L xs 351 1853 [some (.retAddr 3), some (.ref x1), some (.ref x2), some (.int x3)] [] h 173 127414 Q) ∧ (¬ (s0 = s1) → Q (some (.int 0)) h))) : i_P i_MT i_AT L xs 351 1707 [some (.retAddr 3), some (.ref x1), some (.ref x2), some (.int x3)] [.int s1, .int s0] h 173 127414 Q := by
  have hk := i_k351
  refine g_icmp_eq hk rfl (fun hc => ?_) (fun hc => ?_)
  · have H := H.1 hc
    exact H
  · have H := H.2 hc
    refine g_s1 (pc2 := 1711) (st2 := [.int (0 : Int32)]) hk rfl rfl rfl rfl rfl ?_
    exact g_ireturn hk rfl (by decide) (by decide) rfl H
theorem b351_1721 {x1 : Nat} {x2 : Nat} {x3 : Int32} {s0 : Int32} {h : iH} {Q : Option Value → iH → Prop} (H : (¬ ((x3 + (1 : Int32)) < 0 ∨ L ≤ (x3 + (1 : Int32)).toNatClampNeg) ∧ (i_obj? h x2 12 ∧ i_C i_MT i_AT L xs 323 [.ref x2, .int (xs (x3 + (1 : Int32)).toNatClampNeg)] h (fun v h3 => ∃ r4 : Int32, v = some (.int r4) ∧ i_P i_MT i_AT L xs 351 1730 [some (.retAddr 3), some (.ref x1), some (.ref x2), some (.int x3)] [.int r4, .int s0] h3 173 127414 Q)))) : i_P i_MT i_AT L xs 351 1721 [some (.retAddr 3), some (.ref x1), some (.ref x2), some (.int x3)] [.int s0] h 173 127414 Q := by
  have hk := i_k351
  refine g_s1 (pc2 := 1722) hk rfl rfl rfl rfl rfl ?_
  refine g_s1 (pc2 := 1723) hk rfl rfl rfl rfl rfl ?_
  refine g_s1 (pc2 := 1724) hk rfl rfl rfl rfl rfl ?_
  refine g_s1 (pc2 := 1725) (st2 := [.int (1 : Int32), .int x3, .retAddr 3, .ref x2, .int s0]) hk rfl rfl rfl rfl rfl ?_
  refine g_s1 (pc2 := 1726) hk rfl rfl rfl rfl rfl ?_
  obtain ⟨hi, H⟩ := H
  refine g_step (pc2 := 1727) hk rfl rfl rfl (s_agetX (L := L) (xs := xs) (j := 3) rfl hi) ?_
  obtain ⟨ho, H⟩ := H
  refine g_call hk rfl rfl i_k323.1 ⟨rfl, rfl⟩ rfl (i_rcv_v ho rfl (by decide)) rfl ?_
  exact H.mono (fun v h2 q => by obtain ⟨r, rfl, q⟩ := q; exact q)
theorem b351_1730 {x1 : Nat} {x2 : Nat} {x3 : Int32} {s0 : Int32} {s1 : Int32} {h : iH} {Q : Option Value → iH → Prop} (H : ((s0 = s1 → i_P i_MT i_AT L xs 351 1853 [some (.retAddr 3), some (.ref x1), some (.ref x2), some (.int x3)] [] h 173 127414 Q) ∧ (¬ (s0 = s1) → Q (some (.int 0)) h))) : i_P i_MT i_AT L xs 351 1730 [some (.retAddr 3), some (.ref x1), some (.ref x2), some (.int x3)] [.int s1, .int s0] h 173 127414 Q := by
  have hk := i_k351
  refine g_icmp_eq hk rfl (fun hc => ?_) (fun hc => ?_)
  · have H := H.1 hc
    exact H
  · have H := H.2 hc
    refine g_s1 (pc2 := 1734) (st2 := [.int (0 : Int32)]) hk rfl rfl rfl rfl rfl ?_
    exact g_ireturn hk rfl (by decide) (by decide) rfl H
theorem b351_1744 {x1 : Nat} {x2 : Nat} {x3 : Int32} {s0 : Int32} {h : iH} {Q : Option Value → iH → Prop} (H : (¬ ((x3 + (1 : Int32)) < 0 ∨ L ≤ (x3 + (1 : Int32)).toNatClampNeg) ∧ (i_obj? h x2 12 ∧ i_C i_MT i_AT L xs 326 [.ref x2, .int (xs (x3 + (1 : Int32)).toNatClampNeg)] h (fun v h3 => ∃ r4 : Int32, v = some (.int r4) ∧ i_P i_MT i_AT L xs 351 1753 [some (.retAddr 3), some (.ref x1), some (.ref x2), some (.int x3)] [.int r4, .int s0] h3 173 127414 Q)))) : i_P i_MT i_AT L xs 351 1744 [some (.retAddr 3), some (.ref x1), some (.ref x2), some (.int x3)] [.int s0] h 173 127414 Q := by
  have hk := i_k351
  refine g_s1 (pc2 := 1745) hk rfl rfl rfl rfl rfl ?_
  refine g_s1 (pc2 := 1746) hk rfl rfl rfl rfl rfl ?_
  refine g_s1 (pc2 := 1747) hk rfl rfl rfl rfl rfl ?_
  refine g_s1 (pc2 := 1748) (st2 := [.int (1 : Int32), .int x3, .retAddr 3, .ref x2, .int s0]) hk rfl rfl rfl rfl rfl ?_
  refine g_s1 (pc2 := 1749) hk rfl rfl rfl rfl rfl ?_
  obtain ⟨hi, H⟩ := H
  refine g_step (pc2 := 1750) hk rfl rfl rfl (s_agetX (L := L) (xs := xs) (j := 3) rfl hi) ?_
  obtain ⟨ho, H⟩ := H
  refine g_call hk rfl rfl i_k326.1 ⟨rfl, rfl⟩ rfl (i_rcv_v ho rfl (by decide)) rfl ?_
  exact H.mono (fun v h2 q => by obtain ⟨r, rfl, q⟩ := q; exact q)
theorem b351_1753 {x1 : Nat} {x2 : Nat} {x3 : Int32} {s0 : Int32} {s1 : Int32} {h : iH} {Q : Option Value → iH → Prop} (H : ((s0 = s1 → i_P i_MT i_AT L xs 351 1853 [some (.retAddr 3), some (.ref x1), some (.ref x2), some (.int x3)] [] h 173 127414 Q) ∧ (¬ (s0 = s1) → Q (some (.int 0)) h))) : i_P i_MT i_AT L xs 351 1753 [some (.retAddr 3), some (.ref x1), some (.ref x2), some (.int x3)] [.int s1, .int s0] h 173 127414 Q := by
  have hk := i_k351
  refine g_icmp_eq hk rfl (fun hc => ?_) (fun hc => ?_)
  · have H := H.1 hc
    exact H
  · have H := H.2 hc
    refine g_s1 (pc2 := 1757) (st2 := [.int (0 : Int32)]) hk rfl rfl rfl rfl rfl ?_
    exact g_ireturn hk rfl (by decide) (by decide) rfl H
theorem b351_1767 {x1 : Nat} {x2 : Nat} {x3 : Int32} {s0 : Int32} {h : iH} {Q : Option Value → iH → Prop} (H : (¬ ((x3 + (1 : Int32)) < 0 ∨ L ≤ (x3 + (1 : Int32)).toNatClampNeg) ∧ (i_obj? h x2 12 ∧ i_C i_MT i_AT L xs 327 [.ref x2, .int (xs (x3 + (1 : Int32)).toNatClampNeg)] h (fun v h3 => ∃ r4 : Int32, v = some (.int r4) ∧ i_P i_MT i_AT L xs 351 1776 [some (.retAddr 3), some (.ref x1), some (.ref x2), some (.int x3)] [.int r4, .int s0] h3 173 127414 Q)))) : i_P i_MT i_AT L xs 351 1767 [some (.retAddr 3), some (.ref x1), some (.ref x2), some (.int x3)] [.int s0] h 173 127414 Q := by
  have hk := i_k351
  refine g_s1 (pc2 := 1768) hk rfl rfl rfl rfl rfl ?_
  refine g_s1 (pc2 := 1769) hk rfl rfl rfl rfl rfl ?_
  refine g_s1 (pc2 := 1770) hk rfl rfl rfl rfl rfl ?_
  refine g_s1 (pc2 := 1771) (st2 := [.int (1 : Int32), .int x3, .retAddr 3, .ref x2, .int s0]) hk rfl rfl rfl rfl rfl ?_
  refine g_s1 (pc2 := 1772) hk rfl rfl rfl rfl rfl ?_
  obtain ⟨hi, H⟩ := H
  refine g_step (pc2 := 1773) hk rfl rfl rfl (s_agetX (L := L) (xs := xs) (j := 3) rfl hi) ?_
  obtain ⟨ho, H⟩ := H
  refine g_call hk rfl rfl i_k327.1 ⟨rfl, rfl⟩ rfl (i_rcv_v ho rfl (by decide)) rfl ?_
  exact H.mono (fun v h2 q => by obtain ⟨r, rfl, q⟩ := q; exact q)
theorem b351_1776 {x1 : Nat} {x2 : Nat} {x3 : Int32} {s0 : Int32} {s1 : Int32} {h : iH} {Q : Option Value → iH → Prop} (H : ((s0 = s1 → i_P i_MT i_AT L xs 351 1853 [some (.retAddr 3), some (.ref x1), some (.ref x2), some (.int x3)] [] h 173 127414 Q) ∧ (¬ (s0 = s1) → Q (some (.int 0)) h))) : i_P i_MT i_AT L xs 351 1776 [some (.retAddr 3), some (.ref x1), some (.ref x2), some (.int x3)] [.int s1, .int s0] h 173 127414 Q := by
  have hk := i_k351
  refine g_icmp_eq hk rfl (fun hc => ?_) (fun hc => ?_)
  · have H := H.1 hc
    exact H
  · have H := H.2 hc
    refine g_s1 (pc2 := 1780) (st2 := [.int (0 : Int32)]) hk rfl rfl rfl rfl rfl ?_
    exact g_ireturn hk rfl (by decide) (by decide) rfl H
theorem b351_1785 {x1 : Nat} {x2 : Nat} {x3 : Int32} {s0 : Int32} {h : iH} {Q : Option Value → iH → Prop} (H : (i_obj? h x2 12 ∧ i_C i_MT i_AT L xs 328 [.ref x2] h (fun v h1 => ∃ r2 : Int32, v = some (.int r2) ∧ i_P i_MT i_AT L xs 351 1789 [some (.retAddr 3), some (.ref x1), some (.ref x2), some (.int x3)] [.int r2, .int s0] h1 173 127414 Q))) : i_P i_MT i_AT L xs 351 1785 [some (.retAddr 3), some (.ref x1), some (.ref x2), some (.int x3)] [.int s0] h 173 127414 Q := by
  have hk := i_k351
  refine g_s1 (pc2 := 1786) hk rfl rfl rfl rfl rfl ?_
  obtain ⟨ho, H⟩ := H
  refine g_call hk rfl rfl i_k328.1 ⟨rfl, rfl⟩ rfl (i_rcv_v ho rfl (by decide)) rfl ?_
  exact H.mono (fun v h2 q => by obtain ⟨r, rfl, q⟩ := q; exact q)
theorem b351_1789 {x1 : Nat} {x2 : Nat} {x3 : Int32} {s0 : Int32} {s1 : Int32} {h : iH} {Q : Option Value → iH → Prop} (H : ((s0 = s1 → i_P i_MT i_AT L xs 351 1853 [some (.retAddr 3), some (.ref x1), some (.ref x2), some (.int x3)] [] h 173 127414 Q) ∧ (¬ (s0 = s1) → Q (some (.int 0)) h))) : i_P i_MT i_AT L xs 351 1789 [some (.retAddr 3), some (.ref x1), some (.ref x2), some (.int x3)] [.int s1, .int s0] h 173 127414 Q := by
  have hk := i_k351
  refine g_icmp_eq hk rfl (fun hc => ?_) (fun hc => ?_)
  · have H := H.1 hc
    exact H
  · have H := H.2 hc
    refine g_s1 (pc2 := 1793) (st2 := [.int (0 : Int32)]) hk rfl rfl rfl rfl rfl ?_
    exact g_ireturn hk rfl (by decide) (by decide) rfl H
theorem b351_1808 {x1 : Nat} {x2 : Nat} {x3 : Int32} {s0 : Int32} {h : iH} {Q : Option Value → iH → Prop} (H : (¬ ((x3 + (1 : Int32)) < 0 ∨ L ≤ (x3 + (1 : Int32)).toNatClampNeg) ∧ (¬ ((x3 + (2 : Int32)) < 0 ∨ L ≤ (x3 + (2 : Int32)).toNatClampNeg) ∧ (i_obj? h x2 12 ∧ i_C i_MT i_AT L xs 329 [.ref x2, .int (xs (x3 + (1 : Int32)).toNatClampNeg), .int (xs (x3 + (2 : Int32)).toNatClampNeg)] h (fun v h5 => ∃ r6 : Int32, v = some (.int r6) ∧ i_P i_MT i_AT L xs 351 1822 [some (.retAddr 3), some (.ref x1), some (.ref x2), some (.int x3)] [.int r6, .int s0] h5 173 127414 Q))))) : i_P i_MT i_AT L xs 351 1808 [some (.retAddr 3), some (.ref x1), some (.ref x2), some (.int x3)] [.int s0] h 173 127414 Q := by
  have hk := i_k351
  refine g_s1 (pc2 := 1809) hk rfl rfl rfl rfl rfl ?_
  refine g_s1 (pc2 := 1810) hk rfl rfl rfl rfl rfl ?_
  refine g_s1 (pc2 := 1811) hk rfl rfl rfl rfl rfl ?_
  refine g_s1 (pc2 := 1812) (st2 := [.int (1 : Int32), .int x3, .retAddr 3, .ref x2, .int s0]) hk rfl rfl rfl rfl rfl ?_
  refine g_s1 (pc2 := 1813) hk rfl rfl rfl rfl rfl ?_
  obtain ⟨hi, H⟩ := H
  refine g_step (pc2 := 1814) hk rfl rfl rfl (s_agetX (L := L) (xs := xs) (j := 3) rfl hi) ?_
  refine g_s1 (pc2 := 1815) hk rfl rfl rfl rfl rfl ?_
  refine g_s1 (pc2 := 1816) hk rfl rfl rfl rfl rfl ?_
  refine g_s1 (pc2 := 1817) (st2 := [.int (2 : Int32), .int x3, .retAddr 3, .int (xs (x3 + (1 : Int32)).toNatClampNeg), .ref x2, .int s0]) hk rfl rfl rfl rfl rfl ?_
  refine g_s1 (pc2 := 1818) hk rfl rfl rfl rfl rfl ?_
  obtain ⟨hi, H⟩ := H
  refine g_step (pc2 := 1819) hk rfl rfl rfl (s_agetX (L := L) (xs := xs) (j := 3) rfl hi) ?_
  obtain ⟨ho, H⟩ := H
  refine g_call hk rfl rfl i_k329.1 ⟨rfl, rfl⟩ rfl (i_rcv_v ho rfl (by decide)) rfl ?_
  exact H.mono (fun v h2 q => by obtain ⟨r, rfl, q⟩ := q; exact q)
theorem b351_1822 {x1 : Nat} {x2 : Nat} {x3 : Int32} {s0 : Int32} {s1 : Int32} {h : iH} {Q : Option Value → iH → Prop} (H : ((s0 = s1 → i_P i_MT i_AT L xs 351 1853 [some (.retAddr 3), some (.ref x1), some (.ref x2), some (.int x3)] [] h 173 127414 Q) ∧ (¬ (s0 = s1) → Q (some (.int 0)) h))) : i_P i_MT i_AT L xs 351 1822 [some (.retAddr 3), some (.ref x1), some (.ref x2), some (.int x3)] [.int s1, .int s0] h 173 127414 Q := by
  have hk := i_k351
  refine g_icmp_eq hk rfl (fun hc => ?_) (fun hc => ?_)
  · have H := H.1 hc
    exact H
  · have H := H.2 hc
    refine g_s1 (pc2 := 1826) (st2 := [.int (0 : Int32)]) hk rfl rfl rfl rfl rfl ?_
    exact g_ireturn hk rfl (by decide) (by decide) rfl H
theorem b351_1831 {x1 : Nat} {x2 : Nat} {x3 : Int32} {s0 : Int32} {h : iH} {Q : Option Value → iH → Prop} (H : (i_obj? h x2 12 ∧ i_C i_MT i_AT L xs 331 [.ref x2] h (fun v h1 => ∃ r2 : Int32, v = some (.int r2) ∧ i_P i_MT i_AT L xs 351 1835 [some (.retAddr 3), some (.ref x1), some (.ref x2), some (.int x3)] [.int r2, .int s0] h1 173 127414 Q))) : i_P i_MT i_AT L xs 351 1831 [some (.retAddr 3), some (.ref x1), some (.ref x2), some (.int x3)] [.int s0] h 173 127414 Q := by
  have hk := i_k351
  refine g_s1 (pc2 := 1832) hk rfl rfl rfl rfl rfl ?_
  obtain ⟨ho, H⟩ := H
  refine g_call hk rfl rfl i_k331.1 ⟨rfl, rfl⟩ rfl (i_rcv_v ho rfl (by decide)) rfl ?_
  exact H.mono (fun v h2 q => by obtain ⟨r, rfl, q⟩ := q; exact q)
theorem b351_1835 {x1 : Nat} {x2 : Nat} {x3 : Int32} {s0 : Int32} {s1 : Int32} {h : iH} {Q : Option Value → iH → Prop} (H : ((s0 = s1 → i_P i_MT i_AT L xs 351 1853 [some (.retAddr 3), some (.ref x1), some (.ref x2), some (.int x3)] [] h 173 127414 Q) ∧ (¬ (s0 = s1) → Q (some (.int 0)) h))) : i_P i_MT i_AT L xs 351 1835 [some (.retAddr 3), some (.ref x1), some (.ref x2), some (.int x3)] [.int s1, .int s0] h 173 127414 Q := by
  have hk := i_k351
  refine g_icmp_eq hk rfl (fun hc => ?_) (fun hc => ?_)
  · have H := H.1 hc
    exact H
  · have H := H.2 hc
    refine g_s1 (pc2 := 1839) (st2 := [.int (0 : Int32)]) hk rfl rfl rfl rfl rfl ?_
    exact g_ireturn hk rfl (by decide) (by decide) rfl H
theorem b351_1844 {x1 : Nat} {x2 : Nat} {x3 : Int32} {s0 : Int32} {h : iH} {Q : Option Value → iH → Prop} (H : (i_obj? h x2 12 ∧ i_C i_MT i_AT L xs 332 [.ref x2] h (fun v h1 => ∃ r2 : Int32, v = some (.int r2) ∧ i_P i_MT i_AT L xs 351 1848 [some (.retAddr 3), some (.ref x1), some (.ref x2), some (.int x3)] [.int r2, .int s0] h1 173 127414 Q))) : i_P i_MT i_AT L xs 351 1844 [some (.retAddr 3), some (.ref x1), some (.ref x2), some (.int x3)] [.int s0] h 173 127414 Q := by
  have hk := i_k351
  refine g_s1 (pc2 := 1845) hk rfl rfl rfl rfl rfl ?_
  obtain ⟨ho, H⟩ := H
  refine g_call hk rfl rfl i_k332.1 ⟨rfl, rfl⟩ rfl (i_rcv_v ho rfl (by decide)) rfl ?_
  exact H.mono (fun v h2 q => by obtain ⟨r, rfl, q⟩ := q; exact q)
theorem b351_1848 {x1 : Nat} {x2 : Nat} {x3 : Int32} {s0 : Int32} {s1 : Int32} {h : iH} {Q : Option Value → iH → Prop} (H : ((s0 = s1 → i_P i_MT i_AT L xs 351 1853 [some (.retAddr 3), some (.ref x1), some (.ref x2), some (.int x3)] [] h 173 127414 Q) ∧ (¬ (s0 = s1) → Q (some (.int 0)) h))) : i_P i_MT i_AT L xs 351 1848 [some (.retAddr 3), some (.ref x1), some (.ref x2), some (.int x3)] [.int s1, .int s0] h 173 127414 Q := by
  have hk := i_k351
  refine g_icmp_eq hk rfl (fun hc => ?_) (fun hc => ?_)
  · have H := H.1 hc
    exact H
  · have H := H.2 hc
    refine g_s1 (pc2 := 1852) (st2 := [.int (0 : Int32)]) hk rfl rfl rfl rfl rfl ?_
    exact g_ireturn hk rfl (by decide) (by decide) rfl H
theorem b351_1853 {x1 : Nat} {x2 : Nat} {x3 : Int32} {h : iH} {Q : Option Value → iH → Prop} (H : i_P i_MT i_AT L xs 351 18 [some (.retAddr 3), some (.ref x1), some (.ref x2), some (.int (x3 + 6))] [] h 173 127414 Q) : i_P i_MT i_AT L xs 351 1853 [some (.retAddr 3), some (.ref x1), some (.ref x2), some (.int x3)] [] h 173 127414 Q := by
  have hk := i_k351
  refine g_s1 (pc2 := 1856) (lo2 := [some (.retAddr 3), some (.ref x1), some (.ref x2), some (.int (x3 + 6))]) hk rfl rfl rfl rfl rfl ?_
  refine g_s1 (pc2 := 18) hk rfl rfl rfl rfl rfl ?_
  exact H
end
