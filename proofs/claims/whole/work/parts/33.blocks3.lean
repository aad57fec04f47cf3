/-! BLOCKS, 3: what it takes to go on from a label; by program -/
section
variable {L : Nat} {xs : Nat → Int32}
set_option maxRecDepth 20000
set_option maxHeartbeats 1000000
/-! StillTown.likeliest(III)I -/
theorem e157 {x0 : Nat} {x1 : Int32} {x2 : Int32} {x3 : Int32} {h : iH} {Q : Option Value → iH → Prop} (H : i_P i_MT i_AT L xs 157 0 [some (.ref x0), some (.int x1), some (.int x2), some (.int x3)] [] h 0 0 Q) : i_C i_MT i_AT L xs 157 [.ref x0, .int x1, .int x2, .int x3] h Q := ⟨i_m157, i_k157.1, Nat.le_of_ble_eq_true rfl, H⟩
theorem b157_0 {x0 : Nat} {x1 : Int32} {x2 : Int32} {x3 : Int32} {h : iH} {Q : Option Value → iH → Prop} (H : (i_obj? h x0 11 ∧ i_C i_MT i_AT L xs 186 [.ref x0, .int x1] h (fun v h1 => ∃ r2 : Int32, v = some (.int r2) ∧ i_P i_MT i_AT L xs 157 5 [some (.ref x0), some (.int x1), some (.int x2), some (.int x3)] [.int r2] h1 0 0 Q))) : i_P i_MT i_AT L xs 157 0 [some (.ref x0), some (.int x1), some (.int x2), some (.int x3)] [] h 0 0 Q := by
  have hk := i_k157
  refine g_s1 (pc2 := 1) hk rfl rfl rfl rfl rfl ?_
  refine g_s1 (pc2 := 2) hk rfl rfl rfl rfl rfl ?_
  obtain ⟨ho, H⟩ := H
  refine g_call hk rfl rfl i_k186.1 ⟨rfl, rfl⟩ rfl (i_rcv_v ho rfl (by decide)) rfl ?_
  exact H.mono (fun v h2 q => by obtain ⟨r, rfl, q⟩ := q; exact q)
theorem b157_5 {x0 : Nat} {x1 : Int32} {x2 : Int32} {x3 : Int32} {s0 : Int32} {h : iH} {Q : Option Value → iH → Prop} (H : ((s0 = 0 → i_P i_MT i_AT L xs 157 23 [some (.ref x0), some (.int x1), some (.int x2), some (.int x3)] [] h 0 0 Q) ∧ (¬ (s0 = 0) → (i_obj? h x0 11 ∧ i_C i_MT i_AT L xs 189 [.ref x0, .int x2] h (fun v h1 => ∃ r2 : Int32, v = some (.int r2) ∧ i_P i_MT i_AT L xs 157 13 [some (.ref x0), some (.int x1), some (.int x2), some (.int x3)] [.int r2] h1 0 0 Q))))) : i_P i_MT i_AT L xs 157 5 [some (.ref x0), some (.int x1), some (.int x2), some (.int x3)] [.int s0] h 0 0 Q := by
  have hk := i_k157
  refine g_if_eq hk rfl (fun hc => ?_) (fun hc => ?_)
  · have H := H.1 hc
    exact H
  · have H := H.2 hc
    refine g_s1 (pc2 := 9) hk rfl rfl rfl rfl rfl ?_
    refine g_s1 (pc2 := 10) hk rfl rfl rfl rfl rfl ?_
    obtain ⟨ho, H⟩ := H
    refine g_call hk rfl rfl i_k189.1 ⟨rfl, rfl⟩ rfl (i_rcv_v ho rfl (by decide)) rfl ?_
    exact H.mono (fun v h2 q => by obtain ⟨r, rfl, q⟩ := q; exact q)
theorem b157_13 {x0 : Nat} {x1 : Int32} {x2 : Int32} {x3 : Int32} {s0 : Int32} {h : iH} {Q : Option Value → iH → Prop} (H : ((s0 = 0 → i_P i_MT i_AT L xs 157 23 [some (.ref x0), some (.int x1), some (.int x2), some (.int x3)] [] h 0 0 Q) ∧ (¬ (s0 = 0) → (i_C i_MT i_AT L xs 191 [.int x3] h (fun v h1 => ∃ r2 : Int32, v = some (.int r2) ∧ i_P i_MT i_AT L xs 157 20 [some (.ref x0), some (.int x1), some (.int x2), some (.int x3)] [.int r2] h1 0 0 Q))))) : i_P i_MT i_AT L xs 157 13 [some (.ref x0), some (.int x1), some (.int x2), some (.int x3)] [.int s0] h 0 0 Q := by
  have hk := i_k157
  refine g_if_eq hk rfl (fun hc => ?_) (fun hc => ?_)
  · have H := H.1 hc
    exact H
  · have H := H.2 hc
    refine g_s1 (pc2 := 17) hk rfl rfl rfl rfl rfl ?_
    refine g_call hk rfl rfl i_k191.1 ⟨rfl, rfl⟩ rfl (i_rcv_0 rfl) rfl ?_
    exact H.mono (fun v h2 q => by obtain ⟨r, rfl, q⟩ := q; exact q)
theorem b157_20 {x0 : Nat} {x1 : Int32} {x2 : Int32} {x3 : Int32} {s0 : Int32} {h : iH} {Q : Option Value → iH → Prop} (H : ((¬ s0 = 0 → (∃ v1 : Nat, i_fld h x0 11 12 = some (.ref v1) ∧ (i_obj? h v1 6 ∧ i_C i_MT i_AT L xs 73 [.ref v1, .int x1, .int x2, .int x3] h (fun v h2 => ∃ r3 : Int32, v = some (.int r3) ∧ i_P i_MT i_AT L xs 157 40 [some (.ref x0), some (.int x1), some (.int x2), some (.int x3)] [.int r3, .ref x0] h2 0 0 Q)))) ∧ (¬ (¬ s0 = 0) → i_P i_MT i_AT L xs 157 23 [some (.ref x0), some (.int x1), some (.int x2), some (.int x3)] [] h 0 0 Q))) : i_P i_MT i_AT L xs 157 20 [some (.ref x0), some (.int x1), some (.int x2), some (.int x3)] [.int s0] h 0 0 Q := by
  have hk := i_k157
  refine g_if_ne hk rfl (fun hc => ?_) (fun hc => ?_)
  · have H := H.1 hc
    refine g_s1 (pc2 := 30) hk rfl rfl rfl rfl rfl ?_
    refine g_s1 (pc2 := 31) hk rfl rfl rfl rfl rfl ?_
    obtain ⟨v1, ev1, H⟩ := H
    refine g_step (pc2 := 34) hk rfl rfl rfl (s_get ev1) ?_
    refine g_s1 (pc2 := 35) hk rfl rfl rfl rfl rfl ?_
    refine g_s1 (pc2 := 36) hk rfl rfl rfl rfl rfl ?_
    refine g_s1 (pc2 := 37) hk rfl rfl rfl rfl rfl ?_
    obtain ⟨ho, H⟩ := H
    refine g_call hk rfl rfl i_k73.1 ⟨rfl, rfl⟩ rfl (i_rcv_v ho rfl (by decide)) rfl ?_
    exact H.mono (fun v h2 q => by obtain ⟨r, rfl, q⟩ := q; exact q)
  · have H := H.2 hc
    exact H
theorem b157_23 {x0 : Nat} {x1 : Int32} {x2 : Int32} {x3 : Int32} {h : iH} {Q : Option Value → iH → Prop} (H : (i_obj? h x0 11 ∧ i_C i_MT i_AT L xs 179 [.ref x0, .int (1 : Int32)] h (fun v h1 => ∃ r2 : Int32, v = some (.int r2) ∧ i_P i_MT i_AT L xs 157 28 [some (.ref x0), some (.int x1), some (.int x2), some (.int x3)] [.int r2] h1 0 0 Q))) : i_P i_MT i_AT L xs 157 23 [some (.ref x0), some (.int x1), some (.int x2), some (.int x3)] [] h 0 0 Q := by
  have hk := i_k157
  refine g_s1 (pc2 := 24) hk rfl rfl rfl rfl rfl ?_
  refine g_s1 (pc2 := 25) (st2 := [.int (1 : Int32), .ref x0]) hk rfl rfl rfl rfl rfl ?_
  obtain ⟨ho, H⟩ := H
  refine g_call hk rfl rfl i_k179.1 ⟨rfl, rfl⟩ rfl (i_rcv_v ho rfl (by decide)) rfl ?_
  exact H.mono (fun v h2 q => by obtain ⟨r, rfl, q⟩ := q; exact q)
theorem b157_28 {x0 : Nat} {x1 : Int32} {x2 : Int32} {x3 : Int32} {s0 : Int32} {h : iH} {Q : Option Value → iH → Prop} (H : Q (some (.int s0)) h) : i_P i_MT i_AT L xs 157 28 [some (.ref x0), some (.int x1), some (.int x2), some (.int x3)] [.int s0] h 0 0 Q := by
  have hk := i_k157
  exact g_ireturn hk rfl (by decide) (by decide) rfl H
theorem b157_40 {x0 : Nat} {x1 : Int32} {x2 : Int32} {x3 : Int32} {s0 : Nat} {s1 : Int32} {h : iH} {Q : Option Value → iH → Prop} (H : (i_obj? h s0 11 ∧ i_C i_MT i_AT L xs 183 [.ref s0, .int s1] h (fun v h1 => ∃ r2 : Int32, v = some (.int r2) ∧ i_P i_MT i_AT L xs 157 43 [some (.ref x0), some (.int x1), some (.int x2), some (.int x3)] [.int r2] h1 0 0 Q))) : i_P i_MT i_AT L xs 157 40 [some (.ref x0), some (.int x1), some (.int x2), some (.int x3)] [.int s1, .ref s0] h 0 0 Q := by
  have hk := i_k157
  obtain ⟨ho, H⟩ := H
  refine g_call hk rfl rfl i_k183.1 ⟨rfl, rfl⟩ rfl (i_rcv_v ho rfl (by decide)) rfl ?_
  exact H.mono (fun v h2 q => by obtain ⟨r, rfl, q⟩ := q; exact q)
theorem b157_43 {x0 : Nat} {x1 : Int32} {x2 : Int32} {x3 : Int32} {s0 : Int32} {h : iH} {Q : Option Value → iH → Prop} (H : Q (some (.int s0)) h) : i_P i_MT i_AT L xs 157 43 [some (.ref x0), some (.int x1), some (.int x2), some (.int x3)] [.int s0] h 0 0 Q := by
  have hk := i_k157
  exact g_ireturn hk rfl (by decide) (by decide) rfl H
/-! StillTown.shown(I)I -/
theorem e158 {x0 : Nat} {x1 : Int32} {h : iH} {Q : Option Value → iH → Prop} (H : i_P i_MT i_AT L xs 158 0 [some (.ref x0), some (.int x1)] [] h 0 0 Q) : i_C i_MT i_AT L xs 158 [.ref x0, .int x1] h Q := ⟨i_m158, i_k158.1, Nat.le_of_ble_eq_true rfl, H⟩
theorem b158_0 {x0 : Nat} {x1 : Int32} {h : iH} {Q : Option Value → iH → Prop} (H : (i_obj? h x0 11 ∧ i_C i_MT i_AT L xs 186 [.ref x0, .int x1] h (fun v h1 => ∃ r2 : Int32, v = some (.int r2) ∧ i_P i_MT i_AT L xs 158 5 [some (.ref x0), some (.int x1)] [.int r2] h1 0 0 Q))) : i_P i_MT i_AT L xs 158 0 [some (.ref x0), some (.int x1)] [] h 0 0 Q := by
  have hk := i_k158
  refine g_s1 (pc2 := 1) hk rfl rfl rfl rfl rfl ?_
  refine g_s1 (pc2 := 2) hk rfl rfl rfl rfl rfl ?_
  obtain ⟨ho, H⟩ := H
  refine g_call hk rfl rfl i_k186.1 ⟨rfl, rfl⟩ rfl (i_rcv_v ho rfl (by decide)) rfl ?_
  exact H.mono (fun v h2 q => by obtain ⟨r, rfl, q⟩ := q; exact q)
theorem b158_5 {x0 : Nat} {x1 : Int32} {s0 : Int32} {h : iH} {Q : Option Value → iH → Prop} (H : ((¬ s0 = 0 → (∃ v1 : Nat, i_fld h x0 11 12 = some (.ref v1) ∧ (i_obj? h v1 6 ∧ i_C i_MT i_AT L xs 76 [.ref v1, .int x1] h (fun v h2 => ∃ r3 : Int32, v = some (.int r3) ∧ i_P i_MT i_AT L xs 158 23 [some (.ref x0), some (.int x1)] [.int r3, .ref x0] h2 0 0 Q)))) ∧ (¬ (¬ s0 = 0) → (i_obj? h x0 11 ∧ i_C i_MT i_AT L xs 179 [.ref x0, .int (1 : Int32)] h (fun v h4 => ∃ r5 : Int32, v = some (.int r5) ∧ i_P i_MT i_AT L xs 158 13 [some (.ref x0), some (.int x1)] [.int r5] h4 0 0 Q))))) : i_P i_MT i_AT L xs 158 5 [some (.ref x0), some (.int x1)] [.int s0] h 0 0 Q := by
  have hk := i_k158
  refine g_if_ne hk rfl (fun hc => ?_) (fun hc => ?_)
  · have H := H.1 hc
    refine g_s1 (pc2 := 15) hk rfl rfl rfl rfl rfl ?_
    refine g_s1 (pc2 := 16) hk rfl rfl rfl rfl rfl ?_
    obtain ⟨v1, ev1, H⟩ := H
    refine g_step (pc2 := 19) hk rfl rfl rfl (s_get ev1) ?_
    refine g_s1 (pc2 := 20) hk rfl rfl rfl rfl rfl ?_
    obtain ⟨ho, H⟩ := H
    refine g_call hk rfl rfl i_k76.1 ⟨rfl, rfl⟩ rfl (i_rcv_v ho rfl (by decide)) rfl ?_
    exact H.mono (fun v h2 q => by obtain ⟨r, rfl, q⟩ := q; exact q)
  · have H := H.2 hc
    refine g_s1 (pc2 := 9) hk rfl rfl rfl rfl rfl ?_
    refine g_s1 (pc2 := 10) (st2 := [.int (1 : Int32), .ref x0]) hk rfl rfl rfl rfl rfl ?_
    obtain ⟨ho, H⟩ := H
    refine g_call hk rfl rfl i_k179.1 ⟨rfl, rfl⟩ rfl (i_rcv_v ho rfl (by decide)) rfl ?_
    exact H.mono (fun v h2 q => by obtain ⟨r, rfl, q⟩ := q; exact q)
theorem b158_13 {x0 : Nat} {x1 : Int32} {s0 : Int32} {h : iH} {Q : Option Value → iH → Prop} (H : Q (some (.int s0)) h) : i_P i_MT i_AT L xs 158 13 [some (.ref x0), some (.int x1)] [.int s0] h 0 0 Q := by
  have hk := i_k158
  exact g_ireturn hk rfl (by decide) (by decide) rfl H
theorem b158_23 {x0 : Nat} {x1 : Int32} {s0 : Nat} {s1 : Int32} {h : iH} {Q : Option Value → iH → Prop} (H : (i_obj? h s0 11 ∧ i_C i_MT i_AT L xs 183 [.ref s0, .int s1] h (fun v h1 => ∃ r2 : Int32, v = some (.int r2) ∧ i_P i_MT i_AT L xs 158 26 [some (.ref x0), some (.int x1)] [.int r2] h1 0 0 Q))) : i_P i_MT i_AT L xs 158 23 [some (.ref x0), some (.int x1)] [.int s1, .ref s0] h 0 0 Q := by
  have hk := i_k158
  obtain ⟨ho, H⟩ := H
  refine g_call hk rfl rfl i_k183.1 ⟨rfl, rfl⟩ rfl (i_rcv_v ho rfl (by decide)) rfl ?_
  exact H.mono (fun v h2 q => by obtain ⟨r, rfl, q⟩ := q; exact q)
theorem b158_26 {x0 : Nat} {x1 : Int32} {s0 : Int32} {h : iH} {Q : Option Value → iH → Prop} (H : Q (some (.int s0)) h) : i_P i_MT i_AT L xs 158 26 [some (.ref x0), some (.int x1)] [.int s0] h 0 0 Q := by
  have hk := i_k158
  exact g_ireturn hk rfl (by decide) (by decide) rfl H
/-! StillTown.found(IJ)I -/
theorem e159 {x0 : Nat} {x1 : Int32} {x2 : Int64} {h : iH} {Q : Option Value → iH → Prop} (H : i_P i_MT i_AT L xs 159 0 [some (.ref x0), some (.int x1), some (.long x2), none] [] h 0 0 Q) : i_C i_MT i_AT L xs 159 [.ref x0, .int x1, .long x2] h Q := ⟨i_m159, i_k159.1, Nat.le_of_ble_eq_true rfl, H⟩
theorem b159_0 {x0 : Nat} {x1 : Int32} {x2 : Int64} {h : iH} {Q : Option Value → iH → Prop} (H : (i_obj? h x0 11 ∧ i_C i_MT i_AT L xs 186 [.ref x0, .int x1] h (fun v h1 => ∃ r2 : Int32, v = some (.int r2) ∧ i_P i_MT i_AT L xs 159 5 [some (.ref x0), some (.int x1), some (.long x2), none] [.int r2] h1 0 0 Q))) : i_P i_MT i_AT L xs 159 0 [some (.ref x0), some (.int x1), some (.long x2), none] [] h 0 0 Q := by
  have hk := i_k159
  refine g_s1 (pc2 := 1) hk rfl rfl rfl rfl rfl ?_
  refine g_s1 (pc2 := 2) hk rfl rfl rfl rfl rfl ?_
  obtain ⟨ho, H⟩ := H
  refine g_call hk rfl rfl i_k186.1 ⟨rfl, rfl⟩ rfl (i_rcv_v ho rfl (by decide)) rfl ?_
  exact H.mono (fun v h2 q => by obtain ⟨r, rfl, q⟩ := q; exact q)
theorem b159_5 {x0 : Nat} {x1 : Int32} {x2 : Int64} {s0 : Int32} {h : iH} {Q : Option Value → iH → Prop} (H : ((s0 = 0 → i_P i_MT i_AT L xs 159 38 [some (.ref x0), some (.int x1), some (.long x2), none] [] h 0 0 Q) ∧ (¬ (s0 = 0) → (∃ v1 : Nat, i_fld h x0 11 11 = some (.ref v1) ∧ (∃ v2 : Nat, i_fld h v1 0 0 = some (.ref v2) ∧ (∃ v3 : Int64, i_fld h v2 2 3 = some (.long v3) ∧ ((¬ (lg_cmp (x2 &&& (v3 ^^^ (-1 : Int64))) (0 : Int64)) = 0 → i_P i_MT i_AT L xs 159 38 [some (.ref x0), some (.int x1), some (.long x2), none] [] h 0 0 Q) ∧ (¬ (¬ (lg_cmp (x2 &&& (v3 ^^^ (-1 : Int64))) (0 : Int64)) = 0) → (i_C i_MT i_AT L xs 334 [.long x2] h (fun v h4 => ∃ r5 : Int32, v = some (.int r5) ∧ i_P i_MT i_AT L xs 159 33 [some (.ref x0), some (.int x1), some (.long x2), none] [.int r5] h4 0 0 Q)))))))))) : i_P i_MT i_AT L xs 159 5 [some (.ref x0), some (.int x1), some (.long x2), none] [.int s0] h 0 0 Q := by
  have hk := i_k159
  refine g_if_eq hk rfl (fun hc => ?_) (fun hc => ?_)
  · have H := H.1 hc
    exact H
  · have H := H.2 hc
    refine g_s1 (pc2 := 9) hk rfl rfl rfl rfl rfl ?_
    refine g_s1 (pc2 := 10) hk rfl rfl rfl rfl rfl ?_
    obtain ⟨v1, ev1, H⟩ := H
    refine g_step (pc2 := 13) hk rfl rfl rfl (s_get ev1) ?_
    obtain ⟨v2, ev2, H⟩ := H
    refine g_step (pc2 := 16) hk rfl rfl rfl (s_get ev2) ?_
    obtain ⟨v3, ev3, H⟩ := H
    refine g_step (pc2 := 19) hk rfl rfl rfl (s_get ev3) ?_
    refine g_step (pc2 := 22) (st2 := [.long (-1 : Int64), .long v3, .long x2]) hk rfl rfl rfl rfl ?_
    refine g_s1 (pc2 := 23) hk rfl rfl rfl rfl rfl ?_
    refine g_s1 (pc2 := 24) hk rfl rfl rfl rfl rfl ?_
    refine g_s1 (pc2 := 25) (st2 := [.long (0 : Int64), .long (x2 &&& (v3 ^^^ (-1 : Int64)))]) hk rfl rfl rfl rfl rfl ?_
    refine g_s1 (pc2 := 26) hk rfl rfl rfl rfl rfl ?_
    refine g_if_ne hk rfl (fun hc => ?_) (fun hc => ?_)
    · have H := H.1 hc
      exact H
    · have H := H.2 hc
      refine g_s1 (pc2 := 30) hk rfl rfl rfl rfl rfl ?_
      refine g_call hk rfl rfl i_k334.1 ⟨rfl, rfl⟩ rfl (i_rcv_0 rfl) rfl ?_
      exact H.mono (fun v h2 q => by obtain ⟨r, rfl, q⟩ := q; exact q)
theorem b159_33 {x0 : Nat} {x1 : Int32} {x2 : Int64} {s0 : Int32} {h : iH} {Q : Option Value → iH → Prop} (H : ((s0 ≤ (6 : Int32) → (∃ v1 : Nat, i_fld h x0 11 13 = some (.ref v1) ∧ (i_obj? h v1 5 ∧ i_C i_MT i_AT L xs 50 [.ref v1, .int x1, .long x2] h (fun v h2 => ∃ r3 : Int32, v = some (.int r3) ∧ i_P i_MT i_AT L xs 159 54 [some (.ref x0), some (.int x1), some (.long x2), none] [.int r3, .ref x0] h2 0 0 Q)))) ∧ (¬ (s0 ≤ (6 : Int32)) → i_P i_MT i_AT L xs 159 38 [some (.ref x0), some (.int x1), some (.long x2), none] [] h 0 0 Q))) : i_P i_MT i_AT L xs 159 33 [some (.ref x0), some (.int x1), some (.long x2), none] [.int s0] h 0 0 Q := by
  have hk := i_k159
  refine g_s1 (pc2 := 35) (st2 := [.int (6 : Int32), .int s0]) hk rfl rfl rfl rfl rfl ?_
  refine g_icmp_le hk rfl (fun hc => ?_) (fun hc => ?_)
  · have H := H.1 hc
    refine g_s1 (pc2 := 45) hk rfl rfl rfl rfl rfl ?_
    refine g_s1 (pc2 := 46) hk rfl rfl rfl rfl rfl ?_
    obtain ⟨v1, ev1, H⟩ := H
    refine g_step (pc2 := 49) hk rfl rfl rfl (s_get ev1) ?_
    refine g_s1 (pc2 := 50) hk rfl rfl rfl rfl rfl ?_
    refine g_s1 (pc2 := 51) hk rfl rfl rfl rfl rfl ?_
    obtain ⟨ho, H⟩ := H
    refine g_call hk rfl rfl i_k50.1 ⟨rfl, rfl⟩ rfl (i_rcv_v ho rfl (by decide)) rfl ?_
    exact H.mono (fun v h2 q => by obtain ⟨r, rfl, q⟩ := q; exact q)
  · have H := H.2 hc
    exact H
theorem b159_38 {x0 : Nat} {x1 : Int32} {x2 : Int64} {h : iH} {Q : Option Value → iH → Prop} (H : (i_obj? h x0 11 ∧ i_C i_MT i_AT L xs 179 [.ref x0, .int (1 : Int32)] h (fun v h1 => ∃ r2 : Int32, v = some (.int r2) ∧ i_P i_MT i_AT L xs 159 43 [some (.ref x0), some (.int x1), some (.long x2), none] [.int r2] h1 0 0 Q))) : i_P i_MT i_AT L xs 159 38 [some (.ref x0), some (.int x1), some (.long x2), none] [] h 0 0 Q := by
  have hk := i_k159
  refine g_s1 (pc2 := 39) hk rfl rfl rfl rfl rfl ?_
  refine g_s1 (pc2 := 40) (st2 := [.int (1 : Int32), .ref x0]) hk rfl rfl rfl rfl rfl ?_
  obtain ⟨ho, H⟩ := H
  refine g_call hk rfl rfl i_k179.1 ⟨rfl, rfl⟩ rfl (i_rcv_v ho rfl (by decide)) rfl ?_
  exact H.mono (fun v h2 q => by obtain ⟨r, rfl, q⟩ := q; exact q)
theorem b159_43 {x0 : Nat} {x1 : Int32} {x2 : Int64} {s0 : Int32} {h : iH} {Q : Option Value → iH → Prop} (H : Q (some (.int s0)) h) : i_P i_MT i_AT L xs 159 43 [some (.ref x0), some (.int x1), some (.long x2), none] [.int s0] h 0 0 Q := by
  have hk := i_k159
  exact g_ireturn hk rfl (by decide) (by decide) rfl H
theorem b159_54 {x0 : Nat} {x1 : Int32} {x2 : Int64} {s0 : Nat} {s1 : Int32} {h : iH} {Q : Option Value → iH → Prop} (H : (i_obj? h s0 11 ∧ i_C i_MT i_AT L xs 183 [.ref s0, .int s1] h (fun v h1 => ∃ r2 : Int32, v = some (.int r2) ∧ i_P i_MT i_AT L xs 159 57 [some (.ref x0), some (.int x1), some (.long x2), none] [.int r2] h1 0 0 Q))) : i_P i_MT i_AT L xs 159 54 [some (.ref x0), some (.int x1), some (.long x2), none] [.int s1, .ref s0] h 0 0 Q := by
  have hk := i_k159
  obtain ⟨ho, H⟩ := H
  refine g_call hk rfl rfl i_k183.1 ⟨rfl, rfl⟩ rfl (i_rcv_v ho rfl (by decide)) rfl ?_
  exact H.mono (fun v h2 q => by obtain ⟨r, rfl, q⟩ := q; exact q)
theorem b159_57 {x0 : Nat} {x1 : Int32} {x2 : Int64} {s0 : Int32} {h : iH} {Q : Option Value → iH → Prop} (H : Q (some (.int s0)) h) : i_P i_MT i_AT L xs 159 57 [some (.ref x0), some (.int x1), some (.long x2), none] [.int s0] h 0 0 Q := by
  have hk := i_k159
  exact g_ireturn hk rfl (by decide) (by decide) rfl H
/-! StillTown.mayBe(III)J -/
theorem e160 {x0 : Nat} {x1 : Int32} {x2 : Int32} {x3 : Int32} {h : iH} {Q : Option Value → iH → Prop} (H : i_P i_MT i_AT L xs 160 0 [some (.ref x0), some (.int x1), some (.int x2), some (.int x3)] [] h 0 0 Q) : i_C i_MT i_AT L xs 160 [.ref x0, .int x1, .int x2, .int x3] h Q := ⟨i_m160, i_k160.1, Nat.le_of_ble_eq_true rfl, H⟩
theorem b160_0 {x0 : Nat} {x1 : Int32} {x2 : Int32} {x3 : Int32} {h : iH} {Q : Option Value → iH → Prop} (H : (i_obj? h x0 11 ∧ i_C i_MT i_AT L xs 186 [.ref x0, .int x1] h (fun v h1 => ∃ r2 : Int32, v = some (.int r2) ∧ i_P i_MT i_AT L xs 160 5 [some (.ref x0), some (.int x1), some (.int x2), some (.int x3)] [.int r2] h1 0 0 Q))) : i_P i_MT i_AT L xs 160 0 [some (.ref x0), some (.int x1), some (.int x2), some (.int x3)] [] h 0 0 Q := by
  have hk := i_k160
  refine g_s1 (pc2 := 1) hk rfl rfl rfl rfl rfl ?_
  refine g_s1 (pc2 := 2) hk rfl rfl rfl rfl rfl ?_
  obtain ⟨ho, H⟩ := H
  refine g_call hk rfl rfl i_k186.1 ⟨rfl, rfl⟩ rfl (i_rcv_v ho rfl (by decide)) rfl ?_
  exact H.mono (fun v h2 q => by obtain ⟨r, rfl, q⟩ := q; exact q)
theorem b160_5 {x0 : Nat} {x1 : Int32} {x2 : Int32} {x3 : Int32} {s0 : Int32} {h : iH} {Q : Option Value → iH → Prop} (H : ((s0 = 0 → i_P i_MT i_AT L xs 160 23 [some (.ref x0), some (.int x1), some (.int x2), some (.int x3)] [] h 0 0 Q) ∧ (¬ (s0 = 0) → (i_obj? h x0 11 ∧ i_C i_MT i_AT L xs 189 [.ref x0, .int x2] h (fun v h1 => ∃ r2 : Int32, v = some (.int r2) ∧ i_P i_MT i_AT L xs 160 13 [some (.ref x0), some (.int x1), some (.int x2), some (.int x3)] [.int r2] h1 0 0 Q))))) : i_P i_MT i_AT L xs 160 5 [some (.ref x0), some (.int x1), some (.int x2), some (.int x3)] [.int s0] h 0 0 Q := by
  have hk := i_k160
  refine g_if_eq hk rfl (fun hc => ?_) (fun hc => ?_)
  · have H := H.1 hc
    exact H
  · have H := H.2 hc
    refine g_s1 (pc2 := 9) hk rfl rfl rfl rfl rfl ?_
    refine g_s1 (pc2 := 10) hk rfl rfl rfl rfl rfl ?_
    obtain ⟨ho, H⟩ := H
    refine g_call hk rfl rfl i_k189.1 ⟨rfl, rfl⟩ rfl (i_rcv_v ho rfl (by decide)) rfl ?_
    exact H.mono (fun v h2 q => by obtain ⟨r, rfl, q⟩ := q; exact q)
theorem b160_13 {x0 : Nat} {x1 : Int32} {x2 : Int32} {x3 : Int32} {s0 : Int32} {h : iH} {Q : Option Value → iH → Prop} (H : ((s0 = 0 → i_P i_MT i_AT L xs 160 23 [some (.ref x0), some (.int x1), some (.int x2), some (.int x3)] [] h 0 0 Q) ∧ (¬ (s0 = 0) → (i_C i_MT i_AT L xs 190 [.int x3] h (fun v h1 => ∃ r2 : Int32, v = some (.int r2) ∧ i_P i_MT i_AT L xs 160 20 [some (.ref x0), some (.int x1), some (.int x2), some (.int x3)] [.int r2] h1 0 0 Q))))) : i_P i_MT i_AT L xs 160 13 [some (.ref x0), some (.int x1), some (.int x2), some (.int x3)] [.int s0] h 0 0 Q := by
  have hk := i_k160
  refine g_if_eq hk rfl (fun hc => ?_) (fun hc => ?_)
  · have H := H.1 hc
    exact H
  · have H := H.2 hc
    refine g_s1 (pc2 := 17) hk rfl rfl rfl rfl rfl ?_
    refine g_call hk rfl rfl i_k190.1 ⟨rfl, rfl⟩ rfl (i_rcv_0 rfl) rfl ?_
    exact H.mono (fun v h2 q => by obtain ⟨r, rfl, q⟩ := q; exact q)
theorem b160_20 {x0 : Nat} {x1 : Int32} {x2 : Int32} {x3 : Int32} {s0 : Int32} {h : iH} {Q : Option Value → iH → Prop} (H : ((¬ s0 = 0 → (∃ v1 : Nat, i_fld h x0 11 13 = some (.ref v1) ∧ (i_obj? h v1 5 ∧ i_C i_MT i_AT L xs 55 [.ref v1, .int x1, .int x2, .int x3] h (fun v h2 => ∃ r3 : Int64, v = some (.long r3) ∧ i_P i_MT i_AT L xs 160 41 [some (.ref x0), some (.int x1), some (.int x2), some (.int x3)] [.long r3, .ref x0] h2 0 0 Q)))) ∧ (¬ (¬ s0 = 0) → i_P i_MT i_AT L xs 160 23 [some (.ref x0), some (.int x1), some (.int x2), some (.int x3)] [] h 0 0 Q))) : i_P i_MT i_AT L xs 160 20 [some (.ref x0), some (.int x1), some (.int x2), some (.int x3)] [.int s0] h 0 0 Q := by
  have hk := i_k160
  refine g_if_ne hk rfl (fun hc => ?_) (fun hc => ?_)
  · have H := H.1 hc
    refine g_s1 (pc2 := 31) hk rfl rfl rfl rfl rfl ?_
    refine g_s1 (pc2 := 32) hk rfl rfl rfl rfl rfl ?_
    obtain ⟨v1, ev1, H⟩ := H
    refine g_step (pc2 := 35) hk rfl rfl rfl (s_get ev1) ?_
    refine g_s1 (pc2 := 36) hk rfl rfl rfl rfl rfl ?_
    refine g_s1 (pc2 := 37) hk rfl rfl rfl rfl rfl ?_
    refine g_s1 (pc2 := 38) hk rfl rfl rfl rfl rfl ?_
    obtain ⟨ho, H⟩ := H
    refine g_call hk rfl rfl i_k55.1 ⟨rfl, rfl⟩ rfl (i_rcv_v ho rfl (by decide)) rfl ?_
    exact H.mono (fun v h2 q => by obtain ⟨r, rfl, q⟩ := q; exact q)
  · have H := H.2 hc
    exact H
theorem b160_23 {x0 : Nat} {x1 : Int32} {x2 : Int32} {x3 : Int32} {h : iH} {Q : Option Value → iH → Prop} (H : (i_obj? h x0 11 ∧ i_C i_MT i_AT L xs 179 [.ref x0, .int (1 : Int32)] h (fun v h1 => ∃ r2 : Int32, v = some (.int r2) ∧ i_P i_MT i_AT L xs 160 28 [some (.ref x0), some (.int x1), some (.int x2), some (.int x3)] [.int r2] h1 0 0 Q))) : i_P i_MT i_AT L xs 160 23 [some (.ref x0), some (.int x1), some (.int x2), some (.int x3)] [] h 0 0 Q := by
  have hk := i_k160
  refine g_s1 (pc2 := 24) hk rfl rfl rfl rfl rfl ?_
  refine g_s1 (pc2 := 25) (st2 := [.int (1 : Int32), .ref x0]) hk rfl rfl rfl rfl rfl ?_
  obtain ⟨ho, H⟩ := H
  refine g_call hk rfl rfl i_k179.1 ⟨rfl, rfl⟩ rfl (i_rcv_v ho rfl (by decide)) rfl ?_
  exact H.mono (fun v h2 q => by obtain ⟨r, rfl, q⟩ := q; exact q)
theorem b160_28 {x0 : Nat} {x1 : Int32} {x2 : Int32} {x3 : Int32} {s0 : Int32} {h : iH} {Q : Option Value → iH → Prop} (H : Q (some (.long (s0.toInt64))) h) : i_P i_MT i_AT L xs 160 28 [some (.ref x0), some (.int x1), some (.int x2), some (.int x3)] [.int s0] h 0 0 Q := by
  have hk := i_k160
  refine g_s1 (pc2 := 29) hk rfl rfl rfl rfl rfl ?_
  exact g_lreturn hk rfl (by decide) (by decide) rfl H
theorem b160_41 {x0 : Nat} {x1 : Int32} {x2 : Int32} {x3 : Int32} {s0 : Nat} {s1 : Int64} {h : iH} {Q : Option Value → iH → Prop} (H : (i_obj? h s0 11 ∧ i_C i_MT i_AT L xs 182 [.ref s0, .long s1] h (fun v h1 => ∃ r2 : Int64, v = some (.long r2) ∧ i_P i_MT i_AT L xs 160 44 [some (.ref x0), some (.int x1), some (.int x2), some (.int x3)] [.long r2] h1 0 0 Q))) : i_P i_MT i_AT L xs 160 41 [some (.ref x0), some (.int x1), some (.int x2), some (.int x3)] [.long s1, .ref s0] h 0 0 Q := by
  have hk := i_k160
  obtain ⟨ho, H⟩ := H
  refine g_call hk rfl rfl i_k182.1 ⟨rfl, rfl⟩ rfl (i_rcv_v ho rfl (by decide)) rfl ?_
  exact H.mono (fun v h2 q => by obtain ⟨r, rfl, q⟩ := q; exact q)
theorem b160_44 {x0 : Nat} {x1 : Int32} {x2 : Int32} {x3 : Int32} {s0 : Int64} {h : iH} {Q : Option Value → iH → Prop} (H : Q (some (.long s0)) h) : i_P i_MT i_AT L xs 160 44 [some (.ref x0), some (.int x1), some (.int x2), some (.int x3)] [.long s0] h 0 0 Q := by
  have hk := i_k160
  exact g_lreturn hk rfl (by decide) (by decide) rfl H
/-! StillTown.meeting(II)I -/
theorem e161 {x0 : Nat} {x1 : Int32} {x2 : Int32} {h : iH} {Q : Option Value → iH → Prop} (H : i_P i_MT i_AT L xs 161 0 [some (.ref x0), some (.int x1), some (.int x2)] [] h 0 0 Q) : i_C i_MT i_AT L xs 161 [.ref x0, .int x1, .int x2] h Q := ⟨i_m161, i_k161.1, Nat.le_of_ble_eq_true rfl, H⟩
theorem b161_0 {x0 : Nat} {x1 : Int32} {x2 : Int32} {h : iH} {Q : Option Value → iH → Prop} (H : (i_obj? h x0 11 ∧ i_C i_MT i_AT L xs 187 [.ref x0, .int x1, .int x2] h (fun v h1 => ∃ r2 : Int32, v = some (.int r2) ∧ i_P i_MT i_AT L xs 161 6 [some (.ref x0), some (.int x1), some (.int x2)] [.int r2] h1 0 0 Q))) : i_P i_MT i_AT L xs 161 0 [some (.ref x0), some (.int x1), some (.int x2)] [] h 0 0 Q := by
  have hk := i_k161
  refine g_s1 (pc2 := 1) hk rfl rfl rfl rfl rfl ?_
  refine g_s1 (pc2 := 2) hk rfl rfl rfl rfl rfl ?_
  refine g_s1 (pc2 := 3) hk rfl rfl rfl rfl rfl ?_
  obtain ⟨ho, H⟩ := H
  refine g_call hk rfl rfl i_k187.1 ⟨rfl, rfl⟩ rfl (i_rcv_v ho rfl (by decide)) rfl ?_
  exact H.mono (fun v h2 q => by obtain ⟨r, rfl, q⟩ := q; exact q)
theorem b161_6 {x0 : Nat} {x1 : Int32} {x2 : Int32} {s0 : Int32} {h : iH} {Q : Option Value → iH → Prop} (H : ((¬ s0 = 0 → (∃ v1 : Nat, i_fld h x0 11 13 = some (.ref v1) ∧ (i_obj? h v1 5 ∧ i_C i_MT i_AT L xs 56 [.ref v1, .int x1, .int x2] h (fun v h2 => ∃ r3 : Int32, v = some (.int r3) ∧ i_P i_MT i_AT L xs 161 25 [some (.ref x0), some (.int x1), some (.int x2)] [.int r3, .ref x0] h2 0 0 Q)))) ∧ (¬ (¬ s0 = 0) → (i_obj? h x0 11 ∧ i_C i_MT i_AT L xs 179 [.ref x0, .int (1 : Int32)] h (fun v h4 => ∃ r5 : Int32, v = some (.int r5) ∧ i_P i_MT i_AT L xs 161 14 [some (.ref x0), some (.int x1), some (.int x2)] [.int r5] h4 0 0 Q))))) : i_P i_MT i_AT L xs 161 6 [some (.ref x0), some (.int x1), some (.int x2)] [.int s0] h 0 0 Q := by
  have hk := i_k161
  refine g_if_ne hk rfl (fun hc => ?_) (fun hc => ?_)
  · have H := H.1 hc
    refine g_s1 (pc2 := 16) hk rfl rfl rfl rfl rfl ?_
    refine g_s1 (pc2 := 17) hk rfl rfl rfl rfl rfl ?_
    obtain ⟨v1, ev1, H⟩ := H
    refine g_step (pc2 := 20) hk rfl rfl rfl (s_get ev1) ?_
    refine g_s1 (pc2 := 21) hk rfl rfl rfl rfl rfl ?_
    refine g_s1 (pc2 := 22) hk rfl rfl rfl rfl rfl ?_
    obtain ⟨ho, H⟩ := H
    refine g_call hk rfl rfl i_k56.1 ⟨rfl, rfl⟩ rfl (i_rcv_v ho rfl (by decide)) rfl ?_
    exact H.mono (fun v h2 q => by obtain ⟨r, rfl, q⟩ := q; exact q)
  · have H := H.2 hc
    refine g_s1 (pc2 := 10) hk rfl rfl rfl rfl rfl ?_
    refine g_s1 (pc2 := 11) (st2 := [.int (1 : Int32), .ref x0]) hk rfl rfl rfl rfl rfl ?_
    obtain ⟨ho, H⟩ := H
    refine g_call hk rfl rfl i_k179.1 ⟨rfl, rfl⟩ rfl (i_rcv_v ho rfl (by decide)) rfl ?_
    exact H.mono (fun v h2 q => by obtain ⟨r, rfl, q⟩ := q; exact q)
theorem b161_14 {x0 : Nat} {x1 : Int32} {x2 : Int32} {s0 : Int32} {h : iH} {Q : Option Value → iH → Prop} (H : Q (some (.int s0)) h) : i_P i_MT i_AT L xs 161 14 [some (.ref x0), some (.int x1), some (.int x2)] [.int s0] h 0 0 Q := by
  have hk := i_k161
  exact g_ireturn hk rfl (by decide) (by decide) rfl H
theorem b161_25 {x0 : Nat} {x1 : Int32} {x2 : Int32} {s0 : Nat} {s1 : Int32} {h : iH} {Q : Option Value → iH → Prop} (H : (i_obj? h s0 11 ∧ i_C i_MT i_AT L xs 183 [.ref s0, .int s1] h (fun v h1 => ∃ r2 : Int32, v = some (.int r2) ∧ i_P i_MT i_AT L xs 161 28 [some (.ref x0), some (.int x1), some (.int x2)] [.int r2] h1 0 0 Q))) : i_P i_MT i_AT L xs 161 25 [some (.ref x0), some (.int x1), some (.int x2)] [.int s1, .ref s0] h 0 0 Q := by
  have hk := i_k161
  obtain ⟨ho, H⟩ := H
  refine g_call hk rfl rfl i_k183.1 ⟨rfl, rfl⟩ rfl (i_rcv_v ho rfl (by decide)) rfl ?_
  exact H.mono (fun v h2 q => by obtain ⟨r, rfl, q⟩ := q; exact q)
theorem b161_28 {x0 : Nat} {x1 : Int32} {x2 : Int32} {s0 : Int32} {h : iH} {Q : Option Value → iH → Prop} (H : Q (some (.int s0)) h) : i_P i_MT i_AT L xs 161 28 [some (.ref x0), some (.int x1), some (.int x2)] [.int s0] h 0 0 Q := by
  have hk := i_k161
  exact g_ireturn hk rfl (by decide) (by decide) rfl H
/-! StillTown.hunted(II)I -/
theorem e162 {x0 : Nat} {x1 : Int32} {x2 : Int32} {h : iH} {Q : Option Value → iH → Prop} (H : i_P i_MT i_AT L xs 162 0 [some (.ref x0), some (.int x1), some (.int x2)] [] h 0 0 Q) : i_C i_MT i_AT L xs 162 [.ref x0, .int x1, .int x2] h Q := ⟨i_m162, i_k162.1, Nat.le_of_ble_eq_true rfl, H⟩
theorem b162_0 {x0 : Nat} {x1 : Int32} {x2 : Int32} {h : iH} {Q : Option Value → iH → Prop} (H : (i_obj? h x0 11 ∧ i_C i_MT i_AT L xs 189 [.ref x0, .int x1] h (fun v h1 => ∃ r2 : Int32, v = some (.int r2) ∧ i_P i_MT i_AT L xs 162 5 [some (.ref x0), some (.int x1), some (.int x2)] [.int r2] h1 0 0 Q))) : i_P i_MT i_AT L xs 162 0 [some (.ref x0), some (.int x1), some (.int x2)] [] h 0 0 Q := by
  have hk := i_k162
  refine g_s1 (pc2 := 1) hk rfl rfl rfl rfl rfl ?_
  refine g_s1 (pc2 := 2) hk rfl rfl rfl rfl rfl ?_
  obtain ⟨ho, H⟩ := H
  refine g_call hk rfl rfl i_k189.1 ⟨rfl, rfl⟩ rfl (i_rcv_v ho rfl (by decide)) rfl ?_
  exact H.mono (fun v h2 q => by obtain ⟨r, rfl, q⟩ := q; exact q)
theorem b162_5 {x0 : Nat} {x1 : Int32} {x2 : Int32} {s0 : Int32} {h : iH} {Q : Option Value → iH → Prop} (H : ((s0 = 0 → i_P i_MT i_AT L xs 162 16 [some (.ref x0), some (.int x1), some (.int x2)] [] h 0 0 Q) ∧ (¬ (s0 = 0) → (i_obj? h x0 11 ∧ i_C i_MT i_AT L xs 189 [.ref x0, .int x2] h (fun v h1 => ∃ r2 : Int32, v = some (.int r2) ∧ i_P i_MT i_AT L xs 162 13 [some (.ref x0), some (.int x1), some (.int x2)] [.int r2] h1 0 0 Q))))) : i_P i_MT i_AT L xs 162 5 [some (.ref x0), some (.int x1), some (.int x2)] [.int s0] h 0 0 Q := by
  have hk := i_k162
  refine g_if_eq hk rfl (fun hc => ?_) (fun hc => ?_)
  · have H := H.1 hc
    exact H
  · have H := H.2 hc
    refine g_s1 (pc2 := 9) hk rfl rfl rfl rfl rfl ?_
    refine g_s1 (pc2 := 10) hk rfl rfl rfl rfl rfl ?_
    obtain ⟨ho, H⟩ := H
    refine g_call hk rfl rfl i_k189.1 ⟨rfl, rfl⟩ rfl (i_rcv_v ho rfl (by decide)) rfl ?_
    exact H.mono (fun v h2 q => by obtain ⟨r, rfl, q⟩ := q; exact q)
theorem b162_13 {x0 : Nat} {x1 : Int32} {x2 : Int32} {s0 : Int32} {h : iH} {Q : Option Value → iH → Prop} (H : ((¬ s0 = 0 → (∃ v1 : Nat, i_fld h x0 11 13 = some (.ref v1) ∧ (i_obj? h v1 5 ∧ i_C i_MT i_AT L xs 60 [.ref v1, .int x1, .int x2] h (fun v h2 => ∃ r3 : Int32, v = some (.int r3) ∧ i_P i_MT i_AT L xs 162 32 [some (.ref x0), some (.int x1), some (.int x2)] [.int r3, .ref x0] h2 0 0 Q)))) ∧ (¬ (¬ s0 = 0) → i_P i_MT i_AT L xs 162 16 [some (.ref x0), some (.int x1), some (.int x2)] [] h 0 0 Q))) : i_P i_MT i_AT L xs 162 13 [some (.ref x0), some (.int x1), some (.int x2)] [.int s0] h 0 0 Q := by
  have hk := i_k162
  refine g_if_ne hk rfl (fun hc => ?_) (fun hc => ?_)
  · have H := H.1 hc
    refine g_s1 (pc2 := 23) hk rfl rfl rfl rfl rfl ?_
    refine g_s1 (pc2 := 24) hk rfl rfl rfl rfl rfl ?_
    obtain ⟨v1, ev1, H⟩ := H
    refine g_step (pc2 := 27) hk rfl rfl rfl (s_get ev1) ?_
    refine g_s1 (pc2 := 28) hk rfl rfl rfl rfl rfl ?_
    refine g_s1 (pc2 := 29) hk rfl rfl rfl rfl rfl ?_
    obtain ⟨ho, H⟩ := H
    refine g_call hk rfl rfl i_k60.1 ⟨rfl, rfl⟩ rfl (i_rcv_v ho rfl (by decide)) rfl ?_
    exact H.mono (fun v h2 q => by obtain ⟨r, rfl, q⟩ := q; exact q)
  · have H := H.2 hc
    exact H
theorem b162_16 {x0 : Nat} {x1 : Int32} {x2 : Int32} {h : iH} {Q : Option Value → iH → Prop} (H : (i_obj? h x0 11 ∧ i_C i_MT i_AT L xs 179 [.ref x0, .int (1 : Int32)] h (fun v h1 => ∃ r2 : Int32, v = some (.int r2) ∧ i_P i_MT i_AT L xs 162 21 [some (.ref x0), some (.int x1), some (.int x2)] [.int r2] h1 0 0 Q))) : i_P i_MT i_AT L xs 162 16 [some (.ref x0), some (.int x1), some (.int x2)] [] h 0 0 Q := by
  have hk := i_k162
  refine g_s1 (pc2 := 17) hk rfl rfl rfl rfl rfl ?_
  refine g_s1 (pc2 := 18) (st2 := [.int (1 : Int32), .ref x0]) hk rfl rfl rfl rfl rfl ?_
  obtain ⟨ho, H⟩ := H
  refine g_call hk rfl rfl i_k179.1 ⟨rfl, rfl⟩ rfl (i_rcv_v ho rfl (by decide)) rfl ?_
  exact H.mono (fun v h2 q => by obtain ⟨r, rfl, q⟩ := q; exact q)
theorem b162_21 {x0 : Nat} {x1 : Int32} {x2 : Int32} {s0 : Int32} {h : iH} {Q : Option Value → iH → Prop} (H : Q (some (.int s0)) h) : i_P i_MT i_AT L xs 162 21 [some (.ref x0), some (.int x1), some (.int x2)] [.int s0] h 0 0 Q := by
  have hk := i_k162
  exact g_ireturn hk rfl (by decide) (by decide) rfl H
theorem b162_32 {x0 : Nat} {x1 : Int32} {x2 : Int32} {s0 : Nat} {s1 : Int32} {h : iH} {Q : Option Value → iH → Prop} (H : (i_obj? h s0 11 ∧ i_C i_MT i_AT L xs 183 [.ref s0, .int s1] h (fun v h1 => ∃ r2 : Int32, v = some (.int r2) ∧ i_P i_MT i_AT L xs 162 35 [some (.ref x0), some (.int x1), some (.int x2)] [.int r2] h1 0 0 Q))) : i_P i_MT i_AT L xs 162 32 [some (.ref x0), some (.int x1), some (.int x2)] [.int s1, .ref s0] h 0 0 Q := by
  have hk := i_k162
  obtain ⟨ho, H⟩ := H
  refine g_call hk rfl rfl i_k183.1 ⟨rfl, rfl⟩ rfl (i_rcv_v ho rfl (by decide)) rfl ?_
  exact H.mono (fun v h2 q => by obtain ⟨r, rfl, q⟩ := q; exact q)
theorem b162_35 {x0 : Nat} {x1 : Int32} {x2 : Int32} {s0 : Int32} {h : iH} {Q : Option Value → iH → Prop} (H : Q (some (.int s0)) h) : i_P i_MT i_AT L xs 162 35 [some (.ref x0), some (.int x1), some (.int x2)] [.int s0] h 0 0 Q := by
  have hk := i_k162
  exact g_ireturn hk rfl (by decide) (by decide) rfl H
/-! StillTown.lamps(I)I -/
theorem e163 {x0 : Nat} {x1 : Int32} {h : iH} {Q : Option Value → iH → Prop} (H : i_P i_MT i_AT L xs 163 0 [some (.ref x0), some (.int x1)] [] h 0 0 Q) : i_C i_MT i_AT L xs 163 [.ref x0, .int x1] h Q := ⟨i_m163, i_k163.1, Nat.le_of_ble_eq_true rfl, H⟩
theorem b163_0 {x0 : Nat} {x1 : Int32} {h : iH} {Q : Option Value → iH → Prop} (H : (i_C i_MT i_AT L xs 192 [.int x1, .int (0 : Int32), .int (8 : Int32)] h (fun v h1 => ∃ r2 : Int32, v = some (.int r2) ∧ i_P i_MT i_AT L xs 163 7 [some (.ref x0), some (.int x1)] [.int r2] h1 0 0 Q))) : i_P i_MT i_AT L xs 163 0 [some (.ref x0), some (.int x1)] [] h 0 0 Q := by
  have hk := i_k163
  refine g_s1 (pc2 := 1) hk rfl rfl rfl rfl rfl ?_
  refine g_s1 (pc2 := 2) (st2 := [.int (0 : Int32), .int x1]) hk rfl rfl rfl rfl rfl ?_
  refine g_s1 (pc2 := 4) (st2 := [.int (8 : Int32), .int (0 : Int32), .int x1]) hk rfl rfl rfl rfl rfl ?_
  refine g_call hk rfl rfl i_k192.1 ⟨rfl, rfl⟩ rfl (i_rcv_0 rfl) rfl ?_
  exact H.mono (fun v h2 q => by obtain ⟨r, rfl, q⟩ := q; exact q)
theorem b163_7 {x0 : Nat} {x1 : Int32} {s0 : Int32} {h : iH} {Q : Option Value → iH → Prop} (H : ((¬ s0 = 0 → (∃ v1 : Nat, i_fld h x0 11 13 = some (.ref v1) ∧ (i_obj? h v1 5 ∧ i_C i_MT i_AT L xs 62 [.ref v1, .int x1] h (fun v h2 => ∃ r3 : Int32, v = some (.int r3) ∧ i_P i_MT i_AT L xs 163 25 [some (.ref x0), some (.int x1)] [.int r3, .ref x0] h2 0 0 Q)))) ∧ (¬ (¬ s0 = 0) → (i_obj? h x0 11 ∧ i_C i_MT i_AT L xs 179 [.ref x0, .int (1 : Int32)] h (fun v h4 => ∃ r5 : Int32, v = some (.int r5) ∧ i_P i_MT i_AT L xs 163 15 [some (.ref x0), some (.int x1)] [.int r5] h4 0 0 Q))))) : i_P i_MT i_AT L xs 163 7 [some (.ref x0), some (.int x1)] [.int s0] h 0 0 Q := by
  have hk := i_k163
  refine g_if_ne hk rfl (fun hc => ?_) (fun hc => ?_)
  · have H := H.1 hc
    refine g_s1 (pc2 := 17) hk rfl rfl rfl rfl rfl ?_
    refine g_s1 (pc2 := 18) hk rfl rfl rfl rfl rfl ?_
    obtain ⟨v1, ev1, H⟩ := H
    refine g_step (pc2 := 21) hk rfl rfl rfl (s_get ev1) ?_
    refine g_s1 (pc2 := 22) hk rfl rfl rfl rfl rfl ?_
    obtain ⟨ho, H⟩ := H
    refine g_call hk rfl rfl i_k62.1 ⟨rfl, rfl⟩ rfl (i_rcv_v ho rfl (by decide)) rfl ?_
    exact H.mono (fun v h2 q => by obtain ⟨r, rfl, q⟩ := q; exact q)
  · have H := H.2 hc
    refine g_s1 (pc2 := 11) hk rfl rfl rfl rfl rfl ?_
    refine g_s1 (pc2 := 12) (st2 := [.int (1 : Int32), .ref x0]) hk rfl rfl rfl rfl rfl ?_
    obtain ⟨ho, H⟩ := H
    refine g_call hk rfl rfl i_k179.1 ⟨rfl, rfl⟩ rfl (i_rcv_v ho rfl (by decide)) rfl ?_
    exact H.mono (fun v h2 q => by obtain ⟨r, rfl, q⟩ := q; exact q)
theorem b163_15 {x0 : Nat} {x1 : Int32} {s0 : Int32} {h : iH} {Q : Option Value → iH → Prop} (H : Q (some (.int s0)) h) : i_P i_MT i_AT L xs 163 15 [some (.ref x0), some (.int x1)] [.int s0] h 0 0 Q := by
  have hk := i_k163
  exact g_ireturn hk rfl (by decide) (by decide) rfl H
theorem b163_25 {x0 : Nat} {x1 : Int32} {s0 : Nat} {s1 : Int32} {h : iH} {Q : Option Value → iH → Prop} (H : (i_obj? h s0 11 ∧ i_C i_MT i_AT L xs 183 [.ref s0, .int s1] h (fun v h1 => ∃ r2 : Int32, v = some (.int r2) ∧ i_P i_MT i_AT L xs 163 28 [some (.ref x0), some (.int x1)] [.int r2] h1 0 0 Q))) : i_P i_MT i_AT L xs 163 25 [some (.ref x0), some (.int x1)] [.int s1, .ref s0] h 0 0 Q := by
  have hk := i_k163
  obtain ⟨ho, H⟩ := H
  refine g_call hk rfl rfl i_k183.1 ⟨rfl, rfl⟩ rfl (i_rcv_v ho rfl (by decide)) rfl ?_
  exact H.mono (fun v h2 q => by obtain ⟨r, rfl, q⟩ := q; exact q)
theorem b163_28 {x0 : Nat} {x1 : Int32} {s0 : Int32} {h : iH} {Q : Option Value → iH → Prop} (H : Q (some (.int s0)) h) : i_P i_MT i_AT L xs 163 28 [some (.ref x0), some (.int x1)] [.int s0] h 0 0 Q := by
  have hk := i_k163
  exact g_ireturn hk rfl (by decide) (by decide) rfl H
/-! StillTown.words(III)I -/
theorem e164 {x0 : Nat} {x1 : Int32} {x2 : Int32} {x3 : Int32} {h : iH} {Q : Option Value → iH → Prop} (H : i_P i_MT i_AT L xs 164 0 [some (.ref x0), some (.int x1), some (.int x2), some (.int x3), none] [] h 0 0 Q) : i_C i_MT i_AT L xs 164 [.ref x0, .int x1, .int x2, .int x3] h Q := ⟨i_m164, i_k164.1, Nat.le_of_ble_eq_true rfl, H⟩
theorem b164_0 {x0 : Nat} {x1 : Int32} {x2 : Int32} {x3 : Int32} {x4 : Option Value} {h : iH} {Q : Option Value → iH → Prop} (H : (∃ v1 : Nat, i_fld h x0 11 3 = some (.ref v1) ∧ (i_obj? h v1 10 ∧ i_C i_MT i_AT L xs 125 [.ref v1, .int x1, .int x2, .int x3] h (fun v h2 => ∃ r3 : Int32, v = some (.int r3) ∧ i_P i_MT i_AT L xs 164 10 [some (.ref x0), some (.int x1), some (.int x2), some (.int x3), x4] [.int r3] h2 0 0 Q)))) : i_P i_MT i_AT L xs 164 0 [some (.ref x0), some (.int x1), some (.int x2), some (.int x3), x4] [] h 0 0 Q := by
  have hk := i_k164
  refine g_s1 (pc2 := 1) hk rfl rfl rfl rfl rfl ?_
  obtain ⟨v1, ev1, H⟩ := H
  refine g_step (pc2 := 4) hk rfl rfl rfl (s_get ev1) ?_
  refine g_s1 (pc2 := 5) hk rfl rfl rfl rfl rfl ?_
  refine g_s1 (pc2 := 6) hk rfl rfl rfl rfl rfl ?_
  refine g_s1 (pc2 := 7) hk rfl rfl rfl rfl rfl ?_
  obtain ⟨ho, H⟩ := H
  refine g_call hk rfl rfl i_k125.1 ⟨rfl, rfl⟩ rfl (i_rcv_v ho rfl (by decide)) rfl ?_
  exact H.mono (fun v h2 q => by obtain ⟨r, rfl, q⟩ := q; exact q)
theorem b164_10 {x0 : Nat} {x1 : Int32} {x2 : Int32} {x3 : Int32} {x4 : Option Value} {s0 : Int32} {h : iH} {Q : Option Value → iH → Prop} (H : ((s0 = 0 → (∃ v1 : Nat, i_fld h x0 11 3 = some (.ref v1) ∧ (i_obj? h v1 10 ∧ i_C i_MT i_AT L xs 126 [.ref v1, .int x1, .int x2, .int x3] h (fun v h2 => ∃ r3 : Int32, v = some (.int r3) ∧ i_P i_MT i_AT L xs 164 35 [some (.ref x0), some (.int x1), some (.int x2), some (.int x3), some (.int s0)] [.int r3, .ref x0] h2 0 0 Q)))) ∧ (¬ (s0 = 0) → (i_obj? h x0 11 ∧ i_C i_MT i_AT L xs 179 [.ref x0, .int s0] h (fun v h4 => ∃ r5 : Int32, v = some (.int r5) ∧ i_P i_MT i_AT L xs 164 23 [some (.ref x0), some (.int x1), some (.int x2), some (.int x3), some (.int s0)] [.int r5] h4 0 0 Q))))) : i_P i_MT i_AT L xs 164 10 [some (.ref x0), some (.int x1), some (.int x2), some (.int x3), x4] [.int s0] h 0 0 Q := by
  have hk := i_k164
  refine g_s1 (pc2 := 12) (lo2 := [some (.ref x0), some (.int x1), some (.int x2), some (.int x3), some (.int s0)]) hk rfl rfl rfl rfl rfl ?_
  refine g_s1 (pc2 := 14) hk rfl rfl rfl rfl rfl ?_
  refine g_if_eq hk rfl (fun hc => ?_) (fun hc => ?_)
  · have H := H.1 hc
    refine g_s1 (pc2 := 25) hk rfl rfl rfl rfl rfl ?_
    refine g_s1 (pc2 := 26) hk rfl rfl rfl rfl rfl ?_
    obtain ⟨v1, ev1, H⟩ := H
    refine g_step (pc2 := 29) hk rfl rfl rfl (s_get ev1) ?_
    refine g_s1 (pc2 := 30) hk rfl rfl rfl rfl rfl ?_
    refine g_s1 (pc2 := 31) hk rfl rfl rfl rfl rfl ?_
    refine g_s1 (pc2 := 32) hk rfl rfl rfl rfl rfl ?_
    obtain ⟨ho, H⟩ := H
    refine g_call hk rfl rfl i_k126.1 ⟨rfl, rfl⟩ rfl (i_rcv_v ho rfl (by decide)) rfl ?_
    exact H.mono (fun v h2 q => by obtain ⟨r, rfl, q⟩ := q; exact q)
  · have H := H.2 hc
    refine g_s1 (pc2 := 18) hk rfl rfl rfl rfl rfl ?_
    refine g_s1 (pc2 := 20) hk rfl rfl rfl rfl rfl ?_
    obtain ⟨ho, H⟩ := H
    refine g_call hk rfl rfl i_k179.1 ⟨rfl, rfl⟩ rfl (i_rcv_v ho rfl (by decide)) rfl ?_
    exact H.mono (fun v h2 q => by obtain ⟨r, rfl, q⟩ := q; exact q)
theorem b164_23 {x0 : Nat} {x1 : Int32} {x2 : Int32} {x3 : Int32} {x4 : Int32} {s0 : Int32} {h : iH} {Q : Option Value → iH → Prop} (H : Q (some (.int s0)) h) : i_P i_MT i_AT L xs 164 23 [some (.ref x0), some (.int x1), some (.int x2), some (.int x3), some (.int x4)] [.int s0] h 0 0 Q := by
  have hk := i_k164
  exact g_ireturn hk rfl (by decide) (by decide) rfl H
theorem b164_35 {x0 : Nat} {x1 : Int32} {x2 : Int32} {x3 : Int32} {x4 : Int32} {s0 : Nat} {s1 : Int32} {h : iH} {Q : Option Value → iH → Prop} (H : (i_obj? h s0 11 ∧ i_C i_MT i_AT L xs 181 [.ref s0, .int s1] h (fun v h1 => ∃ r2 : Int32, v = some (.int r2) ∧ i_P i_MT i_AT L xs 164 38 [some (.ref x0), some (.int x1), some (.int x2), some (.int x3), some (.int x4)] [.int r2] h1 0 0 Q))) : i_P i_MT i_AT L xs 164 35 [some (.ref x0), some (.int x1), some (.int x2), some (.int x3), some (.int x4)] [.int s1, .ref s0] h 0 0 Q := by
  have hk := i_k164
  obtain ⟨ho, H⟩ := H
  refine g_call hk rfl rfl i_k181.1 ⟨rfl, rfl⟩ rfl (i_rcv_v ho rfl (by decide)) rfl ?_
  exact H.mono (fun v h2 q => by obtain ⟨r, rfl, q⟩ := q; exact q)
theorem b164_38 {x0 : Nat} {x1 : Int32} {x2 : Int32} {x3 : Int32} {x4 : Int32} {s0 : Int32} {h : iH} {Q : Option Value → iH → Prop} (H : Q (some (.int s0)) h) : i_P i_MT i_AT L xs 164 38 [some (.ref x0), some (.int x1), some (.int x2), some (.int x3), some (.int x4)] [.int s0] h 0 0 Q := by
  have hk := i_k164
  exact g_ireturn hk rfl (by decide) (by decide) rfl H
/-! StillTown.moving(I)I -/
theorem e165 {x0 : Nat} {x1 : Int32} {h : iH} {Q : Option Value → iH → Prop} (H : i_P i_MT i_AT L xs 165 0 [some (.ref x0), some (.int x1), none, none] [] h 0 0 Q) : i_C i_MT i_AT L xs 165 [.ref x0, .int x1] h Q := ⟨i_m165, i_k165.1, Nat.le_of_ble_eq_true rfl, H⟩
theorem b165_0 {x0 : Nat} {x1 : Int32} {x2 : Option Value} {x3 : Option Value} {h : iH} {Q : Option Value → iH → Prop} (H : (i_C i_MT i_AT L xs 191 [.int x1] h (fun v h1 => ∃ r2 : Int32, v = some (.int r2) ∧ i_P i_MT i_AT L xs 165 4 [some (.ref x0), some (.int x1), x2, x3] [.int r2] h1 0 0 Q))) : i_P i_MT i_AT L xs 165 0 [some (.ref x0), some (.int x1), x2, x3] [] h 0 0 Q := by
  have hk := i_k165
  refine g_s1 (pc2 := 1) hk rfl rfl rfl rfl rfl ?_
  refine g_call hk rfl rfl i_k191.1 ⟨rfl, rfl⟩ rfl (i_rcv_0 rfl) rfl ?_
  exact H.mono (fun v h2 q => by obtain ⟨r, rfl, q⟩ := q; exact q)
theorem b165_4 {x0 : Nat} {x1 : Int32} {x2 : Option Value} {x3 : Option Value} {s0 : Int32} {h : iH} {Q : Option Value → iH → Prop} (H : ((¬ s0 = 0 → i_P i_MT i_AT L xs 165 17 [some (.ref x0), some (.int x1), some (.int (0 : Int32)), some (.int (0 : Int32))] [] h 0 0 Q) ∧ (¬ (¬ s0 = 0) → (i_obj? h x0 11 ∧ i_C i_MT i_AT L xs 179 [.ref x0, .int (1 : Int32)] h (fun v h1 => ∃ r2 : Int32, v = some (.int r2) ∧ i_P i_MT i_AT L xs 165 12 [some (.ref x0), some (.int x1), x2, x3] [.int r2] h1 0 0 Q))))) : i_P i_MT i_AT L xs 165 4 [some (.ref x0), some (.int x1), x2, x3] [.int s0] h 0 0 Q := by
  have hk := i_k165
  refine g_if_ne hk rfl (fun hc => ?_) (fun hc => ?_)
  · have H := H.1 hc
    refine g_s1 (pc2 := 14) (st2 := [.int (0 : Int32)]) hk rfl rfl rfl rfl rfl ?_
    refine g_s1 (pc2 := 15) (lo2 := [some (.ref x0), some (.int x1), some (.int (0 : Int32)), x3]) hk rfl rfl rfl rfl rfl ?_
    refine g_s1 (pc2 := 16) (st2 := [.int (0 : Int32)]) hk rfl rfl rfl rfl rfl ?_
    refine g_s1 (pc2 := 17) (lo2 := [some (.ref x0), some (.int x1), some (.int (0 : Int32)), some (.int (0 : Int32))]) hk rfl rfl rfl rfl rfl ?_
    exact H
  · have H := H.2 hc
    refine g_s1 (pc2 := 8) hk rfl rfl rfl rfl rfl ?_
    refine g_s1 (pc2 := 9) (st2 := [.int (1 : Int32), .ref x0]) hk rfl rfl rfl rfl rfl ?_
    obtain ⟨ho, H⟩ := H
    refine g_call hk rfl rfl i_k179.1 ⟨rfl, rfl⟩ rfl (i_rcv_v ho rfl (by decide)) rfl ?_
    exact H.mono (fun v h2 q => by obtain ⟨r, rfl, q⟩ := q; exact q)
theorem b165_12 {x0 : Nat} {x1 : Int32} {x2 : Option Value} {x3 : Option Value} {s0 : Int32} {h : iH} {Q : Option Value → iH → Prop} (H : Q (some (.int s0)) h) : i_P i_MT i_AT L xs 165 12 [some (.ref x0), some (.int x1), x2, x3] [.int s0] h 0 0 Q := by
  have hk := i_k165
  exact g_ireturn hk rfl (by decide) (by decide) rfl H
theorem b165_17 {x0 : Nat} {x1 : Int32} {x2 : Int32} {x3 : Int32} {h : iH} {Q : Option Value → iH → Prop} (H : (∃ v1 : Nat, i_fld h x0 11 5 = some (.ref v1) ∧ (∃ v2 : Nat, i_fld h v1 8 12 = some (.ref v2) ∧ (∃ v3 : Int32, i_fld h v2 3 0 = some (.int v3) ∧ ((v3 ≤ x3 → i_P i_MT i_AT L xs 165 59 [some (.ref x0), some (.int x1), some (.int x2), some (.int (0 : Int32))] [] h 0 0 Q) ∧ (¬ (v3 ≤ x3) → (∃ v4 : Nat, i_fld h x0 11 11 = some (.ref v4) ∧ (i_obj? h v4 0 ∧ i_C i_MT i_AT L xs 6 [.ref v4, .int x3, .int x1] h (fun v h5 => ∃ r6 : Int32, v = some (.int r6) ∧ i_P i_MT i_AT L xs 165 41 [some (.ref x0), some (.int x1), some (.int x2), some (.int x3)] [.int r6, .int x2] h5 0 0 Q))))))))) : i_P i_MT i_AT L xs 165 17 [some (.ref x0), some (.int x1), some (.int x2), some (.int x3)] [] h 0 0 Q := by
  have hk := i_k165
  refine g_s1 (pc2 := 18) hk rfl rfl rfl rfl rfl ?_
  refine g_s1 (pc2 := 19) hk rfl rfl rfl rfl rfl ?_
  obtain ⟨v1, ev1, H⟩ := H
  refine g_step (pc2 := 22) hk rfl rfl rfl (s_get ev1) ?_
  obtain ⟨v2, ev2, H⟩ := H
  refine g_step (pc2 := 25) hk rfl rfl rfl (s_get ev2) ?_
  obtain ⟨v3, ev3, H⟩ := H
  refine g_step (pc2 := 28) hk rfl rfl rfl (s_get ev3) ?_
  refine g_icmp_ge hk rfl (fun hc => ?_) (fun hc => ?_)
  · have H := H.1 hc
    refine g_s1 (pc2 := 58) (st2 := [.int (0 : Int32)]) hk rfl rfl rfl rfl rfl ?_
    refine g_s1 (pc2 := 59) (lo2 := [some (.ref x0), some (.int x1), some (.int x2), some (.int (0 : Int32))]) hk rfl rfl rfl rfl rfl ?_
    exact H
  · have H := H.2 hc
    refine g_s1 (pc2 := 32) hk rfl rfl rfl rfl rfl ?_
    refine g_s1 (pc2 := 33) hk rfl rfl rfl rfl rfl ?_
    obtain ⟨v4, ev4, H⟩ := H
    refine g_step (pc2 := 36) hk rfl rfl rfl (s_get ev4) ?_
    refine g_s1 (pc2 := 37) hk rfl rfl rfl rfl rfl ?_
    refine g_s1 (pc2 := 38) hk rfl rfl rfl rfl rfl ?_
    obtain ⟨ho, H⟩ := H
    refine g_call hk rfl rfl i_k6.1 ⟨rfl, rfl⟩ rfl (i_rcv_v ho rfl (by decide)) rfl ?_
    exact H.mono (fun v h2 q => by obtain ⟨r, rfl, q⟩ := q; exact q)
theorem b165_41 {x0 : Nat} {x1 : Int32} {x2 : Int32} {x3 : Int32} {s0 : Int32} {s1 : Int32} {h : iH} {Q : Option Value → iH → Prop} (H : ((s1 = 0 → i_P i_MT i_AT L xs 165 49 [some (.ref x0), some (.int x1), some (.int x2), some (.int x3)] [.int (0 : Int32), .int s0] h 0 0 Q) ∧ (¬ (s1 = 0) → i_P i_MT i_AT L xs 165 49 [some (.ref x0), some (.int x1), some (.int x2), some (.int x3)] [.int (1 : Int32), .int s0] h 0 0 Q))) : i_P i_MT i_AT L xs 165 41 [some (.ref x0), some (.int x1), some (.int x2), some (.int x3)] [.int s1, .int s0] h 0 0 Q := by
  have hk := i_k165
  refine g_if_eq hk rfl (fun hc => ?_) (fun hc => ?_)
  · have H := H.1 hc
    refine g_s1 (pc2 := 49) (st2 := [.int (0 : Int32), .int s0]) hk rfl rfl rfl rfl rfl ?_
    exact H
  · have H := H.2 hc
    refine g_s1 (pc2 := 45) (st2 := [.int (1 : Int32), .int s0]) hk rfl rfl rfl rfl rfl ?_
    refine g_s1 (pc2 := 49) hk rfl rfl rfl rfl rfl ?_
    exact H
theorem b165_49 {x0 : Nat} {x1 : Int32} {x2 : Int32} {x3 : Int32} {s0 : Int32} {s1 : Int32} {h : iH} {Q : Option Value → iH → Prop} (H : i_P i_MT i_AT L xs 165 17 [some (.ref x0), some (.int x1), some (.int (s0 + s1)), some (.int (x3 + 1))] [] h 0 0 Q) : i_P i_MT i_AT L xs 165 49 [some (.ref x0), some (.int x1), some (.int x2), some (.int x3)] [.int s1, .int s0] h 0 0 Q := by
  have hk := i_k165
  refine g_s1 (pc2 := 50) hk rfl rfl rfl rfl rfl ?_
  refine g_s1 (pc2 := 51) (lo2 := [some (.ref x0), some (.int x1), some (.int (s0 + s1)), some (.int x3)]) hk rfl rfl rfl rfl rfl ?_
  refine g_s1 (pc2 := 54) (lo2 := [some (.ref x0), some (.int x1), some (.int (s0 + s1)), some (.int (x3 + 1))]) hk rfl rfl rfl rfl rfl ?_
  refine g_s1 (pc2 := 17) hk rfl rfl rfl rfl rfl ?_
  exact H
theorem b165_59 {x0 : Nat} {x1 : Int32} {x2 : Int32} {x3 : Int32} {h : iH} {Q : Option Value → iH → Prop} (H : (∃ v1 : Nat, i_fld h x0 11 5 = some (.ref v1) ∧ (∃ v2 : Int32, i_fld h v1 8 5 = some (.int v2) ∧ ((v2 ≤ x3 → (i_obj? h x0 11 ∧ i_C i_MT i_AT L xs 181 [.ref x0, .int x2] h (fun v h3 => ∃ r4 : Int32, v = some (.int r4) ∧ i_P i_MT i_AT L xs 165 101 [some (.ref x0), some (.int x1), some (.int x2), some (.int x3)] [.int r4] h3 0 0 Q))) ∧ (¬ (v2 ≤ x3) → (∃ v5 : Nat, i_fld h x0 11 11 = some (.ref v5) ∧ (i_obj? h v5 0 ∧ i_C i_MT i_AT L xs 8 [.ref v5, .int x3, .int x1] h (fun v h6 => ∃ r7 : Int32, v = some (.int r7) ∧ i_P i_MT i_AT L xs 165 80 [some (.ref x0), some (.int x1), some (.int x2), some (.int x3)] [.int r7, .int x2] h6 0 0 Q)))))))) : i_P i_MT i_AT L xs 165 59 [some (.ref x0), some (.int x1), some (.int x2), some (.int x3)] [] h 0 0 Q := by
  have hk := i_k165
  refine g_s1 (pc2 := 60) hk rfl rfl rfl rfl rfl ?_
  refine g_s1 (pc2 := 61) hk rfl rfl rfl rfl rfl ?_
  obtain ⟨v1, ev1, H⟩ := H
  refine g_step (pc2 := 64) hk rfl rfl rfl (s_get ev1) ?_
  obtain ⟨v2, ev2, H⟩ := H
  refine g_step (pc2 := 67) hk rfl rfl rfl (s_get ev2) ?_
  refine g_icmp_ge hk rfl (fun hc => ?_) (fun hc => ?_)
  · have H := H.1 hc
    refine g_s1 (pc2 := 97) hk rfl rfl rfl rfl rfl ?_
    refine g_s1 (pc2 := 98) hk rfl rfl rfl rfl rfl ?_
    obtain ⟨ho, H⟩ := H
    refine g_call hk rfl rfl i_k181.1 ⟨rfl, rfl⟩ rfl (i_rcv_v ho rfl (by decide)) rfl ?_
    exact H.mono (fun v h2 q => by obtain ⟨r, rfl, q⟩ := q; exact q)
  · have H := H.2 hc
    refine g_s1 (pc2 := 71) hk rfl rfl rfl rfl rfl ?_
    refine g_s1 (pc2 := 72) hk rfl rfl rfl rfl rfl ?_
    obtain ⟨v5, ev5, H⟩ := H
    refine g_step (pc2 := 75) hk rfl rfl rfl (s_get ev5) ?_
    refine g_s1 (pc2 := 76) hk rfl rfl rfl rfl rfl ?_
    refine g_s1 (pc2 := 77) hk rfl rfl rfl rfl rfl ?_
    obtain ⟨ho, H⟩ := H
    refine g_call hk rfl rfl i_k8.1 ⟨rfl, rfl⟩ rfl (i_rcv_v ho rfl (by decide)) rfl ?_
    exact H.mono (fun v h2 q => by obtain ⟨r, rfl, q⟩ := q; exact q)
theorem b165_80 {x0 : Nat} {x1 : Int32} {x2 : Int32} {x3 : Int32} {s0 : Int32} {s1 : Int32} {h : iH} {Q : Option Value → iH → Prop} (H : ((s1 = 0 → i_P i_MT i_AT L xs 165 88 [some (.ref x0), some (.int x1), some (.int x2), some (.int x3)] [.int (0 : Int32), .int s0] h 0 0 Q) ∧ (¬ (s1 = 0) → i_P i_MT i_AT L xs 165 88 [some (.ref x0), some (.int x1), some (.int x2), some (.int x3)] [.int (1 : Int32), .int s0] h 0 0 Q))) : i_P i_MT i_AT L xs 165 80 [some (.ref x0), some (.int x1), some (.int x2), some (.int x3)] [.int s1, .int s0] h 0 0 Q := by
  have hk := i_k165
  refine g_if_eq hk rfl (fun hc => ?_) (fun hc => ?_)
  · have H := H.1 hc
    refine g_s1 (pc2 := 88) (st2 := [.int (0 : Int32), .int s0]) hk rfl rfl rfl rfl rfl ?_
    exact H
  · have H := H.2 hc
    refine g_s1 (pc2 := 84) (st2 := [.int (1 : Int32), .int s0]) hk rfl rfl rfl rfl rfl ?_
    refine g_s1 (pc2 := 88) hk rfl rfl rfl rfl rfl ?_
    exact H
theorem b165_88 {x0 : Nat} {x1 : Int32} {x2 : Int32} {x3 : Int32} {s0 : Int32} {s1 : Int32} {h : iH} {Q : Option Value → iH → Prop} (H : i_P i_MT i_AT L xs 165 59 [some (.ref x0), some (.int x1), some (.int (s0 + s1)), some (.int (x3 + 1))] [] h 0 0 Q) : i_P i_MT i_AT L xs 165 88 [some (.ref x0), some (.int x1), some (.int x2), some (.int x3)] [.int s1, .int s0] h 0 0 Q := by
  have hk := i_k165
  refine g_s1 (pc2 := 89) hk rfl rfl rfl rfl rfl ?_
  refine g_s1 (pc2 := 90) (lo2 := [some (.ref x0), some (.int x1), some (.int (s0 + s1)), some (.int x3)]) hk rfl rfl rfl rfl rfl ?_
  refine g_s1 (pc2 := 93) (lo2 := [some (.ref x0), some (.int x1), some (.int (s0 + s1)), some (.int (x3 + 1))]) hk rfl rfl rfl rfl rfl ?_
  refine g_s1 (pc2 := 59) hk rfl rfl rfl rfl rfl ?_
  exact H
theorem b165_101 {x0 : Nat} {x1 : Int32} {x2 : Int32} {x3 : Int32} {s0 : Int32} {h : iH} {Q : Option Value → iH → Prop} (H : Q (some (.int s0)) h) : i_P i_MT i_AT L xs 165 101 [some (.ref x0), some (.int x1), some (.int x2), some (.int x3)] [.int s0] h 0 0 Q := by
  have hk := i_k165
  exact g_ireturn hk rfl (by decide) (by decide) rfl H
/-! StillTown.gone(I)I -/
theorem e166 {x0 : Nat} {x1 : Int32} {h : iH} {Q : Option Value → iH → Prop} (H : i_P i_MT i_AT L xs 166 0 [some (.ref x0), some (.int x1), none, none] [] h 0 0 Q) : i_C i_MT i_AT L xs 166 [.ref x0, .int x1] h Q := ⟨i_m166, i_k166.1, Nat.le_of_ble_eq_true rfl, H⟩
theorem b166_0 {x0 : Nat} {x1 : Int32} {x2 : Option Value} {x3 : Option Value} {h : iH} {Q : Option Value → iH → Prop} (H : (i_obj? h x0 11 ∧ i_C i_MT i_AT L xs 186 [.ref x0, .int x1] h (fun v h1 => ∃ r2 : Int32, v = some (.int r2) ∧ i_P i_MT i_AT L xs 166 5 [some (.ref x0), some (.int x1), x2, x3] [.int r2] h1 0 0 Q))) : i_P i_MT i_AT L xs 166 0 [some (.ref x0), some (.int x1), x2, x3] [] h 0 0 Q := by
  have hk := i_k166
  refine g_s1 (pc2 := 1) hk rfl rfl rfl rfl rfl ?_
  refine g_s1 (pc2 := 2) hk rfl rfl rfl rfl rfl ?_
  obtain ⟨ho, H⟩ := H
  refine g_call hk rfl rfl i_k186.1 ⟨rfl, rfl⟩ rfl (i_rcv_v ho rfl (by decide)) rfl ?_
  exact H.mono (fun v h2 q => by obtain ⟨r, rfl, q⟩ := q; exact q)
theorem b166_5 {x0 : Nat} {x1 : Int32} {x2 : Option Value} {x3 : Option Value} {s0 : Int32} {h : iH} {Q : Option Value → iH → Prop} (H : ((¬ s0 = 0 → i_P i_MT i_AT L xs 166 18 [some (.ref x0), some (.int x1), some (.int (0 : Int32)), some (.int (1 : Int32))] [] h 0 0 Q) ∧ (¬ (¬ s0 = 0) → (i_obj? h x0 11 ∧ i_C i_MT i_AT L xs 179 [.ref x0, .int (1 : Int32)] h (fun v h1 => ∃ r2 : Int32, v = some (.int r2) ∧ i_P i_MT i_AT L xs 166 13 [some (.ref x0), some (.int x1), x2, x3] [.int r2] h1 0 0 Q))))) : i_P i_MT i_AT L xs 166 5 [some (.ref x0), some (.int x1), x2, x3] [.int s0] h 0 0 Q := by
  have hk := i_k166
  refine g_if_ne hk rfl (fun hc => ?_) (fun hc => ?_)
  · have H := H.1 hc
    refine g_s1 (pc2 := 15) (st2 := [.int (0 : Int32)]) hk rfl rfl rfl rfl rfl ?_
    refine g_s1 (pc2 := 16) (lo2 := [some (.ref x0), some (.int x1), some (.int (0 : Int32)), x3]) hk rfl rfl rfl rfl rfl ?_
    refine g_s1 (pc2 := 17) (st2 := [.int (1 : Int32)]) hk rfl rfl rfl rfl rfl ?_
    refine g_s1 (pc2 := 18) (lo2 := [some (.ref x0), some (.int x1), some (.int (0 : Int32)), some (.int (1 : Int32))]) hk rfl rfl rfl rfl rfl ?_
    exact H
  · have H := H.2 hc
    refine g_s1 (pc2 := 9) hk rfl rfl rfl rfl rfl ?_
    refine g_s1 (pc2 := 10) (st2 := [.int (1 : Int32), .ref x0]) hk rfl rfl rfl rfl rfl ?_
    obtain ⟨ho, H⟩ := H
    refine g_call hk rfl rfl i_k179.1 ⟨rfl, rfl⟩ rfl (i_rcv_v ho rfl (by decide)) rfl ?_
    exact H.mono (fun v h2 q => by obtain ⟨r, rfl, q⟩ := q; exact q)
theorem b166_13 {x0 : Nat} {x1 : Int32} {x2 : Option Value} {x3 : Option Value} {s0 : Int32} {h : iH} {Q : Option Value → iH → Prop} (H : Q (some (.int s0)) h) : i_P i_MT i_AT L xs 166 13 [some (.ref x0), some (.int x1), x2, x3] [.int s0] h 0 0 Q := by
  have hk := i_k166
  exact g_ireturn hk rfl (by decide) (by decide) rfl H
theorem b166_18 {x0 : Nat} {x1 : Int32} {x2 : Int32} {x3 : Int32} {h : iH} {Q : Option Value → iH → Prop} (H : (((60 : Int32) < x3 → (i_obj? h x0 11 ∧ i_C i_MT i_AT L xs 181 [.ref x0, .int x2] h (fun v h1 => ∃ r2 : Int32, v = some (.int r2) ∧ i_P i_MT i_AT L xs 166 55 [some (.ref x0), some (.int x1), some (.int x2), some (.int x3)] [.int r2] h1 0 0 Q))) ∧ (¬ ((60 : Int32) < x3) → (∃ v3 : Nat, i_fld h x0 11 11 = some (.ref v3) ∧ (i_obj? h v3 0 ∧ i_C i_MT i_AT L xs 15 [.ref v3, .int x1, .int x3] h (fun v h4 => ∃ r5 : Int32, v = some (.int r5) ∧ i_P i_MT i_AT L xs 166 34 [some (.ref x0), some (.int x1), some (.int x2), some (.int x3)] [.int r5, .int x2] h4 0 0 Q)))))) : i_P i_MT i_AT L xs 166 18 [some (.ref x0), some (.int x1), some (.int x2), some (.int x3)] [] h 0 0 Q := by
  have hk := i_k166
  refine g_s1 (pc2 := 19) hk rfl rfl rfl rfl rfl ?_
  refine g_s1 (pc2 := 21) (st2 := [.int (60 : Int32), .int x3]) hk rfl rfl rfl rfl rfl ?_
  refine g_icmp_gt hk rfl (fun hc => ?_) (fun hc => ?_)
  · have H := H.1 hc
    refine g_s1 (pc2 := 51) hk rfl rfl rfl rfl rfl ?_
    refine g_s1 (pc2 := 52) hk rfl rfl rfl rfl rfl ?_
    obtain ⟨ho, H⟩ := H
    refine g_call hk rfl rfl i_k181.1 ⟨rfl, rfl⟩ rfl (i_rcv_v ho rfl (by decide)) rfl ?_
    exact H.mono (fun v h2 q => by obtain ⟨r, rfl, q⟩ := q; exact q)
  · have H := H.2 hc
    refine g_s1 (pc2 := 25) hk rfl rfl rfl rfl rfl ?_
    refine g_s1 (pc2 := 26) hk rfl rfl rfl rfl rfl ?_
    obtain ⟨v3, ev3, H⟩ := H
    refine g_step (pc2 := 29) hk rfl rfl rfl (s_get ev3) ?_
    refine g_s1 (pc2 := 30) hk rfl rfl rfl rfl rfl ?_
    refine g_s1 (pc2 := 31) hk rfl rfl rfl rfl rfl ?_
    obtain ⟨ho, H⟩ := H
    refine g_call hk rfl rfl i_k15.1 ⟨rfl, rfl⟩ rfl (i_rcv_v ho rfl (by decide)) rfl ?_
    exact H.mono (fun v h2 q => by obtain ⟨r, rfl, q⟩ := q; exact q)
theorem b166_34 {x0 : Nat} {x1 : Int32} {x2 : Int32} {x3 : Int32} {s0 : Int32} {s1 : Int32} {h : iH} {Q : Option Value → iH → Prop} (H : ((s1 = 0 → i_P i_MT i_AT L xs 166 42 [some (.ref x0), some (.int x1), some (.int x2), some (.int x3)] [.int (1 : Int32), .int s0] h 0 0 Q) ∧ (¬ (s1 = 0) → i_P i_MT i_AT L xs 166 42 [some (.ref x0), some (.int x1), some (.int x2), some (.int x3)] [.int (0 : Int32), .int s0] h 0 0 Q))) : i_P i_MT i_AT L xs 166 34 [some (.ref x0), some (.int x1), some (.int x2), some (.int x3)] [.int s1, .int s0] h 0 0 Q := by
  have hk := i_k166
  refine g_if_eq hk rfl (fun hc => ?_) (fun hc => ?_)
  · have H := H.1 hc
    refine g_s1 (pc2 := 42) (st2 := [.int (1 : Int32), .int s0]) hk rfl rfl rfl rfl rfl ?_
    exact H
  · have H := H.2 hc
    refine g_s1 (pc2 := 38) (st2 := [.int (0 : Int32), .int s0]) hk rfl rfl rfl rfl rfl ?_
    refine g_s1 (pc2 := 42) hk rfl rfl rfl rfl rfl ?_
    exact H
theorem b166_42 {x0 : Nat} {x1 : Int32} {x2 : Int32} {x3 : Int32} {s0 : Int32} {s1 : Int32} {h : iH} {Q : Option Value → iH → Prop} (H : i_P i_MT i_AT L xs 166 18 [some (.ref x0), some (.int x1), some (.int (s0 + s1)), some (.int (x3 + 1))] [] h 0 0 Q) : i_P i_MT i_AT L xs 166 42 [some (.ref x0), some (.int x1), some (.int x2), some (.int x3)] [.int s1, .int s0] h 0 0 Q := by
  have hk := i_k166
  refine g_s1 (pc2 := 43) hk rfl rfl rfl rfl rfl ?_
  refine g_s1 (pc2 := 44) (lo2 := [some (.ref x0), some (.int x1), some (.int (s0 + s1)), some (.int x3)]) hk rfl rfl rfl rfl rfl ?_
  refine g_s1 (pc2 := 47) (lo2 := [some (.ref x0), some (.int x1), some (.int (s0 + s1)), some (.int (x3 + 1))]) hk rfl rfl rfl rfl rfl ?_
  refine g_s1 (pc2 := 18) hk rfl rfl rfl rfl rfl ?_
  exact H
theorem b166_55 {x0 : Nat} {x1 : Int32} {x2 : Int32} {x3 : Int32} {s0 : Int32} {h : iH} {Q : Option Value → iH → Prop} (H : Q (some (.int s0)) h) : i_P i_MT i_AT L xs 166 55 [some (.ref x0), some (.int x1), some (.int x2), some (.int x3)] [.int s0] h 0 0 Q := by
  have hk := i_k166
  exact g_ireturn hk rfl (by decide) (by decide) rfl H
/-! StillTown.stands(II)I -/
theorem e167 {x0 : Nat} {x1 : Int32} {x2 : Int32} {h : iH} {Q : Option Value → iH → Prop} (H : i_P i_MT i_AT L xs 167 0 [some (.ref x0), some (.int x1), some (.int x2), none, none] [] h 0 0 Q) : i_C i_MT i_AT L xs 167 [.ref x0, .int x1, .int x2] h Q := ⟨i_m167, i_k167.1, Nat.le_of_ble_eq_true rfl, H⟩
theorem b167_0 {x0 : Nat} {x1 : Int32} {x2 : Int32} {x3 : Option Value} {x4 : Option Value} {h : iH} {Q : Option Value → iH → Prop} (H : (i_obj? h x0 11 ∧ i_C i_MT i_AT L xs 186 [.ref x0, .int x1] h (fun v h1 => ∃ r2 : Int32, v = some (.int r2) ∧ i_P i_MT i_AT L xs 167 5 [some (.ref x0), some (.int x1), some (.int x2), x3, x4] [.int r2] h1 0 0 Q))) : i_P i_MT i_AT L xs 167 0 [some (.ref x0), some (.int x1), some (.int x2), x3, x4] [] h 0 0 Q := by
  have hk := i_k167
  refine g_s1 (pc2 := 1) hk rfl rfl rfl rfl rfl ?_
  refine g_s1 (pc2 := 2) hk rfl rfl rfl rfl rfl ?_
  obtain ⟨ho, H⟩ := H
  refine g_call hk rfl rfl i_k186.1 ⟨rfl, rfl⟩ rfl (i_rcv_v ho rfl (by decide)) rfl ?_
  exact H.mono (fun v h2 q => by obtain ⟨r, rfl, q⟩ := q; exact q)
theorem b167_5 {x0 : Nat} {x1 : Int32} {x2 : Int32} {x3 : Option Value} {x4 : Option Value} {s0 : Int32} {h : iH} {Q : Option Value → iH → Prop} (H : ((s0 = 0 → i_P i_MT i_AT L xs 167 15 [some (.ref x0), some (.int x1), some (.int x2), x3, x4] [] h 0 0 Q) ∧ (¬ (s0 = 0) → (i_C i_MT i_AT L xs 190 [.int x2] h (fun v h1 => ∃ r2 : Int32, v = some (.int r2) ∧ i_P i_MT i_AT L xs 167 12 [some (.ref x0), some (.int x1), some (.int x2), x3, x4] [.int r2] h1 0 0 Q))))) : i_P i_MT i_AT L xs 167 5 [some (.ref x0), some (.int x1), some (.int x2), x3, x4] [.int s0] h 0 0 Q := by
  have hk := i_k167
  refine g_if_eq hk rfl (fun hc => ?_) (fun hc => ?_)
  · have H := H.1 hc
    exact H
  · have H := H.2 hc
    refine g_s1 (pc2 := 9) hk rfl rfl rfl rfl rfl ?_
    refine g_call hk rfl rfl i_k190.1 ⟨rfl, rfl⟩ rfl (i_rcv_0 rfl) rfl ?_
    exact H.mono (fun v h2 q => by obtain ⟨r, rfl, q⟩ := q; exact q)
theorem b167_12 {x0 : Nat} {x1 : Int32} {x2 : Int32} {x3 : Option Value} {x4 : Option Value} {s0 : Int32} {h : iH} {Q : Option Value → iH → Prop} (H : ((¬ s0 = 0 → i_P i_MT i_AT L xs 167 26 [some (.ref x0), some (.int x1), some (.int x2), some (.int (0 : Int32)), some (.int (0 : Int32))] [] h 0 0 Q) ∧ (¬ (¬ s0 = 0) → i_P i_MT i_AT L xs 167 15 [some (.ref x0), some (.int x1), some (.int x2), x3, x4] [] h 0 0 Q))) : i_P i_MT i_AT L xs 167 12 [some (.ref x0), some (.int x1), some (.int x2), x3, x4] [.int s0] h 0 0 Q := by
  have hk := i_k167
  refine g_if_ne hk rfl (fun hc => ?_) (fun hc => ?_)
  · have H := H.1 hc
    refine g_s1 (pc2 := 22) (st2 := [.int (0 : Int32)]) hk rfl rfl rfl rfl rfl ?_
    refine g_s1 (pc2 := 23) (lo2 := [some (.ref x0), some (.int x1), some (.int x2), some (.int (0 : Int32)), x4]) hk rfl rfl rfl rfl rfl ?_
    refine g_s1 (pc2 := 24) (st2 := [.int (0 : Int32)]) hk rfl rfl rfl rfl rfl ?_
    refine g_s1 (pc2 := 26) (lo2 := [some (.ref x0), some (.int x1), some (.int x2), some (.int (0 : Int32)), some (.int (0 : Int32))]) hk rfl rfl rfl rfl rfl ?_
    exact H
  · have H := H.2 hc
    exact H
theorem b167_15 {x0 : Nat} {x1 : Int32} {x2 : Int32} {x3 : Option Value} {x4 : Option Value} {h : iH} {Q : Option Value → iH → Prop} (H : (i_obj? h x0 11 ∧ i_C i_MT i_AT L xs 179 [.ref x0, .int (1 : Int32)] h (fun v h1 => ∃ r2 : Int32, v = some (.int r2) ∧ i_P i_MT i_AT L xs 167 20 [some (.ref x0), some (.int x1), some (.int x2), x3, x4] [.int r2] h1 0 0 Q))) : i_P i_MT i_AT L xs 167 15 [some (.ref x0), some (.int x1), some (.int x2), x3, x4] [] h 0 0 Q := by
  have hk := i_k167
  refine g_s1 (pc2 := 16) hk rfl rfl rfl rfl rfl ?_
  refine g_s1 (pc2 := 17) (st2 := [.int (1 : Int32), .ref x0]) hk rfl rfl rfl rfl rfl ?_
  obtain ⟨ho, H⟩ := H
  refine g_call hk rfl rfl i_k179.1 ⟨rfl, rfl⟩ rfl (i_rcv_v ho rfl (by decide)) rfl ?_
  exact H.mono (fun v h2 q => by obtain ⟨r, rfl, q⟩ := q; exact q)
theorem b167_20 {x0 : Nat} {x1 : Int32} {x2 : Int32} {x3 : Option Value} {x4 : Option Value} {s0 : Int32} {h : iH} {Q : Option Value → iH → Prop} (H : Q (some (.int s0)) h) : i_P i_MT i_AT L xs 167 20 [some (.ref x0), some (.int x1), some (.int x2), x3, x4] [.int s0] h 0 0 Q := by
  have hk := i_k167
  exact g_ireturn hk rfl (by decide) (by decide) rfl H
theorem b167_26 {x0 : Nat} {x1 : Int32} {x2 : Int32} {x3 : Int32} {x4 : Int32} {h : iH} {Q : Option Value → iH → Prop} (H : (∃ v1 : Nat, i_fld h x0 11 5 = some (.ref v1) ∧ (∃ v2 : Nat, i_fld h v1 8 12 = some (.ref v2) ∧ (∃ v3 : Int32, i_fld h v2 3 0 = some (.int v3) ∧ ((v3 ≤ x4 → (i_obj? h x0 11 ∧ i_C i_MT i_AT L xs 181 [.ref x0, .int x3] h (fun v h4 => ∃ r5 : Int32, v = some (.int r5) ∧ i_P i_MT i_AT L xs 167 84 [some (.ref x0), some (.int x1), some (.int x2), some (.int x3), some (.int x4)] [.int r5] h4 0 0 Q))) ∧ (¬ (v3 ≤ x4) → (∃ v6 : Nat, i_fld h x0 11 11 = some (.ref v6) ∧ (i_obj? h v6 0 ∧ i_C i_MT i_AT L xs 10 [.ref v6, .int x1, .int x2] h (fun v h7 => ∃ r8 : Int64, v = some (.long r8) ∧ i_P i_MT i_AT L xs 167 50 [some (.ref x0), some (.int x1), some (.int x2), some (.int x3), some (.int x4)] [.long r8] h7 0 0 Q))))))))) : i_P i_MT i_AT L xs 167 26 [some (.ref x0), some (.int x1), some (.int x2), some (.int x3), some (.int x4)] [] h 0 0 Q := by
  have hk := i_k167
  refine g_s1 (pc2 := 28) hk rfl rfl rfl rfl rfl ?_
  refine g_s1 (pc2 := 29) hk rfl rfl rfl rfl rfl ?_
  obtain ⟨v1, ev1, H⟩ := H
  refine g_step (pc2 := 32) hk rfl rfl rfl (s_get ev1) ?_
  obtain ⟨v2, ev2, H⟩ := H
  refine g_step (pc2 := 35) hk rfl rfl rfl (s_get ev2) ?_
  obtain ⟨v3, ev3, H⟩ := H
  refine g_step (pc2 := 38) hk rfl rfl rfl (s_get ev3) ?_
  refine g_icmp_ge hk rfl (fun hc => ?_) (fun hc => ?_)
  · have H := H.1 hc
    refine g_s1 (pc2 := 80) hk rfl rfl rfl rfl rfl ?_
    refine g_s1 (pc2 := 81) hk rfl rfl rfl rfl rfl ?_
    obtain ⟨ho, H⟩ := H
    refine g_call hk rfl rfl i_k181.1 ⟨rfl, rfl⟩ rfl (i_rcv_v ho rfl (by decide)) rfl ?_
    exact H.mono (fun v h2 q => by obtain ⟨r, rfl, q⟩ := q; exact q)
  · have H := H.2 hc
    refine g_s1 (pc2 := 42) hk rfl rfl rfl rfl rfl ?_
    obtain ⟨v6, ev6, H⟩ := H
    refine g_step (pc2 := 45) hk rfl rfl rfl (s_get ev6) ?_
    refine g_s1 (pc2 := 46) hk rfl rfl rfl rfl rfl ?_
    refine g_s1 (pc2 := 47) hk rfl rfl rfl rfl rfl ?_
    obtain ⟨ho, H⟩ := H
    refine g_call hk rfl rfl i_k10.1 ⟨rfl, rfl⟩ rfl (i_rcv_v ho rfl (by decide)) rfl ?_
    exact H.mono (fun v h2 q => by obtain ⟨r, rfl, q⟩ := q; exact q)
theorem b167_50 {x0 : Nat} {x1 : Int32} {x2 : Int32} {x3 : Int32} {x4 : Int32} {s0 : Int64} {h : iH} {Q : Option Value → iH → Prop} (H : (∃ v1 : Nat, i_fld h x0 11 11 = some (.ref v1) ∧ (i_obj? h v1 0 ∧ i_C i_MT i_AT L xs 4 [.ref v1, .int x4, .int x2] h (fun v h2 => ∃ r3 : Int32, v = some (.int r3) ∧ i_P i_MT i_AT L xs 167 60 [some (.ref x0), some (.int x1), some (.int x2), some (.int x3), some (.int x4)] [.int r3, .long s0] h2 0 0 Q)))) : i_P i_MT i_AT L xs 167 50 [some (.ref x0), some (.int x1), some (.int x2), some (.int x3), some (.int x4)] [.long s0] h 0 0 Q := by
  have hk := i_k167
  refine g_s1 (pc2 := 51) hk rfl rfl rfl rfl rfl ?_
  obtain ⟨v1, ev1, H⟩ := H
  refine g_step (pc2 := 54) hk rfl rfl rfl (s_get ev1) ?_
  refine g_s1 (pc2 := 56) hk rfl rfl rfl rfl rfl ?_
  refine g_s1 (pc2 := 57) hk rfl rfl rfl rfl rfl ?_
  obtain ⟨ho, H⟩ := H
  refine g_call hk rfl rfl i_k4.1 ⟨rfl, rfl⟩ rfl (i_rcv_v ho rfl (by decide)) rfl ?_
  exact H.mono (fun v h2 q => by obtain ⟨r, rfl, q⟩ := q; exact q)
theorem b167_60 {x0 : Nat} {x1 : Int32} {x2 : Int32} {x3 : Int32} {x4 : Int32} {s0 : Int64} {s1 : Int32} {h : iH} {Q : Option Value → iH → Prop} (H : (i_C i_MT i_AT L xs 193 [.long s0, .int s1] h (fun v h1 => ∃ r2 : Int32, v = some (.int r2) ∧ i_P i_MT i_AT L xs 167 63 [some (.ref x0), some (.int x1), some (.int x2), some (.int x3), some (.int x4)] [.int r2] h1 0 0 Q))) : i_P i_MT i_AT L xs 167 60 [some (.ref x0), some (.int x1), some (.int x2), some (.int x3), some (.int x4)] [.int s1, .long s0] h 0 0 Q := by
  have hk := i_k167
  refine g_call hk rfl rfl i_k193.1 ⟨rfl, rfl⟩ rfl (i_rcv_0 rfl) rfl ?_
  exact H.mono (fun v h2 q => by obtain ⟨r, rfl, q⟩ := q; exact q)
theorem b167_63 {x0 : Nat} {x1 : Int32} {x2 : Int32} {x3 : Int32} {x4 : Int32} {s0 : Int32} {h : iH} {Q : Option Value → iH → Prop} (H : ((s0 = 0 → i_P i_MT i_AT L xs 167 73 [some (.ref x0), some (.int x1), some (.int x2), some (.int x3), some (.int x4)] [] h 0 0 Q) ∧ (¬ (s0 = 0) → i_P i_MT i_AT L xs 167 73 [some (.ref x0), some (.int x1), some (.int x2), some (.int (x3 ||| ((1 : Int32) <<< (x4 &&& 31)))), some (.int x4)] [] h 0 0 Q))) : i_P i_MT i_AT L xs 167 63 [some (.ref x0), some (.int x1), some (.int x2), some (.int x3), some (.int x4)] [.int s0] h 0 0 Q := by
  have hk := i_k167
  refine g_if_eq hk rfl (fun hc => ?_) (fun hc => ?_)
  · have H := H.1 hc
    exact H
  · have H := H.2 hc
    refine g_s1 (pc2 := 67) hk rfl rfl rfl rfl rfl ?_
    refine g_s1 (pc2 := 68) (st2 := [.int (1 : Int32), .int x3]) hk rfl rfl rfl rfl rfl ?_
    refine g_s1 (pc2 := 70) hk rfl rfl rfl rfl rfl ?_
    refine g_s1 (pc2 := 71) hk rfl rfl rfl rfl rfl ?_
    refine g_s1 (pc2 := 72) hk rfl rfl rfl rfl rfl ?_
    refine g_s1 (pc2 := 73) (lo2 := [some (.ref x0), some (.int x1), some (.int x2), some (.int (x3 ||| ((1 : Int32) <<< (x4 &&& 31)))), some (.int x4)]) hk rfl rfl rfl rfl rfl ?_
    exact H
theorem b167_73 {x0 : Nat} {x1 : Int32} {x2 : Int32} {x3 : Int32} {x4 : Int32} {h : iH} {Q : Option Value → iH → Prop} (H : i_P i_MT i_AT L xs 167 26 [some (.ref x0), some (.int x1), some (.int x2), some (.int x3), some (.int (x4 + 1))] [] h 0 0 Q) : i_P i_MT i_AT L xs 167 73 [some (.ref x0), some (.int x1), some (.int x2), some (.int x3), some (.int x4)] [] h 0 0 Q := by
  have hk := i_k167
  refine g_s1 (pc2 := 76) (lo2 := [some (.ref x0), some (.int x1), some (.int x2), some (.int x3), some (.int (x4 + 1))]) hk rfl rfl rfl rfl rfl ?_
  refine g_s1 (pc2 := 26) hk rfl rfl rfl rfl rfl ?_
  exact H
theorem b167_84 {x0 : Nat} {x1 : Int32} {x2 : Int32} {x3 : Int32} {x4 : Int32} {s0 : Int32} {h : iH} {Q : Option Value → iH → Prop} (H : Q (some (.int s0)) h) : i_P i_MT i_AT L xs 167 84 [some (.ref x0), some (.int x1), some (.int x2), some (.int x3), some (.int x4)] [.int s0] h 0 0 Q := by
  have hk := i_k167
  exact g_ireturn hk rfl (by decide) (by decide) rfl H
/-! StillTown.stood(II)I -/
theorem e168 {x0 : Nat} {x1 : Int32} {x2 : Int32} {h : iH} {Q : Option Value → iH → Prop} (H : i_P i_MT i_AT L xs 168 0 [some (.ref x0), some (.int x1), some (.int x2), none, none, none] [] h 0 0 Q) : i_C i_MT i_AT L xs 168 [.ref x0, .int x1, .int x2] h Q := ⟨i_m168, i_k168.1, Nat.le_of_ble_eq_true rfl, H⟩
theorem b168_0 {x0 : Nat} {x1 : Int32} {x2 : Int32} {x3 : Option Value} {x4 : Option Value} {x5 : Option Value} {h : iH} {Q : Option Value → iH → Prop} (H : (i_obj? h x0 11 ∧ i_C i_MT i_AT L xs 187 [.ref x0, .int x1, .int x2] h (fun v h1 => ∃ r2 : Int32, v = some (.int r2) ∧ i_P i_MT i_AT L xs 168 6 [some (.ref x0), some (.int x1), some (.int x2), x3, x4, x5] [.int r2] h1 0 0 Q))) : i_P i_MT i_AT L xs 168 0 [some (.ref x0), some (.int x1), some (.int x2), x3, x4, x5] [] h 0 0 Q := by
  have hk := i_k168
  refine g_s1 (pc2 := 1) hk rfl rfl rfl rfl rfl ?_
  refine g_s1 (pc2 := 2) hk rfl rfl rfl rfl rfl ?_
  refine g_s1 (pc2 := 3) hk rfl rfl rfl rfl rfl ?_
  obtain ⟨ho, H⟩ := H
  refine g_call hk rfl rfl i_k187.1 ⟨rfl, rfl⟩ rfl (i_rcv_v ho rfl (by decide)) rfl ?_
  exact H.mono (fun v h2 q => by obtain ⟨r, rfl, q⟩ := q; exact q)
theorem b168_6 {x0 : Nat} {x1 : Int32} {x2 : Int32} {x3 : Option Value} {x4 : Option Value} {x5 : Option Value} {s0 : Int32} {h : iH} {Q : Option Value → iH → Prop} (H : ((¬ s0 = 0 → i_P i_MT i_AT L xs 168 23 [some (.ref x0), some (.int x1), some (.int x2), some (.int (0 : Int32)), some (.int (0 : Int32)), some (.int (1 : Int32))] [] h 0 0 Q) ∧ (¬ (¬ s0 = 0) → (i_obj? h x0 11 ∧ i_C i_MT i_AT L xs 179 [.ref x0, .int (1 : Int32)] h (fun v h1 => ∃ r2 : Int32, v = some (.int r2) ∧ i_P i_MT i_AT L xs 168 14 [some (.ref x0), some (.int x1), some (.int x2), x3, x4, x5] [.int r2] h1 0 0 Q))))) : i_P i_MT i_AT L xs 168 6 [some (.ref x0), some (.int x1), some (.int x2), x3, x4, x5] [.int s0] h 0 0 Q := by
  have hk := i_k168
  refine g_if_ne hk rfl (fun hc => ?_) (fun hc => ?_)
  · have H := H.1 hc
    refine g_s1 (pc2 := 16) (st2 := [.int (0 : Int32)]) hk rfl rfl rfl rfl rfl ?_
    refine g_s1 (pc2 := 17) (lo2 := [some (.ref x0), some (.int x1), some (.int x2), some (.int (0 : Int32)), x4, x5]) hk rfl rfl rfl rfl rfl ?_
    refine g_s1 (pc2 := 18) (st2 := [.int (0 : Int32)]) hk rfl rfl rfl rfl rfl ?_
    refine g_s1 (pc2 := 20) (lo2 := [some (.ref x0), some (.int x1), some (.int x2), some (.int (0 : Int32)), some (.int (0 : Int32)), x5]) hk rfl rfl rfl rfl rfl ?_
    refine g_s1 (pc2 := 21) (st2 := [.int (1 : Int32)]) hk rfl rfl rfl rfl rfl ?_
    refine g_s1 (pc2 := 23) (lo2 := [some (.ref x0), some (.int x1), some (.int x2), some (.int (0 : Int32)), some (.int (0 : Int32)), some (.int (1 : Int32))]) hk rfl rfl rfl rfl rfl ?_
    exact H
  · have H := H.2 hc
    refine g_s1 (pc2 := 10) hk rfl rfl rfl rfl rfl ?_
    refine g_s1 (pc2 := 11) (st2 := [.int (1 : Int32), .ref x0]) hk rfl rfl rfl rfl rfl ?_
    obtain ⟨ho, H⟩ := H
    refine g_call hk rfl rfl i_k179.1 ⟨rfl, rfl⟩ rfl (i_rcv_v ho rfl (by decide)) rfl ?_
    exact H.mono (fun v h2 q => by obtain ⟨r, rfl, q⟩ := q; exact q)
theorem b168_14 {x0 : Nat} {x1 : Int32} {x2 : Int32} {x3 : Option Value} {x4 : Option Value} {x5 : Option Value} {s0 : Int32} {h : iH} {Q : Option Value → iH → Prop} (H : Q (some (.int s0)) h) : i_P i_MT i_AT L xs 168 14 [some (.ref x0), some (.int x1), some (.int x2), x3, x4, x5] [.int s0] h 0 0 Q := by
  have hk := i_k168
  exact g_ireturn hk rfl (by decide) (by decide) rfl H
theorem b168_23 {x0 : Nat} {x1 : Int32} {x2 : Int32} {x3 : Int32} {x4 : Int32} {x5 : Int32} {h : iH} {Q : Option Value → iH → Prop} (H : (((60 : Int32) < x5 → (i_obj? h x0 11 ∧ i_C i_MT i_AT L xs 181 [.ref x0, .int x3] h (fun v h1 => ∃ r2 : Int32, v = some (.int r2) ∧ i_P i_MT i_AT L xs 168 72 [some (.ref x0), some (.int x1), some (.int x2), some (.int x3), some (.int x4), some (.int x5)] [.int r2] h1 0 0 Q))) ∧ (¬ ((60 : Int32) < x5) → (∃ v3 : Nat, i_fld h x0 11 11 = some (.ref v3) ∧ (i_obj? h v3 0 ∧ i_C i_MT i_AT L xs 13 [.ref v3, .int x1, .int x2, .int x5] h (fun v h4 => ∃ r5 : Int32, v = some (.int r5) ∧ i_P i_MT i_AT L xs 168 41 [some (.ref x0), some (.int x1), some (.int x2), some (.int x3), some (.int x4), some (.int x5)] [.int r5] h4 0 0 Q)))))) : i_P i_MT i_AT L xs 168 23 [some (.ref x0), some (.int x1), some (.int x2), some (.int x3), some (.int x4), some (.int x5)] [] h 0 0 Q := by
  have hk := i_k168
  refine g_s1 (pc2 := 25) hk rfl rfl rfl rfl rfl ?_
  refine g_s1 (pc2 := 27) (st2 := [.int (60 : Int32), .int x5]) hk rfl rfl rfl rfl rfl ?_
  refine g_icmp_gt hk rfl (fun hc => ?_) (fun hc => ?_)
  · have H := H.1 hc
    refine g_s1 (pc2 := 68) hk rfl rfl rfl rfl rfl ?_
    refine g_s1 (pc2 := 69) hk rfl rfl rfl rfl rfl ?_
    obtain ⟨ho, H⟩ := H
    refine g_call hk rfl rfl i_k181.1 ⟨rfl, rfl⟩ rfl (i_rcv_v ho rfl (by decide)) rfl ?_
    exact H.mono (fun v h2 q => by obtain ⟨r, rfl, q⟩ := q; exact q)
  · have H := H.2 hc
    refine g_s1 (pc2 := 31) hk rfl rfl rfl rfl rfl ?_
    obtain ⟨v3, ev3, H⟩ := H
    refine g_step (pc2 := 34) hk rfl rfl rfl (s_get ev3) ?_
    refine g_s1 (pc2 := 35) hk rfl rfl rfl rfl rfl ?_
    refine g_s1 (pc2 := 36) hk rfl rfl rfl rfl rfl ?_
    refine g_s1 (pc2 := 38) hk rfl rfl rfl rfl rfl ?_
    obtain ⟨ho, H⟩ := H
    refine g_call hk rfl rfl i_k13.1 ⟨rfl, rfl⟩ rfl (i_rcv_v ho rfl (by decide)) rfl ?_
    exact H.mono (fun v h2 q => by obtain ⟨r, rfl, q⟩ := q; exact q)
theorem b168_41 {x0 : Nat} {x1 : Int32} {x2 : Int32} {x3 : Int32} {x4 : Int32} {x5 : Int32} {s0 : Int32} {h : iH} {Q : Option Value → iH → Prop} (H : ((s0 = 0 → i_P i_MT i_AT L xs 168 52 [some (.ref x0), some (.int x1), some (.int x2), some (.int x3), some (.int x4), some (.int x5)] [.int (0 : Int32)] h 0 0 Q) ∧ (¬ (s0 = 0) → i_P i_MT i_AT L xs 168 52 [some (.ref x0), some (.int x1), some (.int x2), some (.int x3), some (.int x4), some (.int x5)] [.int (x4 + (1 : Int32))] h 0 0 Q))) : i_P i_MT i_AT L xs 168 41 [some (.ref x0), some (.int x1), some (.int x2), some (.int x3), some (.int x4), some (.int x5)] [.int s0] h 0 0 Q := by
  have hk := i_k168
  refine g_if_eq hk rfl (fun hc => ?_) (fun hc => ?_)
  · have H := H.1 hc
    refine g_s1 (pc2 := 52) (st2 := [.int (0 : Int32)]) hk rfl rfl rfl rfl rfl ?_
    exact H
  · have H := H.2 hc
    refine g_s1 (pc2 := 46) hk rfl rfl rfl rfl rfl ?_
    refine g_s1 (pc2 := 47) (st2 := [.int (1 : Int32), .int x4]) hk rfl rfl rfl rfl rfl ?_
    refine g_s1 (pc2 := 48) hk rfl rfl rfl rfl rfl ?_
    refine g_s1 (pc2 := 52) hk rfl rfl rfl rfl rfl ?_
    exact H
theorem b168_52 {x0 : Nat} {x1 : Int32} {x2 : Int32} {x3 : Int32} {x4 : Int32} {x5 : Int32} {s0 : Int32} {h : iH} {Q : Option Value → iH → Prop} (H : (i_C i_MT i_AT L xs 336 [.int x3, .int s0] h (fun v h1 => ∃ r2 : Int32, v = some (.int r2) ∧ i_P i_MT i_AT L xs 168 60 [some (.ref x0), some (.int x1), some (.int x2), some (.int x3), some (.int s0), some (.int x5)] [.int r2] h1 0 0 Q))) : i_P i_MT i_AT L xs 168 52 [some (.ref x0), some (.int x1), some (.int x2), some (.int x3), some (.int x4), some (.int x5)] [.int s0] h 0 0 Q := by
  have hk := i_k168
  refine g_s1 (pc2 := 54) (lo2 := [some (.ref x0), some (.int x1), some (.int x2), some (.int x3), some (.int s0), some (.int x5)]) hk rfl rfl rfl rfl rfl ?_
  refine g_s1 (pc2 := 55) hk rfl rfl rfl rfl rfl ?_
  refine g_s1 (pc2 := 57) hk rfl rfl rfl rfl rfl ?_
  refine g_call hk rfl rfl i_k336.1 ⟨rfl, rfl⟩ rfl (i_rcv_0 rfl) rfl ?_
  exact H.mono (fun v h2 q => by obtain ⟨r, rfl, q⟩ := q; exact q)
theorem b168_60 {x0 : Nat} {x1 : Int32} {x2 : Int32} {x3 : Int32} {x4 : Int32} {x5 : Int32} {s0 : Int32} {h : iH} {Q : Option Value → iH → Prop} (H : i_P i_MT i_AT L xs 168 23 [some (.ref x0), some (.int x1), some (.int x2), some (.int s0), some (.int x4), some (.int (x5 + 1))] [] h 0 0 Q) : i_P i_MT i_AT L xs 168 60 [some (.ref x0), some (.int x1), some (.int x2), some (.int x3), some (.int x4), some (.int x5)] [.int s0] h 0 0 Q := by
  have hk := i_k168
  refine g_s1 (pc2 := 61) (lo2 := [some (.ref x0), some (.int x1), some (.int x2), some (.int s0), some (.int x4), some (.int x5)]) hk rfl rfl rfl rfl rfl ?_
  refine g_s1 (pc2 := 64) (lo2 := [some (.ref x0), some (.int x1), some (.int x2), some (.int s0), some (.int x4), some (.int (x5 + 1))]) hk rfl rfl rfl rfl rfl ?_
  refine g_s1 (pc2 := 23) hk rfl rfl rfl rfl rfl ?_
  exact H
theorem b168_72 {x0 : Nat} {x1 : Int32} {x2 : Int32} {x3 : Int32} {x4 : Int32} {x5 : Int32} {s0 : Int32} {h : iH} {Q : Option Value → iH → Prop} (H : Q (some (.int s0)) h) : i_P i_MT i_AT L xs 168 72 [some (.ref x0), some (.int x1), some (.int x2), some (.int x3), some (.int x4), some (.int x5)] [.int s0] h 0 0 Q := by
  have hk := i_k168
  exact g_ireturn hk rfl (by decide) (by decide) rfl H
/-! StillTown.followed(III)I -/
theorem e169 {x0 : Nat} {x1 : Int32} {x2 : Int32} {x3 : Int32} {h : iH} {Q : Option Value → iH → Prop} (H : i_P i_MT i_AT L xs 169 0 [some (.ref x0), some (.int x1), some (.int x2), some (.int x3)] [] h 0 0 Q) : i_C i_MT i_AT L xs 169 [.ref x0, .int x1, .int x2, .int x3] h Q := ⟨i_m169, i_k169.1, Nat.le_of_ble_eq_true rfl, H⟩
theorem b169_0 {x0 : Nat} {x1 : Int32} {x2 : Int32} {x3 : Int32} {h : iH} {Q : Option Value → iH → Prop} (H : (i_obj? h x0 11 ∧ i_C i_MT i_AT L xs 187 [.ref x0, .int x1, .int x2] h (fun v h1 => ∃ r2 : Int32, v = some (.int r2) ∧ i_P i_MT i_AT L xs 169 6 [some (.ref x0), some (.int x1), some (.int x2), some (.int x3)] [.int r2] h1 0 0 Q))) : i_P i_MT i_AT L xs 169 0 [some (.ref x0), some (.int x1), some (.int x2), some (.int x3)] [] h 0 0 Q := by
  have hk := i_k169
  refine g_s1 (pc2 := 1) hk rfl rfl rfl rfl rfl ?_
  refine g_s1 (pc2 := 2) hk rfl rfl rfl rfl rfl ?_
  refine g_s1 (pc2 := 3) hk rfl rfl rfl rfl rfl ?_
  obtain ⟨ho, H⟩ := H
  refine g_call hk rfl rfl i_k187.1 ⟨rfl, rfl⟩ rfl (i_rcv_v ho rfl (by decide)) rfl ?_
  exact H.mono (fun v h2 q => by obtain ⟨r, rfl, q⟩ := q; exact q)
theorem b169_6 {x0 : Nat} {x1 : Int32} {x2 : Int32} {x3 : Int32} {s0 : Int32} {h : iH} {Q : Option Value → iH → Prop} (H : ((s0 = 0 → i_P i_MT i_AT L xs 169 19 [some (.ref x0), some (.int x1), some (.int x2), some (.int x3)] [] h 0 0 Q) ∧ (¬ (s0 = 0) → (i_C i_MT i_AT L xs 192 [.int x3, .int (1 : Int32), .int (9 : Int32)] h (fun v h1 => ∃ r2 : Int32, v = some (.int r2) ∧ i_P i_MT i_AT L xs 169 16 [some (.ref x0), some (.int x1), some (.int x2), some (.int x3)] [.int r2] h1 0 0 Q))))) : i_P i_MT i_AT L xs 169 6 [some (.ref x0), some (.int x1), some (.int x2), some (.int x3)] [.int s0] h 0 0 Q := by
  have hk := i_k169
  refine g_if_eq hk rfl (fun hc => ?_) (fun hc => ?_)
  · have H := H.1 hc
    exact H
  · have H := H.2 hc
    refine g_s1 (pc2 := 10) hk rfl rfl rfl rfl rfl ?_
    refine g_s1 (pc2 := 11) (st2 := [.int (1 : Int32), .int x3]) hk rfl rfl rfl rfl rfl ?_
    refine g_s1 (pc2 := 13) (st2 := [.int (9 : Int32), .int (1 : Int32), .int x3]) hk rfl rfl rfl rfl rfl ?_
    refine g_call hk rfl rfl i_k192.1 ⟨rfl, rfl⟩ rfl (i_rcv_0 rfl) rfl ?_
    exact H.mono (fun v h2 q => by obtain ⟨r, rfl, q⟩ := q; exact q)
theorem b169_16 {x0 : Nat} {x1 : Int32} {x2 : Int32} {x3 : Int32} {s0 : Int32} {h : iH} {Q : Option Value → iH → Prop} (H : ((¬ s0 = 0 → (∃ v1 : Nat, i_fld h x0 11 12 = some (.ref v1) ∧ (i_obj? h v1 6 ∧ i_C i_MT i_AT L xs 81 [.ref v1, .int x1, .int x2, .int x3] h (fun v h2 => ∃ r3 : Int32, v = some (.int r3) ∧ i_P i_MT i_AT L xs 169 36 [some (.ref x0), some (.int x1), some (.int x2), some (.int x3)] [.int r3, .ref x0] h2 0 0 Q)))) ∧ (¬ (¬ s0 = 0) → i_P i_MT i_AT L xs 169 19 [some (.ref x0), some (.int x1), some (.int x2), some (.int x3)] [] h 0 0 Q))) : i_P i_MT i_AT L xs 169 16 [some (.ref x0), some (.int x1), some (.int x2), some (.int x3)] [.int s0] h 0 0 Q := by
  have hk := i_k169
  refine g_if_ne hk rfl (fun hc => ?_) (fun hc => ?_)
  · have H := H.1 hc
    refine g_s1 (pc2 := 26) hk rfl rfl rfl rfl rfl ?_
    refine g_s1 (pc2 := 27) hk rfl rfl rfl rfl rfl ?_
    obtain ⟨v1, ev1, H⟩ := H
    refine g_step (pc2 := 30) hk rfl rfl rfl (s_get ev1) ?_
    refine g_s1 (pc2 := 31) hk rfl rfl rfl rfl rfl ?_
    refine g_s1 (pc2 := 32) hk rfl rfl rfl rfl rfl ?_
    refine g_s1 (pc2 := 33) hk rfl rfl rfl rfl rfl ?_
    obtain ⟨ho, H⟩ := H
    refine g_call hk rfl rfl i_k81.1 ⟨rfl, rfl⟩ rfl (i_rcv_v ho rfl (by decide)) rfl ?_
    exact H.mono (fun v h2 q => by obtain ⟨r, rfl, q⟩ := q; exact q)
  · have H := H.2 hc
    exact H
theorem b169_19 {x0 : Nat} {x1 : Int32} {x2 : Int32} {x3 : Int32} {h : iH} {Q : Option Value → iH → Prop} (H : (i_obj? h x0 11 ∧ i_C i_MT i_AT L xs 179 [.ref x0, .int (1 : Int32)] h (fun v h1 => ∃ r2 : Int32, v = some (.int r2) ∧ i_P i_MT i_AT L xs 169 24 [some (.ref x0), some (.int x1), some (.int x2), some (.int x3)] [.int r2] h1 0 0 Q))) : i_P i_MT i_AT L xs 169 19 [some (.ref x0), some (.int x1), some (.int x2), some (.int x3)] [] h 0 0 Q := by
  have hk := i_k169
  refine g_s1 (pc2 := 20) hk rfl rfl rfl rfl rfl ?_
  refine g_s1 (pc2 := 21) (st2 := [.int (1 : Int32), .ref x0]) hk rfl rfl rfl rfl rfl ?_
  obtain ⟨ho, H⟩ := H
  refine g_call hk rfl rfl i_k179.1 ⟨rfl, rfl⟩ rfl (i_rcv_v ho rfl (by decide)) rfl ?_
  exact H.mono (fun v h2 q => by obtain ⟨r, rfl, q⟩ := q; exact q)
theorem b169_24 {x0 : Nat} {x1 : Int32} {x2 : Int32} {x3 : Int32} {s0 : Int32} {h : iH} {Q : Option Value → iH → Prop} (H : Q (some (.int s0)) h) : i_P i_MT i_AT L xs 169 24 [some (.ref x0), some (.int x1), some (.int x2), some (.int x3)] [.int s0] h 0 0 Q := by
  have hk := i_k169
  exact g_ireturn hk rfl (by decide) (by decide) rfl H
theorem b169_36 {x0 : Nat} {x1 : Int32} {x2 : Int32} {x3 : Int32} {s0 : Nat} {s1 : Int32} {h : iH} {Q : Option Value → iH → Prop} (H : (i_obj? h s0 11 ∧ i_C i_MT i_AT L xs 181 [.ref s0, .int s1] h (fun v h1 => ∃ r2 : Int32, v = some (.int r2) ∧ i_P i_MT i_AT L xs 169 39 [some (.ref x0), some (.int x1), some (.int x2), some (.int x3)] [.int r2] h1 0 0 Q))) : i_P i_MT i_AT L xs 169 36 [some (.ref x0), some (.int x1), some (.int x2), some (.int x3)] [.int s1, .ref s0] h 0 0 Q := by
  have hk := i_k169
  obtain ⟨ho, H⟩ := H
  refine g_call hk rfl rfl i_k181.1 ⟨rfl, rfl⟩ rfl (i_rcv_v ho rfl (by decide)) rfl ?_
  exact H.mono (fun v h2 q => by obtain ⟨r, rfl, q⟩ := q; exact q)
theorem b169_39 {x0 : Nat} {x1 : Int32} {x2 : Int32} {x3 : Int32} {s0 : Int32} {h : iH} {Q : Option Value → iH → Prop} (H : Q (some (.int s0)) h) : i_P i_MT i_AT L xs 169 39 [some (.ref x0), some (.int x1), some (.int x2), some (.int x3)] [.int s0] h 0 0 Q := by
  have hk := i_k169
  exact g_ireturn hk rfl (by decide) (by decide) rfl H
/-! StillTown.signs(III)I -/
theorem e170 {x0 : Nat} {x1 : Int32} {x2 : Int32} {x3 : Int32} {h : iH} {Q : Option Value → iH → Prop} (H : i_P i_MT i_AT L xs 170 0 [some (.ref x0), some (.int x1), some (.int x2), some (.int x3), none, none, none] [] h 0 0 Q) : i_C i_MT i_AT L xs 170 [.ref x0, .int x1, .int x2, .int x3] h Q := ⟨i_m170, i_k170.1, Nat.le_of_ble_eq_true rfl, H⟩
theorem b170_0 {x0 : Nat} {x1 : Int32} {x2 : Int32} {x3 : Int32} {x4 : Option Value} {x5 : Option Value} {x6 : Option Value} {h : iH} {Q : Option Value → iH → Prop} (H : (i_obj? h x0 11 ∧ i_C i_MT i_AT L xs 187 [.ref x0, .int x1, .int x2] h (fun v h1 => ∃ r2 : Int32, v = some (.int r2) ∧ i_P i_MT i_AT L xs 170 6 [some (.ref x0), some (.int x1), some (.int x2), some (.int x3), x4, x5, x6] [.int r2] h1 0 0 Q))) : i_P i_MT i_AT L xs 170 0 [some (.ref x0), some (.int x1), some (.int x2), some (.int x3), x4, x5, x6] [] h 0 0 Q := by
  have hk := i_k170
  refine g_s1 (pc2 := 1) hk rfl rfl rfl rfl rfl ?_
  refine g_s1 (pc2 := 2) hk rfl rfl rfl rfl rfl ?_
  refine g_s1 (pc2 := 3) hk rfl rfl rfl rfl rfl ?_
  obtain ⟨ho, H⟩ := H
  refine g_call hk rfl rfl i_k187.1 ⟨rfl, rfl⟩ rfl (i_rcv_v ho rfl (by decide)) rfl ?_
  exact H.mono (fun v h2 q => by obtain ⟨r, rfl, q⟩ := q; exact q)
theorem b170_6 {x0 : Nat} {x1 : Int32} {x2 : Int32} {x3 : Int32} {x4 : Option Value} {x5 : Option Value} {x6 : Option Value} {s0 : Int32} {h : iH} {Q : Option Value → iH → Prop} (H : ((s0 = 0 → i_P i_MT i_AT L xs 170 20 [some (.ref x0), some (.int x1), some (.int x2), some (.int x3), x4, x5, x6] [] h 0 0 Q) ∧ (¬ (s0 = 0) → (i_C i_MT i_AT L xs 192 [.int x3, .int (0 : Int32), .int (999999 : Int32)] h (fun v h1 => ∃ r2 : Int32, v = some (.int r2) ∧ i_P i_MT i_AT L xs 170 17 [some (.ref x0), some (.int x1), some (.int x2), some (.int x3), x4, x5, x6] [.int r2] h1 0 0 Q))))) : i_P i_MT i_AT L xs 170 6 [some (.ref x0), some (.int x1), some (.int x2), some (.int x3), x4, x5, x6] [.int s0] h 0 0 Q := by
  have hk := i_k170
  refine g_if_eq hk rfl (fun hc => ?_) (fun hc => ?_)
  · have H := H.1 hc
    exact H
  · have H := H.2 hc
    refine g_s1 (pc2 := 10) hk rfl rfl rfl rfl rfl ?_
    refine g_s1 (pc2 := 11) (st2 := [.int (0 : Int32), .int x3]) hk rfl rfl rfl rfl rfl ?_
    refine g_step (pc2 := 14) (st2 := [.int (999999 : Int32), .int (0 : Int32), .int x3]) hk rfl rfl rfl rfl ?_
    refine g_call hk rfl rfl i_k192.1 ⟨rfl, rfl⟩ rfl (i_rcv_0 rfl) rfl ?_
    exact H.mono (fun v h2 q => by obtain ⟨r, rfl, q⟩ := q; exact q)
theorem b170_17 {x0 : Nat} {x1 : Int32} {x2 : Int32} {x3 : Int32} {x4 : Option Value} {x5 : Option Value} {x6 : Option Value} {s0 : Int32} {h : iH} {Q : Option Value → iH → Prop} (H : ((¬ s0 = 0 → (∃ v1 : Nat, i_fld h x0 11 5 = some (.ref v1) ∧ (∃ v2 : Nat, i_fld h v1 8 12 = some (.ref v2) ∧ (∃ v3 : Nat, i_fld h v2 3 2 = some (.ref v3) ∧ (∃ (n4 : Nat) (f5 : Nat → Int32), i_arI h 0 v3 = some (n4, f5) ∧ ¬ (x1 < 0 ∨ n4 ≤ x1.toNatClampNeg) ∧ i_P i_MT i_AT L xs 170 48 [some (.ref x0), some (.int x1), some (.int x2), some (.int x3), some (.int (f5 x1.toNatClampNeg)), some (.int (1000000 : Int32)), some (.int (1 : Int32))] [] h 0 0 Q))))) ∧ (¬ (¬ s0 = 0) → i_P i_MT i_AT L xs 170 20 [some (.ref x0), some (.int x1), some (.int x2), some (.int x3), x4, x5, x6] [] h 0 0 Q))) : i_P i_MT i_AT L xs 170 17 [some (.ref x0), some (.int x1), some (.int x2), some (.int x3), x4, x5, x6] [.int s0] h 0 0 Q := by
  have hk := i_k170
  refine g_if_ne hk rfl (fun hc => ?_) (fun hc => ?_)
  · have H := H.1 hc
    refine g_s1 (pc2 := 27) hk rfl rfl rfl rfl rfl ?_
    obtain ⟨v1, ev1, H⟩ := H
    refine g_step (pc2 := 30) hk rfl rfl rfl (s_get ev1) ?_
    obtain ⟨v2, ev2, H⟩ := H
    refine g_step (pc2 := 33) hk rfl rfl rfl (s_get ev2) ?_
    obtain ⟨v3, ev3, H⟩ := H
    refine g_step (pc2 := 36) hk rfl rfl rfl (s_get ev3) ?_
    refine g_s1 (pc2 := 37) hk rfl rfl rfl rfl rfl ?_
    obtain ⟨n4, f5, ef5, hi, H⟩ := H
    refine g_step (pc2 := 38) hk rfl rfl rfl (s_aget (L := L) (xs := xs) ef5 hi) ?_
    refine g_s1 (pc2 := 40) (lo2 := [some (.ref x0), some (.int x1), some (.int x2), some (.int x3), some (.int (f5 x1.toNatClampNeg)), x5, x6]) hk rfl rfl rfl rfl rfl ?_
    refine g_step (pc2 := 43) (st2 := [.int (1000000 : Int32)]) hk rfl rfl rfl rfl ?_
    refine g_s1 (pc2 := 45) (lo2 := [some (.ref x0), some (.int x1), some (.int x2), some (.int x3), some (.int (f5 x1.toNatClampNeg)), some (.int (1000000 : Int32)), x6]) hk rfl rfl rfl rfl rfl ?_
    refine g_s1 (pc2 := 46) (st2 := [.int (1 : Int32)]) hk rfl rfl rfl rfl rfl ?_
    refine g_s1 (pc2 := 48) (lo2 := [some (.ref x0), some (.int x1), some (.int x2), some (.int x3), some (.int (f5 x1.toNatClampNeg)), some (.int (1000000 : Int32)), some (.int (1 : Int32))]) hk rfl rfl rfl rfl rfl ?_
    exact H
  · have H := H.2 hc
    exact H
theorem b170_20 {x0 : Nat} {x1 : Int32} {x2 : Int32} {x3 : Int32} {x4 : Option Value} {x5 : Option Value} {x6 : Option Value} {h : iH} {Q : Option Value → iH → Prop} (H : (i_obj? h x0 11 ∧ i_C i_MT i_AT L xs 179 [.ref x0, .int (1 : Int32)] h (fun v h1 => ∃ r2 : Int32, v = some (.int r2) ∧ i_P i_MT i_AT L xs 170 25 [some (.ref x0), some (.int x1), some (.int x2), some (.int x3), x4, x5, x6] [.int r2] h1 0 0 Q))) : i_P i_MT i_AT L xs 170 20 [some (.ref x0), some (.int x1), some (.int x2), some (.int x3), x4, x5, x6] [] h 0 0 Q := by
  have hk := i_k170
  refine g_s1 (pc2 := 21) hk rfl rfl rfl rfl rfl ?_
  refine g_s1 (pc2 := 22) (st2 := [.int (1 : Int32), .ref x0]) hk rfl rfl rfl rfl rfl ?_
  obtain ⟨ho, H⟩ := H
  refine g_call hk rfl rfl i_k179.1 ⟨rfl, rfl⟩ rfl (i_rcv_v ho rfl (by decide)) rfl ?_
  exact H.mono (fun v h2 q => by obtain ⟨r, rfl, q⟩ := q; exact q)
theorem b170_25 {x0 : Nat} {x1 : Int32} {x2 : Int32} {x3 : Int32} {x4 : Option Value} {x5 : Option Value} {x6 : Option Value} {s0 : Int32} {h : iH} {Q : Option Value → iH → Prop} (H : Q (some (.int s0)) h) : i_P i_MT i_AT L xs 170 25 [some (.ref x0), some (.int x1), some (.int x2), some (.int x3), x4, x5, x6] [.int s0] h 0 0 Q := by
  have hk := i_k170
  exact g_ireturn hk rfl (by decide) (by decide) rfl H
theorem b170_48 {x0 : Nat} {x1 : Int32} {x2 : Int32} {x3 : Int32} {x4 : Int32} {x5 : Int32} {x6 : Int32} {h : iH} {Q : Option Value → iH → Prop} (H : (((60 : Int32) < x6 → (i_obj? h x0 11 ∧ i_C i_MT i_AT L xs 179 [.ref x0, .int (6 : Int32)] h (fun v h1 => ∃ r2 : Int32, v = some (.int r2) ∧ i_P i_MT i_AT L xs 170 100 [some (.ref x0), some (.int x1), some (.int x2), some (.int x3), some (.int x4), some (.int x5), some (.int x6)] [.int r2] h1 0 0 Q))) ∧ (¬ ((60 : Int32) < x6) → (∃ v3 : Nat, i_fld h x0 11 11 = some (.ref v3) ∧ (i_obj? h v3 0 ∧ i_C i_MT i_AT L xs 11 [.ref v3, .int x2, .int x4, .int (4 : Int32), .int x6] h (fun v h4 => ∃ r5 : Int32, v = some (.int r5) ∧ i_P i_MT i_AT L xs 170 70 [some (.ref x0), some (.int x1), some (.int x2), some (.int x3), some (.int x4), some (.int x5), some (.int x6)] [.int r5, .int x5] h4 0 0 Q)))))) : i_P i_MT i_AT L xs 170 48 [some (.ref x0), some (.int x1), some (.int x2), some (.int x3), some (.int x4), some (.int x5), some (.int x6)] [] h 0 0 Q := by
  have hk := i_k170
  refine g_s1 (pc2 := 50) hk rfl rfl rfl rfl rfl ?_
  refine g_s1 (pc2 := 52) (st2 := [.int (60 : Int32), .int x6]) hk rfl rfl rfl rfl rfl ?_
  refine g_icmp_gt hk rfl (fun hc => ?_) (fun hc => ?_)
  · have H := H.1 hc
    refine g_s1 (pc2 := 95) hk rfl rfl rfl rfl rfl ?_
    refine g_s1 (pc2 := 97) (st2 := [.int (6 : Int32), .ref x0]) hk rfl rfl rfl rfl rfl ?_
    obtain ⟨ho, H⟩ := H
    refine g_call hk rfl rfl i_k179.1 ⟨rfl, rfl⟩ rfl (i_rcv_v ho rfl (by decide)) rfl ?_
    exact H.mono (fun v h2 q => by obtain ⟨r, rfl, q⟩ := q; exact q)
  · have H := H.2 hc
    refine g_s1 (pc2 := 57) hk rfl rfl rfl rfl rfl ?_
    refine g_s1 (pc2 := 58) hk rfl rfl rfl rfl rfl ?_
    obtain ⟨v3, ev3, H⟩ := H
    refine g_step (pc2 := 61) hk rfl rfl rfl (s_get ev3) ?_
    refine g_s1 (pc2 := 62) hk rfl rfl rfl rfl rfl ?_
    refine g_s1 (pc2 := 64) hk rfl rfl rfl rfl rfl ?_
    refine g_s1 (pc2 := 65) (st2 := [.int (4 : Int32), .int x4, .int x2, .ref v3, .int x5]) hk rfl rfl rfl rfl rfl ?_
    refine g_s1 (pc2 := 67) hk rfl rfl rfl rfl rfl ?_
    obtain ⟨ho, H⟩ := H
    refine g_call hk rfl rfl i_k11.1 ⟨rfl, rfl⟩ rfl (i_rcv_v ho rfl (by decide)) rfl ?_
    exact H.mono (fun v h2 q => by obtain ⟨r, rfl, q⟩ := q; exact q)
theorem b170_70 {x0 : Nat} {x1 : Int32} {x2 : Int32} {x3 : Int32} {x4 : Int32} {x5 : Int32} {x6 : Int32} {s0 : Int32} {s1 : Int32} {h : iH} {Q : Option Value → iH → Prop} (H : (i_C i_MT i_AT L xs 194 [.int s0, .int s1] h (fun v h1 => ∃ r2 : Int32, v = some (.int r2) ∧ i_P i_MT i_AT L xs 170 73 [some (.ref x0), some (.int x1), some (.int x2), some (.int x3), some (.int x4), some (.int x5), some (.int x6)] [.int r2] h1 0 0 Q))) : i_P i_MT i_AT L xs 170 70 [some (.ref x0), some (.int x1), some (.int x2), some (.int x3), some (.int x4), some (.int x5), some (.int x6)] [.int s1, .int s0] h 0 0 Q := by
  have hk := i_k170
  refine g_call hk rfl rfl i_k194.1 ⟨rfl, rfl⟩ rfl (i_rcv_0 rfl) rfl ?_
  exact H.mono (fun v h2 q => by obtain ⟨r, rfl, q⟩ := q; exact q)
theorem b170_73 {x0 : Nat} {x1 : Int32} {x2 : Int32} {x3 : Int32} {x4 : Int32} {x5 : Int32} {x6 : Int32} {s0 : Int32} {h : iH} {Q : Option Value → iH → Prop} (H : ((x3 < s0 → i_P i_MT i_AT L xs 170 48 [some (.ref x0), some (.int x1), some (.int x2), some (.int x3), some (.int x4), some (.int s0), some (.int (x6 + 1))] [] h 0 0 Q) ∧ (¬ (x3 < s0) → (i_obj? h x0 11 ∧ i_C i_MT i_AT L xs 181 [.ref x0, .int x6] h (fun v h1 => ∃ r2 : Int32, v = some (.int r2) ∧ i_P i_MT i_AT L xs 170 87 [some (.ref x0), some (.int x1), some (.int x2), some (.int x3), some (.int x4), some (.int s0), some (.int x6)] [.int r2] h1 0 0 Q))))) : i_P i_MT i_AT L xs 170 73 [some (.ref x0), some (.int x1), some (.int x2), some (.int x3), some (.int x4), some (.int x5), some (.int x6)] [.int s0] h 0 0 Q := by
  have hk := i_k170
  refine g_s1 (pc2 := 75) (lo2 := [some (.ref x0), some (.int x1), some (.int x2), some (.int x3), some (.int x4), some (.int s0), some (.int x6)]) hk rfl rfl rfl rfl rfl ?_
  refine g_s1 (pc2 := 77) hk rfl rfl rfl rfl rfl ?_
  refine g_s1 (pc2 := 78) hk rfl rfl rfl rfl rfl ?_
  refine g_icmp_gt hk rfl (fun hc => ?_) (fun hc => ?_)
  · have H := H.1 hc
    refine g_s1 (pc2 := 91) (lo2 := [some (.ref x0), some (.int x1), some (.int x2), some (.int x3), some (.int x4), some (.int s0), some (.int (x6 + 1))]) hk rfl rfl rfl rfl rfl ?_
    refine g_s1 (pc2 := 48) hk rfl rfl rfl rfl rfl ?_
    exact H
  · have H := H.2 hc
    refine g_s1 (pc2 := 82) hk rfl rfl rfl rfl rfl ?_
    refine g_s1 (pc2 := 84) hk rfl rfl rfl rfl rfl ?_
    obtain ⟨ho, H⟩ := H
    refine g_call hk rfl rfl i_k181.1 ⟨rfl, rfl⟩ rfl (i_rcv_v ho rfl (by decide)) rfl ?_
    exact H.mono (fun v h2 q => by obtain ⟨r, rfl, q⟩ := q; exact q)
theorem b170_87 {x0 : Nat} {x1 : Int32} {x2 : Int32} {x3 : Int32} {x4 : Int32} {x5 : Int32} {x6 : Int32} {s0 : Int32} {h : iH} {Q : Option Value → iH → Prop} (H : Q (some (.int s0)) h) : i_P i_MT i_AT L xs 170 87 [some (.ref x0), some (.int x1), some (.int x2), some (.int x3), some (.int x4), some (.int x5), some (.int x6)] [.int s0] h 0 0 Q := by
  have hk := i_k170
  exact g_ireturn hk rfl (by decide) (by decide) rfl H
theorem b170_100 {x0 : Nat} {x1 : Int32} {x2 : Int32} {x3 : Int32} {x4 : Int32} {x5 : Int32} {x6 : Int32} {s0 : Int32} {h : iH} {Q : Option Value → iH → Prop} (H : Q (some (.int s0)) h) : i_P i_MT i_AT L xs 170 100 [some (.ref x0), some (.int x1), some (.int x2), some (.int x3), some (.int x4), some (.int x5), some (.int x6)] [.int s0] h 0 0 Q := by
  have hk := i_k170
  exact g_ireturn hk rfl (by decide) (by decide) rfl H
/-! StillTown.swept(II)I -/
theorem e171 {x0 : Nat} {x1 : Int32} {x2 : Int32} {h : iH} {Q : Option Value → iH → Prop} (H : i_P i_MT i_AT L xs 171 0 [some (.ref x0), some (.int x1), some (.int x2)] [] h 0 0 Q) : i_C i_MT i_AT L xs 171 [.ref x0, .int x1, .int x2] h Q := ⟨i_m171, i_k171.1, Nat.le_of_ble_eq_true rfl, H⟩
theorem b171_0 {x0 : Nat} {x1 : Int32} {x2 : Int32} {h : iH} {Q : Option Value → iH → Prop} (H : (i_obj? h x0 11 ∧ i_C i_MT i_AT L xs 186 [.ref x0, .int x1] h (fun v h1 => ∃ r2 : Int32, v = some (.int r2) ∧ i_P i_MT i_AT L xs 171 5 [some (.ref x0), some (.int x1), some (.int x2)] [.int r2] h1 0 0 Q))) : i_P i_MT i_AT L xs 171 0 [some (.ref x0), some (.int x1), some (.int x2)] [] h 0 0 Q := by
  have hk := i_k171
  refine g_s1 (pc2 := 1) hk rfl rfl rfl rfl rfl ?_
  refine g_s1 (pc2 := 2) hk rfl rfl rfl rfl rfl ?_
  obtain ⟨ho, H⟩ := H
  refine g_call hk rfl rfl i_k186.1 ⟨rfl, rfl⟩ rfl (i_rcv_v ho rfl (by decide)) rfl ?_
  exact H.mono (fun v h2 q => by obtain ⟨r, rfl, q⟩ := q; exact q)
theorem b171_5 {x0 : Nat} {x1 : Int32} {x2 : Int32} {s0 : Int32} {h : iH} {Q : Option Value → iH → Prop} (H : ((s0 = 0 → i_P i_MT i_AT L xs 171 15 [some (.ref x0), some (.int x1), some (.int x2)] [] h 0 0 Q) ∧ (¬ (s0 = 0) → (i_C i_MT i_AT L xs 190 [.int x2] h (fun v h1 => ∃ r2 : Int32, v = some (.int r2) ∧ i_P i_MT i_AT L xs 171 12 [some (.ref x0), some (.int x1), some (.int x2)] [.int r2] h1 0 0 Q))))) : i_P i_MT i_AT L xs 171 5 [some (.ref x0), some (.int x1), some (.int x2)] [.int s0] h 0 0 Q := by
  have hk := i_k171
  refine g_if_eq hk rfl (fun hc => ?_) (fun hc => ?_)
  · have H := H.1 hc
    exact H
  · have H := H.2 hc
    refine g_s1 (pc2 := 9) hk rfl rfl rfl rfl rfl ?_
    refine g_call hk rfl rfl i_k190.1 ⟨rfl, rfl⟩ rfl (i_rcv_0 rfl) rfl ?_
    exact H.mono (fun v h2 q => by obtain ⟨r, rfl, q⟩ := q; exact q)
theorem b171_12 {x0 : Nat} {x1 : Int32} {x2 : Int32} {s0 : Int32} {h : iH} {Q : Option Value → iH → Prop} (H : ((¬ s0 = 0 → (∃ v1 : Nat, i_fld h x0 11 13 = some (.ref v1) ∧ (i_obj? h v1 5 ∧ i_C i_MT i_AT L xs 54 [.ref v1, .int x1, .int x2] h (fun v h2 => ∃ r3 : Int32, v = some (.int r3) ∧ i_P i_MT i_AT L xs 171 31 [some (.ref x0), some (.int x1), some (.int x2)] [.int r3, .ref x0] h2 0 0 Q)))) ∧ (¬ (¬ s0 = 0) → i_P i_MT i_AT L xs 171 15 [some (.ref x0), some (.int x1), some (.int x2)] [] h 0 0 Q))) : i_P i_MT i_AT L xs 171 12 [some (.ref x0), some (.int x1), some (.int x2)] [.int s0] h 0 0 Q := by
  have hk := i_k171
  refine g_if_ne hk rfl (fun hc => ?_) (fun hc => ?_)
  · have H := H.1 hc
    refine g_s1 (pc2 := 22) hk rfl rfl rfl rfl rfl ?_
    refine g_s1 (pc2 := 23) hk rfl rfl rfl rfl rfl ?_
    obtain ⟨v1, ev1, H⟩ := H
    refine g_step (pc2 := 26) hk rfl rfl rfl (s_get ev1) ?_
    refine g_s1 (pc2 := 27) hk rfl rfl rfl rfl rfl ?_
    refine g_s1 (pc2 := 28) hk rfl rfl rfl rfl rfl ?_
    obtain ⟨ho, H⟩ := H
    refine g_call hk rfl rfl i_k54.1 ⟨rfl, rfl⟩ rfl (i_rcv_v ho rfl (by decide)) rfl ?_
    exact H.mono (fun v h2 q => by obtain ⟨r, rfl, q⟩ := q; exact q)
  · have H := H.2 hc
    exact H
theorem b171_15 {x0 : Nat} {x1 : Int32} {x2 : Int32} {h : iH} {Q : Option Value → iH → Prop} (H : (i_obj? h x0 11 ∧ i_C i_MT i_AT L xs 179 [.ref x0, .int (1 : Int32)] h (fun v h1 => ∃ r2 : Int32, v = some (.int r2) ∧ i_P i_MT i_AT L xs 171 20 [some (.ref x0), some (.int x1), some (.int x2)] [.int r2] h1 0 0 Q))) : i_P i_MT i_AT L xs 171 15 [some (.ref x0), some (.int x1), some (.int x2)] [] h 0 0 Q := by
  have hk := i_k171
  refine g_s1 (pc2 := 16) hk rfl rfl rfl rfl rfl ?_
  refine g_s1 (pc2 := 17) (st2 := [.int (1 : Int32), .ref x0]) hk rfl rfl rfl rfl rfl ?_
  obtain ⟨ho, H⟩ := H
  refine g_call hk rfl rfl i_k179.1 ⟨rfl, rfl⟩ rfl (i_rcv_v ho rfl (by decide)) rfl ?_
  exact H.mono (fun v h2 q => by obtain ⟨r, rfl, q⟩ := q; exact q)
theorem b171_20 {x0 : Nat} {x1 : Int32} {x2 : Int32} {s0 : Int32} {h : iH} {Q : Option Value → iH → Prop} (H : Q (some (.int s0)) h) : i_P i_MT i_AT L xs 171 20 [some (.ref x0), some (.int x1), some (.int x2)] [.int s0] h 0 0 Q := by
  have hk := i_k171
  exact g_ireturn hk rfl (by decide) (by decide) rfl H
theorem b171_31 {x0 : Nat} {x1 : Int32} {x2 : Int32} {s0 : Nat} {s1 : Int32} {h : iH} {Q : Option Value → iH → Prop} (H : (i_obj? h s0 11 ∧ i_C i_MT i_AT L xs 181 [.ref s0, .int s1] h (fun v h1 => ∃ r2 : Int32, v = some (.int r2) ∧ i_P i_MT i_AT L xs 171 34 [some (.ref x0), some (.int x1), some (.int x2)] [.int r2] h1 0 0 Q))) : i_P i_MT i_AT L xs 171 31 [some (.ref x0), some (.int x1), some (.int x2)] [.int s1, .ref s0] h 0 0 Q := by
  have hk := i_k171
  obtain ⟨ho, H⟩ := H
  refine g_call hk rfl rfl i_k181.1 ⟨rfl, rfl⟩ rfl (i_rcv_v ho rfl (by decide)) rfl ?_
  exact H.mono (fun v h2 q => by obtain ⟨r, rfl, q⟩ := q; exact q)
theorem b171_34 {x0 : Nat} {x1 : Int32} {x2 : Int32} {s0 : Int32} {h : iH} {Q : Option Value → iH → Prop} (H : Q (some (.int s0)) h) : i_P i_MT i_AT L xs 171 34 [some (.ref x0), some (.int x1), some (.int x2)] [.int s0] h 0 0 Q := by
  have hk := i_k171
  exact g_ireturn hk rfl (by decide) (by decide) rfl H
/-! StillTown.gallery(I)I -/
theorem e172 {x0 : Nat} {x1 : Int32} {h : iH} {Q : Option Value → iH → Prop} (H : i_P i_MT i_AT L xs 172 0 [some (.ref x0), some (.int x1)] [] h 0 0 Q) : i_C i_MT i_AT L xs 172 [.ref x0, .int x1] h Q := ⟨i_m172, i_k172.1, Nat.le_of_ble_eq_true rfl, H⟩
theorem b172_0 {x0 : Nat} {x1 : Int32} {h : iH} {Q : Option Value → iH → Prop} (H : (i_C i_MT i_AT L xs 192 [.int x1, .int (0 : Int32), .int (8 : Int32)] h (fun v h1 => ∃ r2 : Int32, v = some (.int r2) ∧ i_P i_MT i_AT L xs 172 7 [some (.ref x0), some (.int x1)] [.int r2] h1 0 0 Q))) : i_P i_MT i_AT L xs 172 0 [some (.ref x0), some (.int x1)] [] h 0 0 Q := by
  have hk := i_k172
  refine g_s1 (pc2 := 1) hk rfl rfl rfl rfl rfl ?_
  refine g_s1 (pc2 := 2) (st2 := [.int (0 : Int32), .int x1]) hk rfl rfl rfl rfl rfl ?_
  refine g_s1 (pc2 := 4) (st2 := [.int (8 : Int32), .int (0 : Int32), .int x1]) hk rfl rfl rfl rfl rfl ?_
  refine g_call hk rfl rfl i_k192.1 ⟨rfl, rfl⟩ rfl (i_rcv_0 rfl) rfl ?_
  exact H.mono (fun v h2 q => by obtain ⟨r, rfl, q⟩ := q; exact q)
theorem b172_7 {x0 : Nat} {x1 : Int32} {s0 : Int32} {h : iH} {Q : Option Value → iH → Prop} (H : ((¬ s0 = 0 → (∃ v1 : Nat, i_fld h x0 11 13 = some (.ref v1) ∧ (i_obj? h v1 5 ∧ i_C i_MT i_AT L xs 63 [.ref v1, .int x1] h (fun v h2 => ∃ r3 : Int32, v = some (.int r3) ∧ i_P i_MT i_AT L xs 172 25 [some (.ref x0), some (.int x1)] [.int r3, .ref x0] h2 0 0 Q)))) ∧ (¬ (¬ s0 = 0) → (i_obj? h x0 11 ∧ i_C i_MT i_AT L xs 179 [.ref x0, .int (1 : Int32)] h (fun v h4 => ∃ r5 : Int32, v = some (.int r5) ∧ i_P i_MT i_AT L xs 172 15 [some (.ref x0), some (.int x1)] [.int r5] h4 0 0 Q))))) : i_P i_MT i_AT L xs 172 7 [some (.ref x0), some (.int x1)] [.int s0] h 0 0 Q := by
  have hk := i_k172
  refine g_if_ne hk rfl (fun hc => ?_) (fun hc => ?_)
  · have H := H.1 hc
    refine g_s1 (pc2 := 17) hk rfl rfl rfl rfl rfl ?_
    refine g_s1 (pc2 := 18) hk rfl rfl rfl rfl rfl ?_
    obtain ⟨v1, ev1, H⟩ := H
    refine g_step (pc2 := 21) hk rfl rfl rfl (s_get ev1) ?_
    refine g_s1 (pc2 := 22) hk rfl rfl rfl rfl rfl ?_
    obtain ⟨ho, H⟩ := H
    refine g_call hk rfl rfl i_k63.1 ⟨rfl, rfl⟩ rfl (i_rcv_v ho rfl (by decide)) rfl ?_
    exact H.mono (fun v h2 q => by obtain ⟨r, rfl, q⟩ := q; exact q)
  · have H := H.2 hc
    refine g_s1 (pc2 := 11) hk rfl rfl rfl rfl rfl ?_
    refine g_s1 (pc2 := 12) (st2 := [.int (1 : Int32), .ref x0]) hk rfl rfl rfl rfl rfl ?_
    obtain ⟨ho, H⟩ := H
    refine g_call hk rfl rfl i_k179.1 ⟨rfl, rfl⟩ rfl (i_rcv_v ho rfl (by decide)) rfl ?_
    exact H.mono (fun v h2 q => by obtain ⟨r, rfl, q⟩ := q; exact q)
theorem b172_15 {x0 : Nat} {x1 : Int32} {s0 : Int32} {h : iH} {Q : Option Value → iH → Prop} (H : Q (some (.int s0)) h) : i_P i_MT i_AT L xs 172 15 [some (.ref x0), some (.int x1)] [.int s0] h 0 0 Q := by
  have hk := i_k172
  exact g_ireturn hk rfl (by decide) (by decide) rfl H
theorem b172_25 {x0 : Nat} {x1 : Int32} {s0 : Nat} {s1 : Int32} {h : iH} {Q : Option Value → iH → Prop} (H : (i_obj? h s0 11 ∧ i_C i_MT i_AT L xs 183 [.ref s0, .int s1] h (fun v h1 => ∃ r2 : Int32, v = some (.int r2) ∧ i_P i_MT i_AT L xs 172 28 [some (.ref x0), some (.int x1)] [.int r2] h1 0 0 Q))) : i_P i_MT i_AT L xs 172 25 [some (.ref x0), some (.int x1)] [.int s1, .ref s0] h 0 0 Q := by
  have hk := i_k172
  obtain ⟨ho, H⟩ := H
  refine g_call hk rfl rfl i_k183.1 ⟨rfl, rfl⟩ rfl (i_rcv_v ho rfl (by decide)) rfl ?_
  exact H.mono (fun v h2 q => by obtain ⟨r, rfl, q⟩ := q; exact q)
theorem b172_28 {x0 : Nat} {x1 : Int32} {s0 : Int32} {h : iH} {Q : Option Value → iH → Prop} (H : Q (some (.int s0)) h) : i_P i_MT i_AT L xs 172 28 [some (.ref x0), some (.int x1)] [.int s0] h 0 0 Q := by
  have hk := i_k172
  exact g_ireturn hk rfl (by decide) (by decide) rfl H
/-! StillTown.day(I)I -/
theorem e173 {x0 : Nat} {x1 : Int32} {h : iH} {Q : Option Value → iH → Prop} (H : i_P i_MT i_AT L xs 173 0 [some (.ref x0), some (.int x1)] [] h 0 0 Q) : i_C i_MT i_AT L xs 173 [.ref x0, .int x1] h Q := ⟨i_m173, i_k173.1, Nat.le_of_ble_eq_true rfl, H⟩
theorem b173_0 {x0 : Nat} {x1 : Int32} {h : iH} {Q : Option Value → iH → Prop} (H : (i_C i_MT i_AT L xs 192 [.int x1, .int (0 : Int32), .int (9999 : Int32)] h (fun v h1 => ∃ r2 : Int32, v = some (.int r2) ∧ i_P i_MT i_AT L xs 173 8 [some (.ref x0), some (.int x1)] [.int r2] h1 0 0 Q))) : i_P i_MT i_AT L xs 173 0 [some (.ref x0), some (.int x1)] [] h 0 0 Q := by
  have hk := i_k173
  refine g_s1 (pc2 := 1) hk rfl rfl rfl rfl rfl ?_
  refine g_s1 (pc2 := 2) (st2 := [.int (0 : Int32), .int x1]) hk rfl rfl rfl rfl rfl ?_
  refine g_s1 (pc2 := 5) (st2 := [.int (9999 : Int32), .int (0 : Int32), .int x1]) hk rfl rfl rfl rfl rfl ?_
  refine g_call hk rfl rfl i_k192.1 ⟨rfl, rfl⟩ rfl (i_rcv_0 rfl) rfl ?_
  exact H.mono (fun v h2 q => by obtain ⟨r, rfl, q⟩ := q; exact q)
theorem b173_8 {x0 : Nat} {x1 : Int32} {s0 : Int32} {h : iH} {Q : Option Value → iH → Prop} (H : ((¬ s0 = 0 → (∃ v1 : Nat, i_fld h x0 11 14 = some (.ref v1) ∧ (∃ v2 : Nat, i_fld h x0 11 11 = some (.ref v2) ∧ (i_obj? h v1 1 ∧ i_C i_MT i_AT L xs 17 [.ref v1, .ref v2, .int x1] h (fun v h3 => v = none ∧ i_P i_MT i_AT L xs 173 29 [some (.ref x0), some (.int x1)] [] h3 0 0 Q))))) ∧ (¬ (¬ s0 = 0) → (i_obj? h x0 11 ∧ i_C i_MT i_AT L xs 179 [.ref x0, .int (1 : Int32)] h (fun v h5 => ∃ r6 : Int32, v = some (.int r6) ∧ i_P i_MT i_AT L xs 173 16 [some (.ref x0), some (.int x1)] [.int r6] h5 0 0 Q))))) : i_P i_MT i_AT L xs 173 8 [some (.ref x0), some (.int x1)] [.int s0] h 0 0 Q := by
  have hk := i_k173
  refine g_if_ne hk rfl (fun hc => ?_) (fun hc => ?_)
  · have H := H.1 hc
    refine g_s1 (pc2 := 18) hk rfl rfl rfl rfl rfl ?_
    obtain ⟨v1, ev1, H⟩ := H
    refine g_step (pc2 := 21) hk rfl rfl rfl (s_get ev1) ?_
    refine g_s1 (pc2 := 22) hk rfl rfl rfl rfl rfl ?_
    obtain ⟨v2, ev2, H⟩ := H
    refine g_step (pc2 := 25) hk rfl rfl rfl (s_get ev2) ?_
    refine g_s1 (pc2 := 26) hk rfl rfl rfl rfl rfl ?_
    obtain ⟨ho, H⟩ := H
    refine g_call hk rfl rfl i_k17.1 ⟨rfl, rfl⟩ rfl (i_rcv_v ho rfl (by decide)) rfl ?_
    exact H.mono (fun v h2 q => by obtain ⟨rfl, q⟩ := q; exact q)
  · have H := H.2 hc
    refine g_s1 (pc2 := 12) hk rfl rfl rfl rfl rfl ?_
    refine g_s1 (pc2 := 13) (st2 := [.int (1 : Int32), .ref x0]) hk rfl rfl rfl rfl rfl ?_
    obtain ⟨ho, H⟩ := H
    refine g_call hk rfl rfl i_k179.1 ⟨rfl, rfl⟩ rfl (i_rcv_v ho rfl (by decide)) rfl ?_
    exact H.mono (fun v h2 q => by obtain ⟨r, rfl, q⟩ := q; exact q)
theorem b173_16 {x0 : Nat} {x1 : Int32} {s0 : Int32} {h : iH} {Q : Option Value → iH → Prop} (H : Q (some (.int s0)) h) : i_P i_MT i_AT L xs 173 16 [some (.ref x0), some (.int x1)] [.int s0] h 0 0 Q := by
  have hk := i_k173
  exact g_ireturn hk rfl (by decide) (by decide) rfl H
theorem b173_29 {x0 : Nat} {x1 : Int32} {h : iH} {Q : Option Value → iH → Prop} (H : (∃ v1 : Nat, i_fld h x0 11 14 = some (.ref v1) ∧ (∃ v2 : Int32, i_fld h v1 1 1 = some (.int v2) ∧ (i_obj? h x0 11 ∧ i_C i_MT i_AT L xs 181 [.ref x0, .int v2] h (fun v h3 => ∃ r4 : Int32, v = some (.int r4) ∧ i_P i_MT i_AT L xs 173 40 [some (.ref x0), some (.int x1)] [.int r4] h3 0 0 Q))))) : i_P i_MT i_AT L xs 173 29 [some (.ref x0), some (.int x1)] [] h 0 0 Q := by
  have hk := i_k173
  refine g_s1 (pc2 := 30) hk rfl rfl rfl rfl rfl ?_
  refine g_s1 (pc2 := 31) hk rfl rfl rfl rfl rfl ?_
  obtain ⟨v1, ev1, H⟩ := H
  refine g_step (pc2 := 34) hk rfl rfl rfl (s_get ev1) ?_
  obtain ⟨v2, ev2, H⟩ := H
  refine g_step (pc2 := 37) hk rfl rfl rfl (s_get ev2) ?_
  obtain ⟨ho, H⟩ := H
  refine g_call hk rfl rfl i_k181.1 ⟨rfl, rfl⟩ rfl (i_rcv_v ho rfl (by decide)) rfl ?_
  exact H.mono (fun v h2 q => by obtain ⟨r, rfl, q⟩ := q; exact q)
theorem b173_40 {x0 : Nat} {x1 : Int32} {s0 : Int32} {h : iH} {Q : Option Value → iH → Prop} (H : Q (some (.int s0)) h) : i_P i_MT i_AT L xs 173 40 [some (.ref x0), some (.int x1)] [.int s0] h 0 0 Q := by
  have hk := i_k173
  exact g_ireturn hk rfl (by decide) (by decide) rfl H
/-! StillTown.saw(I)I -/
theorem e174 {x0 : Nat} {x1 : Int32} {h : iH} {Q : Option Value → iH → Prop} (H : i_P i_MT i_AT L xs 174 0 [some (.ref x0), some (.int x1)] [] h 0 0 Q) : i_C i_MT i_AT L xs 174 [.ref x0, .int x1] h Q := ⟨i_m174, i_k174.1, Nat.le_of_ble_eq_true rfl, H⟩
theorem b174_0 {x0 : Nat} {x1 : Int32} {h : iH} {Q : Option Value → iH → Prop} (H : (i_C i_MT i_AT L xs 192 [.int x1, .int (0 : Int32), .int (7 : Int32)] h (fun v h1 => ∃ r2 : Int32, v = some (.int r2) ∧ i_P i_MT i_AT L xs 174 7 [some (.ref x0), some (.int x1)] [.int r2] h1 0 0 Q))) : i_P i_MT i_AT L xs 174 0 [some (.ref x0), some (.int x1)] [] h 0 0 Q := by
  have hk := i_k174
  refine g_s1 (pc2 := 1) hk rfl rfl rfl rfl rfl ?_
  refine g_s1 (pc2 := 2) (st2 := [.int (0 : Int32), .int x1]) hk rfl rfl rfl rfl rfl ?_
  refine g_s1 (pc2 := 4) (st2 := [.int (7 : Int32), .int (0 : Int32), .int x1]) hk rfl rfl rfl rfl rfl ?_
  refine g_call hk rfl rfl i_k192.1 ⟨rfl, rfl⟩ rfl (i_rcv_0 rfl) rfl ?_
  exact H.mono (fun v h2 q => by obtain ⟨r, rfl, q⟩ := q; exact q)
theorem b174_7 {x0 : Nat} {x1 : Int32} {s0 : Int32} {h : iH} {Q : Option Value → iH → Prop} (H : ((¬ s0 = 0 → (∃ v1 : Nat, i_fld h x0 11 14 = some (.ref v1) ∧ (∃ v2 : Int32, i_fld h v1 1 0 = some (.int v2) ∧ ((x1 < v2 → (∃ v3 : Nat, i_fld h x0 11 14 = some (.ref v3) ∧ (∃ v4 : Nat, i_fld h v3 1 3 = some (.ref v4) ∧ (∃ (n5 : Nat) (f6 : Nat → Int32), i_arI h 0 v4 = some (n5, f6) ∧ ¬ (x1 < 0 ∨ n5 ≤ x1.toNatClampNeg) ∧ (i_obj? h x0 11 ∧ i_C i_MT i_AT L xs 181 [.ref x0, .int (f6 x1.toNatClampNeg)] h (fun v h7 => ∃ r8 : Int32, v = some (.int r8) ∧ i_P i_MT i_AT L xs 174 47 [some (.ref x0), some (.int x1)] [.int r8] h7 0 0 Q)))))) ∧ (¬ (x1 < v2) → (i_obj? h x0 11 ∧ i_C i_MT i_AT L xs 179 [.ref x0, .int (6 : Int32)] h (fun v h9 => ∃ r10 : Int32, v = some (.int r10) ∧ i_P i_MT i_AT L xs 174 33 [some (.ref x0), some (.int x1)] [.int r10] h9 0 0 Q))))))) ∧ (¬ (¬ s0 = 0) → (i_obj? h x0 11 ∧ i_C i_MT i_AT L xs 179 [.ref x0, .int (1 : Int32)] h (fun v h11 => ∃ r12 : Int32, v = some (.int r12) ∧ i_P i_MT i_AT L xs 174 15 [some (.ref x0), some (.int x1)] [.int r12] h11 0 0 Q))))) : i_P i_MT i_AT L xs 174 7 [some (.ref x0), some (.int x1)] [.int s0] h 0 0 Q := by
  have hk := i_k174
  refine g_if_ne hk rfl (fun hc => ?_) (fun hc => ?_)
  · have H := H.1 hc
    refine g_s1 (pc2 := 17) hk rfl rfl rfl rfl rfl ?_
    refine g_s1 (pc2 := 18) hk rfl rfl rfl rfl rfl ?_
    obtain ⟨v1, ev1, H⟩ := H
    refine g_step (pc2 := 21) hk rfl rfl rfl (s_get ev1) ?_
    obtain ⟨v2, ev2, H⟩ := H
    refine g_step (pc2 := 24) hk rfl rfl rfl (s_get ev2) ?_
    refine g_icmp_lt hk rfl (fun hc => ?_) (fun hc => ?_)
    · have H := H.1 hc
      refine g_s1 (pc2 := 35) hk rfl rfl rfl rfl rfl ?_
      refine g_s1 (pc2 := 36) hk rfl rfl rfl rfl rfl ?_
      obtain ⟨v3, ev3, H⟩ := H
      refine g_step (pc2 := 39) hk rfl rfl rfl (s_get ev3) ?_
      obtain ⟨v4, ev4, H⟩ := H
      refine g_step (pc2 := 42) hk rfl rfl rfl (s_get ev4) ?_
      refine g_s1 (pc2 := 43) hk rfl rfl rfl rfl rfl ?_
      obtain ⟨n5, f6, ef6, hi, H⟩ := H
      refine g_step (pc2 := 44) hk rfl rfl rfl (s_aget (L := L) (xs := xs) ef6 hi) ?_
      obtain ⟨ho, H⟩ := H
      refine g_call hk rfl rfl i_k181.1 ⟨rfl, rfl⟩ rfl (i_rcv_v ho rfl (by decide)) rfl ?_
      exact H.mono (fun v h2 q => by obtain ⟨r, rfl, q⟩ := q; exact q)
    · have H := H.2 hc
      refine g_s1 (pc2 := 28) hk rfl rfl rfl rfl rfl ?_
      refine g_s1 (pc2 := 30) (st2 := [.int (6 : Int32), .ref x0]) hk rfl rfl rfl rfl rfl ?_
      obtain ⟨ho, H⟩ := H
      refine g_call hk rfl rfl i_k179.1 ⟨rfl, rfl⟩ rfl (i_rcv_v ho rfl (by decide)) rfl ?_
      exact H.mono (fun v h2 q => by obtain ⟨r, rfl, q⟩ := q; exact q)
  · have H := H.2 hc
    refine g_s1 (pc2 := 11) hk rfl rfl rfl rfl rfl ?_
    refine g_s1 (pc2 := 12) (st2 := [.int (1 : Int32), .ref x0]) hk rfl rfl rfl rfl rfl ?_
    obtain ⟨ho, H⟩ := H
    refine g_call hk rfl rfl i_k179.1 ⟨rfl, rfl⟩ rfl (i_rcv_v ho rfl (by decide)) rfl ?_
    exact H.mono (fun v h2 q => by obtain ⟨r, rfl, q⟩ := q; exact q)
theorem b174_15 {x0 : Nat} {x1 : Int32} {s0 : Int32} {h : iH} {Q : Option Value → iH → Prop} (H : Q (some (.int s0)) h) : i_P i_MT i_AT L xs 174 15 [some (.ref x0), some (.int x1)] [.int s0] h 0 0 Q := by
  have hk := i_k174
  exact g_ireturn hk rfl (by decide) (by decide) rfl H
theorem b174_33 {x0 : Nat} {x1 : Int32} {s0 : Int32} {h : iH} {Q : Option Value → iH → Prop} (H : Q (some (.int s0)) h) : i_P i_MT i_AT L xs 174 33 [some (.ref x0), some (.int x1)] [.int s0] h 0 0 Q := by
  have hk := i_k174
  exact g_ireturn hk rfl (by decide) (by decide) rfl H
theorem b174_47 {x0 : Nat} {x1 : Int32} {s0 : Int32} {h : iH} {Q : Option Value → iH → Prop} (H : Q (some (.int s0)) h) : i_P i_MT i_AT L xs 174 47 [some (.ref x0), some (.int x1)] [.int s0] h 0 0 Q := by
  have hk := i_k174
  exact g_ireturn hk rfl (by decide) (by decide) rfl H
/-! StillTown.caught()I -/
theorem e175 {x0 : Nat} {h : iH} {Q : Option Value → iH → Prop} (H : i_P i_MT i_AT L xs 175 0 [some (.ref x0)] [] h 0 0 Q) : i_C i_MT i_AT L xs 175 [.ref x0] h Q := ⟨i_m175, i_k175.1, Nat.le_of_ble_eq_true rfl, H⟩
theorem b175_0 {x0 : Nat} {h : iH} {Q : Option Value → iH → Prop} (H : (∃ v1 : Nat, i_fld h x0 11 14 = some (.ref v1) ∧ (∃ v2 : Int32, i_fld h v1 1 0 = some (.int v2) ∧ ((¬ v2 = (-1 : Int32) → (∃ v3 : Nat, i_fld h x0 11 14 = some (.ref v3) ∧ (∃ v4 : Int32, i_fld h v3 1 2 = some (.int v4) ∧ (i_obj? h x0 11 ∧ i_C i_MT i_AT L xs 181 [.ref x0, .int v4] h (fun v h5 => ∃ r6 : Int32, v = some (.int r6) ∧ i_P i_MT i_AT L xs 175 31 [some (.ref x0)] [.int r6] h5 0 0 Q))))) ∧ (¬ (¬ v2 = (-1 : Int32)) → (i_obj? h x0 11 ∧ i_C i_MT i_AT L xs 179 [.ref x0, .int (6 : Int32)] h (fun v h7 => ∃ r8 : Int32, v = some (.int r8) ∧ i_P i_MT i_AT L xs 175 17 [some (.ref x0)] [.int r8] h7 0 0 Q))))))) : i_P i_MT i_AT L xs 175 0 [some (.ref x0)] [] h 0 0 Q := by
  have hk := i_k175
  refine g_s1 (pc2 := 1) hk rfl rfl rfl rfl rfl ?_
  obtain ⟨v1, ev1, H⟩ := H
  refine g_step (pc2 := 4) hk rfl rfl rfl (s_get ev1) ?_
  obtain ⟨v2, ev2, H⟩ := H
  refine g_step (pc2 := 7) hk rfl rfl rfl (s_get ev2) ?_
  refine g_s1 (pc2 := 8) (st2 := [.int (-1 : Int32), .int v2]) hk rfl rfl rfl rfl rfl ?_
  refine g_icmp_ne hk rfl (fun hc => ?_) (fun hc => ?_)
  · have H := H.1 hc
    refine g_s1 (pc2 := 21) hk rfl rfl rfl rfl rfl ?_
    refine g_s1 (pc2 := 22) hk rfl rfl rfl rfl rfl ?_
    obtain ⟨v3, ev3, H⟩ := H
    refine g_step (pc2 := 25) hk rfl rfl rfl (s_get ev3) ?_
    obtain ⟨v4, ev4, H⟩ := H
    refine g_step (pc2 := 28) hk rfl rfl rfl (s_get ev4) ?_
    obtain ⟨ho, H⟩ := H
    refine g_call hk rfl rfl i_k181.1 ⟨rfl, rfl⟩ rfl (i_rcv_v ho rfl (by decide)) rfl ?_
    exact H.mono (fun v h2 q => by obtain ⟨r, rfl, q⟩ := q; exact q)
  · have H := H.2 hc
    refine g_s1 (pc2 := 12) hk rfl rfl rfl rfl rfl ?_
    refine g_s1 (pc2 := 14) (st2 := [.int (6 : Int32), .ref x0]) hk rfl rfl rfl rfl rfl ?_
    obtain ⟨ho, H⟩ := H
    refine g_call hk rfl rfl i_k179.1 ⟨rfl, rfl⟩ rfl (i_rcv_v ho rfl (by decide)) rfl ?_
    exact H.mono (fun v h2 q => by obtain ⟨r, rfl, q⟩ := q; exact q)
theorem b175_17 {x0 : Nat} {s0 : Int32} {h : iH} {Q : Option Value → iH → Prop} (H : i_P i_MT i_AT L xs 175 31 [some (.ref x0)] [.int s0] h 0 0 Q) : i_P i_MT i_AT L xs 175 17 [some (.ref x0)] [.int s0] h 0 0 Q := by
  have hk := i_k175
  refine g_s1 (pc2 := 31) hk rfl rfl rfl rfl rfl ?_
  exact H
theorem b175_31 {x0 : Nat} {s0 : Int32} {h : iH} {Q : Option Value → iH → Prop} (H : Q (some (.int s0)) h) : i_P i_MT i_AT L xs 175 31 [some (.ref x0)] [.int s0] h 0 0 Q := by
  have hk := i_k175
  exact g_ireturn hk rfl (by decide) (by decide) rfl H
/-! StillTown.safe(II)Z -/
theorem e176 {x0 : Nat} {x1 : Int32} {x2 : Int32} {h : iH} {Q : Option Value → iH → Prop} (H : i_P i_MT i_AT L xs 176 0 [some (.ref x0), some (.int x1), some (.int x2), none, none] [] h 0 0 Q) : i_C i_MT i_AT L xs 176 [.ref x0, .int x1, .int x2] h Q := ⟨i_m176, i_k176.1, Nat.le_of_ble_eq_true rfl, H⟩
theorem b176_0 {x0 : Nat} {x1 : Int32} {x2 : Int32} {x3 : Option Value} {x4 : Option Value} {h : iH} {Q : Option Value → iH → Prop} (H : (i_C i_MT i_AT L xs 192 [.int x2, .int (1 : Int32), .int (30 : Int32)] h (fun v h1 => ∃ r2 : Int32, v = some (.int r2) ∧ i_P i_MT i_AT L xs 176 7 [some (.ref x0), some (.int x1), some (.int x2), x3, x4] [.int r2] h1 0 0 Q))) : i_P i_MT i_AT L xs 176 0 [some (.ref x0), some (.int x1), some (.int x2), x3, x4] [] h 0 0 Q := by
  have hk := i_k176
  refine g_s1 (pc2 := 1) hk rfl rfl rfl rfl rfl ?_
  refine g_s1 (pc2 := 2) (st2 := [.int (1 : Int32), .int x2]) hk rfl rfl rfl rfl rfl ?_
  refine g_s1 (pc2 := 4) (st2 := [.int (30 : Int32), .int (1 : Int32), .int x2]) hk rfl rfl rfl rfl rfl ?_
  refine g_call hk rfl rfl i_k192.1 ⟨rfl, rfl⟩ rfl (i_rcv_0 rfl) rfl ?_
  exact H.mono (fun v h2 q => by obtain ⟨r, rfl, q⟩ := q; exact q)
theorem b176_7 {x0 : Nat} {x1 : Int32} {x2 : Int32} {x3 : Option Value} {x4 : Option Value} {s0 : Int32} {h : iH} {Q : Option Value → iH → Prop} (H : ((s0 = 0 → i_P i_MT i_AT L xs 176 23 [some (.ref x0), some (.int x1), some (.int x2), x3, x4] [] h 0 0 Q) ∧ (¬ (s0 = 0) → (i_C i_MT i_AT L xs 192 [.int x1, .int (0 : Int32), .int ((10000 : Int32) - x2)] h (fun v h1 => ∃ r2 : Int32, v = some (.int r2) ∧ i_P i_MT i_AT L xs 176 20 [some (.ref x0), some (.int x1), some (.int x2), x3, x4] [.int r2] h1 0 0 Q))))) : i_P i_MT i_AT L xs 176 7 [some (.ref x0), some (.int x1), some (.int x2), x3, x4] [.int s0] h 0 0 Q := by
  have hk := i_k176
  refine g_if_eq hk rfl (fun hc => ?_) (fun hc => ?_)
  · have H := H.1 hc
    exact H
  · have H := H.2 hc
    refine g_s1 (pc2 := 11) hk rfl rfl rfl rfl rfl ?_
    refine g_s1 (pc2 := 12) (st2 := [.int (0 : Int32), .int x1]) hk rfl rfl rfl rfl rfl ?_
    refine g_s1 (pc2 := 15) (st2 := [.int (10000 : Int32), .int (0 : Int32), .int x1]) hk rfl rfl rfl rfl rfl ?_
    refine g_s1 (pc2 := 16) hk rfl rfl rfl rfl rfl ?_
    refine g_s1 (pc2 := 17) hk rfl rfl rfl rfl rfl ?_
    refine g_call hk rfl rfl i_k192.1 ⟨rfl, rfl⟩ rfl (i_rcv_0 rfl) rfl ?_
    exact H.mono (fun v h2 q => by obtain ⟨r, rfl, q⟩ := q; exact q)
theorem b176_20 {x0 : Nat} {x1 : Int32} {x2 : Int32} {x3 : Option Value} {x4 : Option Value} {s0 : Int32} {h : iH} {Q : Option Value → iH → Prop} (H : ((¬ s0 = 0 → i_P i_MT i_AT L xs 176 34 [some (.ref x0), some (.int x1), some (.int x2), some (.int (0 : Int32)), some (.int (0 : Int32))] [] h 0 0 Q) ∧ (¬ (¬ s0 = 0) → i_P i_MT i_AT L xs 176 23 [some (.ref x0), some (.int x1), some (.int x2), x3, x4] [] h 0 0 Q))) : i_P i_MT i_AT L xs 176 20 [some (.ref x0), some (.int x1), some (.int x2), x3, x4] [.int s0] h 0 0 Q := by
  have hk := i_k176
  refine g_if_ne hk rfl (fun hc => ?_) (fun hc => ?_)
  · have H := H.1 hc
    refine g_s1 (pc2 := 30) (st2 := [.int (0 : Int32)]) hk rfl rfl rfl rfl rfl ?_
    refine g_s1 (pc2 := 31) (lo2 := [some (.ref x0), some (.int x1), some (.int x2), some (.int (0 : Int32)), x4]) hk rfl rfl rfl rfl rfl ?_
    refine g_s1 (pc2 := 32) (st2 := [.int (0 : Int32)]) hk rfl rfl rfl rfl rfl ?_
    refine g_s1 (pc2 := 34) (lo2 := [some (.ref x0), some (.int x1), some (.int x2), some (.int (0 : Int32)), some (.int (0 : Int32))]) hk rfl rfl rfl rfl rfl ?_
    exact H
  · have H := H.2 hc
    exact H
theorem b176_23 {x0 : Nat} {x1 : Int32} {x2 : Int32} {x3 : Option Value} {x4 : Option Value} {h : iH} {Q : Option Value → iH → Prop} (H : (i_obj? h x0 11 ∧ i_C i_MT i_AT L xs 180 [.ref x0, .int (1 : Int32)] h (fun v h1 => ∃ r2 : Int32, v = some (.int r2) ∧ i_P i_MT i_AT L xs 176 28 [some (.ref x0), some (.int x1), some (.int x2), x3, x4] [.int r2] h1 0 0 Q))) : i_P i_MT i_AT L xs 176 23 [some (.ref x0), some (.int x1), some (.int x2), x3, x4] [] h 0 0 Q := by
  have hk := i_k176
  refine g_s1 (pc2 := 24) hk rfl rfl rfl rfl rfl ?_
  refine g_s1 (pc2 := 25) (st2 := [.int (1 : Int32), .ref x0]) hk rfl rfl rfl rfl rfl ?_
  obtain ⟨ho, H⟩ := H
  refine g_call hk rfl rfl i_k180.1 ⟨rfl, rfl⟩ rfl (i_rcv_v ho rfl (by decide)) rfl ?_
  exact H.mono (fun v h2 q => by obtain ⟨r, rfl, q⟩ := q; exact q)
theorem b176_28 {x0 : Nat} {x1 : Int32} {x2 : Int32} {x3 : Option Value} {x4 : Option Value} {s0 : Int32} {h : iH} {Q : Option Value → iH → Prop} (H : (i_ret (some .boolean) s0 = true ∧ Q (some (.int s0)) h)) : i_P i_MT i_AT L xs 176 28 [some (.ref x0), some (.int x1), some (.int x2), x3, x4] [.int s0] h 0 0 Q := by
  have hk := i_k176
  exact g_ireturn hk rfl (by decide) (by decide) H.1 H.2
theorem b176_34 {x0 : Nat} {x1 : Int32} {x2 : Int32} {x3 : Int32} {x4 : Int32} {h : iH} {Q : Option Value → iH → Prop} (H : ((x2 ≤ x4 → (i_obj? h x0 11 ∧ i_C i_MT i_AT L xs 185 [.ref x0, .int x3, .int x2] h (fun v h1 => v = none ∧ i_P i_MT i_AT L xs 176 85 [some (.ref x0), some (.int x1), some (.int x2), some (.int x3), some (.int x4)] [] h1 0 0 Q))) ∧ (¬ (x2 ≤ x4) → (∃ v3 : Nat, i_fld h x0 11 15 = some (.ref v3) ∧ (∃ v4 : Nat, i_fld h x0 11 11 = some (.ref v4) ∧ (i_obj? h v3 1 ∧ i_C i_MT i_AT L xs 17 [.ref v3, .ref v4, .int (x1 + x4)] h (fun v h5 => v = none ∧ i_P i_MT i_AT L xs 176 55 [some (.ref x0), some (.int x1), some (.int x2), some (.int x3), some (.int x4)] [] h5 0 0 Q))))))) : i_P i_MT i_AT L xs 176 34 [some (.ref x0), some (.int x1), some (.int x2), some (.int x3), some (.int x4)] [] h 0 0 Q := by
  have hk := i_k176
  refine g_s1 (pc2 := 36) hk rfl rfl rfl rfl rfl ?_
  refine g_s1 (pc2 := 37) hk rfl rfl rfl rfl rfl ?_
  refine g_icmp_ge hk rfl (fun hc => ?_) (fun hc => ?_)
  · have H := H.1 hc
    refine g_s1 (pc2 := 80) hk rfl rfl rfl rfl rfl ?_
    refine g_s1 (pc2 := 81) hk rfl rfl rfl rfl rfl ?_
    refine g_s1 (pc2 := 82) hk rfl rfl rfl rfl rfl ?_
    obtain ⟨ho, H⟩ := H
    refine g_call hk rfl rfl i_k185.1 ⟨rfl, rfl⟩ rfl (i_rcv_v ho rfl (by decide)) rfl ?_
    exact H.mono (fun v h2 q => by obtain ⟨rfl, q⟩ := q; exact q)
  · have H := H.2 hc
    refine g_s1 (pc2 := 41) hk rfl rfl rfl rfl rfl ?_
    obtain ⟨v3, ev3, H⟩ := H
    refine g_step (pc2 := 44) hk rfl rfl rfl (s_get ev3) ?_
    refine g_s1 (pc2 := 45) hk rfl rfl rfl rfl rfl ?_
    obtain ⟨v4, ev4, H⟩ := H
    refine g_step (pc2 := 48) hk rfl rfl rfl (s_get ev4) ?_
    refine g_s1 (pc2 := 49) hk rfl rfl rfl rfl rfl ?_
    refine g_s1 (pc2 := 51) hk rfl rfl rfl rfl rfl ?_
    refine g_s1 (pc2 := 52) hk rfl rfl rfl rfl rfl ?_
    obtain ⟨ho, H⟩ := H
    refine g_call hk rfl rfl i_k17.1 ⟨rfl, rfl⟩ rfl (i_rcv_v ho rfl (by decide)) rfl ?_
    exact H.mono (fun v h2 q => by obtain ⟨rfl, q⟩ := q; exact q)
theorem b176_55 {x0 : Nat} {x1 : Int32} {x2 : Int32} {x3 : Int32} {x4 : Int32} {h : iH} {Q : Option Value → iH → Prop} (H : (∃ v1 : Nat, i_fld h x0 11 15 = some (.ref v1) ∧ (∃ v2 : Int32, i_fld h v1 1 2 = some (.int v2) ∧ ((¬ v2 = 0 → i_P i_MT i_AT L xs 176 71 [some (.ref x0), some (.int x1), some (.int x2), some (.int x3), some (.int x4)] [.int (0 : Int32), .int x3] h 0 0 Q) ∧ (¬ (¬ v2 = 0) → i_P i_MT i_AT L xs 176 71 [some (.ref x0), some (.int x1), some (.int x2), some (.int x3), some (.int x4)] [.int (1 : Int32), .int x3] h 0 0 Q))))) : i_P i_MT i_AT L xs 176 55 [some (.ref x0), some (.int x1), some (.int x2), some (.int x3), some (.int x4)] [] h 0 0 Q := by
  have hk := i_k176
  refine g_s1 (pc2 := 56) hk rfl rfl rfl rfl rfl ?_
  refine g_s1 (pc2 := 57) hk rfl rfl rfl rfl rfl ?_
  obtain ⟨v1, ev1, H⟩ := H
  refine g_step (pc2 := 60) hk rfl rfl rfl (s_get ev1) ?_
  obtain ⟨v2, ev2, H⟩ := H
  refine g_step (pc2 := 63) hk rfl rfl rfl (s_get ev2) ?_
  refine g_if_ne hk rfl (fun hc => ?_) (fun hc => ?_)
  · have H := H.1 hc
    refine g_s1 (pc2 := 71) (st2 := [.int (0 : Int32), .int x3]) hk rfl rfl rfl rfl rfl ?_
    exact H
  · have H := H.2 hc
    refine g_s1 (pc2 := 67) (st2 := [.int (1 : Int32), .int x3]) hk rfl rfl rfl rfl rfl ?_
    refine g_s1 (pc2 := 71) hk rfl rfl rfl rfl rfl ?_
    exact H
theorem b176_71 {x0 : Nat} {x1 : Int32} {x2 : Int32} {x3 : Int32} {x4 : Int32} {s0 : Int32} {s1 : Int32} {h : iH} {Q : Option Value → iH → Prop} (H : i_P i_MT i_AT L xs 176 34 [some (.ref x0), some (.int x1), some (.int x2), some (.int (s0 + s1)), some (.int (x4 + 1))] [] h 0 0 Q) : i_P i_MT i_AT L xs 176 71 [some (.ref x0), some (.int x1), some (.int x2), some (.int x3), some (.int x4)] [.int s1, .int s0] h 0 0 Q := by
  have hk := i_k176
  refine g_s1 (pc2 := 72) hk rfl rfl rfl rfl rfl ?_
  refine g_s1 (pc2 := 73) (lo2 := [some (.ref x0), some (.int x1), some (.int x2), some (.int (s0 + s1)), some (.int x4)]) hk rfl rfl rfl rfl rfl ?_
  refine g_s1 (pc2 := 76) (lo2 := [some (.ref x0), some (.int x1), some (.int x2), some (.int (s0 + s1)), some (.int (x4 + 1))]) hk rfl rfl rfl rfl rfl ?_
  refine g_s1 (pc2 := 34) hk rfl rfl rfl rfl rfl ?_
  exact H
theorem b176_85 {x0 : Nat} {x1 : Int32} {x2 : Int32} {x3 : Int32} {x4 : Int32} {h : iH} {Q : Option Value → iH → Prop} (H : (i_obj? h x0 11 ∧ i_C i_MT i_AT L xs 184 [.ref x0] h (fun v h1 => ∃ r2 : Int32, v = some (.int r2) ∧ i_P i_MT i_AT L xs 176 89 [some (.ref x0), some (.int x1), some (.int x2), some (.int x3), some (.int x4)] [.int r2] h1 0 0 Q))) : i_P i_MT i_AT L xs 176 85 [some (.ref x0), some (.int x1), some (.int x2), some (.int x3), some (.int x4)] [] h 0 0 Q := by
  have hk := i_k176
  refine g_s1 (pc2 := 86) hk rfl rfl rfl rfl rfl ?_
  obtain ⟨ho, H⟩ := H
  refine g_call hk rfl rfl i_k184.1 ⟨rfl, rfl⟩ rfl (i_rcv_v ho rfl (by decide)) rfl ?_
  exact H.mono (fun v h2 q => by obtain ⟨r, rfl, q⟩ := q; exact q)
theorem b176_89 {x0 : Nat} {x1 : Int32} {x2 : Int32} {x3 : Int32} {x4 : Int32} {s0 : Int32} {h : iH} {Q : Option Value → iH → Prop} (H : (i_ret (some .boolean) s0 = true ∧ Q (some (.int s0)) h)) : i_P i_MT i_AT L xs 176 89 [some (.ref x0), some (.int x1), some (.int x2), some (.int x3), some (.int x4)] [.int s0] h 0 0 Q := by
  have hk := i_k176
  exact g_ireturn hk rfl (by decide) (by decide) H.1 H.2
/-! StillTown.mark()I -/
theorem e177 {x0 : Nat} {h : iH} {Q : Option Value → iH → Prop} (H : i_P i_MT i_AT L xs 177 0 [some (.ref x0)] [] h 0 0 Q) : i_C i_MT i_AT L xs 177 [.ref x0] h Q := ⟨i_m177, i_k177.1, Nat.le_of_ble_eq_true rfl, H⟩
theorem b177_0 {x0 : Nat} {h : iH} {Q : Option Value → iH → Prop} (H : (∃ v1 : Int32, i_fld h x0 11 10 = some (.int v1) ∧ ((v1 < (3 : Int32) → (∃ v2 : Nat, i_fld h x0 11 9 = some (.ref v2) ∧ (∃ v3 : Int32, i_fld h x0 11 10 = some (.int v3) ∧ (∃ (n4 : Nat) (f5 : Nat → Option Nat) (v6 : Nat), i_arR h 5 v2 = some (n4, f5) ∧ ¬ (v3 < 0 ∨ n4 ≤ v3.toNatClampNeg) ∧ f5 v3.toNatClampNeg = some v6 ∧ (∃ v7 : Nat, i_fld h x0 11 5 = some (.ref v7) ∧ (i_obj? h v6 8 ∧ i_C i_MT i_AT L xs 98 [.ref v6, .ref v7] h (fun v h8 => v = none ∧ i_P i_MT i_AT L xs 177 30 [some (.ref x0)] [] h8 0 0 Q))))))) ∧ (¬ (v1 < (3 : Int32)) → (i_obj? h x0 11 ∧ i_C i_MT i_AT L xs 179 [.ref x0, .int (4 : Int32)] h (fun v h10 => ∃ r11 : Int32, v = some (.int r11) ∧ i_P i_MT i_AT L xs 177 13 [some (.ref x0)] [.int r11] h10 0 0 Q)))))) : i_P i_MT i_AT L xs 177 0 [some (.ref x0)] [] h 0 0 Q := by
  have hk := i_k177
  refine g_s1 (pc2 := 1) hk rfl rfl rfl rfl rfl ?_
  obtain ⟨v1, ev1, H⟩ := H
  refine g_step (pc2 := 4) hk rfl rfl rfl (s_get ev1) ?_
  refine g_s1 (pc2 := 5) (st2 := [.int (3 : Int32), .int v1]) hk rfl rfl rfl rfl rfl ?_
  refine g_icmp_lt hk rfl (fun hc => ?_) (fun hc => ?_)
  · have H := H.1 hc
    refine g_s1 (pc2 := 15) hk rfl rfl rfl rfl rfl ?_
    obtain ⟨v2, ev2, H⟩ := H
    refine g_step (pc2 := 18) hk rfl rfl rfl (s_get ev2) ?_
    refine g_s1 (pc2 := 19) hk rfl rfl rfl rfl rfl ?_
    obtain ⟨v3, ev3, H⟩ := H
    refine g_step (pc2 := 22) hk rfl rfl rfl (s_get ev3) ?_
    obtain ⟨n4, f5, v6, ef5, hi, hv, H⟩ := H
    refine g_step (pc2 := 23) hk rfl rfl rfl (s_rget (t := 5) (by decide) ef5 hi hv) ?_
    refine g_s1 (pc2 := 24) hk rfl rfl rfl rfl rfl ?_
    obtain ⟨v7, ev7, H⟩ := H
    refine g_step (pc2 := 27) hk rfl rfl rfl (s_get ev7) ?_
    obtain ⟨ho, H⟩ := H
    refine g_call hk rfl rfl i_k98.1 ⟨rfl, rfl⟩ rfl (i_rcv_v ho rfl (by decide)) rfl ?_
    exact H.mono (fun v h2 q => by obtain ⟨rfl, q⟩ := q; exact q)
  · have H := H.2 hc
    refine g_s1 (pc2 := 9) hk rfl rfl rfl rfl rfl ?_
    refine g_s1 (pc2 := 10) (st2 := [.int (4 : Int32), .ref x0]) hk rfl rfl rfl rfl rfl ?_
    obtain ⟨ho, H⟩ := H
    refine g_call hk rfl rfl i_k179.1 ⟨rfl, rfl⟩ rfl (i_rcv_v ho rfl (by decide)) rfl ?_
    exact H.mono (fun v h2 q => by obtain ⟨r, rfl, q⟩ := q; exact q)
theorem b177_13 {x0 : Nat} {s0 : Int32} {h : iH} {Q : Option Value → iH → Prop} (H : Q (some (.int s0)) h) : i_P i_MT i_AT L xs 177 13 [some (.ref x0)] [.int s0] h 0 0 Q := by
  have hk := i_k177
  exact g_ireturn hk rfl (by decide) (by decide) rfl H
theorem b177_30 {x0 : Nat} {h : iH} {Q : Option Value → iH → Prop} (H : (∃ v1 : Int32, i_fld h x0 11 10 = some (.int v1) ∧ ((∃ o, i_fld h x0 11 10 = some o) ∧ i_P i_MT i_AT L xs 177 40 [some (.ref x0)] [] (i_sf h x0 10 (.int (v1 + (1 : Int32)))) 0 0 Q))) : i_P i_MT i_AT L xs 177 30 [some (.ref x0)] [] h 0 0 Q := by
  have hk := i_k177
  refine g_s1 (pc2 := 31) hk rfl rfl rfl rfl rfl ?_
  refine g_s1 (pc2 := 32) hk rfl rfl rfl rfl rfl ?_
  obtain ⟨v1, ev1, H⟩ := H
  refine g_step (pc2 := 35) hk rfl rfl rfl (s_get ev1) ?_
  refine g_s1 (pc2 := 36) (st2 := [.int (1 : Int32), .int v1, .ref x0]) hk rfl rfl rfl rfl rfl ?_
  refine g_s1 (pc2 := 37) hk rfl rfl rfl rfl rfl ?_
  obtain ⟨⟨o, ho⟩, H⟩ := H
  refine g_step (pc2 := 40) hk rfl rfl rfl (s_put ho rfl) ?_
  exact H
theorem b177_40 {x0 : Nat} {h : iH} {Q : Option Value → iH → Prop} (H : (∃ v1 : Int32, i_fld h x0 11 10 = some (.int v1) ∧ (i_obj? h x0 11 ∧ i_C i_MT i_AT L xs 181 [.ref x0, .int v1] h (fun v h2 => ∃ r3 : Int32, v = some (.int r3) ∧ i_P i_MT i_AT L xs 177 48 [some (.ref x0)] [.int r3] h2 0 0 Q)))) : i_P i_MT i_AT L xs 177 40 [some (.ref x0)] [] h 0 0 Q := by
  have hk := i_k177
  refine g_s1 (pc2 := 41) hk rfl rfl rfl rfl rfl ?_
  refine g_s1 (pc2 := 42) hk rfl rfl rfl rfl rfl ?_
  obtain ⟨v1, ev1, H⟩ := H
  refine g_step (pc2 := 45) hk rfl rfl rfl (s_get ev1) ?_
  obtain ⟨ho, H⟩ := H
  refine g_call hk rfl rfl i_k181.1 ⟨rfl, rfl⟩ rfl (i_rcv_v ho rfl (by decide)) rfl ?_
  exact H.mono (fun v h2 q => by obtain ⟨r, rfl, q⟩ := q; exact q)
theorem b177_48 {x0 : Nat} {s0 : Int32} {h : iH} {Q : Option Value → iH → Prop} (H : Q (some (.int s0)) h) : i_P i_MT i_AT L xs 177 48 [some (.ref x0)] [.int s0] h 0 0 Q := by
  have hk := i_k177
  exact g_ireturn hk rfl (by decide) (by decide) rfl H
/-! StillTown.back()I -/
theorem e178 {x0 : Nat} {h : iH} {Q : Option Value → iH → Prop} (H : i_P i_MT i_AT L xs 178 0 [some (.ref x0)] [] h 0 0 Q) : i_C i_MT i_AT L xs 178 [.ref x0] h Q := ⟨i_m178, i_k178.1, Nat.le_of_ble_eq_true rfl, H⟩
theorem b178_0 {x0 : Nat} {h : iH} {Q : Option Value → iH → Prop} (H : (∃ v1 : Int32, i_fld h x0 11 10 = some (.int v1) ∧ ((0 < v1 → (∃ v2 : Int32, i_fld h x0 11 10 = some (.int v2) ∧ ((∃ o, i_fld h x0 11 10 = some o) ∧ i_P i_MT i_AT L xs 178 24 [some (.ref x0)] [] (i_sf h x0 10 (.int (v2 - (1 : Int32)))) 0 0 Q))) ∧ (¬ (0 < v1) → (i_obj? h x0 11 ∧ i_C i_MT i_AT L xs 179 [.ref x0, .int (6 : Int32)] h (fun v h3 => ∃ r4 : Int32, v = some (.int r4) ∧ i_P i_MT i_AT L xs 178 13 [some (.ref x0)] [.int r4] h3 0 0 Q)))))) : i_P i_MT i_AT L xs 178 0 [some (.ref x0)] [] h 0 0 Q := by
  have hk := i_k178
  refine g_s1 (pc2 := 1) hk rfl rfl rfl rfl rfl ?_
  obtain ⟨v1, ev1, H⟩ := H
  refine g_step (pc2 := 4) hk rfl rfl rfl (s_get ev1) ?_
  refine g_if_gt hk rfl (fun hc => ?_) (fun hc => ?_)
  · have H := H.1 hc
    refine g_s1 (pc2 := 15) hk rfl rfl rfl rfl rfl ?_
    refine g_s1 (pc2 := 16) hk rfl rfl rfl rfl rfl ?_
    obtain ⟨v2, ev2, H⟩ := H
    refine g_step (pc2 := 19) hk rfl rfl rfl (s_get ev2) ?_
    refine g_s1 (pc2 := 20) (st2 := [.int (1 : Int32), .int v2, .ref x0]) hk rfl rfl rfl rfl rfl ?_
    refine g_s1 (pc2 := 21) hk rfl rfl rfl rfl rfl ?_
    obtain ⟨⟨o, ho⟩, H⟩ := H
    refine g_step (pc2 := 24) hk rfl rfl rfl (s_put ho rfl) ?_
    exact H
  · have H := H.2 hc
    refine g_s1 (pc2 := 8) hk rfl rfl rfl rfl rfl ?_
    refine g_s1 (pc2 := 10) (st2 := [.int (6 : Int32), .ref x0]) hk rfl rfl rfl rfl rfl ?_
    obtain ⟨ho, H⟩ := H
    refine g_call hk rfl rfl i_k179.1 ⟨rfl, rfl⟩ rfl (i_rcv_v ho rfl (by decide)) rfl ?_
    exact H.mono (fun v h2 q => by obtain ⟨r, rfl, q⟩ := q; exact q)
theorem b178_13 {x0 : Nat} {s0 : Int32} {h : iH} {Q : Option Value → iH → Prop} (H : Q (some (.int s0)) h) : i_P i_MT i_AT L xs 178 13 [some (.ref x0)] [.int s0] h 0 0 Q := by
  have hk := i_k178
  exact g_ireturn hk rfl (by decide) (by decide) rfl H
theorem b178_24 {x0 : Nat} {h : iH} {Q : Option Value → iH → Prop} (H : (∃ v1 : Nat, i_fld h x0 11 5 = some (.ref v1) ∧ (∃ v2 : Nat, i_fld h x0 11 9 = some (.ref v2) ∧ (∃ v3 : Int32, i_fld h x0 11 10 = some (.int v3) ∧ (∃ (n4 : Nat) (f5 : Nat → Option Nat) (v6 : Nat), i_arR h 5 v2 = some (n4, f5) ∧ ¬ (v3 < 0 ∨ n4 ≤ v3.toNatClampNeg) ∧ f5 v3.toNatClampNeg = some v6 ∧ (i_obj? h v1 8 ∧ i_C i_MT i_AT L xs 98 [.ref v1, .ref v6] h (fun v h7 => v = none ∧ i_P i_MT i_AT L xs 178 40 [some (.ref x0)] [] h7 0 0 Q))))))) : i_P i_MT i_AT L xs 178 24 [some (.ref x0)] [] h 0 0 Q := by
  have hk := i_k178
  refine g_s1 (pc2 := 25) hk rfl rfl rfl rfl rfl ?_
  obtain ⟨v1, ev1, H⟩ := H
  refine g_step (pc2 := 28) hk rfl rfl rfl (s_get ev1) ?_
  refine g_s1 (pc2 := 29) hk rfl rfl rfl rfl rfl ?_
  obtain ⟨v2, ev2, H⟩ := H
  refine g_step (pc2 := 32) hk rfl rfl rfl (s_get ev2) ?_
  refine g_s1 (pc2 := 33) hk rfl rfl rfl rfl rfl ?_
  obtain ⟨v3, ev3, H⟩ := H
  refine g_step (pc2 := 36) hk rfl rfl rfl (s_get ev3) ?_
  obtain ⟨n4, f5, v6, ef5, hi, hv, H⟩ := H
  refine g_step (pc2 := 37) hk rfl rfl rfl (s_rget (t := 5) (by decide) ef5 hi hv) ?_
  obtain ⟨ho, H⟩ := H
  refine g_call hk rfl rfl i_k98.1 ⟨rfl, rfl⟩ rfl (i_rcv_v ho rfl (by decide)) rfl ?_
  exact H.mono (fun v h2 q => by obtain ⟨rfl, q⟩ := q; exact q)
theorem b178_40 {x0 : Nat} {h : iH} {Q : Option Value → iH → Prop} (H : (∃ v1 : Nat, i_fld h x0 11 11 = some (.ref v1) ∧ (∃ v2 : Nat, i_fld h x0 11 5 = some (.ref v2) ∧ (i_obj? h v1 0 ∧ i_C i_MT i_AT L xs 1 [.ref v1, .ref v2] h (fun v h3 => v = none ∧ i_P i_MT i_AT L xs 178 51 [some (.ref x0)] [] h3 0 0 Q))))) : i_P i_MT i_AT L xs 178 40 [some (.ref x0)] [] h 0 0 Q := by
  have hk := i_k178
  refine g_s1 (pc2 := 41) hk rfl rfl rfl rfl rfl ?_
  obtain ⟨v1, ev1, H⟩ := H
  refine g_step (pc2 := 44) hk rfl rfl rfl (s_get ev1) ?_
  refine g_s1 (pc2 := 45) hk rfl rfl rfl rfl rfl ?_
  obtain ⟨v2, ev2, H⟩ := H
  refine g_step (pc2 := 48) hk rfl rfl rfl (s_get ev2) ?_
  obtain ⟨ho, H⟩ := H
  refine g_call hk rfl rfl i_k1.1 ⟨rfl, rfl⟩ rfl (i_rcv_v ho rfl (by decide)) rfl ?_
  exact H.mono (fun v h2 q => by obtain ⟨rfl, q⟩ := q; exact q)
theorem b178_51 {x0 : Nat} {h : iH} {Q : Option Value → iH → Prop} (H : (∃ v1 : Int32, i_fld h x0 11 10 = some (.int v1) ∧ (i_obj? h x0 11 ∧ i_C i_MT i_AT L xs 181 [.ref x0, .int v1] h (fun v h2 => ∃ r3 : Int32, v = some (.int r3) ∧ i_P i_MT i_AT L xs 178 59 [some (.ref x0)] [.int r3] h2 0 0 Q)))) : i_P i_MT i_AT L xs 178 51 [some (.ref x0)] [] h 0 0 Q := by
  have hk := i_k178
  refine g_s1 (pc2 := 52) hk rfl rfl rfl rfl rfl ?_
  refine g_s1 (pc2 := 53) hk rfl rfl rfl rfl rfl ?_
  obtain ⟨v1, ev1, H⟩ := H
  refine g_step (pc2 := 56) hk rfl rfl rfl (s_get ev1) ?_
  obtain ⟨ho, H⟩ := H
  refine g_call hk rfl rfl i_k181.1 ⟨rfl, rfl⟩ rfl (i_rcv_v ho rfl (by decide)) rfl ?_
  exact H.mono (fun v h2 q => by obtain ⟨r, rfl, q⟩ := q; exact q)
theorem b178_59 {x0 : Nat} {s0 : Int32} {h : iH} {Q : Option Value → iH → Prop} (H : Q (some (.int s0)) h) : i_P i_MT i_AT L xs 178 59 [some (.ref x0)] [.int s0] h 0 0 Q := by
  have hk := i_k178
  exact g_ireturn hk rfl (by decide) (by decide) rfl H
/-! StillTown.refuse(I)I -/
theorem e179 {x0 : Nat} {x1 : Int32} {h : iH} {Q : Option Value → iH → Prop} (H : i_P i_MT i_AT L xs 179 0 [some (.ref x0), some (.int x1)] [] h 0 0 Q) : i_C i_MT i_AT L xs 179 [.ref x0, .int x1] h Q := ⟨i_m179, i_k179.1, Nat.le_of_ble_eq_true rfl, H⟩
theorem b179_0 {x0 : Nat} {x1 : Int32} {h : iH} {Q : Option Value → iH → Prop} (H : ((∃ o, i_fld h x0 11 0 = some o) ∧ i_P i_MT i_AT L xs 179 5 [some (.ref x0), some (.int x1)] [] (i_sf h x0 0 (.int x1)) 0 0 Q)) : i_P i_MT i_AT L xs 179 0 [some (.ref x0), some (.int x1)] [] h 0 0 Q := by
  have hk := i_k179
  refine g_s1 (pc2 := 1) hk rfl rfl rfl rfl rfl ?_
  refine g_s1 (pc2 := 2) hk rfl rfl rfl rfl rfl ?_
  obtain ⟨⟨o, ho⟩, H⟩ := H
  refine g_step (pc2 := 5) hk rfl rfl rfl (s_put ho rfl) ?_
  exact H
theorem b179_5 {x0 : Nat} {x1 : Int32} {h : iH} {Q : Option Value → iH → Prop} (H : Q (some (.int (-1 : Int32))) h) : i_P i_MT i_AT L xs 179 5 [some (.ref x0), some (.int x1)] [] h 0 0 Q := by
  have hk := i_k179
  refine g_s1 (pc2 := 6) (st2 := [.int (-1 : Int32)]) hk rfl rfl rfl rfl rfl ?_
  exact g_ireturn hk rfl (by decide) (by decide) rfl H
/-! StillTown.deny(I)Z -/
theorem e180 {x0 : Nat} {x1 : Int32} {h : iH} {Q : Option Value → iH → Prop} (H : i_P i_MT i_AT L xs 180 0 [some (.ref x0), some (.int x1)] [] h 0 0 Q) : i_C i_MT i_AT L xs 180 [.ref x0, .int x1] h Q := ⟨i_m180, i_k180.1, Nat.le_of_ble_eq_true rfl, H⟩
theorem b180_0 {x0 : Nat} {x1 : Int32} {h : iH} {Q : Option Value → iH → Prop} (H : ((∃ o, i_fld h x0 11 0 = some o) ∧ i_P i_MT i_AT L xs 180 5 [some (.ref x0), some (.int x1)] [] (i_sf h x0 0 (.int x1)) 0 0 Q)) : i_P i_MT i_AT L xs 180 0 [some (.ref x0), some (.int x1)] [] h 0 0 Q := by
  have hk := i_k180
  refine g_s1 (pc2 := 1) hk rfl rfl rfl rfl rfl ?_
  refine g_s1 (pc2 := 2) hk rfl rfl rfl rfl rfl ?_
  obtain ⟨⟨o, ho⟩, H⟩ := H
  refine g_step (pc2 := 5) hk rfl rfl rfl (s_put ho rfl) ?_
  exact H
theorem b180_5 {x0 : Nat} {x1 : Int32} {h : iH} {Q : Option Value → iH → Prop} (H : Q (some (.int 0)) h) : i_P i_MT i_AT L xs 180 5 [some (.ref x0), some (.int x1)] [] h 0 0 Q := by
  have hk := i_k180
  refine g_s1 (pc2 := 6) (st2 := [.int (0 : Int32)]) hk rfl rfl rfl rfl rfl ?_
  exact g_ireturn hk rfl (by decide) (by decide) rfl H
/-! StillTown.answer(I)I -/
theorem e181 {x0 : Nat} {x1 : Int32} {h : iH} {Q : Option Value → iH → Prop} (H : i_P i_MT i_AT L xs 181 0 [some (.ref x0), some (.int x1)] [] h 0 0 Q) : i_C i_MT i_AT L xs 181 [.ref x0, .int x1] h Q := ⟨i_m181, i_k181.1, Nat.le_of_ble_eq_true rfl, H⟩
theorem b181_0 {x0 : Nat} {x1 : Int32} {h : iH} {Q : Option Value → iH → Prop} (H : ((∃ o, i_fld h x0 11 0 = some o) ∧ i_P i_MT i_AT L xs 181 5 [some (.ref x0), some (.int x1)] [] (i_sf h x0 0 (.int (0 : Int32))) 0 0 Q)) : i_P i_MT i_AT L xs 181 0 [some (.ref x0), some (.int x1)] [] h 0 0 Q := by
  have hk := i_k181
  refine g_s1 (pc2 := 1) hk rfl rfl rfl rfl rfl ?_
  refine g_s1 (pc2 := 2) (st2 := [.int (0 : Int32), .ref x0]) hk rfl rfl rfl rfl rfl ?_
  obtain ⟨⟨o, ho⟩, H⟩ := H
  refine g_step (pc2 := 5) hk rfl rfl rfl (s_put ho rfl) ?_
  exact H
theorem b181_5 {x0 : Nat} {x1 : Int32} {h : iH} {Q : Option Value → iH → Prop} (H : Q (some (.int x1)) h) : i_P i_MT i_AT L xs 181 5 [some (.ref x0), some (.int x1)] [] h 0 0 Q := by
  have hk := i_k181
  refine g_s1 (pc2 := 6) hk rfl rfl rfl rfl rfl ?_
  exact g_ireturn hk rfl (by decide) (by decide) rfl H
/-! StillTown.answerSet(J)J -/
theorem e182 {x0 : Nat} {x1 : Int64} {h : iH} {Q : Option Value → iH → Prop} (H : i_P i_MT i_AT L xs 182 0 [some (.ref x0), some (.long x1), none] [] h 0 0 Q) : i_C i_MT i_AT L xs 182 [.ref x0, .long x1] h Q := ⟨i_m182, i_k182.1, Nat.le_of_ble_eq_true rfl, H⟩
theorem b182_0 {x0 : Nat} {x1 : Int64} {h : iH} {Q : Option Value → iH → Prop} (H : ((∃ o, i_fld h x0 11 0 = some o) ∧ i_P i_MT i_AT L xs 182 5 [some (.ref x0), some (.long x1), none] [] (i_sf h x0 0 (.int (0 : Int32))) 0 0 Q)) : i_P i_MT i_AT L xs 182 0 [some (.ref x0), some (.long x1), none] [] h 0 0 Q := by
  have hk := i_k182
  refine g_s1 (pc2 := 1) hk rfl rfl rfl rfl rfl ?_
  refine g_s1 (pc2 := 2) (st2 := [.int (0 : Int32), .ref x0]) hk rfl rfl rfl rfl rfl ?_
  obtain ⟨⟨o, ho⟩, H⟩ := H
  refine g_step (pc2 := 5) hk rfl rfl rfl (s_put ho rfl) ?_
  exact H
theorem b182_5 {x0 : Nat} {x1 : Int64} {h : iH} {Q : Option Value → iH → Prop} (H : Q (some (.long x1)) h) : i_P i_MT i_AT L xs 182 5 [some (.ref x0), some (.long x1), none] [] h 0 0 Q := by
  have hk := i_k182
  refine g_s1 (pc2 := 6) hk rfl rfl rfl rfl rfl ?_
  exact g_lreturn hk rfl (by decide) (by decide) rfl H
/-! StillTown.answerIfAny(I)I -/
theorem e183 {x0 : Nat} {x1 : Int32} {h : iH} {Q : Option Value → iH → Prop} (H : i_P i_MT i_AT L xs 183 0 [some (.ref x0), some (.int x1)] [] h 0 0 Q) : i_C i_MT i_AT L xs 183 [.ref x0, .int x1] h Q := ⟨i_m183, i_k183.1, Nat.le_of_ble_eq_true rfl, H⟩
theorem b183_0 {x0 : Nat} {x1 : Int32} {h : iH} {Q : Option Value → iH → Prop} (H : ((¬ x1 = (-1 : Int32) → (i_obj? h x0 11 ∧ i_C i_MT i_AT L xs 181 [.ref x0, .int x1] h (fun v h1 => ∃ r2 : Int32, v = some (.int r2) ∧ i_P i_MT i_AT L xs 183 19 [some (.ref x0), some (.int x1)] [.int r2] h1 0 0 Q))) ∧ (¬ (¬ x1 = (-1 : Int32)) → (i_obj? h x0 11 ∧ i_C i_MT i_AT L xs 179 [.ref x0, .int (6 : Int32)] h (fun v h3 => ∃ r4 : Int32, v = some (.int r4) ∧ i_P i_MT i_AT L xs 183 11 [some (.ref x0), some (.int x1)] [.int r4] h3 0 0 Q))))) : i_P i_MT i_AT L xs 183 0 [some (.ref x0), some (.int x1)] [] h 0 0 Q := by
  have hk := i_k183
  refine g_s1 (pc2 := 1) hk rfl rfl rfl rfl rfl ?_
  refine g_s1 (pc2 := 2) (st2 := [.int (-1 : Int32), .int x1]) hk rfl rfl rfl rfl rfl ?_
  refine g_icmp_ne hk rfl (fun hc => ?_) (fun hc => ?_)
  · have H := H.1 hc
    refine g_s1 (pc2 := 15) hk rfl rfl rfl rfl rfl ?_
    refine g_s1 (pc2 := 16) hk rfl rfl rfl rfl rfl ?_
    obtain ⟨ho, H⟩ := H
    refine g_call hk rfl rfl i_k181.1 ⟨rfl, rfl⟩ rfl (i_rcv_v ho rfl (by decide)) rfl ?_
    exact H.mono (fun v h2 q => by obtain ⟨r, rfl, q⟩ := q; exact q)
  · have H := H.2 hc
    refine g_s1 (pc2 := 6) hk rfl rfl rfl rfl rfl ?_
    refine g_s1 (pc2 := 8) (st2 := [.int (6 : Int32), .ref x0]) hk rfl rfl rfl rfl rfl ?_
    obtain ⟨ho, H⟩ := H
    refine g_call hk rfl rfl i_k179.1 ⟨rfl, rfl⟩ rfl (i_rcv_v ho rfl (by decide)) rfl ?_
    exact H.mono (fun v h2 q => by obtain ⟨r, rfl, q⟩ := q; exact q)
theorem b183_11 {x0 : Nat} {x1 : Int32} {s0 : Int32} {h : iH} {Q : Option Value → iH → Prop} (H : i_P i_MT i_AT L xs 183 19 [some (.ref x0), some (.int x1)] [.int s0] h 0 0 Q) : i_P i_MT i_AT L xs 183 11 [some (.ref x0), some (.int x1)] [.int s0] h 0 0 Q := by
  have hk := i_k183
  refine g_s1 (pc2 := 19) hk rfl rfl rfl rfl rfl ?_
  exact H
theorem b183_19 {x0 : Nat} {x1 : Int32} {s0 : Int32} {h : iH} {Q : Option Value → iH → Prop} (H : Q (some (.int s0)) h) : i_P i_MT i_AT L xs 183 19 [some (.ref x0), some (.int x1)] [.int s0] h 0 0 Q := by
  have hk := i_k183
  exact g_ireturn hk rfl (by decide) (by decide) rfl H
/-! StillTown.affirm()Z -/
theorem e184 {x0 : Nat} {h : iH} {Q : Option Value → iH → Prop} (H : i_P i_MT i_AT L xs 184 0 [some (.ref x0)] [] h 0 0 Q) : i_C i_MT i_AT L xs 184 [.ref x0] h Q := ⟨i_m184, i_k184.1, Nat.le_of_ble_eq_true rfl, H⟩
theorem b184_0 {x0 : Nat} {h : iH} {Q : Option Value → iH → Prop} (H : ((∃ o, i_fld h x0 11 0 = some o) ∧ i_P i_MT i_AT L xs 184 5 [some (.ref x0)] [] (i_sf h x0 0 (.int (0 : Int32))) 0 0 Q)) : i_P i_MT i_AT L xs 184 0 [some (.ref x0)] [] h 0 0 Q := by
  have hk := i_k184
  refine g_s1 (pc2 := 1) hk rfl rfl rfl rfl rfl ?_
  refine g_s1 (pc2 := 2) (st2 := [.int (0 : Int32), .ref x0]) hk rfl rfl rfl rfl rfl ?_
  obtain ⟨⟨o, ho⟩, H⟩ := H
  refine g_step (pc2 := 5) hk rfl rfl rfl (s_put ho rfl) ?_
  exact H
theorem b184_5 {x0 : Nat} {h : iH} {Q : Option Value → iH → Prop} (H : Q (some (.int 1)) h) : i_P i_MT i_AT L xs 184 5 [some (.ref x0)] [] h 0 0 Q := by
  have hk := i_k184
  refine g_s1 (pc2 := 6) (st2 := [.int (1 : Int32)]) hk rfl rfl rfl rfl rfl ?_
  exact g_ireturn hk rfl (by decide) (by decide) rfl H
/-! StillTown.tellFraction(II)V -/
theorem e185 {x0 : Nat} {x1 : Int32} {x2 : Int32} {h : iH} {Q : Option Value → iH → Prop} (H : i_P i_MT i_AT L xs 185 0 [some (.ref x0), some (.int x1), some (.int x2), none, none, none, none] [] h 0 0 Q) : i_C i_MT i_AT L xs 185 [.ref x0, .int x1, .int x2] h Q := ⟨i_m185, i_k185.1, Nat.le_of_ble_eq_true rfl, H⟩
theorem b185_0 {x0 : Nat} {x1 : Int32} {x2 : Int32} {x3 : Option Value} {x4 : Option Value} {x5 : Option Value} {x6 : Option Value} {h : iH} {Q : Option Value → iH → Prop} (H : i_P i_MT i_AT L xs 185 8 [some (.ref x0), some (.int x1), some (.int x2), some (.int x1), some (.int x2), some (.int (0 : Int32)), x6] [] h 0 0 Q) : i_P i_MT i_AT L xs 185 0 [some (.ref x0), some (.int x1), some (.int x2), x3, x4, x5, x6] [] h 0 0 Q := by
  have hk := i_k185
  refine g_s1 (pc2 := 1) hk rfl rfl rfl rfl rfl ?_
  refine g_s1 (pc2 := 2) (lo2 := [some (.ref x0), some (.int x1), some (.int x2), some (.int x1), x4, x5, x6]) hk rfl rfl rfl rfl rfl ?_
  refine g_s1 (pc2 := 3) hk rfl rfl rfl rfl rfl ?_
  refine g_s1 (pc2 := 5) (lo2 := [some (.ref x0), some (.int x1), some (.int x2), some (.int x1), some (.int x2), x5, x6]) hk rfl rfl rfl rfl rfl ?_
  refine g_s1 (pc2 := 6) (st2 := [.int (0 : Int32)]) hk rfl rfl rfl rfl rfl ?_
  refine g_s1 (pc2 := 8) (lo2 := [some (.ref x0), some (.int x1), some (.int x2), some (.int x1), some (.int x2), some (.int (0 : Int32)), x6]) hk rfl rfl rfl rfl rfl ?_
  exact H
theorem b185_8 {x0 : Nat} {x1 : Int32} {x2 : Int32} {x3 : Int32} {x4 : Int32} {x5 : Int32} {x6 : Option Value} {h : iH} {Q : Option Value → iH → Prop} (H : (((30 : Int32) ≤ x5 → i_P i_MT i_AT L xs 185 39 [some (.ref x0), some (.int x1), some (.int x2), some (.int x3), some (.int x4), some (.int x5), x6] [] h 0 0 Q) ∧ (¬ ((30 : Int32) ≤ x5) → ((x4 = 0 → i_P i_MT i_AT L xs 185 39 [some (.ref x0), some (.int x1), some (.int x2), some (.int x3), some (.int x4), some (.int x5), x6] [] h 0 0 Q) ∧ (¬ (x4 = 0) → (¬ x4 = 0 ∧ i_P i_MT i_AT L xs 185 8 [some (.ref x0), some (.int x1), some (.int x2), some (.int x4), some (.int (x3 - x3 / x4 * x4)), some (.int (x5 + 1)), some (.int (x3 - x3 / x4 * x4))] [] h 0 0 Q)))))) : i_P i_MT i_AT L xs 185 8 [some (.ref x0), some (.int x1), some (.int x2), some (.int x3), some (.int x4), some (.int x5), x6] [] h 0 0 Q := by
  have hk := i_k185
  refine g_s1 (pc2 := 10) hk rfl rfl rfl rfl rfl ?_
  refine g_s1 (pc2 := 12) (st2 := [.int (30 : Int32), .int x5]) hk rfl rfl rfl rfl rfl ?_
  refine g_icmp_ge hk rfl (fun hc => ?_) (fun hc => ?_)
  · have H := H.1 hc
    exact H
  · have H := H.2 hc
    refine g_s1 (pc2 := 17) hk rfl rfl rfl rfl rfl ?_
    refine g_if_eq hk rfl (fun hc => ?_) (fun hc => ?_)
    · have H := H.1 hc
      exact H
    · have H := H.2 hc
      refine g_s1 (pc2 := 21) hk rfl rfl rfl rfl rfl ?_
      refine g_s1 (pc2 := 23) hk rfl rfl rfl rfl rfl ?_
      obtain ⟨hz, H⟩ := H
      refine g_s1 (pc2 := 24) hk rfl rfl rfl rfl (s_if hz) ?_
      refine g_s1 (pc2 := 26) (lo2 := [some (.ref x0), some (.int x1), some (.int x2), some (.int x3), some (.int x4), some (.int x5), some (.int (x3 - x3 / x4 * x4))]) hk rfl rfl rfl rfl rfl ?_
      refine g_s1 (pc2 := 28) hk rfl rfl rfl rfl rfl ?_
      refine g_s1 (pc2 := 29) (lo2 := [some (.ref x0), some (.int x1), some (.int x2), some (.int x4), some (.int x4), some (.int x5), some (.int (x3 - x3 / x4 * x4))]) hk rfl rfl rfl rfl rfl ?_
      refine g_s1 (pc2 := 31) hk rfl rfl rfl rfl rfl ?_
      refine g_s1 (pc2 := 33) (lo2 := [some (.ref x0), some (.int x1), some (.int x2), some (.int x4), some (.int (x3 - x3 / x4 * x4)), some (.int x5), some (.int (x3 - x3 / x4 * x4))]) hk rfl rfl rfl rfl rfl ?_
      refine g_s1 (pc2 := 36) (lo2 := [some (.ref x0), some (.int x1), some (.int x2), some (.int x4), some (.int (x3 - x3 / x4 * x4)), some (.int (x5 + 1)), some (.int (x3 - x3 / x4 * x4))]) hk rfl rfl rfl rfl rfl ?_
      refine g_s1 (pc2 := 8) hk rfl rfl rfl rfl rfl ?_
      exact H
theorem b185_39 {x0 : Nat} {x1 : Int32} {x2 : Int32} {x3 : Int32} {x4 : Int32} {x5 : Int32} {x6 : Option Value} {h : iH} {Q : Option Value → iH → Prop} (H : ((x3 ≤ 0 → i_P i_MT i_AT L xs 185 59 [some (.ref x0), some (.int x1), some (.int x2), some (.int x3), some (.int x4), some (.int x5), x6] [] h 0 0 Q) ∧ (¬ (x3 ≤ 0) → (¬ x3 = 0 ∧ ((∃ o, i_fld h x0 11 1 = some o) ∧ i_P i_MT i_AT L xs 185 51 [some (.ref x0), some (.int x1), some (.int x2), some (.int x3), some (.int x4), some (.int x5), x6] [] (i_sf h x0 1 (.long ((x1 / x3).toInt64))) 0 0 Q))))) : i_P i_MT i_AT L xs 185 39 [some (.ref x0), some (.int x1), some (.int x2), some (.int x3), some (.int x4), some (.int x5), x6] [] h 0 0 Q := by
  have hk := i_k185
  refine g_s1 (pc2 := 40) hk rfl rfl rfl rfl rfl ?_
  refine g_if_le hk rfl (fun hc => ?_) (fun hc => ?_)
  · have H := H.1 hc
    exact H
  · have H := H.2 hc
    refine g_s1 (pc2 := 44) hk rfl rfl rfl rfl rfl ?_
    refine g_s1 (pc2 := 45) hk rfl rfl rfl rfl rfl ?_
    refine g_s1 (pc2 := 46) hk rfl rfl rfl rfl rfl ?_
    obtain ⟨hz, H⟩ := H
    refine g_s1 (pc2 := 47) hk rfl rfl rfl rfl (s_if hz) ?_
    refine g_s1 (pc2 := 48) hk rfl rfl rfl rfl rfl ?_
    obtain ⟨⟨o, ho⟩, H⟩ := H
    refine g_step (pc2 := 51) hk rfl rfl rfl (s_put ho rfl) ?_
    exact H
theorem b185_51 {x0 : Nat} {x1 : Int32} {x2 : Int32} {x3 : Int32} {x4 : Int32} {x5 : Int32} {x6 : Option Value} {h : iH} {Q : Option Value → iH → Prop} (H : (¬ x3 = 0 ∧ ((∃ o, i_fld h x0 11 2 = some o) ∧ i_P i_MT i_AT L xs 185 59 [some (.ref x0), some (.int x1), some (.int x2), some (.int x3), some (.int x4), some (.int x5), x6] [] (i_sf h x0 2 (.long ((x2 / x3).toInt64))) 0 0 Q))) : i_P i_MT i_AT L xs 185 51 [some (.ref x0), some (.int x1), some (.int x2), some (.int x3), some (.int x4), some (.int x5), x6] [] h 0 0 Q := by
  have hk := i_k185
  refine g_s1 (pc2 := 52) hk rfl rfl rfl rfl rfl ?_
  refine g_s1 (pc2 := 53) hk rfl rfl rfl rfl rfl ?_
  refine g_s1 (pc2 := 54) hk rfl rfl rfl rfl rfl ?_
  obtain ⟨hz, H⟩ := H
  refine g_s1 (pc2 := 55) hk rfl rfl rfl rfl (s_if hz) ?_
  refine g_s1 (pc2 := 56) hk rfl rfl rfl rfl rfl ?_
  obtain ⟨⟨o, ho⟩, H⟩ := H
  refine g_step (pc2 := 59) hk rfl rfl rfl (s_put ho rfl) ?_
  exact H
theorem b185_59 {x0 : Nat} {x1 : Int32} {x2 : Int32} {x3 : Int32} {x4 : Int32} {x5 : Int32} {x6 : Option Value} {h : iH} {Q : Option Value → iH → Prop} (H : Q none h) : i_P i_MT i_AT L xs 185 59 [some (.ref x0), some (.int x1), some (.int x2), some (.int x3), some (.int x4), some (.int x5), x6] [] h 0 0 Q := by
  have hk := i_k185
  exact g_return hk rfl (by decide) (by decide) rfl H
/-! StillTown.isPerson(I)Z -/
theorem e186 {x0 : Nat} {x1 : Int32} {h : iH} {Q : Option Value → iH → Prop} (H : i_P i_MT i_AT L xs 186 0 [some (.ref x0), some (.int x1)] [] h 0 0 Q) : i_C i_MT i_AT L xs 186 [.ref x0, .int x1] h Q := ⟨i_m186, i_k186.1, Nat.le_of_ble_eq_true rfl, H⟩
theorem b186_0 {x0 : Nat} {x1 : Int32} {h : iH} {Q : Option Value → iH → Prop} (H : ((x1 < 0 → i_P i_MT i_AT L xs 186 22 [some (.ref x0), some (.int x1)] [] h 0 0 Q) ∧ (¬ (x1 < 0) → (∃ v1 : Nat, i_fld h x0 11 5 = some (.ref v1) ∧ (∃ v2 : Nat, i_fld h v1 8 12 = some (.ref v2) ∧ (∃ v3 : Int32, i_fld h v2 3 0 = some (.int v3) ∧ ((v3 ≤ x1 → i_P i_MT i_AT L xs 186 22 [some (.ref x0), some (.int x1)] [] h 0 0 Q) ∧ (¬ (v3 ≤ x1) → i_P i_MT i_AT L xs 186 23 [some (.ref x0), some (.int x1)] [.int (1 : Int32)] h 0 0 Q)))))))) : i_P i_MT i_AT L xs 186 0 [some (.ref x0), some (.int x1)] [] h 0 0 Q := by
  have hk := i_k186
  refine g_s1 (pc2 := 1) hk rfl rfl rfl rfl rfl ?_
  refine g_if_lt hk rfl (fun hc => ?_) (fun hc => ?_)
  · have H := H.1 hc
    exact H
  · have H := H.2 hc
    refine g_s1 (pc2 := 5) hk rfl rfl rfl rfl rfl ?_
    refine g_s1 (pc2 := 6) hk rfl rfl rfl rfl rfl ?_
    obtain ⟨v1, ev1, H⟩ := H
    refine g_step (pc2 := 9) hk rfl rfl rfl (s_get ev1) ?_
    obtain ⟨v2, ev2, H⟩ := H
    refine g_step (pc2 := 12) hk rfl rfl rfl (s_get ev2) ?_
    obtain ⟨v3, ev3, H⟩ := H
    refine g_step (pc2 := 15) hk rfl rfl rfl (s_get ev3) ?_
    refine g_icmp_ge hk rfl (fun hc => ?_) (fun hc => ?_)
    · have H := H.1 hc
      exact H
    · have H := H.2 hc
      refine g_s1 (pc2 := 19) (st2 := [.int (1 : Int32)]) hk rfl rfl rfl rfl rfl ?_
      refine g_s1 (pc2 := 23) hk rfl rfl rfl rfl rfl ?_
      exact H
theorem b186_22 {x0 : Nat} {x1 : Int32} {h : iH} {Q : Option Value → iH → Prop} (H : i_P i_MT i_AT L xs 186 23 [some (.ref x0), some (.int x1)] [.int (0 : Int32)] h 0 0 Q) : i_P i_MT i_AT L xs 186 22 [some (.ref x0), some (.int x1)] [] h 0 0 Q := by
  have hk := i_k186
  refine g_s1 (pc2 := 23) (st2 := [.int (0 : Int32)]) hk rfl rfl rfl rfl rfl ?_
  exact H
theorem b186_23 {x0 : Nat} {x1 : Int32} {s0 : Int32} {h : iH} {Q : Option Value → iH → Prop} (H : (i_ret (some .boolean) s0 = true ∧ Q (some (.int s0)) h)) : i_P i_MT i_AT L xs 186 23 [some (.ref x0), some (.int x1)] [.int s0] h 0 0 Q := by
  have hk := i_k186
  exact g_ireturn hk rfl (by decide) (by decide) H.1 H.2
/-! StillTown.areTwo(II)Z -/
theorem e187 {x0 : Nat} {x1 : Int32} {x2 : Int32} {h : iH} {Q : Option Value → iH → Prop} (H : i_P i_MT i_AT L xs 187 0 [some (.ref x0), some (.int x1), some (.int x2)] [] h 0 0 Q) : i_C i_MT i_AT L xs 187 [.ref x0, .int x1, .int x2] h Q := ⟨i_m187, i_k187.1, Nat.le_of_ble_eq_true rfl, H⟩
theorem b187_0 {x0 : Nat} {x1 : Int32} {x2 : Int32} {h : iH} {Q : Option Value → iH → Prop} (H : (i_obj? h x0 11 ∧ i_C i_MT i_AT L xs 186 [.ref x0, .int x1] h (fun v h1 => ∃ r2 : Int32, v = some (.int r2) ∧ i_P i_MT i_AT L xs 187 5 [some (.ref x0), some (.int x1), some (.int x2)] [.int r2] h1 0 0 Q))) : i_P i_MT i_AT L xs 187 0 [some (.ref x0), some (.int x1), some (.int x2)] [] h 0 0 Q := by
  have hk := i_k187
  refine g_s1 (pc2 := 1) hk rfl rfl rfl rfl rfl ?_
  refine g_s1 (pc2 := 2) hk rfl rfl rfl rfl rfl ?_
  obtain ⟨ho, H⟩ := H
  refine g_call hk rfl rfl i_k186.1 ⟨rfl, rfl⟩ rfl (i_rcv_v ho rfl (by decide)) rfl ?_
  exact H.mono (fun v h2 q => by obtain ⟨r, rfl, q⟩ := q; exact q)
theorem b187_5 {x0 : Nat} {x1 : Int32} {x2 : Int32} {s0 : Int32} {h : iH} {Q : Option Value → iH → Prop} (H : ((s0 = 0 → i_P i_MT i_AT L xs 187 25 [some (.ref x0), some (.int x1), some (.int x2)] [] h 0 0 Q) ∧ (¬ (s0 = 0) → (i_obj? h x0 11 ∧ i_C i_MT i_AT L xs 186 [.ref x0, .int x2] h (fun v h1 => ∃ r2 : Int32, v = some (.int r2) ∧ i_P i_MT i_AT L xs 187 13 [some (.ref x0), some (.int x1), some (.int x2)] [.int r2] h1 0 0 Q))))) : i_P i_MT i_AT L xs 187 5 [some (.ref x0), some (.int x1), some (.int x2)] [.int s0] h 0 0 Q := by
  have hk := i_k187
  refine g_if_eq hk rfl (fun hc => ?_) (fun hc => ?_)
  · have H := H.1 hc
    exact H
  · have H := H.2 hc
    refine g_s1 (pc2 := 9) hk rfl rfl rfl rfl rfl ?_
    refine g_s1 (pc2 := 10) hk rfl rfl rfl rfl rfl ?_
    obtain ⟨ho, H⟩ := H
    refine g_call hk rfl rfl i_k186.1 ⟨rfl, rfl⟩ rfl (i_rcv_v ho rfl (by decide)) rfl ?_
    exact H.mono (fun v h2 q => by obtain ⟨r, rfl, q⟩ := q; exact q)
theorem b187_13 {x0 : Nat} {x1 : Int32} {x2 : Int32} {s0 : Int32} {h : iH} {Q : Option Value → iH → Prop} (H : ((s0 = 0 → i_P i_MT i_AT L xs 187 25 [some (.ref x0), some (.int x1), some (.int x2)] [] h 0 0 Q) ∧ (¬ (s0 = 0) → ((x1 = x2 → i_P i_MT i_AT L xs 187 25 [some (.ref x0), some (.int x1), some (.int x2)] [] h 0 0 Q) ∧ (¬ (x1 = x2) → i_P i_MT i_AT L xs 187 26 [some (.ref x0), some (.int x1), some (.int x2)] [.int (1 : Int32)] h 0 0 Q))))) : i_P i_MT i_AT L xs 187 13 [some (.ref x0), some (.int x1), some (.int x2)] [.int s0] h 0 0 Q := by
  have hk := i_k187
  refine g_if_eq hk rfl (fun hc => ?_) (fun hc => ?_)
  · have H := H.1 hc
    exact H
  · have H := H.2 hc
    refine g_s1 (pc2 := 17) hk rfl rfl rfl rfl rfl ?_
    refine g_s1 (pc2 := 18) hk rfl rfl rfl rfl rfl ?_
    refine g_icmp_eq hk rfl (fun hc => ?_) (fun hc => ?_)
    · have H := H.1 hc
      exact H
    · have H := H.2 hc
      refine g_s1 (pc2 := 22) (st2 := [.int (1 : Int32)]) hk rfl rfl rfl rfl rfl ?_
      refine g_s1 (pc2 := 26) hk rfl rfl rfl rfl rfl ?_
      exact H
theorem b187_25 {x0 : Nat} {x1 : Int32} {x2 : Int32} {h : iH} {Q : Option Value → iH → Prop} (H : i_P i_MT i_AT L xs 187 26 [some (.ref x0), some (.int x1), some (.int x2)] [.int (0 : Int32)] h 0 0 Q) : i_P i_MT i_AT L xs 187 25 [some (.ref x0), some (.int x1), some (.int x2)] [] h 0 0 Q := by
  have hk := i_k187
  refine g_s1 (pc2 := 26) (st2 := [.int (0 : Int32)]) hk rfl rfl rfl rfl rfl ?_
  exact H
theorem b187_26 {x0 : Nat} {x1 : Int32} {x2 : Int32} {s0 : Int32} {h : iH} {Q : Option Value → iH → Prop} (H : (i_ret (some .boolean) s0 = true ∧ Q (some (.int s0)) h)) : i_P i_MT i_AT L xs 187 26 [some (.ref x0), some (.int x1), some (.int x2)] [.int s0] h 0 0 Q := by
  have hk := i_k187
  exact g_ireturn hk rfl (by decide) (by decide) H.1 H.2
/-! StillTown.isCell(I)Z -/
theorem e188 {x0 : Nat} {x1 : Int32} {h : iH} {Q : Option Value → iH → Prop} (H : i_P i_MT i_AT L xs 188 0 [some (.ref x0), some (.int x1)] [] h 0 0 Q) : i_C i_MT i_AT L xs 188 [.ref x0, .int x1] h Q := ⟨i_m188, i_k188.1, Nat.le_of_ble_eq_true rfl, H⟩
theorem b188_0 {x0 : Nat} {x1 : Int32} {h : iH} {Q : Option Value → iH → Prop} (H : ((x1 < 0 → i_P i_MT i_AT L xs 188 22 [some (.ref x0), some (.int x1)] [] h 0 0 Q) ∧ (¬ (x1 < 0) → (∃ v1 : Nat, i_fld h x0 11 11 = some (.ref v1) ∧ (∃ v2 : Nat, i_fld h v1 0 0 = some (.ref v2) ∧ (∃ v3 : Int32, i_fld h v2 2 2 = some (.int v3) ∧ ((v3 ≤ x1 → i_P i_MT i_AT L xs 188 22 [some (.ref x0), some (.int x1)] [] h 0 0 Q) ∧ (¬ (v3 ≤ x1) → i_P i_MT i_AT L xs 188 23 [some (.ref x0), some (.int x1)] [.int (1 : Int32)] h 0 0 Q)))))))) : i_P i_MT i_AT L xs 188 0 [some (.ref x0), some (.int x1)] [] h 0 0 Q := by
  have hk := i_k188
  refine g_s1 (pc2 := 1) hk rfl rfl rfl rfl rfl ?_
  refine g_if_lt hk rfl (fun hc => ?_) (fun hc => ?_)
  · have H := H.1 hc
    exact H
  · have H := H.2 hc
    refine g_s1 (pc2 := 5) hk rfl rfl rfl rfl rfl ?_
    refine g_s1 (pc2 := 6) hk rfl rfl rfl rfl rfl ?_
    obtain ⟨v1, ev1, H⟩ := H
    refine g_step (pc2 := 9) hk rfl rfl rfl (s_get ev1) ?_
    obtain ⟨v2, ev2, H⟩ := H
    refine g_step (pc2 := 12) hk rfl rfl rfl (s_get ev2) ?_
    obtain ⟨v3, ev3, H⟩ := H
    refine g_step (pc2 := 15) hk rfl rfl rfl (s_get ev3) ?_
    refine g_icmp_ge hk rfl (fun hc => ?_) (fun hc => ?_)
    · have H := H.1 hc
      exact H
    · have H := H.2 hc
      refine g_s1 (pc2 := 19) (st2 := [.int (1 : Int32)]) hk rfl rfl rfl rfl rfl ?_
      refine g_s1 (pc2 := 23) hk rfl rfl rfl rfl rfl ?_
      exact H
theorem b188_22 {x0 : Nat} {x1 : Int32} {h : iH} {Q : Option Value → iH → Prop} (H : i_P i_MT i_AT L xs 188 23 [some (.ref x0), some (.int x1)] [.int (0 : Int32)] h 0 0 Q) : i_P i_MT i_AT L xs 188 22 [some (.ref x0), some (.int x1)] [] h 0 0 Q := by
  have hk := i_k188
  refine g_s1 (pc2 := 23) (st2 := [.int (0 : Int32)]) hk rfl rfl rfl rfl rfl ?_
  exact H
theorem b188_23 {x0 : Nat} {x1 : Int32} {s0 : Int32} {h : iH} {Q : Option Value → iH → Prop} (H : (i_ret (some .boolean) s0 = true ∧ Q (some (.int s0)) h)) : i_P i_MT i_AT L xs 188 23 [some (.ref x0), some (.int x1)] [.int s0] h 0 0 Q := by
  have hk := i_k188
  exact g_ireturn hk rfl (by decide) (by decide) H.1 H.2
/-! StillTown.isFree(I)Z -/
theorem e189 {x0 : Nat} {x1 : Int32} {h : iH} {Q : Option Value → iH → Prop} (H : i_P i_MT i_AT L xs 189 0 [some (.ref x0), some (.int x1)] [] h 0 0 Q) : i_C i_MT i_AT L xs 189 [.ref x0, .int x1] h Q := ⟨i_m189, i_k189.1, Nat.le_of_ble_eq_true rfl, H⟩
theorem b189_0 {x0 : Nat} {x1 : Int32} {h : iH} {Q : Option Value → iH → Prop} (H : (i_obj? h x0 11 ∧ i_C i_MT i_AT L xs 188 [.ref x0, .int x1] h (fun v h1 => ∃ r2 : Int32, v = some (.int r2) ∧ i_P i_MT i_AT L xs 189 5 [some (.ref x0), some (.int x1)] [.int r2] h1 0 0 Q))) : i_P i_MT i_AT L xs 189 0 [some (.ref x0), some (.int x1)] [] h 0 0 Q := by
  have hk := i_k189
  refine g_s1 (pc2 := 1) hk rfl rfl rfl rfl rfl ?_
  refine g_s1 (pc2 := 2) hk rfl rfl rfl rfl rfl ?_
  obtain ⟨ho, H⟩ := H
  refine g_call hk rfl rfl i_k188.1 ⟨rfl, rfl⟩ rfl (i_rcv_v ho rfl (by decide)) rfl ?_
  exact H.mono (fun v h2 q => by obtain ⟨r, rfl, q⟩ := q; exact q)
theorem b189_5 {x0 : Nat} {x1 : Int32} {s0 : Int32} {h : iH} {Q : Option Value → iH → Prop} (H : ((s0 = 0 → i_P i_MT i_AT L xs 189 26 [some (.ref x0), some (.int x1)] [] h 0 0 Q) ∧ (¬ (s0 = 0) → (∃ v1 : Nat, i_fld h x0 11 5 = some (.ref v1) ∧ (∃ v2 : Int64, i_fld h v1 8 2 = some (.long v2) ∧ (i_C i_MT i_AT L xs 193 [.long v2, .int x1] h (fun v h3 => ∃ r4 : Int32, v = some (.int r4) ∧ i_P i_MT i_AT L xs 189 19 [some (.ref x0), some (.int x1)] [.int r4] h3 0 0 Q))))))) : i_P i_MT i_AT L xs 189 5 [some (.ref x0), some (.int x1)] [.int s0] h 0 0 Q := by
  have hk := i_k189
  refine g_if_eq hk rfl (fun hc => ?_) (fun hc => ?_)
  · have H := H.1 hc
    exact H
  · have H := H.2 hc
    refine g_s1 (pc2 := 9) hk rfl rfl rfl rfl rfl ?_
    obtain ⟨v1, ev1, H⟩ := H
    refine g_step (pc2 := 12) hk rfl rfl rfl (s_get ev1) ?_
    obtain ⟨v2, ev2, H⟩ := H
    refine g_step (pc2 := 15) hk rfl rfl rfl (s_get ev2) ?_
    refine g_s1 (pc2 := 16) hk rfl rfl rfl rfl rfl ?_
    refine g_call hk rfl rfl i_k193.1 ⟨rfl, rfl⟩ rfl (i_rcv_0 rfl) rfl ?_
    exact H.mono (fun v h2 q => by obtain ⟨r, rfl, q⟩ := q; exact q)
theorem b189_19 {x0 : Nat} {x1 : Int32} {s0 : Int32} {h : iH} {Q : Option Value → iH → Prop} (H : ((¬ s0 = 0 → i_P i_MT i_AT L xs 189 26 [some (.ref x0), some (.int x1)] [] h 0 0 Q) ∧ (¬ (¬ s0 = 0) → i_P i_MT i_AT L xs 189 27 [some (.ref x0), some (.int x1)] [.int (1 : Int32)] h 0 0 Q))) : i_P i_MT i_AT L xs 189 19 [some (.ref x0), some (.int x1)] [.int s0] h 0 0 Q := by
  have hk := i_k189
  refine g_if_ne hk rfl (fun hc => ?_) (fun hc => ?_)
  · have H := H.1 hc
    exact H
  · have H := H.2 hc
    refine g_s1 (pc2 := 23) (st2 := [.int (1 : Int32)]) hk rfl rfl rfl rfl rfl ?_
    refine g_s1 (pc2 := 27) hk rfl rfl rfl rfl rfl ?_
    exact H
theorem b189_26 {x0 : Nat} {x1 : Int32} {h : iH} {Q : Option Value → iH → Prop} (H : i_P i_MT i_AT L xs 189 27 [some (.ref x0), some (.int x1)] [.int (0 : Int32)] h 0 0 Q) : i_P i_MT i_AT L xs 189 26 [some (.ref x0), some (.int x1)] [] h 0 0 Q := by
  have hk := i_k189
  refine g_s1 (pc2 := 27) (st2 := [.int (0 : Int32)]) hk rfl rfl rfl rfl rfl ?_
  exact H
theorem b189_27 {x0 : Nat} {x1 : Int32} {s0 : Int32} {h : iH} {Q : Option Value → iH → Prop} (H : (i_ret (some .boolean) s0 = true ∧ Q (some (.int s0)) h)) : i_P i_MT i_AT L xs 189 27 [some (.ref x0), some (.int x1)] [.int s0] h 0 0 Q := by
  have hk := i_k189
  exact g_ireturn hk rfl (by decide) (by decide) H.1 H.2
/-! StillTown.isTime(I)Z -/
theorem e190 {x0 : Int32} {h : iH} {Q : Option Value → iH → Prop} (H : i_P i_MT i_AT L xs 190 0 [some (.int x0)] [] h 0 0 Q) : i_C i_MT i_AT L xs 190 [.int x0] h Q := ⟨i_m190, i_k190.1, Nat.le_of_ble_eq_true rfl, H⟩
theorem b190_0 {x0 : Int32} {h : iH} {Q : Option Value → iH → Prop} (H : (i_C i_MT i_AT L xs 192 [.int x0, .int (0 : Int32), .int (60 : Int32)] h (fun v h1 => ∃ r2 : Int32, v = some (.int r2) ∧ i_P i_MT i_AT L xs 190 7 [some (.int x0)] [.int r2] h1 0 0 Q))) : i_P i_MT i_AT L xs 190 0 [some (.int x0)] [] h 0 0 Q := by
  have hk := i_k190
  refine g_s1 (pc2 := 1) hk rfl rfl rfl rfl rfl ?_
  refine g_s1 (pc2 := 2) (st2 := [.int (0 : Int32), .int x0]) hk rfl rfl rfl rfl rfl ?_
  refine g_s1 (pc2 := 4) (st2 := [.int (60 : Int32), .int (0 : Int32), .int x0]) hk rfl rfl rfl rfl rfl ?_
  refine g_call hk rfl rfl i_k192.1 ⟨rfl, rfl⟩ rfl (i_rcv_0 rfl) rfl ?_
  exact H.mono (fun v h2 q => by obtain ⟨r, rfl, q⟩ := q; exact q)
theorem b190_7 {x0 : Int32} {s0 : Int32} {h : iH} {Q : Option Value → iH → Prop} (H : (i_ret (some .boolean) s0 = true ∧ Q (some (.int s0)) h)) : i_P i_MT i_AT L xs 190 7 [some (.int x0)] [.int s0] h 0 0 Q := by
  have hk := i_k190
  exact g_ireturn hk rfl (by decide) (by decide) H.1 H.2
/-! StillTown.isMinute(I)Z -/
theorem e191 {x0 : Int32} {h : iH} {Q : Option Value → iH → Prop} (H : i_P i_MT i_AT L xs 191 0 [some (.int x0)] [] h 0 0 Q) : i_C i_MT i_AT L xs 191 [.int x0] h Q := ⟨i_m191, i_k191.1, Nat.le_of_ble_eq_true rfl, H⟩
theorem b191_0 {x0 : Int32} {h : iH} {Q : Option Value → iH → Prop} (H : (i_C i_MT i_AT L xs 192 [.int x0, .int (1 : Int32), .int (60 : Int32)] h (fun v h1 => ∃ r2 : Int32, v = some (.int r2) ∧ i_P i_MT i_AT L xs 191 7 [some (.int x0)] [.int r2] h1 0 0 Q))) : i_P i_MT i_AT L xs 191 0 [some (.int x0)] [] h 0 0 Q := by
  have hk := i_k191
  refine g_s1 (pc2 := 1) hk rfl rfl rfl rfl rfl ?_
  refine g_s1 (pc2 := 2) (st2 := [.int (1 : Int32), .int x0]) hk rfl rfl rfl rfl rfl ?_
  refine g_s1 (pc2 := 4) (st2 := [.int (60 : Int32), .int (1 : Int32), .int x0]) hk rfl rfl rfl rfl rfl ?_
  refine g_call hk rfl rfl i_k192.1 ⟨rfl, rfl⟩ rfl (i_rcv_0 rfl) rfl ?_
  exact H.mono (fun v h2 q => by obtain ⟨r, rfl, q⟩ := q; exact q)
theorem b191_7 {x0 : Int32} {s0 : Int32} {h : iH} {Q : Option Value → iH → Prop} (H : (i_ret (some .boolean) s0 = true ∧ Q (some (.int s0)) h)) : i_P i_MT i_AT L xs 191 7 [some (.int x0)] [.int s0] h 0 0 Q := by
  have hk := i_k191
  exact g_ireturn hk rfl (by decide) (by decide) H.1 H.2
/-! StillTown.within(III)Z -/
theorem e192 {x0 : Int32} {x1 : Int32} {x2 : Int32} {h : iH} {Q : Option Value → iH → Prop} (H : i_P i_MT i_AT L xs 192 0 [some (.int x0), some (.int x1), some (.int x2)] [] h 0 0 Q) : i_C i_MT i_AT L xs 192 [.int x0, .int x1, .int x2] h Q := ⟨i_m192, i_k192.1, Nat.le_of_ble_eq_true rfl, H⟩
theorem b192_0 {x0 : Int32} {x1 : Int32} {x2 : Int32} {h : iH} {Q : Option Value → iH → Prop} (H : ((x0 < x1 → i_P i_MT i_AT L xs 192 14 [some (.int x0), some (.int x1), some (.int x2)] [] h 0 0 Q) ∧ (¬ (x0 < x1) → ((x2 < x0 → i_P i_MT i_AT L xs 192 14 [some (.int x0), some (.int x1), some (.int x2)] [] h 0 0 Q) ∧ (¬ (x2 < x0) → i_P i_MT i_AT L xs 192 15 [some (.int x0), some (.int x1), some (.int x2)] [.int (1 : Int32)] h 0 0 Q))))) : i_P i_MT i_AT L xs 192 0 [some (.int x0), some (.int x1), some (.int x2)] [] h 0 0 Q := by
  have hk := i_k192
  refine g_s1 (pc2 := 1) hk rfl rfl rfl rfl rfl ?_
  refine g_s1 (pc2 := 2) hk rfl rfl rfl rfl rfl ?_
  refine g_icmp_lt hk rfl (fun hc => ?_) (fun hc => ?_)
  · have H := H.1 hc
    exact H
  · have H := H.2 hc
    refine g_s1 (pc2 := 6) hk rfl rfl rfl rfl rfl ?_
    refine g_s1 (pc2 := 7) hk rfl rfl rfl rfl rfl ?_
    refine g_icmp_gt hk rfl (fun hc => ?_) (fun hc => ?_)
    · have H := H.1 hc
      exact H
    · have H := H.2 hc
      refine g_s1 (pc2 := 11) (st2 := [.int (1 : Int32)]) hk rfl rfl rfl rfl rfl ?_
      refine g_s1 (pc2 := 15) hk rfl rfl rfl rfl rfl ?_
      exact H
theorem b192_14 {x0 : Int32} {x1 : Int32} {x2 : Int32} {h : iH} {Q : Option Value → iH → Prop} (H : i_P i_MT i_AT L xs 192 15 [some (.int x0), some (.int x1), some (.int x2)] [.int (0 : Int32)] h 0 0 Q) : i_P i_MT i_AT L xs 192 14 [some (.int x0), some (.int x1), some (.int x2)] [] h 0 0 Q := by
  have hk := i_k192
  refine g_s1 (pc2 := 15) (st2 := [.int (0 : Int32)]) hk rfl rfl rfl rfl rfl ?_
  exact H
theorem b192_15 {x0 : Int32} {x1 : Int32} {x2 : Int32} {s0 : Int32} {h : iH} {Q : Option Value → iH → Prop} (H : (i_ret (some .boolean) s0 = true ∧ Q (some (.int s0)) h)) : i_P i_MT i_AT L xs 192 15 [some (.int x0), some (.int x1), some (.int x2)] [.int s0] h 0 0 Q := by
  have hk := i_k192
  exact g_ireturn hk rfl (by decide) (by decide) H.1 H.2
/-! StillTown.has(JI)Z -/
theorem e193 {x0 : Int64} {x2 : Int32} {h : iH} {Q : Option Value → iH → Prop} (H : i_P i_MT i_AT L xs 193 0 [some (.long x0), none, some (.int x2)] [] h 0 0 Q) : i_C i_MT i_AT L xs 193 [.long x0, .int x2] h Q := ⟨i_m193, i_k193.1, Nat.le_of_ble_eq_true rfl, H⟩
theorem b193_0 {x0 : Int64} {x2 : Int32} {h : iH} {Q : Option Value → iH → Prop} (H : (((lg_cmp (((x0.toUInt64 >>> (x2.toInt64.toUInt64 &&& Int64.toUInt64 63)).toInt64) &&& (1 : Int64)) (0 : Int64)) = 0 → i_P i_MT i_AT L xs 193 15 [some (.long x0), none, some (.int x2)] [.int (0 : Int32)] h 0 0 Q) ∧ (¬ ((lg_cmp (((x0.toUInt64 >>> (x2.toInt64.toUInt64 &&& Int64.toUInt64 63)).toInt64) &&& (1 : Int64)) (0 : Int64)) = 0) → i_P i_MT i_AT L xs 193 15 [some (.long x0), none, some (.int x2)] [.int (1 : Int32)] h 0 0 Q))) : i_P i_MT i_AT L xs 193 0 [some (.long x0), none, some (.int x2)] [] h 0 0 Q := by
  have hk := i_k193
  refine g_s1 (pc2 := 1) hk rfl rfl rfl rfl rfl ?_
  refine g_s1 (pc2 := 2) hk rfl rfl rfl rfl rfl ?_
  refine g_s1 (pc2 := 3) hk rfl rfl rfl rfl rfl ?_
  refine g_s1 (pc2 := 4) (st2 := [.long (1 : Int64), .long ((x0.toUInt64 >>> (x2.toInt64.toUInt64 &&& Int64.toUInt64 63)).toInt64)]) hk rfl rfl rfl rfl rfl ?_
  refine g_s1 (pc2 := 5) hk rfl rfl rfl rfl rfl ?_
  refine g_s1 (pc2 := 6) (st2 := [.long (0 : Int64), .long (((x0.toUInt64 >>> (x2.toInt64.toUInt64 &&& Int64.toUInt64 63)).toInt64) &&& (1 : Int64))]) hk rfl rfl rfl rfl rfl ?_
  refine g_s1 (pc2 := 7) hk rfl rfl rfl rfl rfl ?_
  refine g_if_eq hk rfl (fun hc => ?_) (fun hc => ?_)
  · have H := H.1 hc
    refine g_s1 (pc2 := 15) (st2 := [.int (0 : Int32)]) hk rfl rfl rfl rfl rfl ?_
    exact H
  · have H := H.2 hc
    refine g_s1 (pc2 := 11) (st2 := [.int (1 : Int32)]) hk rfl rfl rfl rfl rfl ?_
    refine g_s1 (pc2 := 15) hk rfl rfl rfl rfl rfl ?_
    exact H
theorem b193_15 {x0 : Int64} {x2 : Int32} {s0 : Int32} {h : iH} {Q : Option Value → iH → Prop} (H : (i_ret (some .boolean) s0 = true ∧ Q (some (.int s0)) h)) : i_P i_MT i_AT L xs 193 15 [some (.long x0), none, some (.int x2)] [.int s0] h 0 0 Q := by
  have hk := i_k193
  exact g_ireturn hk rfl (by decide) (by decide) H.1 H.2
/-! StillTown.lessened(II)I -/
theorem e194 {x0 : Int32} {x1 : Int32} {h : iH} {Q : Option Value → iH → Prop} (H : i_P i_MT i_AT L xs 194 0 [some (.int x0), some (.int x1)] [] h 0 0 Q) : i_C i_MT i_AT L xs 194 [.int x0, .int x1] h Q := ⟨i_m194, i_k194.1, Nat.le_of_ble_eq_true rfl, H⟩
theorem b194_0 {x0 : Int32} {x1 : Int32} {h : iH} {Q : Option Value → iH → Prop} (H : (¬ (16 : Int32) = 0 ∧ Q (some (.int ((x0 * ((16 : Int32) - x1)) / (16 : Int32)))) h)) : i_P i_MT i_AT L xs 194 0 [some (.int x0), some (.int x1)] [] h 0 0 Q := by
  have hk := i_k194
  refine g_s1 (pc2 := 1) hk rfl rfl rfl rfl rfl ?_
  refine g_s1 (pc2 := 3) (st2 := [.int (16 : Int32), .int x0]) hk rfl rfl rfl rfl rfl ?_
  refine g_s1 (pc2 := 4) hk rfl rfl rfl rfl rfl ?_
  refine g_s1 (pc2 := 5) hk rfl rfl rfl rfl rfl ?_
  refine g_s1 (pc2 := 6) hk rfl rfl rfl rfl rfl ?_
  refine g_s1 (pc2 := 8) (st2 := [.int (16 : Int32), .int (x0 * ((16 : Int32) - x1))]) hk rfl rfl rfl rfl rfl ?_
  obtain ⟨hz, H⟩ := H
  refine g_s1 (pc2 := 9) hk rfl rfl rfl rfl (s_if hz) ?_
  exact g_ireturn hk rfl (by decide) (by decide) rfl H
/-! StillTownModel.asNew(I)V -/
theorem e196 {x0 : Nat} {x1 : Int32} {h : iH} {Q : Option Value → iH → Prop} (H : i_P i_MT i_AT L xs 196 0 [some (.ref x0), some (.int x1), none] [] h 0 0 Q) : i_C i_MT i_AT L xs 196 [.ref x0, .int x1] h Q := ⟨i_m196, i_k196.1, Nat.le_of_ble_eq_true rfl, H⟩
theorem b196_0 {x0 : Nat} {x1 : Int32} {x2 : Option Value} {h : iH} {Q : Option Value → iH → Prop} (H : i_P i_MT i_AT L xs 196 2 [some (.ref x0), some (.int x1), some (.int (0 : Int32))] [] h 0 0 Q) : i_P i_MT i_AT L xs 196 0 [some (.ref x0), some (.int x1), x2] [] h 0 0 Q := by
  have hk := i_k196
  refine g_s1 (pc2 := 1) (st2 := [.int (0 : Int32)]) hk rfl rfl rfl rfl rfl ?_
  refine g_s1 (pc2 := 2) (lo2 := [some (.ref x0), some (.int x1), some (.int (0 : Int32))]) hk rfl rfl rfl rfl rfl ?_
  exact H
theorem b196_2 {x0 : Nat} {x1 : Int32} {x2 : Int32} {h : iH} {Q : Option Value → iH → Prop} (H : (((680 : Int32) ≤ x2 → i_P i_MT i_AT L xs 196 26 [some (.ref x0), some (.int x1), some (.int (0 : Int32))] [] h 0 0 Q) ∧ (¬ ((680 : Int32) ≤ x2) → (∃ v1 : Nat, i_fld h x0 12 0 = some (.ref v1) ∧ (∃ (n2 : Nat) (f3 : Nat → Int32), i_arI h 0 v1 = some (n2, f3) ∧ ¬ ((x1 + x2) < 0 ∨ n2 ≤ (x1 + x2).toNatClampNeg) ∧ i_P i_MT i_AT L xs 196 18 [some (.ref x0), some (.int x1), some (.int x2)] [] (i_siI h v1 (x1 + x2).toNatClampNeg (0 : Int32)) 0 0 Q))))) : i_P i_MT i_AT L xs 196 2 [some (.ref x0), some (.int x1), some (.int x2)] [] h 0 0 Q := by
  have hk := i_k196
  refine g_s1 (pc2 := 3) hk rfl rfl rfl rfl rfl ?_
  refine g_s1 (pc2 := 6) (st2 := [.int (680 : Int32), .int x2]) hk rfl rfl rfl rfl rfl ?_
  refine g_icmp_ge hk rfl (fun hc => ?_) (fun hc => ?_)
  · have H := H.1 hc
    refine g_s1 (pc2 := 25) (st2 := [.int (0 : Int32)]) hk rfl rfl rfl rfl rfl ?_
    refine g_s1 (pc2 := 26) (lo2 := [some (.ref x0), some (.int x1), some (.int (0 : Int32))]) hk rfl rfl rfl rfl rfl ?_
    exact H
  · have H := H.2 hc
    refine g_s1 (pc2 := 10) hk rfl rfl rfl rfl rfl ?_
    obtain ⟨v1, ev1, H⟩ := H
    refine g_step (pc2 := 13) hk rfl rfl rfl (s_get ev1) ?_
    refine g_s1 (pc2 := 14) hk rfl rfl rfl rfl rfl ?_
    refine g_s1 (pc2 := 15) hk rfl rfl rfl rfl rfl ?_
    refine g_s1 (pc2 := 16) hk rfl rfl rfl rfl rfl ?_
    refine g_s1 (pc2 := 17) (st2 := [.int (0 : Int32), .int (x1 + x2), .ref v1]) hk rfl rfl rfl rfl rfl ?_
    obtain ⟨n2, f3, ef3, hi, H⟩ := H
    refine g_step (pc2 := 18) hk rfl rfl rfl (s_aput ef3 hi) ?_
    exact H
theorem b196_18 {x0 : Nat} {x1 : Int32} {x2 : Int32} {h : iH} {Q : Option Value → iH → Prop} (H : i_P i_MT i_AT L xs 196 2 [some (.ref x0), some (.int x1), some (.int (x2 + 1))] [] h 0 0 Q) : i_P i_MT i_AT L xs 196 18 [some (.ref x0), some (.int x1), some (.int x2)] [] h 0 0 Q := by
  have hk := i_k196
  refine g_s1 (pc2 := 21) (lo2 := [some (.ref x0), some (.int x1), some (.int (x2 + 1))]) hk rfl rfl rfl rfl rfl ?_
  refine g_s1 (pc2 := 2) hk rfl rfl rfl rfl rfl ?_
  exact H
theorem b196_26 {x0 : Nat} {x1 : Int32} {x2 : Int32} {h : iH} {Q : Option Value → iH → Prop} (H : (((48 : Int32) ≤ x2 → (∃ v1 : Nat, i_fld h x0 12 0 = some (.ref v1) ∧ (∃ (n2 : Nat) (f3 : Nat → Int32), i_arI h 0 v1 = some (n2, f3) ∧ ¬ ((x1 + (6 : Int32)) < 0 ∨ n2 ≤ (x1 + (6 : Int32)).toNatClampNeg) ∧ i_P i_MT i_AT L xs 196 60 [some (.ref x0), some (.int x1), some (.int x2)] [] (i_siI h v1 (x1 + (6 : Int32)).toNatClampNeg (4 : Int32)) 0 0 Q))) ∧ (¬ ((48 : Int32) ≤ x2) → (∃ v4 : Nat, i_fld h x0 12 0 = some (.ref v4) ∧ (∃ (n5 : Nat) (f6 : Nat → Int32), i_arI h 0 v4 = some (n5, f6) ∧ ¬ (((x1 + (58 : Int32)) + x2) < 0 ∨ n5 ≤ ((x1 + (58 : Int32)) + x2).toNatClampNeg) ∧ i_P i_MT i_AT L xs 196 44 [some (.ref x0), some (.int x1), some (.int x2)] [] (i_siI h v4 ((x1 + (58 : Int32)) + x2).toNatClampNeg (-1 : Int32)) 0 0 Q))))) : i_P i_MT i_AT L xs 196 26 [some (.ref x0), some (.int x1), some (.int x2)] [] h 0 0 Q := by
  have hk := i_k196
  refine g_s1 (pc2 := 27) hk rfl rfl rfl rfl rfl ?_
  refine g_s1 (pc2 := 29) (st2 := [.int (48 : Int32), .int x2]) hk rfl rfl rfl rfl rfl ?_
  refine g_icmp_ge hk rfl (fun hc => ?_) (fun hc => ?_)
  · have H := H.1 hc
    refine g_s1 (pc2 := 51) hk rfl rfl rfl rfl rfl ?_
    obtain ⟨v1, ev1, H⟩ := H
    refine g_step (pc2 := 54) hk rfl rfl rfl (s_get ev1) ?_
    refine g_s1 (pc2 := 55) hk rfl rfl rfl rfl rfl ?_
    refine g_s1 (pc2 := 57) (st2 := [.int (6 : Int32), .int x1, .ref v1]) hk rfl rfl rfl rfl rfl ?_
    refine g_s1 (pc2 := 58) hk rfl rfl rfl rfl rfl ?_
    refine g_s1 (pc2 := 59) (st2 := [.int (4 : Int32), .int (x1 + (6 : Int32)), .ref v1]) hk rfl rfl rfl rfl rfl ?_
    obtain ⟨n2, f3, ef3, hi, H⟩ := H
    refine g_step (pc2 := 60) hk rfl rfl rfl (s_aput ef3 hi) ?_
    exact H
  · have H := H.2 hc
    refine g_s1 (pc2 := 33) hk rfl rfl rfl rfl rfl ?_
    obtain ⟨v4, ev4, H⟩ := H
    refine g_step (pc2 := 36) hk rfl rfl rfl (s_get ev4) ?_
    refine g_s1 (pc2 := 37) hk rfl rfl rfl rfl rfl ?_
    refine g_s1 (pc2 := 39) (st2 := [.int (58 : Int32), .int x1, .ref v4]) hk rfl rfl rfl rfl rfl ?_
    refine g_s1 (pc2 := 40) hk rfl rfl rfl rfl rfl ?_
    refine g_s1 (pc2 := 41) hk rfl rfl rfl rfl rfl ?_
    refine g_s1 (pc2 := 42) hk rfl rfl rfl rfl rfl ?_
    refine g_s1 (pc2 := 43) (st2 := [.int (-1 : Int32), .int ((x1 + (58 : Int32)) + x2), .ref v4]) hk rfl rfl rfl rfl rfl ?_
    obtain ⟨n5, f6, ef6, hi, H⟩ := H
    refine g_step (pc2 := 44) hk rfl rfl rfl (s_aput ef6 hi) ?_
    exact H
theorem b196_44 {x0 : Nat} {x1 : Int32} {x2 : Int32} {h : iH} {Q : Option Value → iH → Prop} (H : i_P i_MT i_AT L xs 196 26 [some (.ref x0), some (.int x1), some (.int (x2 + 1))] [] h 0 0 Q) : i_P i_MT i_AT L xs 196 44 [some (.ref x0), some (.int x1), some (.int x2)] [] h 0 0 Q := by
  have hk := i_k196
  refine g_s1 (pc2 := 47) (lo2 := [some (.ref x0), some (.int x1), some (.int (x2 + 1))]) hk rfl rfl rfl rfl rfl ?_
  refine g_s1 (pc2 := 26) hk rfl rfl rfl rfl rfl ?_
  exact H
theorem b196_60 {x0 : Nat} {x1 : Int32} {x2 : Int32} {h : iH} {Q : Option Value → iH → Prop} (H : (∃ v1 : Nat, i_fld h x0 12 0 = some (.ref v1) ∧ (∃ (n2 : Nat) (f3 : Nat → Int32), i_arI h 0 v1 = some (n2, f3) ∧ ¬ (((x1 + (6 : Int32)) + (1 : Int32)) < 0 ∨ n2 ≤ ((x1 + (6 : Int32)) + (1 : Int32)).toNatClampNeg) ∧ i_P i_MT i_AT L xs 196 73 [some (.ref x0), some (.int x1), some (.int x2)] [] (i_siI h v1 ((x1 + (6 : Int32)) + (1 : Int32)).toNatClampNeg (8 : Int32)) 0 0 Q))) : i_P i_MT i_AT L xs 196 60 [some (.ref x0), some (.int x1), some (.int x2)] [] h 0 0 Q := by
  have hk := i_k196
  refine g_s1 (pc2 := 61) hk rfl rfl rfl rfl rfl ?_
  obtain ⟨v1, ev1, H⟩ := H
  refine g_step (pc2 := 64) hk rfl rfl rfl (s_get ev1) ?_
  refine g_s1 (pc2 := 65) hk rfl rfl rfl rfl rfl ?_
  refine g_s1 (pc2 := 67) (st2 := [.int (6 : Int32), .int x1, .ref v1]) hk rfl rfl rfl rfl rfl ?_
  refine g_s1 (pc2 := 68) hk rfl rfl rfl rfl rfl ?_
  refine g_s1 (pc2 := 69) (st2 := [.int (1 : Int32), .int (x1 + (6 : Int32)), .ref v1]) hk rfl rfl rfl rfl rfl ?_
  refine g_s1 (pc2 := 70) hk rfl rfl rfl rfl rfl ?_
  refine g_s1 (pc2 := 72) (st2 := [.int (8 : Int32), .int ((x1 + (6 : Int32)) + (1 : Int32)), .ref v1]) hk rfl rfl rfl rfl rfl ?_
  obtain ⟨n2, f3, ef3, hi, H⟩ := H
  refine g_step (pc2 := 73) hk rfl rfl rfl (s_aput ef3 hi) ?_
  exact H
theorem b196_73 {x0 : Nat} {x1 : Int32} {x2 : Int32} {h : iH} {Q : Option Value → iH → Prop} (H : (∃ v1 : Nat, i_fld h x0 12 0 = some (.ref v1) ∧ (∃ (n2 : Nat) (f3 : Nat → Int32), i_arI h 0 v1 = some (n2, f3) ∧ ¬ (((x1 + (6 : Int32)) + (2 : Int32)) < 0 ∨ n2 ≤ ((x1 + (6 : Int32)) + (2 : Int32)).toNatClampNeg) ∧ i_P i_MT i_AT L xs 196 85 [some (.ref x0), some (.int x1), some (.int x2)] [] (i_siI h v1 ((x1 + (6 : Int32)) + (2 : Int32)).toNatClampNeg (2 : Int32)) 0 0 Q))) : i_P i_MT i_AT L xs 196 73 [some (.ref x0), some (.int x1), some (.int x2)] [] h 0 0 Q := by
  have hk := i_k196
  refine g_s1 (pc2 := 74) hk rfl rfl rfl rfl rfl ?_
  obtain ⟨v1, ev1, H⟩ := H
  refine g_step (pc2 := 77) hk rfl rfl rfl (s_get ev1) ?_
  refine g_s1 (pc2 := 78) hk rfl rfl rfl rfl rfl ?_
  refine g_s1 (pc2 := 80) (st2 := [.int (6 : Int32), .int x1, .ref v1]) hk rfl rfl rfl rfl rfl ?_
  refine g_s1 (pc2 := 81) hk rfl rfl rfl rfl rfl ?_
  refine g_s1 (pc2 := 82) (st2 := [.int (2 : Int32), .int (x1 + (6 : Int32)), .ref v1]) hk rfl rfl rfl rfl rfl ?_
  refine g_s1 (pc2 := 83) hk rfl rfl rfl rfl rfl ?_
  refine g_s1 (pc2 := 84) (st2 := [.int (2 : Int32), .int ((x1 + (6 : Int32)) + (2 : Int32)), .ref v1]) hk rfl rfl rfl rfl rfl ?_
  obtain ⟨n2, f3, ef3, hi, H⟩ := H
  refine g_step (pc2 := 85) hk rfl rfl rfl (s_aput ef3 hi) ?_
  exact H
theorem b196_85 {x0 : Nat} {x1 : Int32} {x2 : Int32} {h : iH} {Q : Option Value → iH → Prop} (H : (∃ v1 : Nat, i_fld h x0 12 0 = some (.ref v1) ∧ (∃ (n2 : Nat) (f3 : Nat → Int32), i_arI h 0 v1 = some (n2, f3) ∧ ¬ (((x1 + (6 : Int32)) + (3 : Int32)) < 0 ∨ n2 ≤ ((x1 + (6 : Int32)) + (3 : Int32)).toNatClampNeg) ∧ i_P i_MT i_AT L xs 196 98 [some (.ref x0), some (.int x1), some (.int x2)] [] (i_siI h v1 ((x1 + (6 : Int32)) + (3 : Int32)).toNatClampNeg (16 : Int32)) 0 0 Q))) : i_P i_MT i_AT L xs 196 85 [some (.ref x0), some (.int x1), some (.int x2)] [] h 0 0 Q := by
  have hk := i_k196
  refine g_s1 (pc2 := 86) hk rfl rfl rfl rfl rfl ?_
  obtain ⟨v1, ev1, H⟩ := H
  refine g_step (pc2 := 89) hk rfl rfl rfl (s_get ev1) ?_
  refine g_s1 (pc2 := 90) hk rfl rfl rfl rfl rfl ?_
  refine g_s1 (pc2 := 92) (st2 := [.int (6 : Int32), .int x1, .ref v1]) hk rfl rfl rfl rfl rfl ?_
  refine g_s1 (pc2 := 93) hk rfl rfl rfl rfl rfl ?_
  refine g_s1 (pc2 := 94) (st2 := [.int (3 : Int32), .int (x1 + (6 : Int32)), .ref v1]) hk rfl rfl rfl rfl rfl ?_
  refine g_s1 (pc2 := 95) hk rfl rfl rfl rfl rfl ?_
  refine g_s1 (pc2 := 97) (st2 := [.int (16 : Int32), .int ((x1 + (6 : Int32)) + (3 : Int32)), .ref v1]) hk rfl rfl rfl rfl rfl ?_
  obtain ⟨n2, f3, ef3, hi, H⟩ := H
  refine g_step (pc2 := 98) hk rfl rfl rfl (s_aput ef3 hi) ?_
  exact H
theorem b196_98 {x0 : Nat} {x1 : Int32} {x2 : Int32} {h : iH} {Q : Option Value → iH → Prop} (H : Q none h) : i_P i_MT i_AT L xs 196 98 [some (.ref x0), some (.int x1), some (.int x2)] [] h 0 0 Q := by
  have hk := i_k196
  exact g_return hk rfl (by decide) (by decide) rfl H
/-! StillTownModel.status()I -/
theorem e197 {x0 : Nat} {h : iH} {Q : Option Value → iH → Prop} (H : i_P i_MT i_AT L xs 197 0 [some (.ref x0)] [] h 0 0 Q) : i_C i_MT i_AT L xs 197 [.ref x0] h Q := ⟨i_m197, i_k197.1, Nat.le_of_ble_eq_true rfl, H⟩
theorem b197_0 {x0 : Nat} {h : iH} {Q : Option Value → iH → Prop} (H : (∃ v1 : Int32, i_fld h x0 12 4 = some (.int v1) ∧ Q (some (.int v1)) h)) : i_P i_MT i_AT L xs 197 0 [some (.ref x0)] [] h 0 0 Q := by
  have hk := i_k197
  refine g_s1 (pc2 := 1) hk rfl rfl rfl rfl rfl ?_
  obtain ⟨v1, ev1, H⟩ := H
  refine g_step (pc2 := 4) hk rfl rfl rfl (s_get ev1) ?_
  exact g_ireturn hk rfl (by decide) (by decide) rfl H
/-! StillTownModel.top()J -/
theorem e198 {x0 : Nat} {h : iH} {Q : Option Value → iH → Prop} (H : i_P i_MT i_AT L xs 198 0 [some (.ref x0)] [] h 0 0 Q) : i_C i_MT i_AT L xs 198 [.ref x0] h Q := ⟨i_m198, i_k198.1, Nat.le_of_ble_eq_true rfl, H⟩
theorem b198_0 {x0 : Nat} {h : iH} {Q : Option Value → iH → Prop} (H : (∃ v1 : Int64, i_fld h x0 12 5 = some (.long v1) ∧ Q (some (.long v1)) h)) : i_P i_MT i_AT L xs 198 0 [some (.ref x0)] [] h 0 0 Q := by
  have hk := i_k198
  refine g_s1 (pc2 := 1) hk rfl rfl rfl rfl rfl ?_
  obtain ⟨v1, ev1, H⟩ := H
  refine g_step (pc2 := 4) hk rfl rfl rfl (s_get ev1) ?_
  exact g_lreturn hk rfl (by decide) (by decide) rfl H
/-! StillTownModel.bottom()J -/
theorem e199 {x0 : Nat} {h : iH} {Q : Option Value → iH → Prop} (H : i_P i_MT i_AT L xs 199 0 [some (.ref x0)] [] h 0 0 Q) : i_C i_MT i_AT L xs 199 [.ref x0] h Q := ⟨i_m199, i_k199.1, Nat.le_of_ble_eq_true rfl, H⟩
theorem b199_0 {x0 : Nat} {h : iH} {Q : Option Value → iH → Prop} (H : (∃ v1 : Int64, i_fld h x0 12 6 = some (.long v1) ∧ Q (some (.long v1)) h)) : i_P i_MT i_AT L xs 199 0 [some (.ref x0)] [] h 0 0 Q := by
  have hk := i_k199
  refine g_s1 (pc2 := 1) hk rfl rfl rfl rfl rfl ?_
  obtain ⟨v1, ev1, H⟩ := H
  refine g_step (pc2 := 4) hk rfl rfl rfl (s_get ev1) ?_
  exact g_lreturn hk rfl (by decide) (by decide) rfl H
/-! StillTownModel.is(I)Z -/
theorem e200 {x0 : Nat} {x1 : Int32} {h : iH} {Q : Option Value → iH → Prop} (H : i_P i_MT i_AT L xs 200 0 [some (.ref x0), some (.int x1)] [] h 0 0 Q) : i_C i_MT i_AT L xs 200 [.ref x0, .int x1] h Q := ⟨i_m200, i_k200.1, Nat.le_of_ble_eq_true rfl, H⟩
theorem b200_0 {x0 : Nat} {x1 : Int32} {h : iH} {Q : Option Value → iH → Prop} (H : ((∃ o, i_fld h x0 12 4 = some o) ∧ i_P i_MT i_AT L xs 200 5 [some (.ref x0), some (.int x1)] [] (i_sf h x0 4 (.int x1)) 0 0 Q)) : i_P i_MT i_AT L xs 200 0 [some (.ref x0), some (.int x1)] [] h 0 0 Q := by
  have hk := i_k200
  refine g_s1 (pc2 := 1) hk rfl rfl rfl rfl rfl ?_
  refine g_s1 (pc2 := 2) hk rfl rfl rfl rfl rfl ?_
  obtain ⟨⟨o, ho⟩, H⟩ := H
  refine g_step (pc2 := 5) hk rfl rfl rfl (s_put ho rfl) ?_
  exact H
theorem b200_5 {x0 : Nat} {x1 : Int32} {h : iH} {Q : Option Value → iH → Prop} (H : ((¬ x1 = 0 → i_P i_MT i_AT L xs 200 14 [some (.ref x0), some (.int x1)] [.int (0 : Int32)] h 0 0 Q) ∧ (¬ (¬ x1 = 0) → i_P i_MT i_AT L xs 200 14 [some (.ref x0), some (.int x1)] [.int (1 : Int32)] h 0 0 Q))) : i_P i_MT i_AT L xs 200 5 [some (.ref x0), some (.int x1)] [] h 0 0 Q := by
  have hk := i_k200
  refine g_s1 (pc2 := 6) hk rfl rfl rfl rfl rfl ?_
  refine g_if_ne hk rfl (fun hc => ?_) (fun hc => ?_)
  · have H := H.1 hc
    refine g_s1 (pc2 := 14) (st2 := [.int (0 : Int32)]) hk rfl rfl rfl rfl rfl ?_
    exact H
  · have H := H.2 hc
    refine g_s1 (pc2 := 10) (st2 := [.int (1 : Int32)]) hk rfl rfl rfl rfl rfl ?_
    refine g_s1 (pc2 := 14) hk rfl rfl rfl rfl rfl ?_
    exact H
theorem b200_14 {x0 : Nat} {x1 : Int32} {s0 : Int32} {h : iH} {Q : Option Value → iH → Prop} (H : (i_ret (some .boolean) s0 = true ∧ Q (some (.int s0)) h)) : i_P i_MT i_AT L xs 200 14 [some (.ref x0), some (.int x1)] [.int s0] h 0 0 Q := by
  have hk := i_k200
  exact g_ireturn hk rfl (by decide) (by decide) H.1 H.2
/-! StillTownModel.refuse(I)I -/
theorem e201 {x0 : Nat} {x1 : Int32} {h : iH} {Q : Option Value → iH → Prop} (H : i_P i_MT i_AT L xs 201 0 [some (.ref x0), some (.int x1)] [] h 0 0 Q) : i_C i_MT i_AT L xs 201 [.ref x0, .int x1] h Q := ⟨i_m201, i_k201.1, Nat.le_of_ble_eq_true rfl, H⟩
theorem b201_0 {x0 : Nat} {x1 : Int32} {h : iH} {Q : Option Value → iH → Prop} (H : ((∃ o, i_fld h x0 12 4 = some o) ∧ i_P i_MT i_AT L xs 201 5 [some (.ref x0), some (.int x1)] [] (i_sf h x0 4 (.int x1)) 0 0 Q)) : i_P i_MT i_AT L xs 201 0 [some (.ref x0), some (.int x1)] [] h 0 0 Q := by
  have hk := i_k201
  refine g_s1 (pc2 := 1) hk rfl rfl rfl rfl rfl ?_
  refine g_s1 (pc2 := 2) hk rfl rfl rfl rfl rfl ?_
  obtain ⟨⟨o, ho⟩, H⟩ := H
  refine g_step (pc2 := 5) hk rfl rfl rfl (s_put ho rfl) ?_
  exact H
theorem b201_5 {x0 : Nat} {x1 : Int32} {h : iH} {Q : Option Value → iH → Prop} (H : Q (some (.int (-1 : Int32))) h) : i_P i_MT i_AT L xs 201 5 [some (.ref x0), some (.int x1)] [] h 0 0 Q := by
  have hk := i_k201
  refine g_s1 (pc2 := 6) (st2 := [.int (-1 : Int32)]) hk rfl rfl rfl rfl rfl ?_
  exact g_ireturn hk rfl (by decide) (by decide) rfl H
/-! StillTownModel.gives(I)I -/
theorem e202 {x0 : Nat} {x1 : Int32} {h : iH} {Q : Option Value → iH → Prop} (H : i_P i_MT i_AT L xs 202 0 [some (.ref x0), some (.int x1)] [] h 0 0 Q) : i_C i_MT i_AT L xs 202 [.ref x0, .int x1] h Q := ⟨i_m202, i_k202.1, Nat.le_of_ble_eq_true rfl, H⟩
theorem b202_0 {x0 : Nat} {x1 : Int32} {h : iH} {Q : Option Value → iH → Prop} (H : ((∃ o, i_fld h x0 12 4 = some o) ∧ i_P i_MT i_AT L xs 202 5 [some (.ref x0), some (.int x1)] [] (i_sf h x0 4 (.int (0 : Int32))) 0 0 Q)) : i_P i_MT i_AT L xs 202 0 [some (.ref x0), some (.int x1)] [] h 0 0 Q := by
  have hk := i_k202
  refine g_s1 (pc2 := 1) hk rfl rfl rfl rfl rfl ?_
  refine g_s1 (pc2 := 2) (st2 := [.int (0 : Int32), .ref x0]) hk rfl rfl rfl rfl rfl ?_
  obtain ⟨⟨o, ho⟩, H⟩ := H
  refine g_step (pc2 := 5) hk rfl rfl rfl (s_put ho rfl) ?_
  exact H
theorem b202_5 {x0 : Nat} {x1 : Int32} {h : iH} {Q : Option Value → iH → Prop} (H : Q (some (.int x1)) h) : i_P i_MT i_AT L xs 202 5 [some (.ref x0), some (.int x1)] [] h 0 0 Q := by
  have hk := i_k202
  refine g_s1 (pc2 := 6) hk rfl rfl rfl rfl rfl ?_
  exact g_ireturn hk rfl (by decide) (by decide) rfl H
/-! StillTownModel.givesSet(J)J -/
theorem e203 {x0 : Nat} {x1 : Int64} {h : iH} {Q : Option Value → iH → Prop} (H : i_P i_MT i_AT L xs 203 0 [some (.ref x0), some (.long x1), none] [] h 0 0 Q) : i_C i_MT i_AT L xs 203 [.ref x0, .long x1] h Q := ⟨i_m203, i_k203.1, Nat.le_of_ble_eq_true rfl, H⟩
theorem b203_0 {x0 : Nat} {x1 : Int64} {h : iH} {Q : Option Value → iH → Prop} (H : ((∃ o, i_fld h x0 12 4 = some o) ∧ i_P i_MT i_AT L xs 203 5 [some (.ref x0), some (.long x1), none] [] (i_sf h x0 4 (.int (0 : Int32))) 0 0 Q)) : i_P i_MT i_AT L xs 203 0 [some (.ref x0), some (.long x1), none] [] h 0 0 Q := by
  have hk := i_k203
  refine g_s1 (pc2 := 1) hk rfl rfl rfl rfl rfl ?_
  refine g_s1 (pc2 := 2) (st2 := [.int (0 : Int32), .ref x0]) hk rfl rfl rfl rfl rfl ?_
  obtain ⟨⟨o, ho⟩, H⟩ := H
  refine g_step (pc2 := 5) hk rfl rfl rfl (s_put ho rfl) ?_
  exact H
theorem b203_5 {x0 : Nat} {x1 : Int64} {h : iH} {Q : Option Value → iH → Prop} (H : Q (some (.long x1)) h) : i_P i_MT i_AT L xs 203 5 [some (.ref x0), some (.long x1), none] [] h 0 0 Q := by
  have hk := i_k203
  refine g_s1 (pc2 := 6) hk rfl rfl rfl rfl rfl ?_
  exact g_lreturn hk rfl (by decide) (by decide) rfl H
/-! StillTownModel.tellsBy(JJ)Z -/
theorem e204 {x0 : Nat} {x1 : Int64} {x3 : Int64} {h : iH} {Q : Option Value → iH → Prop} (H : i_P i_MT i_AT L xs 204 0 [some (.ref x0), some (.long x1), none, some (.long x3), none, none, none, none, none, none, none] [] h 0 0 Q) : i_C i_MT i_AT L xs 204 [.ref x0, .long x1, .long x3] h Q := ⟨i_m204, i_k204.1, Nat.le_of_ble_eq_true rfl, H⟩
theorem b204_0 {x0 : Nat} {x1 : Int64} {x3 : Int64} {x5 : Option Value} {x6 : Option Value} {x7 : Option Value} {x8 : Option Value} {x9 : Option Value} {x10 : Option Value} {h : iH} {Q : Option Value → iH → Prop} (H : i_P i_MT i_AT L xs 204 6 [some (.ref x0), some (.long x1), none, some (.long x3), none, some (.long x1), none, some (.long x3), none, x9, x10] [] h 0 0 Q) : i_P i_MT i_AT L xs 204 0 [some (.ref x0), some (.long x1), none, some (.long x3), none, x5, x6, x7, x8, x9, x10] [] h 0 0 Q := by
  have hk := i_k204
  refine g_s1 (pc2 := 1) hk rfl rfl rfl rfl rfl ?_
  refine g_s1 (pc2 := 3) (lo2 := [some (.ref x0), some (.long x1), none, some (.long x3), none, some (.long x1), none, x7, x8, x9, x10]) hk rfl rfl rfl rfl rfl ?_
  refine g_s1 (pc2 := 4) hk rfl rfl rfl rfl rfl ?_
  refine g_s1 (pc2 := 6) (lo2 := [some (.ref x0), some (.long x1), none, some (.long x3), none, some (.long x1), none, some (.long x3), none, x9, x10]) hk rfl rfl rfl rfl rfl ?_
  exact H
theorem b204_6 {x0 : Nat} {x1 : Int64} {x3 : Int64} {x5 : Int64} {x7 : Int64} {x9 : Option Value} {x10 : Option Value} {h : iH} {Q : Option Value → iH → Prop} (H : (((lg_cmp x7 (0 : Int64)) = 0 → (¬ x5 = 0 ∧ ((∃ o, i_fld h x0 12 5 = some o) ∧ i_P i_MT i_AT L xs 204 39 [some (.ref x0), some (.long x1), none, some (.long x3), none, some (.long x5), none, some (.long x7), none, x9, x10] [] (i_sf h x0 5 (.long (x1 / x5))) 0 0 Q))) ∧ (¬ ((lg_cmp x7 (0 : Int64)) = 0) → (¬ x7 = 0 ∧ i_P i_MT i_AT L xs 204 6 [some (.ref x0), some (.long x1), none, some (.long x3), none, some (.long x7), none, some (.long (x5 - x5 / x7 * x7)), none, some (.long (x5 - x5 / x7 * x7)), none] [] h 0 0 Q)))) : i_P i_MT i_AT L xs 204 6 [some (.ref x0), some (.long x1), none, some (.long x3), none, some (.long x5), none, some (.long x7), none, x9, x10] [] h 0 0 Q := by
  have hk := i_k204
  refine g_s1 (pc2 := 8) hk rfl rfl rfl rfl rfl ?_
  refine g_s1 (pc2 := 9) (st2 := [.long (0 : Int64), .long x7]) hk rfl rfl rfl rfl rfl ?_
  refine g_s1 (pc2 := 10) hk rfl rfl rfl rfl rfl ?_
  refine g_if_eq hk rfl (fun hc => ?_) (fun hc => ?_)
  · have H := H.1 hc
    refine g_s1 (pc2 := 32) hk rfl rfl rfl rfl rfl ?_
    refine g_s1 (pc2 := 33) hk rfl rfl rfl rfl rfl ?_
    refine g_s1 (pc2 := 35) hk rfl rfl rfl rfl rfl ?_
    obtain ⟨hz, H⟩ := H
    refine g_s1 (pc2 := 36) hk rfl rfl rfl rfl (s_if hz) ?_
    obtain ⟨⟨o, ho⟩, H⟩ := H
    refine g_step (pc2 := 39) hk rfl rfl rfl (s_put ho rfl) ?_
    exact H
  · have H := H.2 hc
    refine g_s1 (pc2 := 15) hk rfl rfl rfl rfl rfl ?_
    refine g_s1 (pc2 := 17) hk rfl rfl rfl rfl rfl ?_
    obtain ⟨hz, H⟩ := H
    refine g_s1 (pc2 := 18) hk rfl rfl rfl rfl (s_if hz) ?_
    refine g_s1 (pc2 := 20) (lo2 := [some (.ref x0), some (.long x1), none, some (.long x3), none, some (.long x5), none, some (.long x7), none, some (.long (x5 - x5 / x7 * x7)), none]) hk rfl rfl rfl rfl rfl ?_
    refine g_s1 (pc2 := 22) hk rfl rfl rfl rfl rfl ?_
    refine g_s1 (pc2 := 24) (lo2 := [some (.ref x0), some (.long x1), none, some (.long x3), none, some (.long x7), none, some (.long x7), none, some (.long (x5 - x5 / x7 * x7)), none]) hk rfl rfl rfl rfl rfl ?_
    refine g_s1 (pc2 := 26) hk rfl rfl rfl rfl rfl ?_
    refine g_s1 (pc2 := 28) (lo2 := [some (.ref x0), some (.long x1), none, some (.long x3), none, some (.long x7), none, some (.long (x5 - x5 / x7 * x7)), none, some (.long (x5 - x5 / x7 * x7)), none]) hk rfl rfl rfl rfl rfl ?_
    refine g_s1 (pc2 := 6) hk rfl rfl rfl rfl rfl ?_
    exact H
theorem b204_39 {x0 : Nat} {x1 : Int64} {x3 : Int64} {x5 : Int64} {x7 : Int64} {x9 : Option Value} {x10 : Option Value} {h : iH} {Q : Option Value → iH → Prop} (H : (¬ x5 = 0 ∧ ((∃ o, i_fld h x0 12 6 = some o) ∧ i_P i_MT i_AT L xs 204 47 [some (.ref x0), some (.long x1), none, some (.long x3), none, some (.long x5), none, some (.long x7), none, x9, x10] [] (i_sf h x0 6 (.long (x3 / x5))) 0 0 Q))) : i_P i_MT i_AT L xs 204 39 [some (.ref x0), some (.long x1), none, some (.long x3), none, some (.long x5), none, some (.long x7), none, x9, x10] [] h 0 0 Q := by
  have hk := i_k204
  refine g_s1 (pc2 := 40) hk rfl rfl rfl rfl rfl ?_
  refine g_s1 (pc2 := 41) hk rfl rfl rfl rfl rfl ?_
  refine g_s1 (pc2 := 43) hk rfl rfl rfl rfl rfl ?_
  obtain ⟨hz, H⟩ := H
  refine g_s1 (pc2 := 44) hk rfl rfl rfl rfl (s_if hz) ?_
  obtain ⟨⟨o, ho⟩, H⟩ := H
  refine g_step (pc2 := 47) hk rfl rfl rfl (s_put ho rfl) ?_
  exact H
theorem b204_47 {x0 : Nat} {x1 : Int64} {x3 : Int64} {x5 : Int64} {x7 : Int64} {x9 : Option Value} {x10 : Option Value} {h : iH} {Q : Option Value → iH → Prop} (H : (i_obj? h x0 12 ∧ i_C i_MT i_AT L xs 200 [.ref x0, .int (0 : Int32)] h (fun v h1 => ∃ r2 : Int32, v = some (.int r2) ∧ i_P i_MT i_AT L xs 204 52 [some (.ref x0), some (.long x1), none, some (.long x3), none, some (.long x5), none, some (.long x7), none, x9, x10] [.int r2] h1 0 0 Q))) : i_P i_MT i_AT L xs 204 47 [some (.ref x0), some (.long x1), none, some (.long x3), none, some (.long x5), none, some (.long x7), none, x9, x10] [] h 0 0 Q := by
  have hk := i_k204
  refine g_s1 (pc2 := 48) hk rfl rfl rfl rfl rfl ?_
  refine g_s1 (pc2 := 49) (st2 := [.int (0 : Int32), .ref x0]) hk rfl rfl rfl rfl rfl ?_
  obtain ⟨ho, H⟩ := H
  refine g_call hk rfl rfl i_k200.1 ⟨rfl, rfl⟩ rfl (i_rcv_v ho rfl (by decide)) rfl ?_
  exact H.mono (fun v h2 q => by obtain ⟨r, rfl, q⟩ := q; exact q)
theorem b204_52 {x0 : Nat} {x1 : Int64} {x3 : Int64} {x5 : Int64} {x7 : Int64} {x9 : Option Value} {x10 : Option Value} {s0 : Int32} {h : iH} {Q : Option Value → iH → Prop} (H : (i_ret (some .boolean) s0 = true ∧ Q (some (.int s0)) h)) : i_P i_MT i_AT L xs 204 52 [some (.ref x0), some (.long x1), none, some (.long x3), none, some (.long x5), none, some (.long x7), none, x9, x10] [.int s0] h 0 0 Q := by
  have hk := i_k204
  exact g_ireturn hk rfl (by decide) (by decide) H.1 H.2
/-! StillTownModel.isTray(I)Z -/
theorem e205 {x0 : Int32} {h : iH} {Q : Option Value → iH → Prop} (H : i_P i_MT i_AT L xs 205 0 [some (.int x0)] [] h 0 0 Q) : i_C i_MT i_AT L xs 205 [.int x0] h Q := ⟨i_m205, i_k205.1, Nat.le_of_ble_eq_true rfl, H⟩
theorem b205_0 {x0 : Int32} {h : iH} {Q : Option Value → iH → Prop} (H : ((x0 < 0 → i_P i_MT i_AT L xs 205 13 [some (.int x0)] [] h 0 0 Q) ∧ (¬ (x0 < 0) → (((4 : Int32) ≤ x0 → i_P i_MT i_AT L xs 205 13 [some (.int x0)] [] h 0 0 Q) ∧ (¬ ((4 : Int32) ≤ x0) → i_P i_MT i_AT L xs 205 14 [some (.int x0)] [.int (1 : Int32)] h 0 0 Q))))) : i_P i_MT i_AT L xs 205 0 [some (.int x0)] [] h 0 0 Q := by
  have hk := i_k205
  refine g_s1 (pc2 := 1) hk rfl rfl rfl rfl rfl ?_
  refine g_if_lt hk rfl (fun hc => ?_) (fun hc => ?_)
  · have H := H.1 hc
    exact H
  · have H := H.2 hc
    refine g_s1 (pc2 := 5) hk rfl rfl rfl rfl rfl ?_
    refine g_s1 (pc2 := 6) (st2 := [.int (4 : Int32), .int x0]) hk rfl rfl rfl rfl rfl ?_
    refine g_icmp_ge hk rfl (fun hc => ?_) (fun hc => ?_)
    · have H := H.1 hc
      exact H
    · have H := H.2 hc
      refine g_s1 (pc2 := 10) (st2 := [.int (1 : Int32)]) hk rfl rfl rfl rfl rfl ?_
      refine g_s1 (pc2 := 14) hk rfl rfl rfl rfl rfl ?_
      exact H
theorem b205_13 {x0 : Int32} {h : iH} {Q : Option Value → iH → Prop} (H : i_P i_MT i_AT L xs 205 14 [some (.int x0)] [.int (0 : Int32)] h 0 0 Q) : i_P i_MT i_AT L xs 205 13 [some (.int x0)] [] h 0 0 Q := by
  have hk := i_k205
  refine g_s1 (pc2 := 14) (st2 := [.int (0 : Int32)]) hk rfl rfl rfl rfl rfl ?_
  exact H
theorem b205_14 {x0 : Int32} {s0 : Int32} {h : iH} {Q : Option Value → iH → Prop} (H : (i_ret (some .boolean) s0 = true ∧ Q (some (.int s0)) h)) : i_P i_MT i_AT L xs 205 14 [some (.int x0)] [.int s0] h 0 0 Q := by
  have hk := i_k205
  exact g_ireturn hk rfl (by decide) (by decide) H.1 H.2
/-! StillTownModel.cut(JI)J -/
theorem e206 {x0 : Int64} {x2 : Int32} {h : iH} {Q : Option Value → iH → Prop} (H : i_P i_MT i_AT L xs 206 0 [some (.long x0), none, some (.int x2)] [] h 0 0 Q) : i_C i_MT i_AT L xs 206 [.long x0, .int x2] h Q := ⟨i_m206, i_k206.1, Nat.le_of_ble_eq_true rfl, H⟩
theorem b206_0 {x0 : Int64} {x2 : Int32} {h : iH} {Q : Option Value → iH → Prop} (H : ((¬ x2 = 0 → ((¬ x2 = (1 : Int32) → ((¬ x2 = (2 : Int32) → i_P i_MT i_AT L xs 206 35 [some (.long x0), none, some (.int x2)] [.long x0] h 0 0 Q) ∧ (¬ (¬ x2 = (2 : Int32)) → i_P i_MT i_AT L xs 206 35 [some (.long x0), none, some (.int x2)] [.long ((x0.toInt32).toInt64)] h 0 0 Q))) ∧ (¬ (¬ x2 = (1 : Int32)) → i_P i_MT i_AT L xs 206 35 [some (.long x0), none, some (.int x2)] [.long (((x0.toInt32).toInt16.toInt32).toInt64)] h 0 0 Q))) ∧ (¬ (¬ x2 = 0) → i_P i_MT i_AT L xs 206 35 [some (.long x0), none, some (.int x2)] [.long (((x0.toInt32).toInt8.toInt32).toInt64)] h 0 0 Q))) : i_P i_MT i_AT L xs 206 0 [some (.long x0), none, some (.int x2)] [] h 0 0 Q := by
  have hk := i_k206
  refine g_s1 (pc2 := 1) hk rfl rfl rfl rfl rfl ?_
  refine g_if_ne hk rfl (fun hc => ?_) (fun hc => ?_)
  · have H := H.1 hc
    refine g_s1 (pc2 := 12) hk rfl rfl rfl rfl rfl ?_
    refine g_s1 (pc2 := 13) (st2 := [.int (1 : Int32), .int x2]) hk rfl rfl rfl rfl rfl ?_
    refine g_icmp_ne hk rfl (fun hc => ?_) (fun hc => ?_)
    · have H := H.1 hc
      refine g_s1 (pc2 := 24) hk rfl rfl rfl rfl rfl ?_
      refine g_s1 (pc2 := 25) (st2 := [.int (2 : Int32), .int x2]) hk rfl rfl rfl rfl rfl ?_
      refine g_icmp_ne hk rfl (fun hc => ?_) (fun hc => ?_)
      · have H := H.1 hc
        refine g_s1 (pc2 := 35) hk rfl rfl rfl rfl rfl ?_
        exact H
      · have H := H.2 hc
        refine g_s1 (pc2 := 29) hk rfl rfl rfl rfl rfl ?_
        refine g_s1 (pc2 := 30) hk rfl rfl rfl rfl rfl ?_
        refine g_s1 (pc2 := 31) hk rfl rfl rfl rfl rfl ?_
        refine g_s1 (pc2 := 35) hk rfl rfl rfl rfl rfl ?_
        exact H
    · have H := H.2 hc
      refine g_s1 (pc2 := 17) hk rfl rfl rfl rfl rfl ?_
      refine g_s1 (pc2 := 18) hk rfl rfl rfl rfl rfl ?_
      refine g_s1 (pc2 := 19) hk rfl rfl rfl rfl rfl ?_
      refine g_s1 (pc2 := 20) hk rfl rfl rfl rfl rfl ?_
      refine g_s1 (pc2 := 35) hk rfl rfl rfl rfl rfl ?_
      exact H
  · have H := H.2 hc
    refine g_s1 (pc2 := 5) hk rfl rfl rfl rfl rfl ?_
    refine g_s1 (pc2 := 6) hk rfl rfl rfl rfl rfl ?_
    refine g_s1 (pc2 := 7) hk rfl rfl rfl rfl rfl ?_
    refine g_s1 (pc2 := 8) hk rfl rfl rfl rfl rfl ?_
    refine g_s1 (pc2 := 35) hk rfl rfl rfl rfl rfl ?_
    exact H
theorem b206_35 {x0 : Int64} {x2 : Int32} {s0 : Int64} {h : iH} {Q : Option Value → iH → Prop} (H : Q (some (.long s0)) h) : i_P i_MT i_AT L xs 206 35 [some (.long x0), none, some (.int x2)] [.long s0] h 0 0 Q := by
  have hk := i_k206
  exact g_lreturn hk rfl (by decide) (by decide) rfl H
/-! StillTownModel.tray(III)Z -/
theorem e207 {x0 : Nat} {x1 : Int32} {x2 : Int32} {x3 : Int32} {h : iH} {Q : Option Value → iH → Prop} (H : i_P i_MT i_AT L xs 207 0 [some (.ref x0), some (.int x1), some (.int x2), some (.int x3), none] [] h 0 0 Q) : i_C i_MT i_AT L xs 207 [.ref x0, .int x1, .int x2, .int x3] h Q := ⟨i_m207, i_k207.1, Nat.le_of_ble_eq_true rfl, H⟩
theorem b207_0 {x0 : Nat} {x1 : Int32} {x2 : Int32} {x3 : Int32} {x4 : Option Value} {h : iH} {Q : Option Value → iH → Prop} (H : (i_C i_MT i_AT L xs 205 [.int x1] h (fun v h1 => ∃ r2 : Int32, v = some (.int r2) ∧ i_P i_MT i_AT L xs 207 4 [some (.ref x0), some (.int x1), some (.int x2), some (.int x3), x4] [.int r2] h1 0 0 Q))) : i_P i_MT i_AT L xs 207 0 [some (.ref x0), some (.int x1), some (.int x2), some (.int x3), x4] [] h 0 0 Q := by
  have hk := i_k207
  refine g_s1 (pc2 := 1) hk rfl rfl rfl rfl rfl ?_
  refine g_call hk rfl rfl i_k205.1 ⟨rfl, rfl⟩ rfl (i_rcv_0 rfl) rfl ?_
  exact H.mono (fun v h2 q => by obtain ⟨r, rfl, q⟩ := q; exact q)
theorem b207_4 {x0 : Nat} {x1 : Int32} {x2 : Int32} {x3 : Int32} {x4 : Option Value} {s0 : Int32} {h : iH} {Q : Option Value → iH → Prop} (H : ((s0 = 0 → i_P i_MT i_AT L xs 207 26 [some (.ref x0), some (.int x1), some (.int x2), some (.int x3), x4] [] h 0 0 Q) ∧ (¬ (s0 = 0) → ((x2 < 0 → i_P i_MT i_AT L xs 207 26 [some (.ref x0), some (.int x1), some (.int x2), some (.int x3), x4] [] h 0 0 Q) ∧ (¬ (x2 < 0) → (((3 : Int32) < x2 → i_P i_MT i_AT L xs 207 26 [some (.ref x0), some (.int x1), some (.int x2), some (.int x3), x4] [] h 0 0 Q) ∧ (¬ ((3 : Int32) < x2) → ((x3 < 0 → i_P i_MT i_AT L xs 207 26 [some (.ref x0), some (.int x1), some (.int x2), some (.int x3), x4] [] h 0 0 Q) ∧ (¬ (x3 < 0) → ((x3 ≤ (60 : Int32) → (∃ v1 : Nat, i_fld h x0 12 7 = some (.ref v1) ∧ (∃ (n2 : Nat) (f3 : Nat → Int32), i_arI h 0 v1 = some (n2, f3) ∧ ¬ (x1 < 0 ∨ n2 ≤ x1.toNatClampNeg) ∧ i_P i_MT i_AT L xs 207 39 [some (.ref x0), some (.int x1), some (.int x2), some (.int x3), x4] [] (i_siI h v1 x1.toNatClampNeg x2) 0 0 Q))) ∧ (¬ (x3 ≤ (60 : Int32)) → i_P i_MT i_AT L xs 207 26 [some (.ref x0), some (.int x1), some (.int x2), some (.int x3), x4] [] h 0 0 Q))))))))))) : i_P i_MT i_AT L xs 207 4 [some (.ref x0), some (.int x1), some (.int x2), some (.int x3), x4] [.int s0] h 0 0 Q := by
  have hk := i_k207
  refine g_if_eq hk rfl (fun hc => ?_) (fun hc => ?_)
  · have H := H.1 hc
    exact H
  · have H := H.2 hc
    refine g_s1 (pc2 := 8) hk rfl rfl rfl rfl rfl ?_
    refine g_if_lt hk rfl (fun hc => ?_) (fun hc => ?_)
    · have H := H.1 hc
      exact H
    · have H := H.2 hc
      refine g_s1 (pc2 := 12) hk rfl rfl rfl rfl rfl ?_
      refine g_s1 (pc2 := 13) (st2 := [.int (3 : Int32), .int x2]) hk rfl rfl rfl rfl rfl ?_
      refine g_icmp_gt hk rfl (fun hc => ?_) (fun hc => ?_)
      · have H := H.1 hc
        exact H
      · have H := H.2 hc
        refine g_s1 (pc2 := 17) hk rfl rfl rfl rfl rfl ?_
        refine g_if_lt hk rfl (fun hc => ?_) (fun hc => ?_)
        · have H := H.1 hc
          exact H
        · have H := H.2 hc
          refine g_s1 (pc2 := 21) hk rfl rfl rfl rfl rfl ?_
          refine g_s1 (pc2 := 23) (st2 := [.int (60 : Int32), .int x3]) hk rfl rfl rfl rfl rfl ?_
          refine g_icmp_le hk rfl (fun hc => ?_) (fun hc => ?_)
          · have H := H.1 hc
            refine g_s1 (pc2 := 33) hk rfl rfl rfl rfl rfl ?_
            obtain ⟨v1, ev1, H⟩ := H
            refine g_step (pc2 := 36) hk rfl rfl rfl (s_get ev1) ?_
            refine g_s1 (pc2 := 37) hk rfl rfl rfl rfl rfl ?_
            refine g_s1 (pc2 := 38) hk rfl rfl rfl rfl rfl ?_
            obtain ⟨n2, f3, ef3, hi, H⟩ := H
            refine g_step (pc2 := 39) hk rfl rfl rfl (s_aput ef3 hi) ?_
            exact H
          · have H := H.2 hc
            exact H
theorem b207_26 {x0 : Nat} {x1 : Int32} {x2 : Int32} {x3 : Int32} {x4 : Option Value} {h : iH} {Q : Option Value → iH → Prop} (H : (i_obj? h x0 12 ∧ i_C i_MT i_AT L xs 200 [.ref x0, .int (1 : Int32)] h (fun v h1 => ∃ r2 : Int32, v = some (.int r2) ∧ i_P i_MT i_AT L xs 207 31 [some (.ref x0), some (.int x1), some (.int x2), some (.int x3), x4] [.int r2] h1 0 0 Q))) : i_P i_MT i_AT L xs 207 26 [some (.ref x0), some (.int x1), some (.int x2), some (.int x3), x4] [] h 0 0 Q := by
  have hk := i_k207
  refine g_s1 (pc2 := 27) hk rfl rfl rfl rfl rfl ?_
  refine g_s1 (pc2 := 28) (st2 := [.int (1 : Int32), .ref x0]) hk rfl rfl rfl rfl rfl ?_
  obtain ⟨ho, H⟩ := H
  refine g_call hk rfl rfl i_k200.1 ⟨rfl, rfl⟩ rfl (i_rcv_v ho rfl (by decide)) rfl ?_
  exact H.mono (fun v h2 q => by obtain ⟨r, rfl, q⟩ := q; exact q)
theorem b207_31 {x0 : Nat} {x1 : Int32} {x2 : Int32} {x3 : Int32} {x4 : Option Value} {s0 : Int32} {h : iH} {Q : Option Value → iH → Prop} (H : (i_ret (some .boolean) s0 = true ∧ Q (some (.int s0)) h)) : i_P i_MT i_AT L xs 207 31 [some (.ref x0), some (.int x1), some (.int x2), some (.int x3), x4] [.int s0] h 0 0 Q := by
  have hk := i_k207
  exact g_ireturn hk rfl (by decide) (by decide) H.1 H.2
theorem b207_39 {x0 : Nat} {x1 : Int32} {x2 : Int32} {x3 : Int32} {x4 : Option Value} {h : iH} {Q : Option Value → iH → Prop} (H : (∃ v1 : Nat, i_fld h x0 12 8 = some (.ref v1) ∧ (∃ (n2 : Nat) (f3 : Nat → Int32), i_arI h 0 v1 = some (n2, f3) ∧ ¬ (x1 < 0 ∨ n2 ≤ x1.toNatClampNeg) ∧ i_P i_MT i_AT L xs 207 46 [some (.ref x0), some (.int x1), some (.int x2), some (.int x3), x4] [] (i_siI h v1 x1.toNatClampNeg x3) 0 0 Q))) : i_P i_MT i_AT L xs 207 39 [some (.ref x0), some (.int x1), some (.int x2), some (.int x3), x4] [] h 0 0 Q := by
  have hk := i_k207
  refine g_s1 (pc2 := 40) hk rfl rfl rfl rfl rfl ?_
  obtain ⟨v1, ev1, H⟩ := H
  refine g_step (pc2 := 43) hk rfl rfl rfl (s_get ev1) ?_
  refine g_s1 (pc2 := 44) hk rfl rfl rfl rfl rfl ?_
  refine g_s1 (pc2 := 45) hk rfl rfl rfl rfl rfl ?_
  obtain ⟨n2, f3, ef3, hi, H⟩ := H
  refine g_step (pc2 := 46) hk rfl rfl rfl (s_aput ef3 hi) ?_
  exact H
theorem b207_46 {x0 : Nat} {x1 : Int32} {x2 : Int32} {x3 : Int32} {x4 : Option Value} {h : iH} {Q : Option Value → iH → Prop} (H : i_P i_MT i_AT L xs 207 49 [some (.ref x0), some (.int x1), some (.int x2), some (.int x3), some (.int (0 : Int32))] [] h 0 0 Q) : i_P i_MT i_AT L xs 207 46 [some (.ref x0), some (.int x1), some (.int x2), some (.int x3), x4] [] h 0 0 Q := by
  have hk := i_k207
  refine g_s1 (pc2 := 47) (st2 := [.int (0 : Int32)]) hk rfl rfl rfl rfl rfl ?_
  refine g_s1 (pc2 := 49) (lo2 := [some (.ref x0), some (.int x1), some (.int x2), some (.int x3), some (.int (0 : Int32))]) hk rfl rfl rfl rfl rfl ?_
  exact H
theorem b207_49 {x0 : Nat} {x1 : Int32} {x2 : Int32} {x3 : Int32} {x4 : Int32} {h : iH} {Q : Option Value → iH → Prop} (H : ((x3 ≤ x4 → (i_obj? h x0 12 ∧ i_C i_MT i_AT L xs 200 [.ref x0, .int (0 : Int32)] h (fun v h1 => ∃ r2 : Int32, v = some (.int r2) ∧ i_P i_MT i_AT L xs 207 79 [some (.ref x0), some (.int x1), some (.int x2), some (.int x3), some (.int x4)] [.int r2] h1 0 0 Q))) ∧ (¬ (x3 ≤ x4) → (∃ v3 : Nat, i_fld h x0 12 9 = some (.ref v3) ∧ (∃ (n4 : Nat) (f5 : Nat → Int64), i_arJ h v3 = some (n4, f5) ∧ ¬ ((((60 : Int32) * x1) + x4) < 0 ∨ n4 ≤ (((60 : Int32) * x1) + x4).toNatClampNeg) ∧ i_P i_MT i_AT L xs 207 68 [some (.ref x0), some (.int x1), some (.int x2), some (.int x3), some (.int x4)] [] (i_siJ h v3 (((60 : Int32) * x1) + x4).toNatClampNeg (0 : Int64)) 0 0 Q))))) : i_P i_MT i_AT L xs 207 49 [some (.ref x0), some (.int x1), some (.int x2), some (.int x3), some (.int x4)] [] h 0 0 Q := by
  have hk := i_k207
  refine g_s1 (pc2 := 51) hk rfl rfl rfl rfl rfl ?_
  refine g_s1 (pc2 := 52) hk rfl rfl rfl rfl rfl ?_
  refine g_icmp_ge hk rfl (fun hc => ?_) (fun hc => ?_)
  · have H := H.1 hc
    refine g_s1 (pc2 := 75) hk rfl rfl rfl rfl rfl ?_
    refine g_s1 (pc2 := 76) (st2 := [.int (0 : Int32), .ref x0]) hk rfl rfl rfl rfl rfl ?_
    obtain ⟨ho, H⟩ := H
    refine g_call hk rfl rfl i_k200.1 ⟨rfl, rfl⟩ rfl (i_rcv_v ho rfl (by decide)) rfl ?_
    exact H.mono (fun v h2 q => by obtain ⟨r, rfl, q⟩ := q; exact q)
  · have H := H.2 hc
    refine g_s1 (pc2 := 56) hk rfl rfl rfl rfl rfl ?_
    obtain ⟨v3, ev3, H⟩ := H
    refine g_step (pc2 := 59) hk rfl rfl rfl (s_get ev3) ?_
    refine g_s1 (pc2 := 61) (st2 := [.int (60 : Int32), .ref v3]) hk rfl rfl rfl rfl rfl ?_
    refine g_s1 (pc2 := 62) hk rfl rfl rfl rfl rfl ?_
    refine g_s1 (pc2 := 63) hk rfl rfl rfl rfl rfl ?_
    refine g_s1 (pc2 := 65) hk rfl rfl rfl rfl rfl ?_
    refine g_s1 (pc2 := 66) hk rfl rfl rfl rfl rfl ?_
    refine g_s1 (pc2 := 67) (st2 := [.long (0 : Int64), .int (((60 : Int32) * x1) + x4), .ref v3]) hk rfl rfl rfl rfl rfl ?_
    obtain ⟨n4, f5, ef5, hi, H⟩ := H
    refine g_step (pc2 := 68) hk rfl rfl rfl (s_lput ef5 hi) ?_
    exact H
theorem b207_68 {x0 : Nat} {x1 : Int32} {x2 : Int32} {x3 : Int32} {x4 : Int32} {h : iH} {Q : Option Value → iH → Prop} (H : i_P i_MT i_AT L xs 207 49 [some (.ref x0), some (.int x1), some (.int x2), some (.int x3), some (.int (x4 + 1))] [] h 0 0 Q) : i_P i_MT i_AT L xs 207 68 [some (.ref x0), some (.int x1), some (.int x2), some (.int x3), some (.int x4)] [] h 0 0 Q := by
  have hk := i_k207
  refine g_s1 (pc2 := 71) (lo2 := [some (.ref x0), some (.int x1), some (.int x2), some (.int x3), some (.int (x4 + 1))]) hk rfl rfl rfl rfl rfl ?_
  refine g_s1 (pc2 := 49) hk rfl rfl rfl rfl rfl ?_
  exact H
theorem b207_79 {x0 : Nat} {x1 : Int32} {x2 : Int32} {x3 : Int32} {x4 : Int32} {s0 : Int32} {h : iH} {Q : Option Value → iH → Prop} (H : (i_ret (some .boolean) s0 = true ∧ Q (some (.int s0)) h)) : i_P i_MT i_AT L xs 207 79 [some (.ref x0), some (.int x1), some (.int x2), some (.int x3), some (.int x4)] [.int s0] h 0 0 Q := by
  have hk := i_k207
  exact g_ireturn hk rfl (by decide) (by decide) H.1 H.2
/-! StillTownModel.wrongPlace(II)I -/
theorem e208 {x0 : Nat} {x1 : Int32} {x2 : Int32} {h : iH} {Q : Option Value → iH → Prop} (H : i_P i_MT i_AT L xs 208 0 [some (.ref x0), some (.int x1), some (.int x2)] [] h 0 0 Q) : i_C i_MT i_AT L xs 208 [.ref x0, .int x1, .int x2] h Q := ⟨i_m208, i_k208.1, Nat.le_of_ble_eq_true rfl, H⟩
theorem b208_0 {x0 : Nat} {x1 : Int32} {x2 : Int32} {h : iH} {Q : Option Value → iH → Prop} (H : (i_C i_MT i_AT L xs 205 [.int x1] h (fun v h1 => ∃ r2 : Int32, v = some (.int r2) ∧ i_P i_MT i_AT L xs 208 4 [some (.ref x0), some (.int x1), some (.int x2)] [.int r2] h1 0 0 Q))) : i_P i_MT i_AT L xs 208 0 [some (.ref x0), some (.int x1), some (.int x2)] [] h 0 0 Q := by
  have hk := i_k208
  refine g_s1 (pc2 := 1) hk rfl rfl rfl rfl rfl ?_
  refine g_call hk rfl rfl i_k205.1 ⟨rfl, rfl⟩ rfl (i_rcv_0 rfl) rfl ?_
  exact H.mono (fun v h2 q => by obtain ⟨r, rfl, q⟩ := q; exact q)
theorem b208_4 {x0 : Nat} {x1 : Int32} {x2 : Int32} {s0 : Int32} {h : iH} {Q : Option Value → iH → Prop} (H : ((¬ s0 = 0 → (∃ v1 : Nat, i_fld h x0 12 8 = some (.ref v1) ∧ (∃ (n2 : Nat) (f3 : Nat → Int32), i_arI h 0 v1 = some (n2, f3) ∧ ¬ (x1 < 0 ∨ n2 ≤ x1.toNatClampNeg) ∧ ((¬ (f3 x1.toNatClampNeg) = (-1 : Int32) → ((x2 < 0 → i_P i_MT i_AT L xs 208 39 [some (.ref x0), some (.int x1), some (.int x2)] [] h 0 0 Q) ∧ (¬ (x2 < 0) → (∃ v4 : Nat, i_fld h x0 12 8 = some (.ref v4) ∧ (∃ (n5 : Nat) (f6 : Nat → Int32), i_arI h 0 v4 = some (n5, f6) ∧ ¬ (x1 < 0 ∨ n5 ≤ x1.toNatClampNeg) ∧ ((x2 < (f6 x1.toNatClampNeg) → i_P i_MT i_AT L xs 208 44 [some (.ref x0), some (.int x1), some (.int x2)] [.int (0 : Int32)] h 0 0 Q) ∧ (¬ (x2 < (f6 x1.toNatClampNeg)) → i_P i_MT i_AT L xs 208 39 [some (.ref x0), some (.int x1), some (.int x2)] [] h 0 0 Q))))))) ∧ (¬ (¬ (f3 x1.toNatClampNeg) = (-1 : Int32)) → i_P i_MT i_AT L xs 208 44 [some (.ref x0), some (.int x1), some (.int x2)] [.int (2 : Int32)] h 0 0 Q))))) ∧ (¬ (¬ s0 = 0) → i_P i_MT i_AT L xs 208 44 [some (.ref x0), some (.int x1), some (.int x2)] [.int (1 : Int32)] h 0 0 Q))) : i_P i_MT i_AT L xs 208 4 [some (.ref x0), some (.int x1), some (.int x2)] [.int s0] h 0 0 Q := by
  have hk := i_k208
  refine g_if_ne hk rfl (fun hc => ?_) (fun hc => ?_)
  · have H := H.1 hc
    refine g_s1 (pc2 := 12) hk rfl rfl rfl rfl rfl ?_
    obtain ⟨v1, ev1, H⟩ := H
    refine g_step (pc2 := 15) hk rfl rfl rfl (s_get ev1) ?_
    refine g_s1 (pc2 := 16) hk rfl rfl rfl rfl rfl ?_
    obtain ⟨n2, f3, ef3, hi, H⟩ := H
    refine g_step (pc2 := 17) hk rfl rfl rfl (s_aget (L := L) (xs := xs) ef3 hi) ?_
    refine g_s1 (pc2 := 18) (st2 := [.int (-1 : Int32), .int (f3 x1.toNatClampNeg)]) hk rfl rfl rfl rfl rfl ?_
    refine g_icmp_ne hk rfl (fun hc => ?_) (fun hc => ?_)
    · have H := H.1 hc
      refine g_s1 (pc2 := 26) hk rfl rfl rfl rfl rfl ?_
      refine g_if_lt hk rfl (fun hc => ?_) (fun hc => ?_)
      · have H := H.1 hc
        exact H
      · have H := H.2 hc
        refine g_s1 (pc2 := 30) hk rfl rfl rfl rfl rfl ?_
        refine g_s1 (pc2 := 31) hk rfl rfl rfl rfl rfl ?_
        obtain ⟨v4, ev4, H⟩ := H
        refine g_step (pc2 := 34) hk rfl rfl rfl (s_get ev4) ?_
        refine g_s1 (pc2 := 35) hk rfl rfl rfl rfl rfl ?_
        obtain ⟨n5, f6, ef6, hi, H⟩ := H
        refine g_step (pc2 := 36) hk rfl rfl rfl (s_aget (L := L) (xs := xs) ef6 hi) ?_
        refine g_icmp_lt hk rfl (fun hc => ?_) (fun hc => ?_)
        · have H := H.1 hc
          refine g_s1 (pc2 := 44) (st2 := [.int (0 : Int32)]) hk rfl rfl rfl rfl rfl ?_
          exact H
        · have H := H.2 hc
          exact H
    · have H := H.2 hc
      refine g_s1 (pc2 := 22) (st2 := [.int (2 : Int32)]) hk rfl rfl rfl rfl rfl ?_
      refine g_s1 (pc2 := 44) hk rfl rfl rfl rfl rfl ?_
      exact H
  · have H := H.2 hc
    refine g_s1 (pc2 := 8) (st2 := [.int (1 : Int32)]) hk rfl rfl rfl rfl rfl ?_
    refine g_s1 (pc2 := 44) hk rfl rfl rfl rfl rfl ?_
    exact H
theorem b208_39 {x0 : Nat} {x1 : Int32} {x2 : Int32} {h : iH} {Q : Option Value → iH → Prop} (H : i_P i_MT i_AT L xs 208 44 [some (.ref x0), some (.int x1), some (.int x2)] [.int (3 : Int32)] h 0 0 Q) : i_P i_MT i_AT L xs 208 39 [some (.ref x0), some (.int x1), some (.int x2)] [] h 0 0 Q := by
  have hk := i_k208
  refine g_s1 (pc2 := 40) (st2 := [.int (3 : Int32)]) hk rfl rfl rfl rfl rfl ?_
  refine g_s1 (pc2 := 44) hk rfl rfl rfl rfl rfl ?_
  exact H
theorem b208_44 {x0 : Nat} {x1 : Int32} {x2 : Int32} {s0 : Int32} {h : iH} {Q : Option Value → iH → Prop} (H : Q (some (.int s0)) h) : i_P i_MT i_AT L xs 208 44 [some (.ref x0), some (.int x1), some (.int x2)] [.int s0] h 0 0 Q := by
  have hk := i_k208
  exact g_ireturn hk rfl (by decide) (by decide) rfl H
/-! StillTownModel.write(IIJ)Z -/
theorem e209 {x0 : Nat} {x1 : Int32} {x2 : Int32} {x3 : Int64} {h : iH} {Q : Option Value → iH → Prop} (H : i_P i_MT i_AT L xs 209 0 [some (.ref x0), some (.int x1), some (.int x2), some (.long x3), none, none] [] h 0 0 Q) : i_C i_MT i_AT L xs 209 [.ref x0, .int x1, .int x2, .long x3] h Q := ⟨i_m209, i_k209.1, Nat.le_of_ble_eq_true rfl, H⟩
theorem b209_0 {x0 : Nat} {x1 : Int32} {x2 : Int32} {x3 : Int64} {x5 : Option Value} {h : iH} {Q : Option Value → iH → Prop} (H : (i_obj? h x0 12 ∧ i_C i_MT i_AT L xs 208 [.ref x0, .int x1, .int x2] h (fun v h1 => ∃ r2 : Int32, v = some (.int r2) ∧ i_P i_MT i_AT L xs 209 6 [some (.ref x0), some (.int x1), some (.int x2), some (.long x3), none, x5] [.int r2] h1 0 0 Q))) : i_P i_MT i_AT L xs 209 0 [some (.ref x0), some (.int x1), some (.int x2), some (.long x3), none, x5] [] h 0 0 Q := by
  have hk := i_k209
  refine g_s1 (pc2 := 1) hk rfl rfl rfl rfl rfl ?_
  refine g_s1 (pc2 := 2) hk rfl rfl rfl rfl rfl ?_
  refine g_s1 (pc2 := 3) hk rfl rfl rfl rfl rfl ?_
  obtain ⟨ho, H⟩ := H
  refine g_call hk rfl rfl i_k208.1 ⟨rfl, rfl⟩ rfl (i_rcv_v ho rfl (by decide)) rfl ?_
  exact H.mono (fun v h2 q => by obtain ⟨r, rfl, q⟩ := q; exact q)
theorem b209_6 {x0 : Nat} {x1 : Int32} {x2 : Int32} {x3 : Int64} {x5 : Option Value} {s0 : Int32} {h : iH} {Q : Option Value → iH → Prop} (H : ((¬ s0 = 0 → i_P i_MT i_AT L xs 209 34 [some (.ref x0), some (.int x1), some (.int x2), some (.long x3), none, some (.int s0)] [] h 0 0 Q) ∧ (¬ (¬ s0 = 0) → (∃ v1 : Nat, i_fld h x0 12 9 = some (.ref v1) ∧ (∃ v2 : Nat, i_fld h x0 12 7 = some (.ref v2) ∧ (∃ (n3 : Nat) (f4 : Nat → Int32), i_arI h 0 v2 = some (n3, f4) ∧ ¬ (x1 < 0 ∨ n3 ≤ x1.toNatClampNeg) ∧ (i_C i_MT i_AT L xs 206 [.long x3, .int (f4 x1.toNatClampNeg)] h (fun v h5 => ∃ r6 : Int64, v = some (.long r6) ∧ i_P i_MT i_AT L xs 209 33 [some (.ref x0), some (.int x1), some (.int x2), some (.long x3), none, some (.int s0)] [.long r6, .int (((60 : Int32) * x1) + x2), .ref v1] h5 0 0 Q)))))))) : i_P i_MT i_AT L xs 209 6 [some (.ref x0), some (.int x1), some (.int x2), some (.long x3), none, x5] [.int s0] h 0 0 Q := by
  have hk := i_k209
  refine g_s1 (pc2 := 8) (lo2 := [some (.ref x0), some (.int x1), some (.int x2), some (.long x3), none, some (.int s0)]) hk rfl rfl rfl rfl rfl ?_
  refine g_s1 (pc2 := 10) hk rfl rfl rfl rfl rfl ?_
  refine g_if_ne hk rfl (fun hc => ?_) (fun hc => ?_)
  · have H := H.1 hc
    exact H
  · have H := H.2 hc
    refine g_s1 (pc2 := 14) hk rfl rfl rfl rfl rfl ?_
    obtain ⟨v1, ev1, H⟩ := H
    refine g_step (pc2 := 17) hk rfl rfl rfl (s_get ev1) ?_
    refine g_s1 (pc2 := 19) (st2 := [.int (60 : Int32), .ref v1]) hk rfl rfl rfl rfl rfl ?_
    refine g_s1 (pc2 := 20) hk rfl rfl rfl rfl rfl ?_
    refine g_s1 (pc2 := 21) hk rfl rfl rfl rfl rfl ?_
    refine g_s1 (pc2 := 22) hk rfl rfl rfl rfl rfl ?_
    refine g_s1 (pc2 := 23) hk rfl rfl rfl rfl rfl ?_
    refine g_s1 (pc2 := 24) hk rfl rfl rfl rfl rfl ?_
    refine g_s1 (pc2 := 25) hk rfl rfl rfl rfl rfl ?_
    obtain ⟨v2, ev2, H⟩ := H
    refine g_step (pc2 := 28) hk rfl rfl rfl (s_get ev2) ?_
    refine g_s1 (pc2 := 29) hk rfl rfl rfl rfl rfl ?_
    obtain ⟨n3, f4, ef4, hi, H⟩ := H
    refine g_step (pc2 := 30) hk rfl rfl rfl (s_aget (L := L) (xs := xs) ef4 hi) ?_
    refine g_call hk rfl rfl i_k206.1 ⟨rfl, rfl⟩ rfl (i_rcv_0 rfl) rfl ?_
    exact H.mono (fun v h2 q => by obtain ⟨r, rfl, q⟩ := q; exact q)
theorem b209_33 {x0 : Nat} {x1 : Int32} {x2 : Int32} {x3 : Int64} {x5 : Int32} {s0 : Nat} {s1 : Int32} {s2 : Int64} {h : iH} {Q : Option Value → iH → Prop} (H : (∃ (n1 : Nat) (f2 : Nat → Int64), i_arJ h s0 = some (n1, f2) ∧ ¬ (s1 < 0 ∨ n1 ≤ s1.toNatClampNeg) ∧ i_P i_MT i_AT L xs 209 34 [some (.ref x0), some (.int x1), some (.int x2), some (.long x3), none, some (.int x5)] [] (i_siJ h s0 s1.toNatClampNeg s2) 0 0 Q)) : i_P i_MT i_AT L xs 209 33 [some (.ref x0), some (.int x1), some (.int x2), some (.long x3), none, some (.int x5)] [.long s2, .int s1, .ref s0] h 0 0 Q := by
  have hk := i_k209
  obtain ⟨n1, f2, ef2, hi, H⟩ := H
  refine g_step (pc2 := 34) hk rfl rfl rfl (s_lput ef2 hi) ?_
  exact H
theorem b209_34 {x0 : Nat} {x1 : Int32} {x2 : Int32} {x3 : Int64} {x5 : Int32} {h : iH} {Q : Option Value → iH → Prop} (H : (i_obj? h x0 12 ∧ i_C i_MT i_AT L xs 200 [.ref x0, .int x5] h (fun v h1 => ∃ r2 : Int32, v = some (.int r2) ∧ i_P i_MT i_AT L xs 209 40 [some (.ref x0), some (.int x1), some (.int x2), some (.long x3), none, some (.int x5)] [.int r2] h1 0 0 Q))) : i_P i_MT i_AT L xs 209 34 [some (.ref x0), some (.int x1), some (.int x2), some (.long x3), none, some (.int x5)] [] h 0 0 Q := by
  have hk := i_k209
  refine g_s1 (pc2 := 35) hk rfl rfl rfl rfl rfl ?_
  refine g_s1 (pc2 := 37) hk rfl rfl rfl rfl rfl ?_
  obtain ⟨ho, H⟩ := H
  refine g_call hk rfl rfl i_k200.1 ⟨rfl, rfl⟩ rfl (i_rcv_v ho rfl (by decide)) rfl ?_
  exact H.mono (fun v h2 q => by obtain ⟨r, rfl, q⟩ := q; exact q)
theorem b209_40 {x0 : Nat} {x1 : Int32} {x2 : Int32} {x3 : Int64} {x5 : Int32} {s0 : Int32} {h : iH} {Q : Option Value → iH → Prop} (H : (i_ret (some .boolean) s0 = true ∧ Q (some (.int s0)) h)) : i_P i_MT i_AT L xs 209 40 [some (.ref x0), some (.int x1), some (.int x2), some (.long x3), none, some (.int x5)] [.int s0] h 0 0 Q := by
  have hk := i_k209
  exact g_ireturn hk rfl (by decide) (by decide) H.1 H.2
/-! StillTownModel.read(II)J -/
theorem e210 {x0 : Nat} {x1 : Int32} {x2 : Int32} {h : iH} {Q : Option Value → iH → Prop} (H : i_P i_MT i_AT L xs 210 0 [some (.ref x0), some (.int x1), some (.int x2)] [] h 0 0 Q) : i_C i_MT i_AT L xs 210 [.ref x0, .int x1, .int x2] h Q := ⟨i_m210, i_k210.1, Nat.le_of_ble_eq_true rfl, H⟩
theorem b210_0 {x0 : Nat} {x1 : Int32} {x2 : Int32} {h : iH} {Q : Option Value → iH → Prop} (H : (i_obj? h x0 12 ∧ i_C i_MT i_AT L xs 208 [.ref x0, .int x1, .int x2] h (fun v h1 => ∃ r2 : Int32, v = some (.int r2) ∧ i_P i_MT i_AT L xs 210 7 [some (.ref x0), some (.int x1), some (.int x2)] [.int r2, .ref x0] h1 0 0 Q))) : i_P i_MT i_AT L xs 210 0 [some (.ref x0), some (.int x1), some (.int x2)] [] h 0 0 Q := by
  have hk := i_k210
  refine g_s1 (pc2 := 1) hk rfl rfl rfl rfl rfl ?_
  refine g_s1 (pc2 := 2) hk rfl rfl rfl rfl rfl ?_
  refine g_s1 (pc2 := 3) hk rfl rfl rfl rfl rfl ?_
  refine g_s1 (pc2 := 4) hk rfl rfl rfl rfl rfl ?_
  obtain ⟨ho, H⟩ := H
  refine g_call hk rfl rfl i_k208.1 ⟨rfl, rfl⟩ rfl (i_rcv_v ho rfl (by decide)) rfl ?_
  exact H.mono (fun v h2 q => by obtain ⟨r, rfl, q⟩ := q; exact q)
theorem b210_7 {x0 : Nat} {x1 : Int32} {x2 : Int32} {s0 : Nat} {s1 : Int32} {h : iH} {Q : Option Value → iH → Prop} (H : ((∃ o, i_fld h s0 12 4 = some o) ∧ i_P i_MT i_AT L xs 210 10 [some (.ref x0), some (.int x1), some (.int x2)] [] (i_sf h s0 4 (.int s1)) 0 0 Q)) : i_P i_MT i_AT L xs 210 7 [some (.ref x0), some (.int x1), some (.int x2)] [.int s1, .ref s0] h 0 0 Q := by
  have hk := i_k210
  obtain ⟨⟨o, ho⟩, H⟩ := H
  refine g_step (pc2 := 10) hk rfl rfl rfl (s_put ho rfl) ?_
  exact H
theorem b210_10 {x0 : Nat} {x1 : Int32} {x2 : Int32} {h : iH} {Q : Option Value → iH → Prop} (H : (∃ v1 : Int32, i_fld h x0 12 4 = some (.int v1) ∧ ((v1 ≤ 0 → (∃ v2 : Nat, i_fld h x0 12 9 = some (.ref v2) ∧ (∃ (n3 : Nat) (f4 : Nat → Int64), i_arJ h v2 = some (n3, f4) ∧ ¬ ((((60 : Int32) * x1) + x2) < 0 ∨ n3 ≤ (((60 : Int32) * x1) + x2).toNatClampNeg) ∧ i_P i_MT i_AT L xs 210 34 [some (.ref x0), some (.int x1), some (.int x2)] [.long (f4 (((60 : Int32) * x1) + x2).toNatClampNeg)] h 0 0 Q))) ∧ (¬ (v1 ≤ 0) → i_P i_MT i_AT L xs 210 34 [some (.ref x0), some (.int x1), some (.int x2)] [.long (-1 : Int64)] h 0 0 Q)))) : i_P i_MT i_AT L xs 210 10 [some (.ref x0), some (.int x1), some (.int x2)] [] h 0 0 Q := by
  have hk := i_k210
  refine g_s1 (pc2 := 11) hk rfl rfl rfl rfl rfl ?_
  obtain ⟨v1, ev1, H⟩ := H
  refine g_step (pc2 := 14) hk rfl rfl rfl (s_get ev1) ?_
  refine g_if_le hk rfl (fun hc => ?_) (fun hc => ?_)
  · have H := H.1 hc
    refine g_s1 (pc2 := 24) hk rfl rfl rfl rfl rfl ?_
    obtain ⟨v2, ev2, H⟩ := H
    refine g_step (pc2 := 27) hk rfl rfl rfl (s_get ev2) ?_
    refine g_s1 (pc2 := 29) (st2 := [.int (60 : Int32), .ref v2]) hk rfl rfl rfl rfl rfl ?_
    refine g_s1 (pc2 := 30) hk rfl rfl rfl rfl rfl ?_
    refine g_s1 (pc2 := 31) hk rfl rfl rfl rfl rfl ?_
    refine g_s1 (pc2 := 32) hk rfl rfl rfl rfl rfl ?_
    refine g_s1 (pc2 := 33) hk rfl rfl rfl rfl rfl ?_
    obtain ⟨n3, f4, ef4, hi, H⟩ := H
    refine g_step (pc2 := 34) hk rfl rfl rfl (s_lget ef4 hi) ?_
    exact H
  · have H := H.2 hc
    refine g_step (pc2 := 20) (st2 := [.long (-1 : Int64)]) hk rfl rfl rfl rfl ?_
    refine g_s1 (pc2 := 34) hk rfl rfl rfl rfl rfl ?_
    exact H
theorem b210_34 {x0 : Nat} {x1 : Int32} {x2 : Int32} {s0 : Int64} {h : iH} {Q : Option Value → iH → Prop} (H : Q (some (.long s0)) h) : i_P i_MT i_AT L xs 210 34 [some (.ref x0), some (.int x1), some (.int x2)] [.long s0] h 0 0 Q := by
  have hk := i_k210
  exact g_lreturn hk rfl (by decide) (by decide) rfl H
/-! StillTownModel.pour(IIIII)Z -/
theorem e211 {x0 : Nat} {x1 : Int32} {x2 : Int32} {x3 : Int32} {x4 : Int32} {x5 : Int32} {h : iH} {Q : Option Value → iH → Prop} (H : i_P i_MT i_AT L xs 211 0 [some (.ref x0), some (.int x1), some (.int x2), some (.int x3), some (.int x4), some (.int x5), none, none] [] h 0 0 Q) : i_C i_MT i_AT L xs 211 [.ref x0, .int x1, .int x2, .int x3, .int x4, .int x5] h Q := ⟨i_m211, i_k211.1, Nat.le_of_ble_eq_true rfl, H⟩
theorem b211_0 {x0 : Nat} {x1 : Int32} {x2 : Int32} {x3 : Int32} {x4 : Int32} {x5 : Int32} {x6 : Option Value} {x7 : Option Value} {h : iH} {Q : Option Value → iH → Prop} (H : (i_C i_MT i_AT L xs 205 [.int x1] h (fun v h1 => ∃ r2 : Int32, v = some (.int r2) ∧ i_P i_MT i_AT L xs 211 4 [some (.ref x0), some (.int x1), some (.int x2), some (.int x3), some (.int x4), some (.int x5), x6, x7] [.int r2] h1 0 0 Q))) : i_P i_MT i_AT L xs 211 0 [some (.ref x0), some (.int x1), some (.int x2), some (.int x3), some (.int x4), some (.int x5), x6, x7] [] h 0 0 Q := by
  have hk := i_k211
  refine g_s1 (pc2 := 1) hk rfl rfl rfl rfl rfl ?_
  refine g_call hk rfl rfl i_k205.1 ⟨rfl, rfl⟩ rfl (i_rcv_0 rfl) rfl ?_
  exact H.mono (fun v h2 q => by obtain ⟨r, rfl, q⟩ := q; exact q)
theorem b211_4 {x0 : Nat} {x1 : Int32} {x2 : Int32} {x3 : Int32} {x4 : Int32} {x5 : Int32} {x6 : Option Value} {x7 : Option Value} {s0 : Int32} {h : iH} {Q : Option Value → iH → Prop} (H : ((s0 = 0 → i_P i_MT i_AT L xs 211 28 [some (.ref x0), some (.int x1), some (.int x2), some (.int x3), some (.int x4), some (.int x5), x6, x7] [] h 0 0 Q) ∧ (¬ (s0 = 0) → (i_C i_MT i_AT L xs 205 [.int x3] h (fun v h1 => ∃ r2 : Int32, v = some (.int r2) ∧ i_P i_MT i_AT L xs 211 11 [some (.ref x0), some (.int x1), some (.int x2), some (.int x3), some (.int x4), some (.int x5), x6, x7] [.int r2] h1 0 0 Q))))) : i_P i_MT i_AT L xs 211 4 [some (.ref x0), some (.int x1), some (.int x2), some (.int x3), some (.int x4), some (.int x5), x6, x7] [.int s0] h 0 0 Q := by
  have hk := i_k211
  refine g_if_eq hk rfl (fun hc => ?_) (fun hc => ?_)
  · have H := H.1 hc
    exact H
  · have H := H.2 hc
    refine g_s1 (pc2 := 8) hk rfl rfl rfl rfl rfl ?_
    refine g_call hk rfl rfl i_k205.1 ⟨rfl, rfl⟩ rfl (i_rcv_0 rfl) rfl ?_
    exact H.mono (fun v h2 q => by obtain ⟨r, rfl, q⟩ := q; exact q)
theorem b211_11 {x0 : Nat} {x1 : Int32} {x2 : Int32} {x3 : Int32} {x4 : Int32} {x5 : Int32} {x6 : Option Value} {x7 : Option Value} {s0 : Int32} {h : iH} {Q : Option Value → iH → Prop} (H : ((s0 = 0 → i_P i_MT i_AT L xs 211 28 [some (.ref x0), some (.int x1), some (.int x2), some (.int x3), some (.int x4), some (.int x5), x6, x7] [] h 0 0 Q) ∧ (¬ (s0 = 0) → ((x2 < 0 → i_P i_MT i_AT L xs 211 28 [some (.ref x0), some (.int x1), some (.int x2), some (.int x3), some (.int x4), some (.int x5), x6, x7] [] h 0 0 Q) ∧ (¬ (x2 < 0) → ((x4 < 0 → i_P i_MT i_AT L xs 211 28 [some (.ref x0), some (.int x1), some (.int x2), some (.int x3), some (.int x4), some (.int x5), x6, x7] [] h 0 0 Q) ∧ (¬ (x4 < 0) → ((0 ≤ x5 → (∃ v1 : Nat, i_fld h x0 12 8 = some (.ref v1) ∧ (∃ (n2 : Nat) (f3 : Nat → Int32), i_arI h 0 v1 = some (n2, f3) ∧ ¬ (x1 < 0 ∨ n2 ≤ x1.toNatClampNeg) ∧ (((f3 x1.toNatClampNeg) = (-1 : Int32) → i_P i_MT i_AT L xs 211 54 [some (.ref x0), some (.int x1), some (.int x2), some (.int x3), some (.int x4), some (.int x5), x6, x7] [] h 0 0 Q) ∧ (¬ ((f3 x1.toNatClampNeg) = (-1 : Int32)) → (∃ v4 : Nat, i_fld h x0 12 8 = some (.ref v4) ∧ (∃ (n5 : Nat) (f6 : Nat → Int32), i_arI h 0 v4 = some (n5, f6) ∧ ¬ (x3 < 0 ∨ n5 ≤ x3.toNatClampNeg) ∧ ((¬ (f6 x3.toNatClampNeg) = (-1 : Int32) → (∃ v7 : Nat, i_fld h x0 12 7 = some (.ref v7) ∧ (∃ (n8 : Nat) (f9 : Nat → Int32), i_arI h 0 v7 = some (n8, f9) ∧ ¬ (x1 < 0 ∨ n8 ≤ x1.toNatClampNeg) ∧ (∃ v10 : Nat, i_fld h x0 12 7 = some (.ref v10) ∧ (∃ (n11 : Nat) (f12 : Nat → Int32), i_arI h 0 v10 = some (n11, f12) ∧ ¬ (x3 < 0 ∨ n11 ≤ x3.toNatClampNeg) ∧ (((f9 x1.toNatClampNeg) = (f12 x3.toNatClampNeg) → (∃ v13 : Nat, i_fld h x0 12 8 = some (.ref v13) ∧ (∃ (n14 : Nat) (f15 : Nat → Int32), i_arI h 0 v13 = some (n14, f15) ∧ ¬ (x1 < 0 ∨ n14 ≤ x1.toNatClampNeg) ∧ ((((f15 x1.toNatClampNeg) - x2) < x5 → i_P i_MT i_AT L xs 211 109 [some (.ref x0), some (.int x1), some (.int x2), some (.int x3), some (.int x4), some (.int x5), x6, x7] [] h 0 0 Q) ∧ (¬ (((f15 x1.toNatClampNeg) - x2) < x5) → (∃ v16 : Nat, i_fld h x0 12 8 = some (.ref v16) ∧ (∃ (n17 : Nat) (f18 : Nat → Int32), i_arI h 0 v16 = some (n17, f18) ∧ ¬ (x3 < 0 ∨ n17 ≤ x3.toNatClampNeg) ∧ ((x5 ≤ ((f18 x3.toNatClampNeg) - x4) → i_P i_MT i_AT L xs 211 118 [some (.ref x0), some (.int x1), some (.int x2), some (.int x3), some (.int x4), some (.int x5), some (.int (0 : Int32)), x7] [] h 0 0 Q) ∧ (¬ (x5 ≤ ((f18 x3.toNatClampNeg) - x4)) → i_P i_MT i_AT L xs 211 109 [some (.ref x0), some (.int x1), some (.int x2), some (.int x3), some (.int x4), some (.int x5), x6, x7] [] h 0 0 Q))))))))) ∧ (¬ ((f9 x1.toNatClampNeg) = (f12 x3.toNatClampNeg)) → (i_obj? h x0 12 ∧ i_C i_MT i_AT L xs 200 [.ref x0, .int (8 : Int32)] h (fun v h19 => ∃ r20 : Int32, v = some (.int r20) ∧ i_P i_MT i_AT L xs 211 81 [some (.ref x0), some (.int x1), some (.int x2), some (.int x3), some (.int x4), some (.int x5), x6, x7] [.int r20] h19 0 0 Q))))))))) ∧ (¬ (¬ (f6 x3.toNatClampNeg) = (-1 : Int32)) → i_P i_MT i_AT L xs 211 54 [some (.ref x0), some (.int x1), some (.int x2), some (.int x3), some (.int x4), some (.int x5), x6, x7] [] h 0 0 Q))))))))) ∧ (¬ (0 ≤ x5) → i_P i_MT i_AT L xs 211 28 [some (.ref x0), some (.int x1), some (.int x2), some (.int x3), some (.int x4), some (.int x5), x6, x7] [] h 0 0 Q))))))))) : i_P i_MT i_AT L xs 211 11 [some (.ref x0), some (.int x1), some (.int x2), some (.int x3), some (.int x4), some (.int x5), x6, x7] [.int s0] h 0 0 Q := by
  have hk := i_k211
  refine g_if_eq hk rfl (fun hc => ?_) (fun hc => ?_)
  · have H := H.1 hc
    exact H
  · have H := H.2 hc
    refine g_s1 (pc2 := 15) hk rfl rfl rfl rfl rfl ?_
    refine g_if_lt hk rfl (fun hc => ?_) (fun hc => ?_)
    · have H := H.1 hc
      exact H
    · have H := H.2 hc
      refine g_s1 (pc2 := 20) hk rfl rfl rfl rfl rfl ?_
      refine g_if_lt hk rfl (fun hc => ?_) (fun hc => ?_)
      · have H := H.1 hc
        exact H
      · have H := H.2 hc
        refine g_s1 (pc2 := 25) hk rfl rfl rfl rfl rfl ?_
        refine g_if_ge hk rfl (fun hc => ?_) (fun hc => ?_)
        · have H := H.1 hc
          refine g_s1 (pc2 := 35) hk rfl rfl rfl rfl rfl ?_
          obtain ⟨v1, ev1, H⟩ := H
          refine g_step (pc2 := 38) hk rfl rfl rfl (s_get ev1) ?_
          refine g_s1 (pc2 := 39) hk rfl rfl rfl rfl rfl ?_
          obtain ⟨n2, f3, ef3, hi, H⟩ := H
          refine g_step (pc2 := 40) hk rfl rfl rfl (s_aget (L := L) (xs := xs) ef3 hi) ?_
          refine g_s1 (pc2 := 41) (st2 := [.int (-1 : Int32), .int (f3 x1.toNatClampNeg)]) hk rfl rfl rfl rfl rfl ?_
          refine g_icmp_eq hk rfl (fun hc => ?_) (fun hc => ?_)
          · have H := H.1 hc
            exact H
          · have H := H.2 hc
            refine g_s1 (pc2 := 45) hk rfl rfl rfl rfl rfl ?_
            obtain ⟨v4, ev4, H⟩ := H
            refine g_step (pc2 := 48) hk rfl rfl rfl (s_get ev4) ?_
            refine g_s1 (pc2 := 49) hk rfl rfl rfl rfl rfl ?_
            obtain ⟨n5, f6, ef6, hi, H⟩ := H
            refine g_step (pc2 := 50) hk rfl rfl rfl (s_aget (L := L) (xs := xs) ef6 hi) ?_
            refine g_s1 (pc2 := 51) (st2 := [.int (-1 : Int32), .int (f6 x3.toNatClampNeg)]) hk rfl rfl rfl rfl rfl ?_
            refine g_icmp_ne hk rfl (fun hc => ?_) (fun hc => ?_)
            · have H := H.1 hc
              refine g_s1 (pc2 := 61) hk rfl rfl rfl rfl rfl ?_
              obtain ⟨v7, ev7, H⟩ := H
              refine g_step (pc2 := 64) hk rfl rfl rfl (s_get ev7) ?_
              refine g_s1 (pc2 := 65) hk rfl rfl rfl rfl rfl ?_
              obtain ⟨n8, f9, ef9, hi, H⟩ := H
              refine g_step (pc2 := 66) hk rfl rfl rfl (s_aget (L := L) (xs := xs) ef9 hi) ?_
              refine g_s1 (pc2 := 67) hk rfl rfl rfl rfl rfl ?_
              obtain ⟨v10, ev10, H⟩ := H
              refine g_step (pc2 := 70) hk rfl rfl rfl (s_get ev10) ?_
              refine g_s1 (pc2 := 71) hk rfl rfl rfl rfl rfl ?_
              obtain ⟨n11, f12, ef12, hi, H⟩ := H
              refine g_step (pc2 := 72) hk rfl rfl rfl (s_aget (L := L) (xs := xs) ef12 hi) ?_
              refine g_icmp_eq hk rfl (fun hc => ?_) (fun hc => ?_)
              · have H := H.1 hc
                refine g_s1 (pc2 := 84) hk rfl rfl rfl rfl rfl ?_
                refine g_s1 (pc2 := 85) hk rfl rfl rfl rfl rfl ?_
                obtain ⟨v13, ev13, H⟩ := H
                refine g_step (pc2 := 88) hk rfl rfl rfl (s_get ev13) ?_
                refine g_s1 (pc2 := 89) hk rfl rfl rfl rfl rfl ?_
                obtain ⟨n14, f15, ef15, hi, H⟩ := H
                refine g_step (pc2 := 90) hk rfl rfl rfl (s_aget (L := L) (xs := xs) ef15 hi) ?_
                refine g_s1 (pc2 := 91) hk rfl rfl rfl rfl rfl ?_
                refine g_s1 (pc2 := 92) hk rfl rfl rfl rfl rfl ?_
                refine g_icmp_gt hk rfl (fun hc => ?_) (fun hc => ?_)
                · have H := H.1 hc
                  exact H
                · have H := H.2 hc
                  refine g_s1 (pc2 := 97) hk rfl rfl rfl rfl rfl ?_
                  refine g_s1 (pc2 := 98) hk rfl rfl rfl rfl rfl ?_
                  obtain ⟨v16, ev16, H⟩ := H
                  refine g_step (pc2 := 101) hk rfl rfl rfl (s_get ev16) ?_
                  refine g_s1 (pc2 := 102) hk rfl rfl rfl rfl rfl ?_
                  obtain ⟨n17, f18, ef18, hi, H⟩ := H
                  refine g_step (pc2 := 103) hk rfl rfl rfl (s_aget (L := L) (xs := xs) ef18 hi) ?_
                  refine g_s1 (pc2 := 105) hk rfl rfl rfl rfl rfl ?_
                  refine g_s1 (pc2 := 106) hk rfl rfl rfl rfl rfl ?_
                  refine g_icmp_le hk rfl (fun hc => ?_) (fun hc => ?_)
                  · have H := H.1 hc
                    refine g_s1 (pc2 := 116) (st2 := [.int (0 : Int32)]) hk rfl rfl rfl rfl rfl ?_
                    refine g_s1 (pc2 := 118) (lo2 := [some (.ref x0), some (.int x1), some (.int x2), some (.int x3), some (.int x4), some (.int x5), some (.int (0 : Int32)), x7]) hk rfl rfl rfl rfl rfl ?_
                    exact H
                  · have H := H.2 hc
                    exact H
              · have H := H.2 hc
                refine g_s1 (pc2 := 76) hk rfl rfl rfl rfl rfl ?_
                refine g_s1 (pc2 := 78) (st2 := [.int (8 : Int32), .ref x0]) hk rfl rfl rfl rfl rfl ?_
                obtain ⟨ho, H⟩ := H
                refine g_call hk rfl rfl i_k200.1 ⟨rfl, rfl⟩ rfl (i_rcv_v ho rfl (by decide)) rfl ?_
                exact H.mono (fun v h2 q => by obtain ⟨r, rfl, q⟩ := q; exact q)
            · have H := H.2 hc
              exact H
        · have H := H.2 hc
          exact H
theorem b211_28 {x0 : Nat} {x1 : Int32} {x2 : Int32} {x3 : Int32} {x4 : Int32} {x5 : Int32} {x6 : Option Value} {x7 : Option Value} {h : iH} {Q : Option Value → iH → Prop} (H : (i_obj? h x0 12 ∧ i_C i_MT i_AT L xs 200 [.ref x0, .int (1 : Int32)] h (fun v h1 => ∃ r2 : Int32, v = some (.int r2) ∧ i_P i_MT i_AT L xs 211 33 [some (.ref x0), some (.int x1), some (.int x2), some (.int x3), some (.int x4), some (.int x5), x6, x7] [.int r2] h1 0 0 Q))) : i_P i_MT i_AT L xs 211 28 [some (.ref x0), some (.int x1), some (.int x2), some (.int x3), some (.int x4), some (.int x5), x6, x7] [] h 0 0 Q := by
  have hk := i_k211
  refine g_s1 (pc2 := 29) hk rfl rfl rfl rfl rfl ?_
  refine g_s1 (pc2 := 30) (st2 := [.int (1 : Int32), .ref x0]) hk rfl rfl rfl rfl rfl ?_
  obtain ⟨ho, H⟩ := H
  refine g_call hk rfl rfl i_k200.1 ⟨rfl, rfl⟩ rfl (i_rcv_v ho rfl (by decide)) rfl ?_
  exact H.mono (fun v h2 q => by obtain ⟨r, rfl, q⟩ := q; exact q)
theorem b211_33 {x0 : Nat} {x1 : Int32} {x2 : Int32} {x3 : Int32} {x4 : Int32} {x5 : Int32} {x6 : Option Value} {x7 : Option Value} {s0 : Int32} {h : iH} {Q : Option Value → iH → Prop} (H : (i_ret (some .boolean) s0 = true ∧ Q (some (.int s0)) h)) : i_P i_MT i_AT L xs 211 33 [some (.ref x0), some (.int x1), some (.int x2), some (.int x3), some (.int x4), some (.int x5), x6, x7] [.int s0] h 0 0 Q := by
  have hk := i_k211
  exact g_ireturn hk rfl (by decide) (by decide) H.1 H.2
theorem b211_54 {x0 : Nat} {x1 : Int32} {x2 : Int32} {x3 : Int32} {x4 : Int32} {x5 : Int32} {x6 : Option Value} {x7 : Option Value} {h : iH} {Q : Option Value → iH → Prop} (H : (i_obj? h x0 12 ∧ i_C i_MT i_AT L xs 200 [.ref x0, .int (2 : Int32)] h (fun v h1 => ∃ r2 : Int32, v = some (.int r2) ∧ i_P i_MT i_AT L xs 211 59 [some (.ref x0), some (.int x1), some (.int x2), some (.int x3), some (.int x4), some (.int x5), x6, x7] [.int r2] h1 0 0 Q))) : i_P i_MT i_AT L xs 211 54 [some (.ref x0), some (.int x1), some (.int x2), some (.int x3), some (.int x4), some (.int x5), x6, x7] [] h 0 0 Q := by
  have hk := i_k211
  refine g_s1 (pc2 := 55) hk rfl rfl rfl rfl rfl ?_
  refine g_s1 (pc2 := 56) (st2 := [.int (2 : Int32), .ref x0]) hk rfl rfl rfl rfl rfl ?_
  obtain ⟨ho, H⟩ := H
  refine g_call hk rfl rfl i_k200.1 ⟨rfl, rfl⟩ rfl (i_rcv_v ho rfl (by decide)) rfl ?_
  exact H.mono (fun v h2 q => by obtain ⟨r, rfl, q⟩ := q; exact q)
theorem b211_59 {x0 : Nat} {x1 : Int32} {x2 : Int32} {x3 : Int32} {x4 : Int32} {x5 : Int32} {x6 : Option Value} {x7 : Option Value} {s0 : Int32} {h : iH} {Q : Option Value → iH → Prop} (H : (i_ret (some .boolean) s0 = true ∧ Q (some (.int s0)) h)) : i_P i_MT i_AT L xs 211 59 [some (.ref x0), some (.int x1), some (.int x2), some (.int x3), some (.int x4), some (.int x5), x6, x7] [.int s0] h 0 0 Q := by
  have hk := i_k211
  exact g_ireturn hk rfl (by decide) (by decide) H.1 H.2
theorem b211_81 {x0 : Nat} {x1 : Int32} {x2 : Int32} {x3 : Int32} {x4 : Int32} {x5 : Int32} {x6 : Option Value} {x7 : Option Value} {s0 : Int32} {h : iH} {Q : Option Value → iH → Prop} (H : (i_ret (some .boolean) s0 = true ∧ Q (some (.int s0)) h)) : i_P i_MT i_AT L xs 211 81 [some (.ref x0), some (.int x1), some (.int x2), some (.int x3), some (.int x4), some (.int x5), x6, x7] [.int s0] h 0 0 Q := by
  have hk := i_k211
  exact g_ireturn hk rfl (by decide) (by decide) H.1 H.2
theorem b211_109 {x0 : Nat} {x1 : Int32} {x2 : Int32} {x3 : Int32} {x4 : Int32} {x5 : Int32} {x6 : Option Value} {x7 : Option Value} {h : iH} {Q : Option Value → iH → Prop} (H : (i_obj? h x0 12 ∧ i_C i_MT i_AT L xs 200 [.ref x0, .int (3 : Int32)] h (fun v h1 => ∃ r2 : Int32, v = some (.int r2) ∧ i_P i_MT i_AT L xs 211 114 [some (.ref x0), some (.int x1), some (.int x2), some (.int x3), some (.int x4), some (.int x5), x6, x7] [.int r2] h1 0 0 Q))) : i_P i_MT i_AT L xs 211 109 [some (.ref x0), some (.int x1), some (.int x2), some (.int x3), some (.int x4), some (.int x5), x6, x7] [] h 0 0 Q := by
  have hk := i_k211
  refine g_s1 (pc2 := 110) hk rfl rfl rfl rfl rfl ?_
  refine g_s1 (pc2 := 111) (st2 := [.int (3 : Int32), .ref x0]) hk rfl rfl rfl rfl rfl ?_
  obtain ⟨ho, H⟩ := H
  refine g_call hk rfl rfl i_k200.1 ⟨rfl, rfl⟩ rfl (i_rcv_v ho rfl (by decide)) rfl ?_
  exact H.mono (fun v h2 q => by obtain ⟨r, rfl, q⟩ := q; exact q)
theorem b211_114 {x0 : Nat} {x1 : Int32} {x2 : Int32} {x3 : Int32} {x4 : Int32} {x5 : Int32} {x6 : Option Value} {x7 : Option Value} {s0 : Int32} {h : iH} {Q : Option Value → iH → Prop} (H : (i_ret (some .boolean) s0 = true ∧ Q (some (.int s0)) h)) : i_P i_MT i_AT L xs 211 114 [some (.ref x0), some (.int x1), some (.int x2), some (.int x3), some (.int x4), some (.int x5), x6, x7] [.int s0] h 0 0 Q := by
  have hk := i_k211
  exact g_ireturn hk rfl (by decide) (by decide) H.1 H.2
theorem b211_118 {x0 : Nat} {x1 : Int32} {x2 : Int32} {x3 : Int32} {x4 : Int32} {x5 : Int32} {x6 : Int32} {x7 : Option Value} {h : iH} {Q : Option Value → iH → Prop} (H : ((x5 ≤ x6 → (i_obj? h x0 12 ∧ i_C i_MT i_AT L xs 200 [.ref x0, .int (0 : Int32)] h (fun v h1 => ∃ r2 : Int32, v = some (.int r2) ∧ i_P i_MT i_AT L xs 211 185 [some (.ref x0), some (.int x1), some (.int x2), some (.int x3), some (.int x4), some (.int x5), some (.int x6), x7] [.int r2] h1 0 0 Q))) ∧ (¬ (x5 ≤ x6) → ((x4 ≤ x2 → i_P i_MT i_AT L xs 211 143 [some (.ref x0), some (.int x1), some (.int x2), some (.int x3), some (.int x4), some (.int x5), some (.int x6), x7] [.int x6] h 0 0 Q) ∧ (¬ (x4 ≤ x2) → i_P i_MT i_AT L xs 211 143 [some (.ref x0), some (.int x1), some (.int x2), some (.int x3), some (.int x4), some (.int x5), some (.int x6), x7] [.int ((x5 - (1 : Int32)) - x6)] h 0 0 Q))))) : i_P i_MT i_AT L xs 211 118 [some (.ref x0), some (.int x1), some (.int x2), some (.int x3), some (.int x4), some (.int x5), some (.int x6), x7] [] h 0 0 Q := by
  have hk := i_k211
  refine g_s1 (pc2 := 120) hk rfl rfl rfl rfl rfl ?_
  refine g_s1 (pc2 := 122) hk rfl rfl rfl rfl rfl ?_
  refine g_icmp_ge hk rfl (fun hc => ?_) (fun hc => ?_)
  · have H := H.1 hc
    refine g_s1 (pc2 := 181) hk rfl rfl rfl rfl rfl ?_
    refine g_s1 (pc2 := 182) (st2 := [.int (0 : Int32), .ref x0]) hk rfl rfl rfl rfl rfl ?_
    obtain ⟨ho, H⟩ := H
    refine g_call hk rfl rfl i_k200.1 ⟨rfl, rfl⟩ rfl (i_rcv_v ho rfl (by decide)) rfl ?_
    exact H.mono (fun v h2 q => by obtain ⟨r, rfl, q⟩ := q; exact q)
  · have H := H.2 hc
    refine g_s1 (pc2 := 126) hk rfl rfl rfl rfl rfl ?_
    refine g_s1 (pc2 := 128) hk rfl rfl rfl rfl rfl ?_
    refine g_icmp_ge hk rfl (fun hc => ?_) (fun hc => ?_)
    · have H := H.1 hc
      refine g_s1 (pc2 := 143) hk rfl rfl rfl rfl rfl ?_
      exact H
    · have H := H.2 hc
      refine g_s1 (pc2 := 133) hk rfl rfl rfl rfl rfl ?_
      refine g_s1 (pc2 := 134) (st2 := [.int (1 : Int32), .int x5]) hk rfl rfl rfl rfl rfl ?_
      refine g_s1 (pc2 := 135) hk rfl rfl rfl rfl rfl ?_
      refine g_s1 (pc2 := 137) hk rfl rfl rfl rfl rfl ?_
      refine g_s1 (pc2 := 138) hk rfl rfl rfl rfl rfl ?_
      refine g_s1 (pc2 := 143) hk rfl rfl rfl rfl rfl ?_
      exact H
theorem b211_143 {x0 : Nat} {x1 : Int32} {x2 : Int32} {x3 : Int32} {x4 : Int32} {x5 : Int32} {x6 : Int32} {x7 : Option Value} {s0 : Int32} {h : iH} {Q : Option Value → iH → Prop} (H : (∃ v1 : Nat, i_fld h x0 12 9 = some (.ref v1) ∧ (∃ v2 : Nat, i_fld h x0 12 9 = some (.ref v2) ∧ (∃ (n3 : Nat) (f4 : Nat → Int64), i_arJ h v2 = some (n3, f4) ∧ ¬ (((((60 : Int32) * x1) + x2) + s0) < 0 ∨ n3 ≤ ((((60 : Int32) * x1) + x2) + s0).toNatClampNeg) ∧ (∃ (n5 : Nat) (f6 : Nat → Int64), i_arJ h v1 = some (n5, f6) ∧ ¬ (((((60 : Int32) * x3) + x4) + s0) < 0 ∨ n5 ≤ ((((60 : Int32) * x3) + x4) + s0).toNatClampNeg) ∧ i_P i_MT i_AT L xs 211 174 [some (.ref x0), some (.int x1), some (.int x2), some (.int x3), some (.int x4), some (.int x5), some (.int x6), some (.int s0)] [] (i_siJ h v1 ((((60 : Int32) * x3) + x4) + s0).toNatClampNeg (f4 ((((60 : Int32) * x1) + x2) + s0).toNatClampNeg)) 0 0 Q))))) : i_P i_MT i_AT L xs 211 143 [some (.ref x0), some (.int x1), some (.int x2), some (.int x3), some (.int x4), some (.int x5), some (.int x6), x7] [.int s0] h 0 0 Q := by
  have hk := i_k211
  refine g_s1 (pc2 := 145) (lo2 := [some (.ref x0), some (.int x1), some (.int x2), some (.int x3), some (.int x4), some (.int x5), some (.int x6), some (.int s0)]) hk rfl rfl rfl rfl rfl ?_
  refine g_s1 (pc2 := 146) hk rfl rfl rfl rfl rfl ?_
  obtain ⟨v1, ev1, H⟩ := H
  refine g_step (pc2 := 149) hk rfl rfl rfl (s_get ev1) ?_
  refine g_s1 (pc2 := 151) (st2 := [.int (60 : Int32), .ref v1]) hk rfl rfl rfl rfl rfl ?_
  refine g_s1 (pc2 := 152) hk rfl rfl rfl rfl rfl ?_
  refine g_s1 (pc2 := 153) hk rfl rfl rfl rfl rfl ?_
  refine g_s1 (pc2 := 155) hk rfl rfl rfl rfl rfl ?_
  refine g_s1 (pc2 := 156) hk rfl rfl rfl rfl rfl ?_
  refine g_s1 (pc2 := 158) hk rfl rfl rfl rfl rfl ?_
  refine g_s1 (pc2 := 159) hk rfl rfl rfl rfl rfl ?_
  refine g_s1 (pc2 := 160) hk rfl rfl rfl rfl rfl ?_
  obtain ⟨v2, ev2, H⟩ := H
  refine g_step (pc2 := 163) hk rfl rfl rfl (s_get ev2) ?_
  refine g_s1 (pc2 := 165) (st2 := [.int (60 : Int32), .ref v2, .int ((((60 : Int32) * x3) + x4) + s0), .ref v1]) hk rfl rfl rfl rfl rfl ?_
  refine g_s1 (pc2 := 166) hk rfl rfl rfl rfl rfl ?_
  refine g_s1 (pc2 := 167) hk rfl rfl rfl rfl rfl ?_
  refine g_s1 (pc2 := 168) hk rfl rfl rfl rfl rfl ?_
  refine g_s1 (pc2 := 169) hk rfl rfl rfl rfl rfl ?_
  refine g_s1 (pc2 := 171) hk rfl rfl rfl rfl rfl ?_
  refine g_s1 (pc2 := 172) hk rfl rfl rfl rfl rfl ?_
  obtain ⟨n3, f4, ef4, hi, H⟩ := H
  refine g_step (pc2 := 173) hk rfl rfl rfl (s_lget ef4 hi) ?_
  obtain ⟨n5, f6, ef6, hi, H⟩ := H
  refine g_step (pc2 := 174) hk rfl rfl rfl (s_lput ef6 hi) ?_
  exact H
theorem b211_174 {x0 : Nat} {x1 : Int32} {x2 : Int32} {x3 : Int32} {x4 : Int32} {x5 : Int32} {x6 : Int32} {x7 : Int32} {h : iH} {Q : Option Value → iH → Prop} (H : i_P i_MT i_AT L xs 211 118 [some (.ref x0), some (.int x1), some (.int x2), some (.int x3), some (.int x4), some (.int x5), some (.int (x6 + 1)), some (.int x7)] [] h 0 0 Q) : i_P i_MT i_AT L xs 211 174 [some (.ref x0), some (.int x1), some (.int x2), some (.int x3), some (.int x4), some (.int x5), some (.int x6), some (.int x7)] [] h 0 0 Q := by
  have hk := i_k211
  refine g_s1 (pc2 := 177) (lo2 := [some (.ref x0), some (.int x1), some (.int x2), some (.int x3), some (.int x4), some (.int x5), some (.int (x6 + 1)), some (.int x7)]) hk rfl rfl rfl rfl rfl ?_
  refine g_s1 (pc2 := 118) hk rfl rfl rfl rfl rfl ?_
  exact H
theorem b211_185 {x0 : Nat} {x1 : Int32} {x2 : Int32} {x3 : Int32} {x4 : Int32} {x5 : Int32} {x6 : Int32} {x7 : Option Value} {s0 : Int32} {h : iH} {Q : Option Value → iH → Prop} (H : (i_ret (some .boolean) s0 = true ∧ Q (some (.int s0)) h)) : i_P i_MT i_AT L xs 211 185 [some (.ref x0), some (.int x1), some (.int x2), some (.int x3), some (.int x4), some (.int x5), some (.int x6), x7] [.int s0] h 0 0 Q := by
  have hk := i_k211
  exact g_ireturn hk rfl (by decide) (by decide) H.1 H.2
/-! StillTownModel.isFrom(JJJ)Z -/
theorem e212 {x0 : Int64} {x2 : Int64} {x4 : Int64} {h : iH} {Q : Option Value → iH → Prop} (H : i_P i_MT i_AT L xs 212 0 [some (.long x0), none, some (.long x2), none, some (.long x4), none] [] h 0 0 Q) : i_C i_MT i_AT L xs 212 [.long x0, .long x2, .long x4] h Q := ⟨i_m212, i_k212.1, Nat.le_of_ble_eq_true rfl, H⟩
theorem b212_0 {x0 : Int64} {x2 : Int64} {x4 : Int64} {h : iH} {Q : Option Value → iH → Prop} (H : (((lg_cmp x0 x2) < 0 → i_P i_MT i_AT L xs 212 17 [some (.long x0), none, some (.long x2), none, some (.long x4), none] [] h 0 0 Q) ∧ (¬ ((lg_cmp x0 x2) < 0) → ((0 < (lg_cmp x0 x4) → i_P i_MT i_AT L xs 212 17 [some (.long x0), none, some (.long x2), none, some (.long x4), none] [] h 0 0 Q) ∧ (¬ (0 < (lg_cmp x0 x4)) → i_P i_MT i_AT L xs 212 18 [some (.long x0), none, some (.long x2), none, some (.long x4), none] [.int (1 : Int32)] h 0 0 Q))))) : i_P i_MT i_AT L xs 212 0 [some (.long x0), none, some (.long x2), none, some (.long x4), none] [] h 0 0 Q := by
  have hk := i_k212
  refine g_s1 (pc2 := 1) hk rfl rfl rfl rfl rfl ?_
  refine g_s1 (pc2 := 2) hk rfl rfl rfl rfl rfl ?_
  refine g_s1 (pc2 := 3) hk rfl rfl rfl rfl rfl ?_
  refine g_if_lt hk rfl (fun hc => ?_) (fun hc => ?_)
  · have H := H.1 hc
    exact H
  · have H := H.2 hc
    refine g_s1 (pc2 := 7) hk rfl rfl rfl rfl rfl ?_
    refine g_s1 (pc2 := 9) hk rfl rfl rfl rfl rfl ?_
    refine g_s1 (pc2 := 10) hk rfl rfl rfl rfl rfl ?_
    refine g_if_gt hk rfl (fun hc => ?_) (fun hc => ?_)
    · have H := H.1 hc
      exact H
    · have H := H.2 hc
      refine g_s1 (pc2 := 14) (st2 := [.int (1 : Int32)]) hk rfl rfl rfl rfl rfl ?_
      refine g_s1 (pc2 := 18) hk rfl rfl rfl rfl rfl ?_
      exact H
theorem b212_17 {x0 : Int64} {x2 : Int64} {x4 : Int64} {h : iH} {Q : Option Value → iH → Prop} (H : i_P i_MT i_AT L xs 212 18 [some (.long x0), none, some (.long x2), none, some (.long x4), none] [.int (0 : Int32)] h 0 0 Q) : i_P i_MT i_AT L xs 212 17 [some (.long x0), none, some (.long x2), none, some (.long x4), none] [] h 0 0 Q := by
  have hk := i_k212
  refine g_s1 (pc2 := 18) (st2 := [.int (0 : Int32)]) hk rfl rfl rfl rfl rfl ?_
  exact H
theorem b212_18 {x0 : Int64} {x2 : Int64} {x4 : Int64} {s0 : Int32} {h : iH} {Q : Option Value → iH → Prop} (H : (i_ret (some .boolean) s0 = true ∧ Q (some (.int s0)) h)) : i_P i_MT i_AT L xs 212 18 [some (.long x0), none, some (.long x2), none, some (.long x4), none] [.int s0] h 0 0 Q := by
  have hk := i_k212
  exact g_ireturn hk rfl (by decide) (by decide) H.1 H.2
/-! StillTownModel.feed(IIIII)I -/
theorem e213 {x0 : Nat} {x1 : Int32} {x2 : Int32} {x3 : Int32} {x4 : Int32} {x5 : Int32} {h : iH} {Q : Option Value → iH → Prop} (H : i_P i_MT i_AT L xs 213 0 [some (.ref x0), some (.int x1), some (.int x2), some (.int x3), some (.int x4), some (.int x5)] [] h 0 0 Q) : i_C i_MT i_AT L xs 213 [.ref x0, .int x1, .int x2, .int x3, .int x4, .int x5] h Q := ⟨i_m213, i_k213.1, Nat.le_of_ble_eq_true rfl, H⟩
theorem b213_0 {x0 : Nat} {x1 : Int32} {x2 : Int32} {x3 : Int32} {x4 : Int32} {x5 : Int32} {h : iH} {Q : Option Value → iH → Prop} (H : (∃ v1 : Int32, i_fld h x0 12 12 = some (.int v1) ∧ (((v1 + (20 : Int32)) ≤ (900 : Int32) → (i_obj? h x0 12 ∧ i_C i_MT i_AT L xs 214 [.ref x0, .int x1] h (fun v h2 => v = none ∧ i_P i_MT i_AT L xs 213 20 [some (.ref x0), some (.int x1), some (.int x2), some (.int x3), some (.int x4), some (.int x5)] [] h2 0 0 Q))) ∧ (¬ ((v1 + (20 : Int32)) ≤ (900 : Int32)) → Q (some (.int (-1 : Int32))) h)))) : i_P i_MT i_AT L xs 213 0 [some (.ref x0), some (.int x1), some (.int x2), some (.int x3), some (.int x4), some (.int x5)] [] h 0 0 Q := by
  have hk := i_k213
  refine g_s1 (pc2 := 1) hk rfl rfl rfl rfl rfl ?_
  obtain ⟨v1, ev1, H⟩ := H
  refine g_step (pc2 := 4) hk rfl rfl rfl (s_get ev1) ?_
  refine g_s1 (pc2 := 6) (st2 := [.int (20 : Int32), .int v1]) hk rfl rfl rfl rfl rfl ?_
  refine g_s1 (pc2 := 7) hk rfl rfl rfl rfl rfl ?_
  refine g_s1 (pc2 := 10) (st2 := [.int (900 : Int32), .int (v1 + (20 : Int32))]) hk rfl rfl rfl rfl rfl ?_
  refine g_icmp_le hk rfl (fun hc => ?_) (fun hc => ?_)
  · have H := H.1 hc
    refine g_s1 (pc2 := 16) hk rfl rfl rfl rfl rfl ?_
    refine g_s1 (pc2 := 17) hk rfl rfl rfl rfl rfl ?_
    obtain ⟨ho, H⟩ := H
    refine g_call hk rfl rfl i_k214.1 ⟨rfl, rfl⟩ rfl (i_rcv_v ho rfl (by decide)) rfl ?_
    exact H.mono (fun v h2 q => by obtain ⟨rfl, q⟩ := q; exact q)
  · have H := H.2 hc
    refine g_s1 (pc2 := 14) (st2 := [.int (-1 : Int32)]) hk rfl rfl rfl rfl rfl ?_
    exact g_ireturn hk rfl (by decide) (by decide) rfl H
theorem b213_20 {x0 : Nat} {x1 : Int32} {x2 : Int32} {x3 : Int32} {x4 : Int32} {x5 : Int32} {h : iH} {Q : Option Value → iH → Prop} (H : (i_obj? h x0 12 ∧ i_C i_MT i_AT L xs 214 [.ref x0, .int x2] h (fun v h1 => v = none ∧ i_P i_MT i_AT L xs 213 25 [some (.ref x0), some (.int x1), some (.int x2), some (.int x3), some (.int x4), some (.int x5)] [] h1 0 0 Q))) : i_P i_MT i_AT L xs 213 20 [some (.ref x0), some (.int x1), some (.int x2), some (.int x3), some (.int x4), some (.int x5)] [] h 0 0 Q := by
  have hk := i_k213
  refine g_s1 (pc2 := 21) hk rfl rfl rfl rfl rfl ?_
  refine g_s1 (pc2 := 22) hk rfl rfl rfl rfl rfl ?_
  obtain ⟨ho, H⟩ := H
  refine g_call hk rfl rfl i_k214.1 ⟨rfl, rfl⟩ rfl (i_rcv_v ho rfl (by decide)) rfl ?_
  exact H.mono (fun v h2 q => by obtain ⟨rfl, q⟩ := q; exact q)
theorem b213_25 {x0 : Nat} {x1 : Int32} {x2 : Int32} {x3 : Int32} {x4 : Int32} {x5 : Int32} {h : iH} {Q : Option Value → iH → Prop} (H : (i_obj? h x0 12 ∧ i_C i_MT i_AT L xs 214 [.ref x0, .int x3] h (fun v h1 => v = none ∧ i_P i_MT i_AT L xs 213 30 [some (.ref x0), some (.int x1), some (.int x2), some (.int x3), some (.int x4), some (.int x5)] [] h1 0 0 Q))) : i_P i_MT i_AT L xs 213 25 [some (.ref x0), some (.int x1), some (.int x2), some (.int x3), some (.int x4), some (.int x5)] [] h 0 0 Q := by
  have hk := i_k213
  refine g_s1 (pc2 := 26) hk rfl rfl rfl rfl rfl ?_
  refine g_s1 (pc2 := 27) hk rfl rfl rfl rfl rfl ?_
  obtain ⟨ho, H⟩ := H
  refine g_call hk rfl rfl i_k214.1 ⟨rfl, rfl⟩ rfl (i_rcv_v ho rfl (by decide)) rfl ?_
  exact H.mono (fun v h2 q => by obtain ⟨rfl, q⟩ := q; exact q)
theorem b213_30 {x0 : Nat} {x1 : Int32} {x2 : Int32} {x3 : Int32} {x4 : Int32} {x5 : Int32} {h : iH} {Q : Option Value → iH → Prop} (H : (i_obj? h x0 12 ∧ i_C i_MT i_AT L xs 214 [.ref x0, .int x4] h (fun v h1 => v = none ∧ i_P i_MT i_AT L xs 213 36 [some (.ref x0), some (.int x1), some (.int x2), some (.int x3), some (.int x4), some (.int x5)] [] h1 0 0 Q))) : i_P i_MT i_AT L xs 213 30 [some (.ref x0), some (.int x1), some (.int x2), some (.int x3), some (.int x4), some (.int x5)] [] h 0 0 Q := by
  have hk := i_k213
  refine g_s1 (pc2 := 31) hk rfl rfl rfl rfl rfl ?_
  refine g_s1 (pc2 := 33) hk rfl rfl rfl rfl rfl ?_
  obtain ⟨ho, H⟩ := H
  refine g_call hk rfl rfl i_k214.1 ⟨rfl, rfl⟩ rfl (i_rcv_v ho rfl (by decide)) rfl ?_
  exact H.mono (fun v h2 q => by obtain ⟨rfl, q⟩ := q; exact q)
theorem b213_36 {x0 : Nat} {x1 : Int32} {x2 : Int32} {x3 : Int32} {x4 : Int32} {x5 : Int32} {h : iH} {Q : Option Value → iH → Prop} (H : (i_obj? h x0 12 ∧ i_C i_MT i_AT L xs 214 [.ref x0, .int x5] h (fun v h1 => v = none ∧ i_P i_MT i_AT L xs 213 42 [some (.ref x0), some (.int x1), some (.int x2), some (.int x3), some (.int x4), some (.int x5)] [] h1 0 0 Q))) : i_P i_MT i_AT L xs 213 36 [some (.ref x0), some (.int x1), some (.int x2), some (.int x3), some (.int x4), some (.int x5)] [] h 0 0 Q := by
  have hk := i_k213
  refine g_s1 (pc2 := 37) hk rfl rfl rfl rfl rfl ?_
  refine g_s1 (pc2 := 39) hk rfl rfl rfl rfl rfl ?_
  obtain ⟨ho, H⟩ := H
  refine g_call hk rfl rfl i_k214.1 ⟨rfl, rfl⟩ rfl (i_rcv_v ho rfl (by decide)) rfl ?_
  exact H.mono (fun v h2 q => by obtain ⟨rfl, q⟩ := q; exact q)
theorem b213_42 {x0 : Nat} {x1 : Int32} {x2 : Int32} {x3 : Int32} {x4 : Int32} {x5 : Int32} {h : iH} {Q : Option Value → iH → Prop} (H : (∃ v1 : Int32, i_fld h x0 12 12 = some (.int v1) ∧ Q (some (.int v1)) h)) : i_P i_MT i_AT L xs 213 42 [some (.ref x0), some (.int x1), some (.int x2), some (.int x3), some (.int x4), some (.int x5)] [] h 0 0 Q := by
  have hk := i_k213
  refine g_s1 (pc2 := 43) hk rfl rfl rfl rfl rfl ?_
  obtain ⟨v1, ev1, H⟩ := H
  refine g_step (pc2 := 46) hk rfl rfl rfl (s_get ev1) ?_
  exact g_ireturn hk rfl (by decide) (by decide) rfl H
/-! StillTownModel.four(I)V -/
theorem e214 {x0 : Nat} {x1 : Int32} {h : iH} {Q : Option Value → iH → Prop} (H : i_P i_MT i_AT L xs 214 0 [some (.ref x0), some (.int x1), none] [] h 0 0 Q) : i_C i_MT i_AT L xs 214 [.ref x0, .int x1] h Q := ⟨i_m214, i_k214.1, Nat.le_of_ble_eq_true rfl, H⟩
theorem b214_0 {x0 : Nat} {x1 : Int32} {x2 : Option Value} {h : iH} {Q : Option Value → iH → Prop} (H : i_P i_MT i_AT L xs 214 3 [some (.ref x0), some (.int x1), some (.int (24 : Int32))] [] h 0 0 Q) : i_P i_MT i_AT L xs 214 0 [some (.ref x0), some (.int x1), x2] [] h 0 0 Q := by
  have hk := i_k214
  refine g_s1 (pc2 := 2) (st2 := [.int (24 : Int32)]) hk rfl rfl rfl rfl rfl ?_
  refine g_s1 (pc2 := 3) (lo2 := [some (.ref x0), some (.int x1), some (.int (24 : Int32))]) hk rfl rfl rfl rfl rfl ?_
  exact H
theorem b214_3 {x0 : Nat} {x1 : Int32} {x2 : Int32} {h : iH} {Q : Option Value → iH → Prop} (H : ((x2 < 0 → Q none h) ∧ (¬ (x2 < 0) → (∃ v1 : Nat, i_fld h x0 12 10 = some (.ref v1) ∧ (∃ v2 : Int32, i_fld h x0 12 12 = some (.int v2) ∧ (∃ (n3 : Nat) (f4 : Nat → Int32), i_arI h 3 v1 = some (n3, f4) ∧ ¬ (v2 < 0 ∨ n3 ≤ v2.toNatClampNeg) ∧ i_P i_MT i_AT L xs 214 20 [some (.ref x0), some (.int x1), some (.int x2)] [] (i_siI h v1 v2.toNatClampNeg (vp_nar .byte ((x1 >>> (x2 &&& 31)).toInt8.toInt32))) 0 0 Q)))))) : i_P i_MT i_AT L xs 214 3 [some (.ref x0), some (.int x1), some (.int x2)] [] h 0 0 Q := by
  have hk := i_k214
  refine g_s1 (pc2 := 4) hk rfl rfl rfl rfl rfl ?_
  refine g_if_lt hk rfl (fun hc => ?_) (fun hc => ?_)
  · have H := H.1 hc
    exact g_return hk rfl (by decide) (by decide) rfl H
  · have H := H.2 hc
    refine g_s1 (pc2 := 8) hk rfl rfl rfl rfl rfl ?_
    obtain ⟨v1, ev1, H⟩ := H
    refine g_step (pc2 := 11) hk rfl rfl rfl (s_get ev1) ?_
    refine g_s1 (pc2 := 12) hk rfl rfl rfl rfl rfl ?_
    obtain ⟨v2, ev2, H⟩ := H
    refine g_step (pc2 := 15) hk rfl rfl rfl (s_get ev2) ?_
    refine g_s1 (pc2 := 16) hk rfl rfl rfl rfl rfl ?_
    refine g_s1 (pc2 := 17) hk rfl rfl rfl rfl rfl ?_
    refine g_s1 (pc2 := 18) hk rfl rfl rfl rfl rfl ?_
    refine g_s1 (pc2 := 19) hk rfl rfl rfl rfl rfl ?_
    obtain ⟨n3, f4, ef4, hi, H⟩ := H
    refine g_step (pc2 := 20) hk rfl rfl rfl (s_bput ef4 hi) ?_
    exact H
theorem b214_20 {x0 : Nat} {x1 : Int32} {x2 : Int32} {h : iH} {Q : Option Value → iH → Prop} (H : (∃ v1 : Int32, i_fld h x0 12 12 = some (.int v1) ∧ ((∃ o, i_fld h x0 12 12 = some o) ∧ i_P i_MT i_AT L xs 214 30 [some (.ref x0), some (.int x1), some (.int x2)] [] (i_sf h x0 12 (.int (v1 + (1 : Int32)))) 0 0 Q))) : i_P i_MT i_AT L xs 214 20 [some (.ref x0), some (.int x1), some (.int x2)] [] h 0 0 Q := by
  have hk := i_k214
  refine g_s1 (pc2 := 21) hk rfl rfl rfl rfl rfl ?_
  refine g_s1 (pc2 := 22) hk rfl rfl rfl rfl rfl ?_
  obtain ⟨v1, ev1, H⟩ := H
  refine g_step (pc2 := 25) hk rfl rfl rfl (s_get ev1) ?_
  refine g_s1 (pc2 := 26) (st2 := [.int (1 : Int32), .int v1, .ref x0]) hk rfl rfl rfl rfl rfl ?_
  refine g_s1 (pc2 := 27) hk rfl rfl rfl rfl rfl ?_
  obtain ⟨⟨o, ho⟩, H⟩ := H
  refine g_step (pc2 := 30) hk rfl rfl rfl (s_put ho rfl) ?_
  exact H
theorem b214_30 {x0 : Nat} {x1 : Int32} {x2 : Int32} {h : iH} {Q : Option Value → iH → Prop} (H : i_P i_MT i_AT L xs 214 3 [some (.ref x0), some (.int x1), some (.int (x2 + (-8)))] [] h 0 0 Q) : i_P i_MT i_AT L xs 214 30 [some (.ref x0), some (.int x1), some (.int x2)] [] h 0 0 Q := by
  have hk := i_k214
  refine g_s1 (pc2 := 33) (lo2 := [some (.ref x0), some (.int x1), some (.int (x2 + (-8)))]) hk rfl rfl rfl rfl rfl ?_
  refine g_s1 (pc2 := 3) hk rfl rfl rfl rfl rfl ?_
  exact H
/-! StillTownModel.byteAt(I)I -/
theorem e215 {x0 : Nat} {x1 : Int32} {h : iH} {Q : Option Value → iH → Prop} (H : i_P i_MT i_AT L xs 215 0 [some (.ref x0), some (.int x1)] [] h 0 0 Q) : i_C i_MT i_AT L xs 215 [.ref x0, .int x1] h Q := ⟨i_m215, i_k215.1, Nat.le_of_ble_eq_true rfl, H⟩
theorem b215_0 {x0 : Nat} {x1 : Int32} {h : iH} {Q : Option Value → iH → Prop} (H : (∃ v1 : Int32, i_fld h x0 12 13 = some (.int v1) ∧ ((v1 ≤ x1 → i_P i_MT i_AT L xs 215 22 [some (.ref x0), some (.int x1)] [.int (-1 : Int32)] h 0 0 Q) ∧ (¬ (v1 ≤ x1) → (∃ v2 : Nat, i_fld h x0 12 11 = some (.ref v2) ∧ (∃ (n3 : Nat) (f4 : Nat → Int32), i_arI h 3 v2 = some (n3, f4) ∧ ¬ (x1 < 0 ∨ n3 ≤ x1.toNatClampNeg) ∧ i_P i_MT i_AT L xs 215 22 [some (.ref x0), some (.int x1)] [.int ((f4 x1.toNatClampNeg) &&& (255 : Int32))] h 0 0 Q)))))) : i_P i_MT i_AT L xs 215 0 [some (.ref x0), some (.int x1)] [] h 0 0 Q := by
  have hk := i_k215
  refine g_s1 (pc2 := 1) hk rfl rfl rfl rfl rfl ?_
  refine g_s1 (pc2 := 2) hk rfl rfl rfl rfl rfl ?_
  obtain ⟨v1, ev1, H⟩ := H
  refine g_step (pc2 := 5) hk rfl rfl rfl (s_get ev1) ?_
  refine g_icmp_ge hk rfl (fun hc => ?_) (fun hc => ?_)
  · have H := H.1 hc
    refine g_s1 (pc2 := 22) (st2 := [.int (-1 : Int32)]) hk rfl rfl rfl rfl rfl ?_
    exact H
  · have H := H.2 hc
    refine g_s1 (pc2 := 9) hk rfl rfl rfl rfl rfl ?_
    obtain ⟨v2, ev2, H⟩ := H
    refine g_step (pc2 := 12) hk rfl rfl rfl (s_get ev2) ?_
    refine g_s1 (pc2 := 13) hk rfl rfl rfl rfl rfl ?_
    obtain ⟨n3, f4, ef4, hi, H⟩ := H
    refine g_step (pc2 := 14) hk rfl rfl rfl (s_bget (t := 3) (by decide) ef4 hi) ?_
    refine g_s1 (pc2 := 17) (st2 := [.int (255 : Int32), .int (f4 x1.toNatClampNeg)]) hk rfl rfl rfl rfl rfl ?_
    refine g_s1 (pc2 := 18) hk rfl rfl rfl rfl rfl ?_
    refine g_s1 (pc2 := 22) hk rfl rfl rfl rfl rfl ?_
    exact H
theorem b215_22 {x0 : Nat} {x1 : Int32} {s0 : Int32} {h : iH} {Q : Option Value → iH → Prop} (H : Q (some (.int s0)) h) : i_P i_MT i_AT L xs 215 22 [some (.ref x0), some (.int x1)] [.int s0] h 0 0 Q := by
  have hk := i_k215
  exact g_ireturn hk rfl (by decide) (by decide) rfl H
/-! StillTownModel.isSmall(I)Z -/
theorem e216 {x0 : Int32} {h : iH} {Q : Option Value → iH → Prop} (H : i_P i_MT i_AT L xs 216 0 [some (.int x0)] [] h 0 0 Q) : i_C i_MT i_AT L xs 216 [.int x0] h Q := ⟨i_m216, i_k216.1, Nat.le_of_ble_eq_true rfl, H⟩
theorem b216_0 {x0 : Int32} {h : iH} {Q : Option Value → iH → Prop} (H : ((x0 < (97 : Int32) → i_P i_MT i_AT L xs 216 16 [some (.int x0)] [] h 0 0 Q) ∧ (¬ (x0 < (97 : Int32)) → (((122 : Int32) < x0 → i_P i_MT i_AT L xs 216 16 [some (.int x0)] [] h 0 0 Q) ∧ (¬ ((122 : Int32) < x0) → i_P i_MT i_AT L xs 216 17 [some (.int x0)] [.int (1 : Int32)] h 0 0 Q))))) : i_P i_MT i_AT L xs 216 0 [some (.int x0)] [] h 0 0 Q := by
  have hk := i_k216
  refine g_s1 (pc2 := 1) hk rfl rfl rfl rfl rfl ?_
  refine g_s1 (pc2 := 3) (st2 := [.int (97 : Int32), .int x0]) hk rfl rfl rfl rfl rfl ?_
  refine g_icmp_lt hk rfl (fun hc => ?_) (fun hc => ?_)
  · have H := H.1 hc
    exact H
  · have H := H.2 hc
    refine g_s1 (pc2 := 7) hk rfl rfl rfl rfl rfl ?_
    refine g_s1 (pc2 := 9) (st2 := [.int (122 : Int32), .int x0]) hk rfl rfl rfl rfl rfl ?_
    refine g_icmp_gt hk rfl (fun hc => ?_) (fun hc => ?_)
    · have H := H.1 hc
      exact H
    · have H := H.2 hc
      refine g_s1 (pc2 := 13) (st2 := [.int (1 : Int32)]) hk rfl rfl rfl rfl rfl ?_
      refine g_s1 (pc2 := 17) hk rfl rfl rfl rfl rfl ?_
      exact H
theorem b216_16 {x0 : Int32} {h : iH} {Q : Option Value → iH → Prop} (H : i_P i_MT i_AT L xs 216 17 [some (.int x0)] [.int (0 : Int32)] h 0 0 Q) : i_P i_MT i_AT L xs 216 16 [some (.int x0)] [] h 0 0 Q := by
  have hk := i_k216
  refine g_s1 (pc2 := 17) (st2 := [.int (0 : Int32)]) hk rfl rfl rfl rfl rfl ?_
  exact H
theorem b216_17 {x0 : Int32} {s0 : Int32} {h : iH} {Q : Option Value → iH → Prop} (H : (i_ret (some .boolean) s0 = true ∧ Q (some (.int s0)) h)) : i_P i_MT i_AT L xs 216 17 [some (.int x0)] [.int s0] h 0 0 Q := by
  have hk := i_k216
  exact g_ireturn hk rfl (by decide) (by decide) H.1 H.2
/-! StillTownModel.isDigit(I)Z -/
theorem e217 {x0 : Int32} {h : iH} {Q : Option Value → iH → Prop} (H : i_P i_MT i_AT L xs 217 0 [some (.int x0)] [] h 0 0 Q) : i_C i_MT i_AT L xs 217 [.int x0] h Q := ⟨i_m217, i_k217.1, Nat.le_of_ble_eq_true rfl, H⟩
theorem b217_0 {x0 : Int32} {h : iH} {Q : Option Value → iH → Prop} (H : ((x0 < (48 : Int32) → i_P i_MT i_AT L xs 217 16 [some (.int x0)] [] h 0 0 Q) ∧ (¬ (x0 < (48 : Int32)) → (((57 : Int32) < x0 → i_P i_MT i_AT L xs 217 16 [some (.int x0)] [] h 0 0 Q) ∧ (¬ ((57 : Int32) < x0) → i_P i_MT i_AT L xs 217 17 [some (.int x0)] [.int (1 : Int32)] h 0 0 Q))))) : i_P i_MT i_AT L xs 217 0 [some (.int x0)] [] h 0 0 Q := by
  have hk := i_k217
  refine g_s1 (pc2 := 1) hk rfl rfl rfl rfl rfl ?_
  refine g_s1 (pc2 := 3) (st2 := [.int (48 : Int32), .int x0]) hk rfl rfl rfl rfl rfl ?_
  refine g_icmp_lt hk rfl (fun hc => ?_) (fun hc => ?_)
  · have H := H.1 hc
    exact H
  · have H := H.2 hc
    refine g_s1 (pc2 := 7) hk rfl rfl rfl rfl rfl ?_
    refine g_s1 (pc2 := 9) (st2 := [.int (57 : Int32), .int x0]) hk rfl rfl rfl rfl rfl ?_
    refine g_icmp_gt hk rfl (fun hc => ?_) (fun hc => ?_)
    · have H := H.1 hc
      exact H
    · have H := H.2 hc
      refine g_s1 (pc2 := 13) (st2 := [.int (1 : Int32)]) hk rfl rfl rfl rfl rfl ?_
      refine g_s1 (pc2 := 17) hk rfl rfl rfl rfl rfl ?_
      exact H
theorem b217_16 {x0 : Int32} {h : iH} {Q : Option Value → iH → Prop} (H : i_P i_MT i_AT L xs 217 17 [some (.int x0)] [.int (0 : Int32)] h 0 0 Q) : i_P i_MT i_AT L xs 217 16 [some (.int x0)] [] h 0 0 Q := by
  have hk := i_k217
  refine g_s1 (pc2 := 17) (st2 := [.int (0 : Int32)]) hk rfl rfl rfl rfl rfl ?_
  exact H
theorem b217_17 {x0 : Int32} {s0 : Int32} {h : iH} {Q : Option Value → iH → Prop} (H : (i_ret (some .boolean) s0 = true ∧ Q (some (.int s0)) h)) : i_P i_MT i_AT L xs 217 17 [some (.int x0)] [.int s0] h 0 0 Q := by
  have hk := i_k217
  exact g_ireturn hk rfl (by decide) (by decide) H.1 H.2
/-! StillTownModel.ahead()V -/
theorem e218 {x0 : Nat} {h : iH} {Q : Option Value → iH → Prop} (H : i_P i_MT i_AT L xs 218 0 [some (.ref x0), none] [] h 0 0 Q) : i_C i_MT i_AT L xs 218 [.ref x0] h Q := ⟨i_m218, i_k218.1, Nat.le_of_ble_eq_true rfl, H⟩
theorem b218_0 {x0 : Nat} {x1 : Option Value} {h : iH} {Q : Option Value → iH → Prop} (H : (∃ v1 : Int32, i_fld h x0 12 16 = some (.int v1) ∧ (i_obj? h x0 12 ∧ i_C i_MT i_AT L xs 215 [.ref x0, .int v1] h (fun v h2 => ∃ r3 : Int32, v = some (.int r3) ∧ i_P i_MT i_AT L xs 218 8 [some (.ref x0), x1] [.int r3] h2 0 0 Q)))) : i_P i_MT i_AT L xs 218 0 [some (.ref x0), x1] [] h 0 0 Q := by
  have hk := i_k218
  refine g_s1 (pc2 := 1) hk rfl rfl rfl rfl rfl ?_
  refine g_s1 (pc2 := 2) hk rfl rfl rfl rfl rfl ?_
  obtain ⟨v1, ev1, H⟩ := H
  refine g_step (pc2 := 5) hk rfl rfl rfl (s_get ev1) ?_
  obtain ⟨ho, H⟩ := H
  refine g_call hk rfl rfl i_k215.1 ⟨rfl, rfl⟩ rfl (i_rcv_v ho rfl (by decide)) rfl ?_
  exact H.mono (fun v h2 q => by obtain ⟨r, rfl, q⟩ := q; exact q)
theorem b218_8 {x0 : Nat} {x1 : Option Value} {s0 : Int32} {h : iH} {Q : Option Value → iH → Prop} (H : ((s0 = (32 : Int32) → i_P i_MT i_AT L xs 218 26 [some (.ref x0), x1] [] h 0 0 Q) ∧ (¬ (s0 = (32 : Int32)) → (∃ v1 : Int32, i_fld h x0 12 16 = some (.int v1) ∧ (i_obj? h x0 12 ∧ i_C i_MT i_AT L xs 215 [.ref x0, .int v1] h (fun v h2 => ∃ r3 : Int32, v = some (.int r3) ∧ i_P i_MT i_AT L xs 218 21 [some (.ref x0), x1] [.int r3] h2 0 0 Q)))))) : i_P i_MT i_AT L xs 218 8 [some (.ref x0), x1] [.int s0] h 0 0 Q := by
  have hk := i_k218
  refine g_s1 (pc2 := 10) (st2 := [.int (32 : Int32), .int s0]) hk rfl rfl rfl rfl rfl ?_
  refine g_icmp_eq hk rfl (fun hc => ?_) (fun hc => ?_)
  · have H := H.1 hc
    exact H
  · have H := H.2 hc
    refine g_s1 (pc2 := 14) hk rfl rfl rfl rfl rfl ?_
    refine g_s1 (pc2 := 15) hk rfl rfl rfl rfl rfl ?_
    obtain ⟨v1, ev1, H⟩ := H
    refine g_step (pc2 := 18) hk rfl rfl rfl (s_get ev1) ?_
    obtain ⟨ho, H⟩ := H
    refine g_call hk rfl rfl i_k215.1 ⟨rfl, rfl⟩ rfl (i_rcv_v ho rfl (by decide)) rfl ?_
    exact H.mono (fun v h2 q => by obtain ⟨r, rfl, q⟩ := q; exact q)
theorem b218_21 {x0 : Nat} {x1 : Option Value} {s0 : Int32} {h : iH} {Q : Option Value → iH → Prop} (H : ((¬ s0 = (10 : Int32) → (∃ v1 : Int32, i_fld h x0 12 16 = some (.int v1) ∧ ((∃ o, i_fld h x0 12 15 = some o) ∧ i_P i_MT i_AT L xs 218 47 [some (.ref x0), x1] [] (i_sf h x0 15 (.int v1)) 0 0 Q))) ∧ (¬ (¬ s0 = (10 : Int32)) → i_P i_MT i_AT L xs 218 26 [some (.ref x0), x1] [] h 0 0 Q))) : i_P i_MT i_AT L xs 218 21 [some (.ref x0), x1] [.int s0] h 0 0 Q := by
  have hk := i_k218
  refine g_s1 (pc2 := 23) (st2 := [.int (10 : Int32), .int s0]) hk rfl rfl rfl rfl rfl ?_
  refine g_icmp_ne hk rfl (fun hc => ?_) (fun hc => ?_)
  · have H := H.1 hc
    refine g_s1 (pc2 := 40) hk rfl rfl rfl rfl rfl ?_
    refine g_s1 (pc2 := 41) hk rfl rfl rfl rfl rfl ?_
    obtain ⟨v1, ev1, H⟩ := H
    refine g_step (pc2 := 44) hk rfl rfl rfl (s_get ev1) ?_
    obtain ⟨⟨o, ho⟩, H⟩ := H
    refine g_step (pc2 := 47) hk rfl rfl rfl (s_put ho rfl) ?_
    exact H
  · have H := H.2 hc
    exact H
theorem b218_26 {x0 : Nat} {x1 : Option Value} {h : iH} {Q : Option Value → iH → Prop} (H : (∃ v1 : Int32, i_fld h x0 12 16 = some (.int v1) ∧ ((∃ o, i_fld h x0 12 16 = some o) ∧ i_P i_MT i_AT L xs 218 36 [some (.ref x0), x1] [] (i_sf h x0 16 (.int (v1 + (1 : Int32)))) 0 0 Q))) : i_P i_MT i_AT L xs 218 26 [some (.ref x0), x1] [] h 0 0 Q := by
  have hk := i_k218
  refine g_s1 (pc2 := 27) hk rfl rfl rfl rfl rfl ?_
  refine g_s1 (pc2 := 28) hk rfl rfl rfl rfl rfl ?_
  obtain ⟨v1, ev1, H⟩ := H
  refine g_step (pc2 := 31) hk rfl rfl rfl (s_get ev1) ?_
  refine g_s1 (pc2 := 32) (st2 := [.int (1 : Int32), .int v1, .ref x0]) hk rfl rfl rfl rfl rfl ?_
  refine g_s1 (pc2 := 33) hk rfl rfl rfl rfl rfl ?_
  obtain ⟨⟨o, ho⟩, H⟩ := H
  refine g_step (pc2 := 36) hk rfl rfl rfl (s_put ho rfl) ?_
  exact H
theorem b218_36 {x0 : Nat} {x1 : Option Value} {h : iH} {Q : Option Value → iH → Prop} (H : i_P i_MT i_AT L xs 218 0 [some (.ref x0), x1] [] h 0 0 Q) : i_P i_MT i_AT L xs 218 36 [some (.ref x0), x1] [] h 0 0 Q := by
  have hk := i_k218
  refine g_s1 (pc2 := 0) hk rfl rfl rfl rfl rfl ?_
  exact H
theorem b218_47 {x0 : Nat} {x1 : Option Value} {h : iH} {Q : Option Value → iH → Prop} (H : (∃ v1 : Int32, i_fld h x0 12 16 = some (.int v1) ∧ (i_obj? h x0 12 ∧ i_C i_MT i_AT L xs 215 [.ref x0, .int v1] h (fun v h2 => ∃ r3 : Int32, v = some (.int r3) ∧ i_P i_MT i_AT L xs 218 55 [some (.ref x0), x1] [.int r3] h2 0 0 Q)))) : i_P i_MT i_AT L xs 218 47 [some (.ref x0), x1] [] h 0 0 Q := by
  have hk := i_k218
  refine g_s1 (pc2 := 48) hk rfl rfl rfl rfl rfl ?_
  refine g_s1 (pc2 := 49) hk rfl rfl rfl rfl rfl ?_
  obtain ⟨v1, ev1, H⟩ := H
  refine g_step (pc2 := 52) hk rfl rfl rfl (s_get ev1) ?_
  obtain ⟨ho, H⟩ := H
  refine g_call hk rfl rfl i_k215.1 ⟨rfl, rfl⟩ rfl (i_rcv_v ho rfl (by decide)) rfl ?_
  exact H.mono (fun v h2 q => by obtain ⟨r, rfl, q⟩ := q; exact q)
theorem b218_55 {x0 : Nat} {x1 : Option Value} {s0 : Int32} {h : iH} {Q : Option Value → iH → Prop} (H : ((∃ o, i_fld h x0 12 17 = some o) ∧ i_P i_MT i_AT L xs 218 61 [some (.ref x0), some (.int s0)] [] (i_sf h x0 17 (.int s0)) 0 0 Q)) : i_P i_MT i_AT L xs 218 55 [some (.ref x0), x1] [.int s0] h 0 0 Q := by
  have hk := i_k218
  refine g_s1 (pc2 := 56) (lo2 := [some (.ref x0), some (.int s0)]) hk rfl rfl rfl rfl rfl ?_
  refine g_s1 (pc2 := 57) hk rfl rfl rfl rfl rfl ?_
  refine g_s1 (pc2 := 58) hk rfl rfl rfl rfl rfl ?_
  obtain ⟨⟨o, ho⟩, H⟩ := H
  refine g_step (pc2 := 61) hk rfl rfl rfl (s_put ho rfl) ?_
  exact H
theorem b218_61 {x0 : Nat} {x1 : Int32} {h : iH} {Q : Option Value → iH → Prop} (H : ((¬ x1 = (-1 : Int32) → (i_C i_MT i_AT L xs 216 [.int x1] h (fun v h1 => ∃ r2 : Int32, v = some (.int r2) ∧ i_P i_MT i_AT L xs 218 78 [some (.ref x0), some (.int x1)] [.int r2] h1 0 0 Q))) ∧ (¬ (¬ x1 = (-1 : Int32)) → ((∃ o, i_fld h x0 12 14 = some o) ∧ i_P i_MT i_AT L xs 218 71 [some (.ref x0), some (.int x1)] [] (i_sf h x0 14 (.int (0 : Int32))) 0 0 Q)))) : i_P i_MT i_AT L xs 218 61 [some (.ref x0), some (.int x1)] [] h 0 0 Q := by
  have hk := i_k218
  refine g_s1 (pc2 := 62) hk rfl rfl rfl rfl rfl ?_
  refine g_s1 (pc2 := 63) (st2 := [.int (-1 : Int32), .int x1]) hk rfl rfl rfl rfl rfl ?_
  refine g_icmp_ne hk rfl (fun hc => ?_) (fun hc => ?_)
  · have H := H.1 hc
    refine g_s1 (pc2 := 75) hk rfl rfl rfl rfl rfl ?_
    refine g_call hk rfl rfl i_k216.1 ⟨rfl, rfl⟩ rfl (i_rcv_0 rfl) rfl ?_
    exact H.mono (fun v h2 q => by obtain ⟨r, rfl, q⟩ := q; exact q)
  · have H := H.2 hc
    refine g_s1 (pc2 := 67) hk rfl rfl rfl rfl rfl ?_
    refine g_s1 (pc2 := 68) (st2 := [.int (0 : Int32), .ref x0]) hk rfl rfl rfl rfl rfl ?_
    obtain ⟨⟨o, ho⟩, H⟩ := H
    refine g_step (pc2 := 71) hk rfl rfl rfl (s_put ho rfl) ?_
    exact H
theorem b218_71 {x0 : Nat} {x1 : Int32} {h : iH} {Q : Option Value → iH → Prop} (H : i_P i_MT i_AT L xs 218 233 [some (.ref x0), some (.int x1)] [] h 0 0 Q) : i_P i_MT i_AT L xs 218 71 [some (.ref x0), some (.int x1)] [] h 0 0 Q := by
  have hk := i_k218
  refine g_s1 (pc2 := 233) hk rfl rfl rfl rfl rfl ?_
  exact H
theorem b218_78 {x0 : Nat} {x1 : Int32} {s0 : Int32} {h : iH} {Q : Option Value → iH → Prop} (H : ((s0 = 0 → (i_C i_MT i_AT L xs 217 [.int x1] h (fun v h1 => ∃ r2 : Int32, v = some (.int r2) ∧ i_P i_MT i_AT L xs 218 120 [some (.ref x0), some (.int x1)] [.int r2] h1 0 0 Q))) ∧ (¬ (s0 = 0) → i_P i_MT i_AT L xs 218 81 [some (.ref x0), some (.int x1)] [] h 0 0 Q))) : i_P i_MT i_AT L xs 218 78 [some (.ref x0), some (.int x1)] [.int s0] h 0 0 Q := by
  have hk := i_k218
  refine g_if_eq hk rfl (fun hc => ?_) (fun hc => ?_)
  · have H := H.1 hc
    refine g_s1 (pc2 := 117) hk rfl rfl rfl rfl rfl ?_
    refine g_call hk rfl rfl i_k217.1 ⟨rfl, rfl⟩ rfl (i_rcv_0 rfl) rfl ?_
    exact H.mono (fun v h2 q => by obtain ⟨r, rfl, q⟩ := q; exact q)
  · have H := H.2 hc
    exact H
theorem b218_81 {x0 : Nat} {x1 : Int32} {h : iH} {Q : Option Value → iH → Prop} (H : (∃ v1 : Int32, i_fld h x0 12 16 = some (.int v1) ∧ (i_obj? h x0 12 ∧ i_C i_MT i_AT L xs 215 [.ref x0, .int v1] h (fun v h2 => ∃ r3 : Int32, v = some (.int r3) ∧ i_P i_MT i_AT L xs 218 89 [some (.ref x0), some (.int x1)] [.int r3] h2 0 0 Q)))) : i_P i_MT i_AT L xs 218 81 [some (.ref x0), some (.int x1)] [] h 0 0 Q := by
  have hk := i_k218
  refine g_s1 (pc2 := 82) hk rfl rfl rfl rfl rfl ?_
  refine g_s1 (pc2 := 83) hk rfl rfl rfl rfl rfl ?_
  obtain ⟨v1, ev1, H⟩ := H
  refine g_step (pc2 := 86) hk rfl rfl rfl (s_get ev1) ?_
  obtain ⟨ho, H⟩ := H
  refine g_call hk rfl rfl i_k215.1 ⟨rfl, rfl⟩ rfl (i_rcv_v ho rfl (by decide)) rfl ?_
  exact H.mono (fun v h2 q => by obtain ⟨r, rfl, q⟩ := q; exact q)
theorem b218_89 {x0 : Nat} {x1 : Int32} {s0 : Int32} {h : iH} {Q : Option Value → iH → Prop} (H : (i_C i_MT i_AT L xs 216 [.int s0] h (fun v h1 => ∃ r2 : Int32, v = some (.int r2) ∧ i_P i_MT i_AT L xs 218 92 [some (.ref x0), some (.int x1)] [.int r2] h1 0 0 Q))) : i_P i_MT i_AT L xs 218 89 [some (.ref x0), some (.int x1)] [.int s0] h 0 0 Q := by
  have hk := i_k218
  refine g_call hk rfl rfl i_k216.1 ⟨rfl, rfl⟩ rfl (i_rcv_0 rfl) rfl ?_
  exact H.mono (fun v h2 q => by obtain ⟨r, rfl, q⟩ := q; exact q)
theorem b218_92 {x0 : Nat} {x1 : Int32} {s0 : Int32} {h : iH} {Q : Option Value → iH → Prop} (H : ((s0 = 0 → ((∃ o, i_fld h x0 12 14 = some o) ∧ i_P i_MT i_AT L xs 218 113 [some (.ref x0), some (.int x1)] [] (i_sf h x0 14 (.int (2 : Int32))) 0 0 Q)) ∧ (¬ (s0 = 0) → (∃ v1 : Int32, i_fld h x0 12 16 = some (.int v1) ∧ ((∃ o, i_fld h x0 12 16 = some o) ∧ i_P i_MT i_AT L xs 218 105 [some (.ref x0), some (.int x1)] [] (i_sf h x0 16 (.int (v1 + (1 : Int32)))) 0 0 Q))))) : i_P i_MT i_AT L xs 218 92 [some (.ref x0), some (.int x1)] [.int s0] h 0 0 Q := by
  have hk := i_k218
  refine g_if_eq hk rfl (fun hc => ?_) (fun hc => ?_)
  · have H := H.1 hc
    refine g_s1 (pc2 := 109) hk rfl rfl rfl rfl rfl ?_
    refine g_s1 (pc2 := 110) (st2 := [.int (2 : Int32), .ref x0]) hk rfl rfl rfl rfl rfl ?_
    obtain ⟨⟨o, ho⟩, H⟩ := H
    refine g_step (pc2 := 113) hk rfl rfl rfl (s_put ho rfl) ?_
    exact H
  · have H := H.2 hc
    refine g_s1 (pc2 := 96) hk rfl rfl rfl rfl rfl ?_
    refine g_s1 (pc2 := 97) hk rfl rfl rfl rfl rfl ?_
    obtain ⟨v1, ev1, H⟩ := H
    refine g_step (pc2 := 100) hk rfl rfl rfl (s_get ev1) ?_
    refine g_s1 (pc2 := 101) (st2 := [.int (1 : Int32), .int v1, .ref x0]) hk rfl rfl rfl rfl rfl ?_
    refine g_s1 (pc2 := 102) hk rfl rfl rfl rfl rfl ?_
    obtain ⟨⟨o, ho⟩, H⟩ := H
    refine g_step (pc2 := 105) hk rfl rfl rfl (s_put ho rfl) ?_
    exact H
theorem b218_105 {x0 : Nat} {x1 : Int32} {h : iH} {Q : Option Value → iH → Prop} (H : i_P i_MT i_AT L xs 218 81 [some (.ref x0), some (.int x1)] [] h 0 0 Q) : i_P i_MT i_AT L xs 218 105 [some (.ref x0), some (.int x1)] [] h 0 0 Q := by
  have hk := i_k218
  refine g_s1 (pc2 := 81) hk rfl rfl rfl rfl rfl ?_
  exact H
theorem b218_113 {x0 : Nat} {x1 : Int32} {h : iH} {Q : Option Value → iH → Prop} (H : i_P i_MT i_AT L xs 218 233 [some (.ref x0), some (.int x1)] [] h 0 0 Q) : i_P i_MT i_AT L xs 218 113 [some (.ref x0), some (.int x1)] [] h 0 0 Q := by
  have hk := i_k218
  refine g_s1 (pc2 := 233) hk rfl rfl rfl rfl rfl ?_
  exact H
theorem b218_120 {x0 : Nat} {x1 : Int32} {s0 : Int32} {h : iH} {Q : Option Value → iH → Prop} (H : ((s0 = 0 → (∃ v1 : Int32, i_fld h x0 12 16 = some (.int v1) ∧ ((∃ o, i_fld h x0 12 16 = some o) ∧ i_P i_MT i_AT L xs 218 218 [some (.ref x0), some (.int x1)] [] (i_sf h x0 16 (.int (v1 + (1 : Int32)))) 0 0 Q))) ∧ (¬ (s0 = 0) → ((∃ o, i_fld h x0 12 17 = some o) ∧ i_P i_MT i_AT L xs 218 128 [some (.ref x0), some (.int x1)] [] (i_sf h x0 17 (.int (0 : Int32))) 0 0 Q)))) : i_P i_MT i_AT L xs 218 120 [some (.ref x0), some (.int x1)] [.int s0] h 0 0 Q := by
  have hk := i_k218
  refine g_if_eq hk rfl (fun hc => ?_) (fun hc => ?_)
  · have H := H.1 hc
    refine g_s1 (pc2 := 209) hk rfl rfl rfl rfl rfl ?_
    refine g_s1 (pc2 := 210) hk rfl rfl rfl rfl rfl ?_
    obtain ⟨v1, ev1, H⟩ := H
    refine g_step (pc2 := 213) hk rfl rfl rfl (s_get ev1) ?_
    refine g_s1 (pc2 := 214) (st2 := [.int (1 : Int32), .int v1, .ref x0]) hk rfl rfl rfl rfl rfl ?_
    refine g_s1 (pc2 := 215) hk rfl rfl rfl rfl rfl ?_
    obtain ⟨⟨o, ho⟩, H⟩ := H
    refine g_step (pc2 := 218) hk rfl rfl rfl (s_put ho rfl) ?_
    exact H
  · have H := H.2 hc
    refine g_s1 (pc2 := 124) hk rfl rfl rfl rfl rfl ?_
    refine g_s1 (pc2 := 125) (st2 := [.int (0 : Int32), .ref x0]) hk rfl rfl rfl rfl rfl ?_
    obtain ⟨⟨o, ho⟩, H⟩ := H
    refine g_step (pc2 := 128) hk rfl rfl rfl (s_put ho rfl) ?_
    exact H
theorem b218_128 {x0 : Nat} {x1 : Int32} {h : iH} {Q : Option Value → iH → Prop} (H : (∃ v1 : Int32, i_fld h x0 12 16 = some (.int v1) ∧ (i_obj? h x0 12 ∧ i_C i_MT i_AT L xs 215 [.ref x0, .int v1] h (fun v h2 => ∃ r3 : Int32, v = some (.int r3) ∧ i_P i_MT i_AT L xs 218 136 [some (.ref x0), some (.int x1)] [.int r3] h2 0 0 Q)))) : i_P i_MT i_AT L xs 218 128 [some (.ref x0), some (.int x1)] [] h 0 0 Q := by
  have hk := i_k218
  refine g_s1 (pc2 := 129) hk rfl rfl rfl rfl rfl ?_
  refine g_s1 (pc2 := 130) hk rfl rfl rfl rfl rfl ?_
  obtain ⟨v1, ev1, H⟩ := H
  refine g_step (pc2 := 133) hk rfl rfl rfl (s_get ev1) ?_
  obtain ⟨ho, H⟩ := H
  refine g_call hk rfl rfl i_k215.1 ⟨rfl, rfl⟩ rfl (i_rcv_v ho rfl (by decide)) rfl ?_
  exact H.mono (fun v h2 q => by obtain ⟨r, rfl, q⟩ := q; exact q)
theorem b218_136 {x0 : Nat} {x1 : Int32} {s0 : Int32} {h : iH} {Q : Option Value → iH → Prop} (H : (i_C i_MT i_AT L xs 217 [.int s0] h (fun v h1 => ∃ r2 : Int32, v = some (.int r2) ∧ i_P i_MT i_AT L xs 218 139 [some (.ref x0), some (.int x1)] [.int r2] h1 0 0 Q))) : i_P i_MT i_AT L xs 218 136 [some (.ref x0), some (.int x1)] [.int s0] h 0 0 Q := by
  have hk := i_k218
  refine g_call hk rfl rfl i_k217.1 ⟨rfl, rfl⟩ rfl (i_rcv_0 rfl) rfl ?_
  exact H.mono (fun v h2 q => by obtain ⟨r, rfl, q⟩ := q; exact q)
theorem b218_139 {x0 : Nat} {x1 : Int32} {s0 : Int32} {h : iH} {Q : Option Value → iH → Prop} (H : ((s0 = 0 → (∃ v1 : Int32, i_fld h x0 12 16 = some (.int v1) ∧ (∃ v2 : Int32, i_fld h x0 12 15 = some (.int v2) ∧ (((v1 - v2) ≤ (4 : Int32) → i_P i_MT i_AT L xs 218 202 [some (.ref x0), some (.int x1)] [.int (3 : Int32), .ref x0] h 0 0 Q) ∧ (¬ ((v1 - v2) ≤ (4 : Int32)) → i_P i_MT i_AT L xs 218 202 [some (.ref x0), some (.int x1)] [.int (1 : Int32), .ref x0] h 0 0 Q))))) ∧ (¬ (s0 = 0) → (∃ v3 : Int32, i_fld h x0 12 17 = some (.int v3) ∧ (∃ v4 : Int32, i_fld h x0 12 16 = some (.int v4) ∧ (i_obj? h x0 12 ∧ i_C i_MT i_AT L xs 215 [.ref x0, .int v4] h (fun v h5 => ∃ r6 : Int32, v = some (.int r6) ∧ i_P i_MT i_AT L xs 218 160 [some (.ref x0), some (.int x1)] [.int r6, .int ((10 : Int32) * v3), .int (100000 : Int32), .ref x0] h5 0 0 Q))))))) : i_P i_MT i_AT L xs 218 139 [some (.ref x0), some (.int x1)] [.int s0] h 0 0 Q := by
  have hk := i_k218
  refine g_if_eq hk rfl (fun hc => ?_) (fun hc => ?_)
  · have H := H.1 hc
    refine g_s1 (pc2 := 184) hk rfl rfl rfl rfl rfl ?_
    refine g_s1 (pc2 := 185) hk rfl rfl rfl rfl rfl ?_
    obtain ⟨v1, ev1, H⟩ := H
    refine g_step (pc2 := 188) hk rfl rfl rfl (s_get ev1) ?_
    refine g_s1 (pc2 := 189) hk rfl rfl rfl rfl rfl ?_
    obtain ⟨v2, ev2, H⟩ := H
    refine g_step (pc2 := 192) hk rfl rfl rfl (s_get ev2) ?_
    refine g_s1 (pc2 := 193) hk rfl rfl rfl rfl rfl ?_
    refine g_s1 (pc2 := 194) (st2 := [.int (4 : Int32), .int (v1 - v2), .ref x0]) hk rfl rfl rfl rfl rfl ?_
    refine g_icmp_le hk rfl (fun hc => ?_) (fun hc => ?_)
    · have H := H.1 hc
      refine g_s1 (pc2 := 202) (st2 := [.int (3 : Int32), .ref x0]) hk rfl rfl rfl rfl rfl ?_
      exact H
    · have H := H.2 hc
      refine g_s1 (pc2 := 198) (st2 := [.int (1 : Int32), .ref x0]) hk rfl rfl rfl rfl rfl ?_
      refine g_s1 (pc2 := 202) hk rfl rfl rfl rfl rfl ?_
      exact H
  · have H := H.2 hc
    refine g_s1 (pc2 := 143) hk rfl rfl rfl rfl rfl ?_
    refine g_step (pc2 := 145) (st2 := [.int (100000 : Int32), .ref x0]) hk rfl rfl rfl rfl ?_
    refine g_s1 (pc2 := 147) (st2 := [.int (10 : Int32), .int (100000 : Int32), .ref x0]) hk rfl rfl rfl rfl rfl ?_
    refine g_s1 (pc2 := 148) hk rfl rfl rfl rfl rfl ?_
    obtain ⟨v3, ev3, H⟩ := H
    refine g_step (pc2 := 151) hk rfl rfl rfl (s_get ev3) ?_
    refine g_s1 (pc2 := 152) hk rfl rfl rfl rfl rfl ?_
    refine g_s1 (pc2 := 153) hk rfl rfl rfl rfl rfl ?_
    refine g_s1 (pc2 := 154) hk rfl rfl rfl rfl rfl ?_
    obtain ⟨v4, ev4, H⟩ := H
    refine g_step (pc2 := 157) hk rfl rfl rfl (s_get ev4) ?_
    obtain ⟨ho, H⟩ := H
    refine g_call hk rfl rfl i_k215.1 ⟨rfl, rfl⟩ rfl (i_rcv_v ho rfl (by decide)) rfl ?_
    exact H.mono (fun v h2 q => by obtain ⟨r, rfl, q⟩ := q; exact q)
theorem b218_160 {x0 : Nat} {x1 : Int32} {s0 : Nat} {s1 : Int32} {s2 : Int32} {s3 : Int32} {h : iH} {Q : Option Value → iH → Prop} (H : (i_C i_MT i_AT L xs 337 [.int s1, .int ((s2 + s3) - (48 : Int32))] h (fun v h1 => ∃ r2 : Int32, v = some (.int r2) ∧ i_P i_MT i_AT L xs 218 167 [some (.ref x0), some (.int x1)] [.int r2, .ref s0] h1 0 0 Q))) : i_P i_MT i_AT L xs 218 160 [some (.ref x0), some (.int x1)] [.int s3, .int s2, .int s1, .ref s0] h 0 0 Q := by
  have hk := i_k218
  refine g_s1 (pc2 := 161) hk rfl rfl rfl rfl rfl ?_
  refine g_s1 (pc2 := 163) (st2 := [.int (48 : Int32), .int (s2 + s3), .int s1, .ref s0]) hk rfl rfl rfl rfl rfl ?_
  refine g_s1 (pc2 := 164) hk rfl rfl rfl rfl rfl ?_
  refine g_call hk rfl rfl i_k337.1 ⟨rfl, rfl⟩ rfl (i_rcv_0 rfl) rfl ?_
  exact H.mono (fun v h2 q => by obtain ⟨r, rfl, q⟩ := q; exact q)
theorem b218_167 {x0 : Nat} {x1 : Int32} {s0 : Nat} {s1 : Int32} {h : iH} {Q : Option Value → iH → Prop} (H : ((∃ o, i_fld h s0 12 17 = some o) ∧ i_P i_MT i_AT L xs 218 170 [some (.ref x0), some (.int x1)] [] (i_sf h s0 17 (.int s1)) 0 0 Q)) : i_P i_MT i_AT L xs 218 167 [some (.ref x0), some (.int x1)] [.int s1, .ref s0] h 0 0 Q := by
  have hk := i_k218
  obtain ⟨⟨o, ho⟩, H⟩ := H
  refine g_step (pc2 := 170) hk rfl rfl rfl (s_put ho rfl) ?_
  exact H
theorem b218_170 {x0 : Nat} {x1 : Int32} {h : iH} {Q : Option Value → iH → Prop} (H : (∃ v1 : Int32, i_fld h x0 12 16 = some (.int v1) ∧ ((∃ o, i_fld h x0 12 16 = some o) ∧ i_P i_MT i_AT L xs 218 180 [some (.ref x0), some (.int x1)] [] (i_sf h x0 16 (.int (v1 + (1 : Int32)))) 0 0 Q))) : i_P i_MT i_AT L xs 218 170 [some (.ref x0), some (.int x1)] [] h 0 0 Q := by
  have hk := i_k218
  refine g_s1 (pc2 := 171) hk rfl rfl rfl rfl rfl ?_
  refine g_s1 (pc2 := 172) hk rfl rfl rfl rfl rfl ?_
  obtain ⟨v1, ev1, H⟩ := H
  refine g_step (pc2 := 175) hk rfl rfl rfl (s_get ev1) ?_
  refine g_s1 (pc2 := 176) (st2 := [.int (1 : Int32), .int v1, .ref x0]) hk rfl rfl rfl rfl rfl ?_
  refine g_s1 (pc2 := 177) hk rfl rfl rfl rfl rfl ?_
  obtain ⟨⟨o, ho⟩, H⟩ := H
  refine g_step (pc2 := 180) hk rfl rfl rfl (s_put ho rfl) ?_
  exact H
theorem b218_180 {x0 : Nat} {x1 : Int32} {h : iH} {Q : Option Value → iH → Prop} (H : i_P i_MT i_AT L xs 218 128 [some (.ref x0), some (.int x1)] [] h 0 0 Q) : i_P i_MT i_AT L xs 218 180 [some (.ref x0), some (.int x1)] [] h 0 0 Q := by
  have hk := i_k218
  refine g_s1 (pc2 := 128) hk rfl rfl rfl rfl rfl ?_
  exact H
theorem b218_202 {x0 : Nat} {x1 : Int32} {s0 : Nat} {s1 : Int32} {h : iH} {Q : Option Value → iH → Prop} (H : ((∃ o, i_fld h s0 12 14 = some o) ∧ i_P i_MT i_AT L xs 218 205 [some (.ref x0), some (.int x1)] [] (i_sf h s0 14 (.int s1)) 0 0 Q)) : i_P i_MT i_AT L xs 218 202 [some (.ref x0), some (.int x1)] [.int s1, .ref s0] h 0 0 Q := by
  have hk := i_k218
  obtain ⟨⟨o, ho⟩, H⟩ := H
  refine g_step (pc2 := 205) hk rfl rfl rfl (s_put ho rfl) ?_
  exact H
theorem b218_205 {x0 : Nat} {x1 : Int32} {h : iH} {Q : Option Value → iH → Prop} (H : i_P i_MT i_AT L xs 218 233 [some (.ref x0), some (.int x1)] [] h 0 0 Q) : i_P i_MT i_AT L xs 218 205 [some (.ref x0), some (.int x1)] [] h 0 0 Q := by
  have hk := i_k218
  refine g_s1 (pc2 := 233) hk rfl rfl rfl rfl rfl ?_
  exact H
theorem b218_218 {x0 : Nat} {x1 : Int32} {h : iH} {Q : Option Value → iH → Prop} (H : ((¬ x1 = (59 : Int32) → i_P i_MT i_AT L xs 218 230 [some (.ref x0), some (.int x1)] [.int (1 : Int32), .ref x0] h 0 0 Q) ∧ (¬ (¬ x1 = (59 : Int32)) → i_P i_MT i_AT L xs 218 230 [some (.ref x0), some (.int x1)] [.int (4 : Int32), .ref x0] h 0 0 Q))) : i_P i_MT i_AT L xs 218 218 [some (.ref x0), some (.int x1)] [] h 0 0 Q := by
  have hk := i_k218
  refine g_s1 (pc2 := 219) hk rfl rfl rfl rfl rfl ?_
  refine g_s1 (pc2 := 220) hk rfl rfl rfl rfl rfl ?_
  refine g_s1 (pc2 := 222) (st2 := [.int (59 : Int32), .int x1, .ref x0]) hk rfl rfl rfl rfl rfl ?_
  refine g_icmp_ne hk rfl (fun hc => ?_) (fun hc => ?_)
  · have H := H.1 hc
    refine g_s1 (pc2 := 230) (st2 := [.int (1 : Int32), .ref x0]) hk rfl rfl rfl rfl rfl ?_
    exact H
  · have H := H.2 hc
    refine g_s1 (pc2 := 226) (st2 := [.int (4 : Int32), .ref x0]) hk rfl rfl rfl rfl rfl ?_
    refine g_s1 (pc2 := 230) hk rfl rfl rfl rfl rfl ?_
    exact H
theorem b218_230 {x0 : Nat} {x1 : Int32} {s0 : Nat} {s1 : Int32} {h : iH} {Q : Option Value → iH → Prop} (H : ((∃ o, i_fld h s0 12 14 = some o) ∧ i_P i_MT i_AT L xs 218 233 [some (.ref x0), some (.int x1)] [] (i_sf h s0 14 (.int s1)) 0 0 Q)) : i_P i_MT i_AT L xs 218 230 [some (.ref x0), some (.int x1)] [.int s1, .ref s0] h 0 0 Q := by
  have hk := i_k218
  obtain ⟨⟨o, ho⟩, H⟩ := H
  refine g_step (pc2 := 233) hk rfl rfl rfl (s_put ho rfl) ?_
  exact H
theorem b218_233 {x0 : Nat} {x1 : Int32} {h : iH} {Q : Option Value → iH → Prop} (H : Q none h) : i_P i_MT i_AT L xs 218 233 [some (.ref x0), some (.int x1)] [] h 0 0 Q := by
  have hk := i_k218
  exact g_return hk rfl (by decide) (by decide) rfl H
/-! StillTownModel.isSign(I)Z -/
theorem e219 {x0 : Nat} {x1 : Int32} {h : iH} {Q : Option Value → iH → Prop} (H : i_P i_MT i_AT L xs 219 0 [some (.ref x0), some (.int x1)] [] h 0 0 Q) : i_C i_MT i_AT L xs 219 [.ref x0, .int x1] h Q := ⟨i_m219, i_k219.1, Nat.le_of_ble_eq_true rfl, H⟩
theorem b219_0 {x0 : Nat} {x1 : Int32} {h : iH} {Q : Option Value → iH → Prop} (H : (∃ v1 : Int32, i_fld h x0 12 14 = some (.int v1) ∧ ((¬ v1 = (4 : Int32) → i_P i_MT i_AT L xs 219 20 [some (.ref x0), some (.int x1)] [] h 0 0 Q) ∧ (¬ (¬ v1 = (4 : Int32)) → (∃ v2 : Int32, i_fld h x0 12 17 = some (.int v2) ∧ ((¬ v2 = x1 → i_P i_MT i_AT L xs 219 20 [some (.ref x0), some (.int x1)] [] h 0 0 Q) ∧ (¬ (¬ v2 = x1) → i_P i_MT i_AT L xs 219 21 [some (.ref x0), some (.int x1)] [.int (1 : Int32)] h 0 0 Q))))))) : i_P i_MT i_AT L xs 219 0 [some (.ref x0), some (.int x1)] [] h 0 0 Q := by
  have hk := i_k219
  refine g_s1 (pc2 := 1) hk rfl rfl rfl rfl rfl ?_
  obtain ⟨v1, ev1, H⟩ := H
  refine g_step (pc2 := 4) hk rfl rfl rfl (s_get ev1) ?_
  refine g_s1 (pc2 := 5) (st2 := [.int (4 : Int32), .int v1]) hk rfl rfl rfl rfl rfl ?_
  refine g_icmp_ne hk rfl (fun hc => ?_) (fun hc => ?_)
  · have H := H.1 hc
    exact H
  · have H := H.2 hc
    refine g_s1 (pc2 := 9) hk rfl rfl rfl rfl rfl ?_
    obtain ⟨v2, ev2, H⟩ := H
    refine g_step (pc2 := 12) hk rfl rfl rfl (s_get ev2) ?_
    refine g_s1 (pc2 := 13) hk rfl rfl rfl rfl rfl ?_
    refine g_icmp_ne hk rfl (fun hc => ?_) (fun hc => ?_)
    · have H := H.1 hc
      exact H
    · have H := H.2 hc
      refine g_s1 (pc2 := 17) (st2 := [.int (1 : Int32)]) hk rfl rfl rfl rfl rfl ?_
      refine g_s1 (pc2 := 21) hk rfl rfl rfl rfl rfl ?_
      exact H
theorem b219_20 {x0 : Nat} {x1 : Int32} {h : iH} {Q : Option Value → iH → Prop} (H : i_P i_MT i_AT L xs 219 21 [some (.ref x0), some (.int x1)] [.int (0 : Int32)] h 0 0 Q) : i_P i_MT i_AT L xs 219 20 [some (.ref x0), some (.int x1)] [] h 0 0 Q := by
  have hk := i_k219
  refine g_s1 (pc2 := 21) (st2 := [.int (0 : Int32)]) hk rfl rfl rfl rfl rfl ?_
  exact H
theorem b219_21 {x0 : Nat} {x1 : Int32} {s0 : Int32} {h : iH} {Q : Option Value → iH → Prop} (H : (i_ret (some .boolean) s0 = true ∧ Q (some (.int s0)) h)) : i_P i_MT i_AT L xs 219 21 [some (.ref x0), some (.int x1)] [.int s0] h 0 0 Q := by
  have hk := i_k219
  exact g_ireturn hk rfl (by decide) (by decide) H.1 H.2
/-! StillTownModel.inWords(Ljava/lang/String;)I -/
theorem e220 {x0 : Nat} {x1 : Nat} {h : iH} {Q : Option Value → iH → Prop} (H : i_P i_MT i_AT L xs 220 0 [some (.ref x0), some (.retAddr x1), none, none, none, none, none] [] h 0 0 Q) : i_C i_MT i_AT L xs 220 [.ref x0, .retAddr x1] h Q := ⟨i_m220, i_k220.1, Nat.le_of_ble_eq_true rfl, H⟩
theorem b220_0 {x0 : Nat} {x1 : Nat} {x2 : Option Value} {x3 : Option Value} {x4 : Option Value} {x5 : Option Value} {x6 : Option Value} {h : iH} {Q : Option Value → iH → Prop} (H : (∃ v1 : Int32, i_fld h x0 12 14 = some (.int v1) ∧ ((v1 = (2 : Int32) → i_P i_MT i_AT L xs 220 14 [some (.ref x0), some (.retAddr x1), some (.int (0 : Int32)), some (.int (1 : Int32)), x4, x5, x6] [] h 0 0 Q) ∧ (¬ (v1 = (2 : Int32)) → Q (some (.int (-1 : Int32))) h)))) : i_P i_MT i_AT L xs 220 0 [some (.ref x0), some (.retAddr x1), x2, x3, x4, x5, x6] [] h 0 0 Q := by
  have hk := i_k220
  refine g_s1 (pc2 := 1) hk rfl rfl rfl rfl rfl ?_
  obtain ⟨v1, ev1, H⟩ := H
  refine g_step (pc2 := 4) hk rfl rfl rfl (s_get ev1) ?_
  refine g_s1 (pc2 := 5) (st2 := [.int (2 : Int32), .int v1]) hk rfl rfl rfl rfl rfl ?_
  refine g_icmp_eq hk rfl (fun hc => ?_) (fun hc => ?_)
  · have H := H.1 hc
    refine g_s1 (pc2 := 11) (st2 := [.int (0 : Int32)]) hk rfl rfl rfl rfl rfl ?_
    refine g_s1 (pc2 := 12) (lo2 := [some (.ref x0), some (.retAddr x1), some (.int (0 : Int32)), x3, x4, x5, x6]) hk rfl rfl rfl rfl rfl ?_
    refine g_s1 (pc2 := 13) (st2 := [.int (1 : Int32)]) hk rfl rfl rfl rfl rfl ?_
    refine g_s1 (pc2 := 14) (lo2 := [some (.ref x0), some (.retAddr x1), some (.int (0 : Int32)), some (.int (1 : Int32)), x4, x5, x6]) hk rfl rfl rfl rfl rfl ?_
    exact H
  · have H := H.2 hc
    refine g_s1 (pc2 := 9) (st2 := [.int (-1 : Int32)]) hk rfl rfl rfl rfl rfl ?_
    exact g_ireturn hk rfl (by decide) (by decide) rfl H
theorem b220_14 {x0 : Nat} {x1 : Nat} {x2 : Int32} {x3 : Int32} {x4 : Option Value} {x5 : Option Value} {x6 : Option Value} {h : iH} {Q : Option Value → iH → Prop} (H : ((i_oR x1).isSome = true ∧ i_C i_MT i_AT L xs 338 [.retAddr x1] h (fun v h1 => ∃ r2 : Int32, v = some (.int r2) ∧ i_P i_MT i_AT L xs 220 19 [some (.ref x0), some (.retAddr x1), some (.int x2), some (.int x3), x4, x5, x6] [.int r2, .int x3] h1 0 0 Q))) : i_P i_MT i_AT L xs 220 14 [some (.ref x0), some (.retAddr x1), some (.int x2), some (.int x3), x4, x5, x6] [] h 0 0 Q := by
  have hk := i_k220
  refine g_s1 (pc2 := 15) hk rfl rfl rfl rfl rfl ?_
  refine g_s1 (pc2 := 16) hk rfl rfl rfl rfl rfl ?_
  obtain ⟨ho, H⟩ := H
  refine g_call hk rfl rfl i_k338.1 ⟨rfl, rfl⟩ rfl (i_rcv_x ho rfl rfl) rfl ?_
  exact H.mono (fun v h2 q => by obtain ⟨r, rfl, q⟩ := q; exact q)
theorem b220_19 {x0 : Nat} {x1 : Nat} {x2 : Int32} {x3 : Int32} {x4 : Option Value} {x5 : Option Value} {x6 : Option Value} {s0 : Int32} {s1 : Int32} {h : iH} {Q : Option Value → iH → Prop} (H : ((s1 ≤ s0 → Q (some (.int (-1 : Int32))) h) ∧ (¬ (s1 ≤ s0) → i_P i_MT i_AT L xs 220 25 [some (.ref x0), some (.retAddr x1), some (.int x2), some (.int x3), some (.int x3), x5, x6] [] h 0 0 Q))) : i_P i_MT i_AT L xs 220 19 [some (.ref x0), some (.retAddr x1), some (.int x2), some (.int x3), x4, x5, x6] [.int s1, .int s0] h 0 0 Q := by
  have hk := i_k220
  refine g_icmp_ge hk rfl (fun hc => ?_) (fun hc => ?_)
  · have H := H.1 hc
    refine g_s1 (pc2 := 134) (st2 := [.int (-1 : Int32)]) hk rfl rfl rfl rfl rfl ?_
    exact g_ireturn hk rfl (by decide) (by decide) rfl H
  · have H := H.2 hc
    refine g_s1 (pc2 := 23) hk rfl rfl rfl rfl rfl ?_
    refine g_s1 (pc2 := 25) (lo2 := [some (.ref x0), some (.retAddr x1), some (.int x2), some (.int x3), some (.int x3), x5, x6]) hk rfl rfl rfl rfl rfl ?_
    exact H
theorem b220_25 {x0 : Nat} {x1 : Nat} {x2 : Int32} {x3 : Int32} {x4 : Int32} {x5 : Option Value} {x6 : Option Value} {h : iH} {Q : Option Value → iH → Prop} (H : ((i_oR x1).isSome = true ∧ i_C i_MT i_AT L xs 339 [.retAddr x1, .int x4] h (fun v h1 => ∃ r2 : Int32, v = some (.int r2) ∧ i_P i_MT i_AT L xs 220 31 [some (.ref x0), some (.retAddr x1), some (.int x2), some (.int x3), some (.int x4), x5, x6] [.int r2] h1 0 0 Q))) : i_P i_MT i_AT L xs 220 25 [some (.ref x0), some (.retAddr x1), some (.int x2), some (.int x3), some (.int x4), x5, x6] [] h 0 0 Q := by
  have hk := i_k220
  refine g_s1 (pc2 := 26) hk rfl rfl rfl rfl rfl ?_
  refine g_s1 (pc2 := 28) hk rfl rfl rfl rfl rfl ?_
  obtain ⟨ho, H⟩ := H
  refine g_call hk rfl rfl i_k339.1 ⟨rfl, rfl⟩ rfl (i_rcv_x ho rfl rfl) rfl ?_
  exact H.mono (fun v h2 q => by obtain ⟨r, rfl, q⟩ := q; exact q)
theorem b220_31 {x0 : Nat} {x1 : Nat} {x2 : Int32} {x3 : Int32} {x4 : Int32} {x5 : Option Value} {x6 : Option Value} {s0 : Int32} {h : iH} {Q : Option Value → iH → Prop} (H : ((s0 = (32 : Int32) → (∃ v1 : Int32, i_fld h x0 12 16 = some (.int v1) ∧ (∃ v2 : Int32, i_fld h x0 12 15 = some (.int v2) ∧ ((¬ (x4 - x3) = (v1 - v2) → i_P i_MT i_AT L xs 220 63 [some (.ref x0), some (.retAddr x1), some (.int x2), some (.int x3), some (.int x4), x5, x6] [.int (0 : Int32)] h 0 0 Q) ∧ (¬ (¬ (x4 - x3) = (v1 - v2)) → i_P i_MT i_AT L xs 220 63 [some (.ref x0), some (.retAddr x1), some (.int x2), some (.int x3), some (.int x4), x5, x6] [.int (1 : Int32)] h 0 0 Q))))) ∧ (¬ (s0 = (32 : Int32)) → i_P i_MT i_AT L xs 220 25 [some (.ref x0), some (.retAddr x1), some (.int x2), some (.int x3), some (.int (x4 + 1)), x5, x6] [] h 0 0 Q))) : i_P i_MT i_AT L xs 220 31 [some (.ref x0), some (.retAddr x1), some (.int x2), some (.int x3), some (.int x4), x5, x6] [.int s0] h 0 0 Q := by
  have hk := i_k220
  refine g_s1 (pc2 := 33) (st2 := [.int (32 : Int32), .int s0]) hk rfl rfl rfl rfl rfl ?_
  refine g_icmp_eq hk rfl (fun hc => ?_) (fun hc => ?_)
  · have H := H.1 hc
    refine g_s1 (pc2 := 44) hk rfl rfl rfl rfl rfl ?_
    refine g_s1 (pc2 := 45) hk rfl rfl rfl rfl rfl ?_
    refine g_s1 (pc2 := 46) hk rfl rfl rfl rfl rfl ?_
    refine g_s1 (pc2 := 47) hk rfl rfl rfl rfl rfl ?_
    obtain ⟨v1, ev1, H⟩ := H
    refine g_step (pc2 := 50) hk rfl rfl rfl (s_get ev1) ?_
    refine g_s1 (pc2 := 51) hk rfl rfl rfl rfl rfl ?_
    obtain ⟨v2, ev2, H⟩ := H
    refine g_step (pc2 := 54) hk rfl rfl rfl (s_get ev2) ?_
    refine g_s1 (pc2 := 55) hk rfl rfl rfl rfl rfl ?_
    refine g_icmp_ne hk rfl (fun hc => ?_) (fun hc => ?_)
    · have H := H.1 hc
      refine g_s1 (pc2 := 63) (st2 := [.int (0 : Int32)]) hk rfl rfl rfl rfl rfl ?_
      exact H
    · have H := H.2 hc
      refine g_s1 (pc2 := 59) (st2 := [.int (1 : Int32)]) hk rfl rfl rfl rfl rfl ?_
      refine g_s1 (pc2 := 63) hk rfl rfl rfl rfl rfl ?_
      exact H
  · have H := H.2 hc
    refine g_s1 (pc2 := 39) (lo2 := [some (.ref x0), some (.retAddr x1), some (.int x2), some (.int x3), some (.int (x4 + 1)), x5, x6]) hk rfl rfl rfl rfl rfl ?_
    refine g_s1 (pc2 := 25) hk rfl rfl rfl rfl rfl ?_
    exact H
theorem b220_63 {x0 : Nat} {x1 : Nat} {x2 : Int32} {x3 : Int32} {x4 : Int32} {x5 : Option Value} {x6 : Option Value} {s0 : Int32} {h : iH} {Q : Option Value → iH → Prop} (H : i_P i_MT i_AT L xs 220 68 [some (.ref x0), some (.retAddr x1), some (.int x2), some (.int x3), some (.int x4), some (.int s0), some (.int x3)] [] h 0 0 Q) : i_P i_MT i_AT L xs 220 63 [some (.ref x0), some (.retAddr x1), some (.int x2), some (.int x3), some (.int x4), x5, x6] [.int s0] h 0 0 Q := by
  have hk := i_k220
  refine g_s1 (pc2 := 65) (lo2 := [some (.ref x0), some (.retAddr x1), some (.int x2), some (.int x3), some (.int x4), some (.int s0), x6]) hk rfl rfl rfl rfl rfl ?_
  refine g_s1 (pc2 := 66) hk rfl rfl rfl rfl rfl ?_
  refine g_s1 (pc2 := 68) (lo2 := [some (.ref x0), some (.retAddr x1), some (.int x2), some (.int x3), some (.int x4), some (.int s0), some (.int x3)]) hk rfl rfl rfl rfl rfl ?_
  exact H
theorem b220_68 {x0 : Nat} {x1 : Nat} {x2 : Int32} {x3 : Int32} {x4 : Int32} {x5 : Int32} {x6 : Int32} {h : iH} {Q : Option Value → iH → Prop} (H : ((x4 ≤ x6 → i_P i_MT i_AT L xs 220 115 [some (.ref x0), some (.retAddr x1), some (.int x2), some (.int x3), some (.int x4), some (.int x5), some (.int x6)] [] h 0 0 Q) ∧ (¬ (x4 ≤ x6) → ((x5 = 0 → i_P i_MT i_AT L xs 220 115 [some (.ref x0), some (.retAddr x1), some (.int x2), some (.int x3), some (.int x4), some (.int x5), some (.int x6)] [] h 0 0 Q) ∧ (¬ (x5 = 0) → ((i_oR x1).isSome = true ∧ i_C i_MT i_AT L xs 339 [.retAddr x1, .int x6] h (fun v h1 => ∃ r2 : Int32, v = some (.int r2) ∧ i_P i_MT i_AT L xs 220 86 [some (.ref x0), some (.retAddr x1), some (.int x2), some (.int x3), some (.int x4), some (.int x5), some (.int x6)] [.int r2] h1 0 0 Q))))))) : i_P i_MT i_AT L xs 220 68 [some (.ref x0), some (.retAddr x1), some (.int x2), some (.int x3), some (.int x4), some (.int x5), some (.int x6)] [] h 0 0 Q := by
  have hk := i_k220
  refine g_s1 (pc2 := 70) hk rfl rfl rfl rfl rfl ?_
  refine g_s1 (pc2 := 72) hk rfl rfl rfl rfl rfl ?_
  refine g_icmp_ge hk rfl (fun hc => ?_) (fun hc => ?_)
  · have H := H.1 hc
    exact H
  · have H := H.2 hc
    refine g_s1 (pc2 := 77) hk rfl rfl rfl rfl rfl ?_
    refine g_if_eq hk rfl (fun hc => ?_) (fun hc => ?_)
    · have H := H.1 hc
      exact H
    · have H := H.2 hc
      refine g_s1 (pc2 := 81) hk rfl rfl rfl rfl rfl ?_
      refine g_s1 (pc2 := 83) hk rfl rfl rfl rfl rfl ?_
      obtain ⟨ho, H⟩ := H
      refine g_call hk rfl rfl i_k339.1 ⟨rfl, rfl⟩ rfl (i_rcv_x ho rfl rfl) rfl ?_
      exact H.mono (fun v h2 q => by obtain ⟨r, rfl, q⟩ := q; exact q)
theorem b220_86 {x0 : Nat} {x1 : Nat} {x2 : Int32} {x3 : Int32} {x4 : Int32} {x5 : Int32} {x6 : Int32} {s0 : Int32} {h : iH} {Q : Option Value → iH → Prop} (H : (∃ v1 : Int32, i_fld h x0 12 15 = some (.int v1) ∧ (i_obj? h x0 12 ∧ i_C i_MT i_AT L xs 215 [.ref x0, .int ((v1 + x6) - x3)] h (fun v h2 => ∃ r3 : Int32, v = some (.int r3) ∧ i_P i_MT i_AT L xs 220 99 [some (.ref x0), some (.retAddr x1), some (.int x2), some (.int x3), some (.int x4), some (.int x5), some (.int x6)] [.int r3, .int s0] h2 0 0 Q)))) : i_P i_MT i_AT L xs 220 86 [some (.ref x0), some (.retAddr x1), some (.int x2), some (.int x3), some (.int x4), some (.int x5), some (.int x6)] [.int s0] h 0 0 Q := by
  have hk := i_k220
  refine g_s1 (pc2 := 87) hk rfl rfl rfl rfl rfl ?_
  refine g_s1 (pc2 := 88) hk rfl rfl rfl rfl rfl ?_
  obtain ⟨v1, ev1, H⟩ := H
  refine g_step (pc2 := 91) hk rfl rfl rfl (s_get ev1) ?_
  refine g_s1 (pc2 := 93) hk rfl rfl rfl rfl rfl ?_
  refine g_s1 (pc2 := 94) hk rfl rfl rfl rfl rfl ?_
  refine g_s1 (pc2 := 95) hk rfl rfl rfl rfl rfl ?_
  refine g_s1 (pc2 := 96) hk rfl rfl rfl rfl rfl ?_
  obtain ⟨ho, H⟩ := H
  refine g_call hk rfl rfl i_k215.1 ⟨rfl, rfl⟩ rfl (i_rcv_v ho rfl (by decide)) rfl ?_
  exact H.mono (fun v h2 q => by obtain ⟨r, rfl, q⟩ := q; exact q)
theorem b220_99 {x0 : Nat} {x1 : Nat} {x2 : Int32} {x3 : Int32} {x4 : Int32} {x5 : Int32} {x6 : Int32} {s0 : Int32} {s1 : Int32} {h : iH} {Q : Option Value → iH → Prop} (H : ((¬ s0 = s1 → i_P i_MT i_AT L xs 220 107 [some (.ref x0), some (.retAddr x1), some (.int x2), some (.int x3), some (.int x4), some (.int x5), some (.int x6)] [.int (0 : Int32)] h 0 0 Q) ∧ (¬ (¬ s0 = s1) → i_P i_MT i_AT L xs 220 107 [some (.ref x0), some (.retAddr x1), some (.int x2), some (.int x3), some (.int x4), some (.int x5), some (.int x6)] [.int (1 : Int32)] h 0 0 Q))) : i_P i_MT i_AT L xs 220 99 [some (.ref x0), some (.retAddr x1), some (.int x2), some (.int x3), some (.int x4), some (.int x5), some (.int x6)] [.int s1, .int s0] h 0 0 Q := by
  have hk := i_k220
  refine g_icmp_ne hk rfl (fun hc => ?_) (fun hc => ?_)
  · have H := H.1 hc
    refine g_s1 (pc2 := 107) (st2 := [.int (0 : Int32)]) hk rfl rfl rfl rfl rfl ?_
    exact H
  · have H := H.2 hc
    refine g_s1 (pc2 := 103) (st2 := [.int (1 : Int32)]) hk rfl rfl rfl rfl rfl ?_
    refine g_s1 (pc2 := 107) hk rfl rfl rfl rfl rfl ?_
    exact H
theorem b220_107 {x0 : Nat} {x1 : Nat} {x2 : Int32} {x3 : Int32} {x4 : Int32} {x5 : Int32} {x6 : Int32} {s0 : Int32} {h : iH} {Q : Option Value → iH → Prop} (H : i_P i_MT i_AT L xs 220 68 [some (.ref x0), some (.retAddr x1), some (.int x2), some (.int x3), some (.int x4), some (.int s0), some (.int (x6 + 1))] [] h 0 0 Q) : i_P i_MT i_AT L xs 220 107 [some (.ref x0), some (.retAddr x1), some (.int x2), some (.int x3), some (.int x4), some (.int x5), some (.int x6)] [.int s0] h 0 0 Q := by
  have hk := i_k220
  refine g_s1 (pc2 := 109) (lo2 := [some (.ref x0), some (.retAddr x1), some (.int x2), some (.int x3), some (.int x4), some (.int s0), some (.int x6)]) hk rfl rfl rfl rfl rfl ?_
  refine g_s1 (pc2 := 112) (lo2 := [some (.ref x0), some (.retAddr x1), some (.int x2), some (.int x3), some (.int x4), some (.int s0), some (.int (x6 + 1))]) hk rfl rfl rfl rfl rfl ?_
  refine g_s1 (pc2 := 68) hk rfl rfl rfl rfl rfl ?_
  exact H
theorem b220_115 {x0 : Nat} {x1 : Nat} {x2 : Int32} {x3 : Int32} {x4 : Int32} {x5 : Int32} {x6 : Int32} {h : iH} {Q : Option Value → iH → Prop} (H : ((x5 = 0 → i_P i_MT i_AT L xs 220 14 [some (.ref x0), some (.retAddr x1), some (.int (x2 + 1)), some (.int (x4 + (1 : Int32))), some (.int x4), some (.int x5), some (.int x6)] [] h 0 0 Q) ∧ (¬ (x5 = 0) → Q (some (.int x2)) h))) : i_P i_MT i_AT L xs 220 115 [some (.ref x0), some (.retAddr x1), some (.int x2), some (.int x3), some (.int x4), some (.int x5), some (.int x6)] [] h 0 0 Q := by
  have hk := i_k220
  refine g_s1 (pc2 := 117) hk rfl rfl rfl rfl rfl ?_
  refine g_if_eq hk rfl (fun hc => ?_) (fun hc => ?_)
  · have H := H.1 hc
    refine g_s1 (pc2 := 125) (lo2 := [some (.ref x0), some (.retAddr x1), some (.int (x2 + 1)), some (.int x3), some (.int x4), some (.int x5), some (.int x6)]) hk rfl rfl rfl rfl rfl ?_
    refine g_s1 (pc2 := 127) hk rfl rfl rfl rfl rfl ?_
    refine g_s1 (pc2 := 128) (st2 := [.int (1 : Int32), .int x4]) hk rfl rfl rfl rfl rfl ?_
    refine g_s1 (pc2 := 129) hk rfl rfl rfl rfl rfl ?_
    refine g_s1 (pc2 := 130) (lo2 := [some (.ref x0), some (.retAddr x1), some (.int (x2 + 1)), some (.int (x4 + (1 : Int32))), some (.int x4), some (.int x5), some (.int x6)]) hk rfl rfl rfl rfl rfl ?_
    refine g_s1 (pc2 := 14) hk rfl rfl rfl rfl rfl ?_
    exact H
  · have H := H.2 hc
    refine g_s1 (pc2 := 121) hk rfl rfl rfl rfl rfl ?_
    exact g_ireturn hk rfl (by decide) (by decide) rfl H
/-! StillTownModel.fails(I)Z -/
theorem e221 {x0 : Nat} {x1 : Int32} {h : iH} {Q : Option Value → iH → Prop} (H : i_P i_MT i_AT L xs 221 0 [some (.ref x0), some (.int x1)] [] h 0 0 Q) : i_C i_MT i_AT L xs 221 [.ref x0, .int x1] h Q := ⟨i_m221, i_k221.1, Nat.le_of_ble_eq_true rfl, H⟩
theorem b221_0 {x0 : Nat} {x1 : Int32} {h : iH} {Q : Option Value → iH → Prop} (H : (∃ v1 : Int32, i_fld h x0 12 20 = some (.int v1) ∧ ((¬ v1 = 0 → i_P i_MT i_AT L xs 221 32 [some (.ref x0), some (.int x1)] [] h 0 0 Q) ∧ (¬ (¬ v1 = 0) → (∃ v2 : Int32, i_fld h x0 12 14 = some (.int v2) ∧ ((¬ v2 = (1 : Int32) → i_P i_MT i_AT L xs 221 21 [some (.ref x0), some (.int x1)] [.int x1, .ref x0] h 0 0 Q) ∧ (¬ (¬ v2 = (1 : Int32)) → i_P i_MT i_AT L xs 221 21 [some (.ref x0), some (.int x1)] [.int (1 : Int32), .ref x0] h 0 0 Q))))))) : i_P i_MT i_AT L xs 221 0 [some (.ref x0), some (.int x1)] [] h 0 0 Q := by
  have hk := i_k221
  refine g_s1 (pc2 := 1) hk rfl rfl rfl rfl rfl ?_
  obtain ⟨v1, ev1, H⟩ := H
  refine g_step (pc2 := 4) hk rfl rfl rfl (s_get ev1) ?_
  refine g_if_ne hk rfl (fun hc => ?_) (fun hc => ?_)
  · have H := H.1 hc
    exact H
  · have H := H.2 hc
    refine g_s1 (pc2 := 8) hk rfl rfl rfl rfl rfl ?_
    refine g_s1 (pc2 := 9) hk rfl rfl rfl rfl rfl ?_
    obtain ⟨v2, ev2, H⟩ := H
    refine g_step (pc2 := 12) hk rfl rfl rfl (s_get ev2) ?_
    refine g_s1 (pc2 := 13) (st2 := [.int (1 : Int32), .int v2, .ref x0]) hk rfl rfl rfl rfl rfl ?_
    refine g_icmp_ne hk rfl (fun hc => ?_) (fun hc => ?_)
    · have H := H.1 hc
      refine g_s1 (pc2 := 21) hk rfl rfl rfl rfl rfl ?_
      exact H
    · have H := H.2 hc
      refine g_s1 (pc2 := 17) (st2 := [.int (1 : Int32), .ref x0]) hk rfl rfl rfl rfl rfl ?_
      refine g_s1 (pc2 := 21) hk rfl rfl rfl rfl rfl ?_
      exact H
theorem b221_21 {x0 : Nat} {x1 : Int32} {s0 : Nat} {s1 : Int32} {h : iH} {Q : Option Value → iH → Prop} (H : ((∃ o, i_fld h s0 12 20 = some o) ∧ i_P i_MT i_AT L xs 221 24 [some (.ref x0), some (.int x1)] [] (i_sf h s0 20 (.int s1)) 0 0 Q)) : i_P i_MT i_AT L xs 221 21 [some (.ref x0), some (.int x1)] [.int s1, .ref s0] h 0 0 Q := by
  have hk := i_k221
  obtain ⟨⟨o, ho⟩, H⟩ := H
  refine g_step (pc2 := 24) hk rfl rfl rfl (s_put ho rfl) ?_
  exact H
theorem b221_24 {x0 : Nat} {x1 : Int32} {h : iH} {Q : Option Value → iH → Prop} (H : (∃ v1 : Int32, i_fld h x0 12 15 = some (.int v1) ∧ ((∃ o, i_fld h x0 12 19 = some o) ∧ i_P i_MT i_AT L xs 221 32 [some (.ref x0), some (.int x1)] [] (i_sf h x0 19 (.int v1)) 0 0 Q))) : i_P i_MT i_AT L xs 221 24 [some (.ref x0), some (.int x1)] [] h 0 0 Q := by
  have hk := i_k221
  refine g_s1 (pc2 := 25) hk rfl rfl rfl rfl rfl ?_
  refine g_s1 (pc2 := 26) hk rfl rfl rfl rfl rfl ?_
  obtain ⟨v1, ev1, H⟩ := H
  refine g_step (pc2 := 29) hk rfl rfl rfl (s_get ev1) ?_
  obtain ⟨⟨o, ho⟩, H⟩ := H
  refine g_step (pc2 := 32) hk rfl rfl rfl (s_put ho rfl) ?_
  exact H
theorem b221_32 {x0 : Nat} {x1 : Int32} {h : iH} {Q : Option Value → iH → Prop} (H : Q (some (.int 0)) h) : i_P i_MT i_AT L xs 221 32 [some (.ref x0), some (.int x1)] [] h 0 0 Q := by
  have hk := i_k221
  refine g_s1 (pc2 := 33) (st2 := [.int (0 : Int32)]) hk rfl rfl rfl rfl rfl ?_
  exact g_ireturn hk rfl (by decide) (by decide) rfl H
/-! StillTownModel.begins(II)Z -/
theorem e222 {x0 : Nat} {x1 : Int32} {x2 : Int32} {h : iH} {Q : Option Value → iH → Prop} (H : i_P i_MT i_AT L xs 222 0 [some (.ref x0), some (.int x1), some (.int x2), none] [] h 0 0 Q) : i_C i_MT i_AT L xs 222 [.ref x0, .int x1, .int x2] h Q := ⟨i_m222, i_k222.1, Nat.le_of_ble_eq_true rfl, H⟩
theorem b222_0 {x0 : Nat} {x1 : Int32} {x2 : Int32} {x3 : Option Value} {h : iH} {Q : Option Value → iH → Prop} (H : ((x1 < 0 → i_P i_MT i_AT L xs 222 17 [some (.ref x0), some (.int x1), some (.int x2), x3] [] h 0 0 Q) ∧ (¬ (x1 < 0) → (∃ v1 : Int32, i_fld h x0 12 12 = some (.int v1) ∧ ((v1 < x1 → i_P i_MT i_AT L xs 222 17 [some (.ref x0), some (.int x1), some (.int x2), x3] [] h 0 0 Q) ∧ (¬ (v1 < x1) → ((x1 ≤ x2 → ((∃ o, i_fld h x0 12 13 = some o) ∧ i_P i_MT i_AT L xs 222 24 [some (.ref x0), some (.int x1), some (.int x2), x3] [] (i_sf h x0 13 (.int x1)) 0 0 Q)) ∧ (¬ (x1 ≤ x2) → i_P i_MT i_AT L xs 222 17 [some (.ref x0), some (.int x1), some (.int x2), x3] [] h 0 0 Q)))))))) : i_P i_MT i_AT L xs 222 0 [some (.ref x0), some (.int x1), some (.int x2), x3] [] h 0 0 Q := by
  have hk := i_k222
  refine g_s1 (pc2 := 1) hk rfl rfl rfl rfl rfl ?_
  refine g_if_lt hk rfl (fun hc => ?_) (fun hc => ?_)
  · have H := H.1 hc
    exact H
  · have H := H.2 hc
    refine g_s1 (pc2 := 5) hk rfl rfl rfl rfl rfl ?_
    refine g_s1 (pc2 := 6) hk rfl rfl rfl rfl rfl ?_
    obtain ⟨v1, ev1, H⟩ := H
    refine g_step (pc2 := 9) hk rfl rfl rfl (s_get ev1) ?_
    refine g_icmp_gt hk rfl (fun hc => ?_) (fun hc => ?_)
    · have H := H.1 hc
      exact H
    · have H := H.2 hc
      refine g_s1 (pc2 := 13) hk rfl rfl rfl rfl rfl ?_
      refine g_s1 (pc2 := 14) hk rfl rfl rfl rfl rfl ?_
      refine g_icmp_le hk rfl (fun hc => ?_) (fun hc => ?_)
      · have H := H.1 hc
        refine g_s1 (pc2 := 20) hk rfl rfl rfl rfl rfl ?_
        refine g_s1 (pc2 := 21) hk rfl rfl rfl rfl rfl ?_
        obtain ⟨⟨o, ho⟩, H⟩ := H
        refine g_step (pc2 := 24) hk rfl rfl rfl (s_put ho rfl) ?_
        exact H
      · have H := H.2 hc
        exact H
theorem b222_17 {x0 : Nat} {x1 : Int32} {x2 : Int32} {x3 : Option Value} {h : iH} {Q : Option Value → iH → Prop} (H : Q (some (.int 0)) h) : i_P i_MT i_AT L xs 222 17 [some (.ref x0), some (.int x1), some (.int x2), x3] [] h 0 0 Q := by
  have hk := i_k222
  refine g_s1 (pc2 := 18) (st2 := [.int (0 : Int32)]) hk rfl rfl rfl rfl rfl ?_
  exact g_ireturn hk rfl (by decide) (by decide) rfl H
theorem b222_24 {x0 : Nat} {x1 : Int32} {x2 : Int32} {x3 : Option Value} {h : iH} {Q : Option Value → iH → Prop} (H : i_P i_MT i_AT L xs 222 26 [some (.ref x0), some (.int x1), some (.int x2), some (.int (0 : Int32))] [] h 0 0 Q) : i_P i_MT i_AT L xs 222 24 [some (.ref x0), some (.int x1), some (.int x2), x3] [] h 0 0 Q := by
  have hk := i_k222
  refine g_s1 (pc2 := 25) (st2 := [.int (0 : Int32)]) hk rfl rfl rfl rfl rfl ?_
  refine g_s1 (pc2 := 26) (lo2 := [some (.ref x0), some (.int x1), some (.int x2), some (.int (0 : Int32))]) hk rfl rfl rfl rfl rfl ?_
  exact H
theorem b222_26 {x0 : Nat} {x1 : Int32} {x2 : Int32} {x3 : Int32} {h : iH} {Q : Option Value → iH → Prop} (H : ((x1 ≤ x3 → ((∃ o, i_fld h x0 12 12 = some o) ∧ i_P i_MT i_AT L xs 222 54 [some (.ref x0), some (.int x1), some (.int x2), some (.int x3)] [] (i_sf h x0 12 (.int (0 : Int32))) 0 0 Q)) ∧ (¬ (x1 ≤ x3) → (∃ v1 : Nat, i_fld h x0 12 11 = some (.ref v1) ∧ (∃ v2 : Nat, i_fld h x0 12 10 = some (.ref v2) ∧ (∃ (n3 : Nat) (f4 : Nat → Int32), i_arI h 3 v2 = some (n3, f4) ∧ ¬ (x3 < 0 ∨ n3 ≤ x3.toNatClampNeg) ∧ (∃ (n5 : Nat) (f6 : Nat → Int32), i_arI h 3 v1 = some (n5, f6) ∧ ¬ (x3 < 0 ∨ n5 ≤ x3.toNatClampNeg) ∧ i_P i_MT i_AT L xs 222 43 [some (.ref x0), some (.int x1), some (.int x2), some (.int x3)] [] (i_siI h v1 x3.toNatClampNeg (vp_nar .byte (f4 x3.toNatClampNeg))) 0 0 Q))))))) : i_P i_MT i_AT L xs 222 26 [some (.ref x0), some (.int x1), some (.int x2), some (.int x3)] [] h 0 0 Q := by
  have hk := i_k222
  refine g_s1 (pc2 := 27) hk rfl rfl rfl rfl rfl ?_
  refine g_s1 (pc2 := 28) hk rfl rfl rfl rfl rfl ?_
  refine g_icmp_ge hk rfl (fun hc => ?_) (fun hc => ?_)
  · have H := H.1 hc
    refine g_s1 (pc2 := 50) hk rfl rfl rfl rfl rfl ?_
    refine g_s1 (pc2 := 51) (st2 := [.int (0 : Int32), .ref x0]) hk rfl rfl rfl rfl rfl ?_
    obtain ⟨⟨o, ho⟩, H⟩ := H
    refine g_step (pc2 := 54) hk rfl rfl rfl (s_put ho rfl) ?_
    exact H
  · have H := H.2 hc
    refine g_s1 (pc2 := 32) hk rfl rfl rfl rfl rfl ?_
    obtain ⟨v1, ev1, H⟩ := H
    refine g_step (pc2 := 35) hk rfl rfl rfl (s_get ev1) ?_
    refine g_s1 (pc2 := 36) hk rfl rfl rfl rfl rfl ?_
    refine g_s1 (pc2 := 37) hk rfl rfl rfl rfl rfl ?_
    obtain ⟨v2, ev2, H⟩ := H
    refine g_step (pc2 := 40) hk rfl rfl rfl (s_get ev2) ?_
    refine g_s1 (pc2 := 41) hk rfl rfl rfl rfl rfl ?_
    obtain ⟨n3, f4, ef4, hi, H⟩ := H
    refine g_step (pc2 := 42) hk rfl rfl rfl (s_bget (t := 3) (by decide) ef4 hi) ?_
    obtain ⟨n5, f6, ef6, hi, H⟩ := H
    refine g_step (pc2 := 43) hk rfl rfl rfl (s_bput ef6 hi) ?_
    exact H
theorem b222_43 {x0 : Nat} {x1 : Int32} {x2 : Int32} {x3 : Int32} {h : iH} {Q : Option Value → iH → Prop} (H : i_P i_MT i_AT L xs 222 26 [some (.ref x0), some (.int x1), some (.int x2), some (.int (x3 + 1))] [] h 0 0 Q) : i_P i_MT i_AT L xs 222 43 [some (.ref x0), some (.int x1), some (.int x2), some (.int x3)] [] h 0 0 Q := by
  have hk := i_k222
  refine g_s1 (pc2 := 46) (lo2 := [some (.ref x0), some (.int x1), some (.int x2), some (.int (x3 + 1))]) hk rfl rfl rfl rfl rfl ?_
  refine g_s1 (pc2 := 26) hk rfl rfl rfl rfl rfl ?_
  exact H
theorem b222_54 {x0 : Nat} {x1 : Int32} {x2 : Int32} {x3 : Int32} {h : iH} {Q : Option Value → iH → Prop} (H : ((∃ o, i_fld h x0 12 20 = some o) ∧ i_P i_MT i_AT L xs 222 59 [some (.ref x0), some (.int x1), some (.int x2), some (.int x3)] [] (i_sf h x0 20 (.int (0 : Int32))) 0 0 Q)) : i_P i_MT i_AT L xs 222 54 [some (.ref x0), some (.int x1), some (.int x2), some (.int x3)] [] h 0 0 Q := by
  have hk := i_k222
  refine g_s1 (pc2 := 55) hk rfl rfl rfl rfl rfl ?_
  refine g_s1 (pc2 := 56) (st2 := [.int (0 : Int32), .ref x0]) hk rfl rfl rfl rfl rfl ?_
  obtain ⟨⟨o, ho⟩, H⟩ := H
  refine g_step (pc2 := 59) hk rfl rfl rfl (s_put ho rfl) ?_
  exact H
theorem b222_59 {x0 : Nat} {x1 : Int32} {x2 : Int32} {x3 : Int32} {h : iH} {Q : Option Value → iH → Prop} (H : ((∃ o, i_fld h x0 12 19 = some o) ∧ i_P i_MT i_AT L xs 222 64 [some (.ref x0), some (.int x1), some (.int x2), some (.int x3)] [] (i_sf h x0 19 (.int (-1 : Int32))) 0 0 Q)) : i_P i_MT i_AT L xs 222 59 [some (.ref x0), some (.int x1), some (.int x2), some (.int x3)] [] h 0 0 Q := by
  have hk := i_k222
  refine g_s1 (pc2 := 60) hk rfl rfl rfl rfl rfl ?_
  refine g_s1 (pc2 := 61) (st2 := [.int (-1 : Int32), .ref x0]) hk rfl rfl rfl rfl rfl ?_
  obtain ⟨⟨o, ho⟩, H⟩ := H
  refine g_step (pc2 := 64) hk rfl rfl rfl (s_put ho rfl) ?_
  exact H
theorem b222_64 {x0 : Nat} {x1 : Int32} {x2 : Int32} {x3 : Int32} {h : iH} {Q : Option Value → iH → Prop} (H : ((∃ o, i_fld h x0 12 16 = some o) ∧ i_P i_MT i_AT L xs 222 69 [some (.ref x0), some (.int x1), some (.int x2), some (.int x3)] [] (i_sf h x0 16 (.int (0 : Int32))) 0 0 Q)) : i_P i_MT i_AT L xs 222 64 [some (.ref x0), some (.int x1), some (.int x2), some (.int x3)] [] h 0 0 Q := by
  have hk := i_k222
  refine g_s1 (pc2 := 65) hk rfl rfl rfl rfl rfl ?_
  refine g_s1 (pc2 := 66) (st2 := [.int (0 : Int32), .ref x0]) hk rfl rfl rfl rfl rfl ?_
  obtain ⟨⟨o, ho⟩, H⟩ := H
  refine g_step (pc2 := 69) hk rfl rfl rfl (s_put ho rfl) ?_
  exact H
theorem b222_69 {x0 : Nat} {x1 : Int32} {x2 : Int32} {x3 : Int32} {h : iH} {Q : Option Value → iH → Prop} (H : ((∃ o, i_fld h x0 12 21 = some o) ∧ i_P i_MT i_AT L xs 222 74 [some (.ref x0), some (.int x1), some (.int x2), some (.int x3)] [] (i_sf h x0 21 (.int (0 : Int32))) 0 0 Q)) : i_P i_MT i_AT L xs 222 69 [some (.ref x0), some (.int x1), some (.int x2), some (.int x3)] [] h 0 0 Q := by
  have hk := i_k222
  refine g_s1 (pc2 := 70) hk rfl rfl rfl rfl rfl ?_
  refine g_s1 (pc2 := 71) (st2 := [.int (0 : Int32), .ref x0]) hk rfl rfl rfl rfl rfl ?_
  obtain ⟨⟨o, ho⟩, H⟩ := H
  refine g_step (pc2 := 74) hk rfl rfl rfl (s_put ho rfl) ?_
  exact H
theorem b222_74 {x0 : Nat} {x1 : Int32} {x2 : Int32} {x3 : Int32} {h : iH} {Q : Option Value → iH → Prop} (H : (i_obj? h x0 12 ∧ i_C i_MT i_AT L xs 218 [.ref x0] h (fun v h1 => v = none ∧ i_P i_MT i_AT L xs 222 78 [some (.ref x0), some (.int x1), some (.int x2), some (.int x3)] [] h1 0 0 Q))) : i_P i_MT i_AT L xs 222 74 [some (.ref x0), some (.int x1), some (.int x2), some (.int x3)] [] h 0 0 Q := by
  have hk := i_k222
  refine g_s1 (pc2 := 75) hk rfl rfl rfl rfl rfl ?_
  obtain ⟨ho, H⟩ := H
  refine g_call hk rfl rfl i_k218.1 ⟨rfl, rfl⟩ rfl (i_rcv_v ho rfl (by decide)) rfl ?_
  exact H.mono (fun v h2 q => by obtain ⟨rfl, q⟩ := q; exact q)
theorem b222_78 {x0 : Nat} {x1 : Int32} {x2 : Int32} {x3 : Int32} {h : iH} {Q : Option Value → iH → Prop} (H : Q (some (.int 1)) h) : i_P i_MT i_AT L xs 222 78 [some (.ref x0), some (.int x1), some (.int x2), some (.int x3)] [] h 0 0 Q := by
  have hk := i_k222
  refine g_s1 (pc2 := 79) (st2 := [.int (1 : Int32)]) hk rfl rfl rfl rfl rfl ?_
  exact g_ireturn hk rfl (by decide) (by decide) rfl H
/-! StillTownModel.wantSign(I)Z -/
theorem e223 {x0 : Nat} {x1 : Int32} {h : iH} {Q : Option Value → iH → Prop} (H : i_P i_MT i_AT L xs 223 0 [some (.ref x0), some (.int x1)] [] h 0 0 Q) : i_C i_MT i_AT L xs 223 [.ref x0, .int x1] h Q := ⟨i_m223, i_k223.1, Nat.le_of_ble_eq_true rfl, H⟩
theorem b223_0 {x0 : Nat} {x1 : Int32} {h : iH} {Q : Option Value → iH → Prop} (H : (i_obj? h x0 12 ∧ i_C i_MT i_AT L xs 219 [.ref x0, .int x1] h (fun v h1 => ∃ r2 : Int32, v = some (.int r2) ∧ i_P i_MT i_AT L xs 223 5 [some (.ref x0), some (.int x1)] [.int r2] h1 0 0 Q))) : i_P i_MT i_AT L xs 223 0 [some (.ref x0), some (.int x1)] [] h 0 0 Q := by
  have hk := i_k223
  refine g_s1 (pc2 := 1) hk rfl rfl rfl rfl rfl ?_
  refine g_s1 (pc2 := 2) hk rfl rfl rfl rfl rfl ?_
  obtain ⟨ho, H⟩ := H
  refine g_call hk rfl rfl i_k219.1 ⟨rfl, rfl⟩ rfl (i_rcv_v ho rfl (by decide)) rfl ?_
  exact H.mono (fun v h2 q => by obtain ⟨r, rfl, q⟩ := q; exact q)
theorem b223_5 {x0 : Nat} {x1 : Int32} {s0 : Int32} {h : iH} {Q : Option Value → iH → Prop} (H : ((¬ s0 = 0 → (i_obj? h x0 12 ∧ i_C i_MT i_AT L xs 218 [.ref x0] h (fun v h1 => v = none ∧ i_P i_MT i_AT L xs 223 18 [some (.ref x0), some (.int x1)] [] h1 0 0 Q))) ∧ (¬ (¬ s0 = 0) → (i_obj? h x0 12 ∧ i_C i_MT i_AT L xs 221 [.ref x0, .int (2 : Int32)] h (fun v h3 => ∃ r4 : Int32, v = some (.int r4) ∧ i_P i_MT i_AT L xs 223 13 [some (.ref x0), some (.int x1)] [.int r4] h3 0 0 Q))))) : i_P i_MT i_AT L xs 223 5 [some (.ref x0), some (.int x1)] [.int s0] h 0 0 Q := by
  have hk := i_k223
  refine g_if_ne hk rfl (fun hc => ?_) (fun hc => ?_)
  · have H := H.1 hc
    refine g_s1 (pc2 := 15) hk rfl rfl rfl rfl rfl ?_
    obtain ⟨ho, H⟩ := H
    refine g_call hk rfl rfl i_k218.1 ⟨rfl, rfl⟩ rfl (i_rcv_v ho rfl (by decide)) rfl ?_
    exact H.mono (fun v h2 q => by obtain ⟨rfl, q⟩ := q; exact q)
  · have H := H.2 hc
    refine g_s1 (pc2 := 9) hk rfl rfl rfl rfl rfl ?_
    refine g_s1 (pc2 := 10) (st2 := [.int (2 : Int32), .ref x0]) hk rfl rfl rfl rfl rfl ?_
    obtain ⟨ho, H⟩ := H
    refine g_call hk rfl rfl i_k221.1 ⟨rfl, rfl⟩ rfl (i_rcv_v ho rfl (by decide)) rfl ?_
    exact H.mono (fun v h2 q => by obtain ⟨r, rfl, q⟩ := q; exact q)
theorem b223_13 {x0 : Nat} {x1 : Int32} {s0 : Int32} {h : iH} {Q : Option Value → iH → Prop} (H : (i_ret (some .boolean) s0 = true ∧ Q (some (.int s0)) h)) : i_P i_MT i_AT L xs 223 13 [some (.ref x0), some (.int x1)] [.int s0] h 0 0 Q := by
  have hk := i_k223
  exact g_ireturn hk rfl (by decide) (by decide) H.1 H.2
theorem b223_18 {x0 : Nat} {x1 : Int32} {h : iH} {Q : Option Value → iH → Prop} (H : Q (some (.int 1)) h) : i_P i_MT i_AT L xs 223 18 [some (.ref x0), some (.int x1)] [] h 0 0 Q := by
  have hk := i_k223
  refine g_s1 (pc2 := 19) (st2 := [.int (1 : Int32)]) hk rfl rfl rfl rfl rfl ?_
  exact g_ireturn hk rfl (by decide) (by decide) rfl H
/-! StillTownModel.wantWord(Ljava/lang/String;I)Z -/
theorem e224 {x0 : Nat} {x1 : Nat} {x2 : Int32} {h : iH} {Q : Option Value → iH → Prop} (H : i_P i_MT i_AT L xs 224 0 [some (.ref x0), some (.retAddr x1), some (.int x2)] [] h 0 0 Q) : i_C i_MT i_AT L xs 224 [.ref x0, .retAddr x1, .int x2] h Q := ⟨i_m224, i_k224.1, Nat.le_of_ble_eq_true rfl, H⟩
theorem b224_0 {x0 : Nat} {x1 : Nat} {x2 : Int32} {h : iH} {Q : Option Value → iH → Prop} (H : (i_obj? h x0 12 ∧ i_C i_MT i_AT L xs 220 [.ref x0, .retAddr x1] h (fun v h1 => ∃ r2 : Int32, v = some (.int r2) ∧ i_P i_MT i_AT L xs 224 5 [some (.ref x0), some (.retAddr x1), some (.int x2)] [.int r2] h1 0 0 Q))) : i_P i_MT i_AT L xs 224 0 [some (.ref x0), some (.retAddr x1), some (.int x2)] [] h 0 0 Q := by
  have hk := i_k224
  refine g_s1 (pc2 := 1) hk rfl rfl rfl rfl rfl ?_
  refine g_s1 (pc2 := 2) hk rfl rfl rfl rfl rfl ?_
  obtain ⟨ho, H⟩ := H
  refine g_call hk rfl rfl i_k220.1 ⟨rfl, rfl⟩ rfl (i_rcv_v ho rfl (by decide)) rfl ?_
  exact H.mono (fun v h2 q => by obtain ⟨r, rfl, q⟩ := q; exact q)
theorem b224_5 {x0 : Nat} {x1 : Nat} {x2 : Int32} {s0 : Int32} {h : iH} {Q : Option Value → iH → Prop} (H : ((s0 = x2 → (i_obj? h x0 12 ∧ i_C i_MT i_AT L xs 218 [.ref x0] h (fun v h1 => v = none ∧ i_P i_MT i_AT L xs 224 19 [some (.ref x0), some (.retAddr x1), some (.int x2)] [] h1 0 0 Q))) ∧ (¬ (s0 = x2) → (i_obj? h x0 12 ∧ i_C i_MT i_AT L xs 221 [.ref x0, .int (2 : Int32)] h (fun v h3 => ∃ r4 : Int32, v = some (.int r4) ∧ i_P i_MT i_AT L xs 224 14 [some (.ref x0), some (.retAddr x1), some (.int x2)] [.int r4] h3 0 0 Q))))) : i_P i_MT i_AT L xs 224 5 [some (.ref x0), some (.retAddr x1), some (.int x2)] [.int s0] h 0 0 Q := by
  have hk := i_k224
  refine g_s1 (pc2 := 6) hk rfl rfl rfl rfl rfl ?_
  refine g_icmp_eq hk rfl (fun hc => ?_) (fun hc => ?_)
  · have H := H.1 hc
    refine g_s1 (pc2 := 16) hk rfl rfl rfl rfl rfl ?_
    obtain ⟨ho, H⟩ := H
    refine g_call hk rfl rfl i_k218.1 ⟨rfl, rfl⟩ rfl (i_rcv_v ho rfl (by decide)) rfl ?_
    exact H.mono (fun v h2 q => by obtain ⟨rfl, q⟩ := q; exact q)
  · have H := H.2 hc
    refine g_s1 (pc2 := 10) hk rfl rfl rfl rfl rfl ?_
    refine g_s1 (pc2 := 11) (st2 := [.int (2 : Int32), .ref x0]) hk rfl rfl rfl rfl rfl ?_
    obtain ⟨ho, H⟩ := H
    refine g_call hk rfl rfl i_k221.1 ⟨rfl, rfl⟩ rfl (i_rcv_v ho rfl (by decide)) rfl ?_
    exact H.mono (fun v h2 q => by obtain ⟨r, rfl, q⟩ := q; exact q)
theorem b224_14 {x0 : Nat} {x1 : Nat} {x2 : Int32} {s0 : Int32} {h : iH} {Q : Option Value → iH → Prop} (H : (i_ret (some .boolean) s0 = true ∧ Q (some (.int s0)) h)) : i_P i_MT i_AT L xs 224 14 [some (.ref x0), some (.retAddr x1), some (.int x2)] [.int s0] h 0 0 Q := by
  have hk := i_k224
  exact g_ireturn hk rfl (by decide) (by decide) H.1 H.2
theorem b224_19 {x0 : Nat} {x1 : Nat} {x2 : Int32} {h : iH} {Q : Option Value → iH → Prop} (H : Q (some (.int 1)) h) : i_P i_MT i_AT L xs 224 19 [some (.ref x0), some (.retAddr x1), some (.int x2)] [] h 0 0 Q := by
  have hk := i_k224
  refine g_s1 (pc2 := 20) (st2 := [.int (1 : Int32)]) hk rfl rfl rfl rfl rfl ?_
  exact g_ireturn hk rfl (by decide) (by decide) rfl H
/-! StillTownModel.number(III)Z -/
theorem e225 {x0 : Nat} {x1 : Int32} {x2 : Int32} {x3 : Int32} {h : iH} {Q : Option Value → iH → Prop} (H : i_P i_MT i_AT L xs 225 0 [some (.ref x0), some (.int x1), some (.int x2), some (.int x3)] [] h 0 0 Q) : i_C i_MT i_AT L xs 225 [.ref x0, .int x1, .int x2, .int x3] h Q := ⟨i_m225, i_k225.1, Nat.le_of_ble_eq_true rfl, H⟩
theorem b225_0 {x0 : Nat} {x1 : Int32} {x2 : Int32} {x3 : Int32} {h : iH} {Q : Option Value → iH → Prop} (H : (∃ v1 : Int32, i_fld h x0 12 14 = some (.int v1) ∧ ((v1 = (3 : Int32) → (∃ v2 : Int32, i_fld h x0 12 17 = some (.int v2) ∧ ((v2 < x2 → i_P i_MT i_AT L xs 225 30 [some (.ref x0), some (.int x1), some (.int x2), some (.int x3)] [] h 0 0 Q) ∧ (¬ (v2 < x2) → (∃ v3 : Int32, i_fld h x0 12 17 = some (.int v3) ∧ ((v3 ≤ x3 → (∃ v4 : Nat, i_fld h x0 12 0 = some (.ref v4) ∧ (∃ v5 : Int32, i_fld h x0 12 17 = some (.int v5) ∧ (∃ (n6 : Nat) (f7 : Nat → Int32), i_arI h 0 v4 = some (n6, f7) ∧ ¬ (x1 < 0 ∨ n6 ≤ x1.toNatClampNeg) ∧ i_P i_MT i_AT L xs 225 46 [some (.ref x0), some (.int x1), some (.int x2), some (.int x3)] [] (i_siI h v4 x1.toNatClampNeg v5) 0 0 Q)))) ∧ (¬ (v3 ≤ x3) → i_P i_MT i_AT L xs 225 30 [some (.ref x0), some (.int x1), some (.int x2), some (.int x3)] [] h 0 0 Q))))))) ∧ (¬ (v1 = (3 : Int32)) → (i_obj? h x0 12 ∧ i_C i_MT i_AT L xs 221 [.ref x0, .int (2 : Int32)] h (fun v h8 => ∃ r9 : Int32, v = some (.int r9) ∧ i_P i_MT i_AT L xs 225 13 [some (.ref x0), some (.int x1), some (.int x2), some (.int x3)] [.int r9] h8 0 0 Q)))))) : i_P i_MT i_AT L xs 225 0 [some (.ref x0), some (.int x1), some (.int x2), some (.int x3)] [] h 0 0 Q := by
  have hk := i_k225
  refine g_s1 (pc2 := 1) hk rfl rfl rfl rfl rfl ?_
  obtain ⟨v1, ev1, H⟩ := H
  refine g_step (pc2 := 4) hk rfl rfl rfl (s_get ev1) ?_
  refine g_s1 (pc2 := 5) (st2 := [.int (3 : Int32), .int v1]) hk rfl rfl rfl rfl rfl ?_
  refine g_icmp_eq hk rfl (fun hc => ?_) (fun hc => ?_)
  · have H := H.1 hc
    refine g_s1 (pc2 := 15) hk rfl rfl rfl rfl rfl ?_
    obtain ⟨v2, ev2, H⟩ := H
    refine g_step (pc2 := 18) hk rfl rfl rfl (s_get ev2) ?_
    refine g_s1 (pc2 := 19) hk rfl rfl rfl rfl rfl ?_
    refine g_icmp_lt hk rfl (fun hc => ?_) (fun hc => ?_)
    · have H := H.1 hc
      exact H
    · have H := H.2 hc
      refine g_s1 (pc2 := 23) hk rfl rfl rfl rfl rfl ?_
      obtain ⟨v3, ev3, H⟩ := H
      refine g_step (pc2 := 26) hk rfl rfl rfl (s_get ev3) ?_
      refine g_s1 (pc2 := 27) hk rfl rfl rfl rfl rfl ?_
      refine g_icmp_le hk rfl (fun hc => ?_) (fun hc => ?_)
      · have H := H.1 hc
        refine g_s1 (pc2 := 37) hk rfl rfl rfl rfl rfl ?_
        obtain ⟨v4, ev4, H⟩ := H
        refine g_step (pc2 := 40) hk rfl rfl rfl (s_get ev4) ?_
        refine g_s1 (pc2 := 41) hk rfl rfl rfl rfl rfl ?_
        refine g_s1 (pc2 := 42) hk rfl rfl rfl rfl rfl ?_
        obtain ⟨v5, ev5, H⟩ := H
        refine g_step (pc2 := 45) hk rfl rfl rfl (s_get ev5) ?_
        obtain ⟨n6, f7, ef7, hi, H⟩ := H
        refine g_step (pc2 := 46) hk rfl rfl rfl (s_aput ef7 hi) ?_
        exact H
      · have H := H.2 hc
        exact H
  · have H := H.2 hc
    refine g_s1 (pc2 := 9) hk rfl rfl rfl rfl rfl ?_
    refine g_s1 (pc2 := 10) (st2 := [.int (2 : Int32), .ref x0]) hk rfl rfl rfl rfl rfl ?_
    obtain ⟨ho, H⟩ := H
    refine g_call hk rfl rfl i_k221.1 ⟨rfl, rfl⟩ rfl (i_rcv_v ho rfl (by decide)) rfl ?_
    exact H.mono (fun v h2 q => by obtain ⟨r, rfl, q⟩ := q; exact q)
theorem b225_13 {x0 : Nat} {x1 : Int32} {x2 : Int32} {x3 : Int32} {s0 : Int32} {h : iH} {Q : Option Value → iH → Prop} (H : (i_ret (some .boolean) s0 = true ∧ Q (some (.int s0)) h)) : i_P i_MT i_AT L xs 225 13 [some (.ref x0), some (.int x1), some (.int x2), some (.int x3)] [.int s0] h 0 0 Q := by
  have hk := i_k225
  exact g_ireturn hk rfl (by decide) (by decide) H.1 H.2
theorem b225_30 {x0 : Nat} {x1 : Int32} {x2 : Int32} {x3 : Int32} {h : iH} {Q : Option Value → iH → Prop} (H : (i_obj? h x0 12 ∧ i_C i_MT i_AT L xs 221 [.ref x0, .int (4 : Int32)] h (fun v h1 => ∃ r2 : Int32, v = some (.int r2) ∧ i_P i_MT i_AT L xs 225 35 [some (.ref x0), some (.int x1), some (.int x2), some (.int x3)] [.int r2] h1 0 0 Q))) : i_P i_MT i_AT L xs 225 30 [some (.ref x0), some (.int x1), some (.int x2), some (.int x3)] [] h 0 0 Q := by
  have hk := i_k225
  refine g_s1 (pc2 := 31) hk rfl rfl rfl rfl rfl ?_
  refine g_s1 (pc2 := 32) (st2 := [.int (4 : Int32), .ref x0]) hk rfl rfl rfl rfl rfl ?_
  obtain ⟨ho, H⟩ := H
  refine g_call hk rfl rfl i_k221.1 ⟨rfl, rfl⟩ rfl (i_rcv_v ho rfl (by decide)) rfl ?_
  exact H.mono (fun v h2 q => by obtain ⟨r, rfl, q⟩ := q; exact q)
theorem b225_35 {x0 : Nat} {x1 : Int32} {x2 : Int32} {x3 : Int32} {s0 : Int32} {h : iH} {Q : Option Value → iH → Prop} (H : (i_ret (some .boolean) s0 = true ∧ Q (some (.int s0)) h)) : i_P i_MT i_AT L xs 225 35 [some (.ref x0), some (.int x1), some (.int x2), some (.int x3)] [.int s0] h 0 0 Q := by
  have hk := i_k225
  exact g_ireturn hk rfl (by decide) (by decide) H.1 H.2
theorem b225_46 {x0 : Nat} {x1 : Int32} {x2 : Int32} {x3 : Int32} {h : iH} {Q : Option Value → iH → Prop} (H : (i_obj? h x0 12 ∧ i_C i_MT i_AT L xs 218 [.ref x0] h (fun v h1 => v = none ∧ i_P i_MT i_AT L xs 225 50 [some (.ref x0), some (.int x1), some (.int x2), some (.int x3)] [] h1 0 0 Q))) : i_P i_MT i_AT L xs 225 46 [some (.ref x0), some (.int x1), some (.int x2), some (.int x3)] [] h 0 0 Q := by
  have hk := i_k225
  refine g_s1 (pc2 := 47) hk rfl rfl rfl rfl rfl ?_
  obtain ⟨ho, H⟩ := H
  refine g_call hk rfl rfl i_k218.1 ⟨rfl, rfl⟩ rfl (i_rcv_v ho rfl (by decide)) rfl ?_
  exact H.mono (fun v h2 q => by obtain ⟨rfl, q⟩ := q; exact q)
theorem b225_50 {x0 : Nat} {x1 : Int32} {x2 : Int32} {x3 : Int32} {h : iH} {Q : Option Value → iH → Prop} (H : Q (some (.int 1)) h) : i_P i_MT i_AT L xs 225 50 [some (.ref x0), some (.int x1), some (.int x2), some (.int x3)] [] h 0 0 Q := by
  have hk := i_k225
  refine g_s1 (pc2 := 51) (st2 := [.int (1 : Int32)]) hk rfl rfl rfl rfl rfl ?_
  exact g_ireturn hk rfl (by decide) (by decide) rfl H
/-! StillTownModel.isName(Ljava/lang/String;)Z -/
theorem e226 {x0 : Nat} {x1 : Nat} {h : iH} {Q : Option Value → iH → Prop} (H : i_P i_MT i_AT L xs 226 0 [some (.ref x0), some (.retAddr x1)] [] h 0 0 Q) : i_C i_MT i_AT L xs 226 [.ref x0, .retAddr x1] h Q := ⟨i_m226, i_k226.1, Nat.le_of_ble_eq_true rfl, H⟩
theorem b226_0 {x0 : Nat} {x1 : Nat} {h : iH} {Q : Option Value → iH → Prop} (H : (∃ v1 : Int32, i_fld h x0 12 14 = some (.int v1) ∧ ((¬ v1 = (2 : Int32) → i_P i_MT i_AT L xs 226 35 [some (.ref x0), some (.retAddr x1)] [] h 0 0 Q) ∧ (¬ (¬ v1 = (2 : Int32)) → (∃ v2 : Int32, i_fld h x0 12 16 = some (.int v2) ∧ (∃ v3 : Int32, i_fld h x0 12 15 = some (.int v3) ∧ (((8 : Int32) < (v2 - v3) → i_P i_MT i_AT L xs 226 35 [some (.ref x0), some (.retAddr x1)] [] h 0 0 Q) ∧ (¬ ((8 : Int32) < (v2 - v3)) → (i_obj? h x0 12 ∧ i_C i_MT i_AT L xs 220 [.ref x0, .retAddr x1] h (fun v h4 => ∃ r5 : Int32, v = some (.int r5) ∧ i_P i_MT i_AT L xs 226 27 [some (.ref x0), some (.retAddr x1)] [.int r5] h4 0 0 Q)))))))))) : i_P i_MT i_AT L xs 226 0 [some (.ref x0), some (.retAddr x1)] [] h 0 0 Q := by
  have hk := i_k226
  refine g_s1 (pc2 := 1) hk rfl rfl rfl rfl rfl ?_
  obtain ⟨v1, ev1, H⟩ := H
  refine g_step (pc2 := 4) hk rfl rfl rfl (s_get ev1) ?_
  refine g_s1 (pc2 := 5) (st2 := [.int (2 : Int32), .int v1]) hk rfl rfl rfl rfl rfl ?_
  refine g_icmp_ne hk rfl (fun hc => ?_) (fun hc => ?_)
  · have H := H.1 hc
    exact H
  · have H := H.2 hc
    refine g_s1 (pc2 := 9) hk rfl rfl rfl rfl rfl ?_
    obtain ⟨v2, ev2, H⟩ := H
    refine g_step (pc2 := 12) hk rfl rfl rfl (s_get ev2) ?_
    refine g_s1 (pc2 := 13) hk rfl rfl rfl rfl rfl ?_
    obtain ⟨v3, ev3, H⟩ := H
    refine g_step (pc2 := 16) hk rfl rfl rfl (s_get ev3) ?_
    refine g_s1 (pc2 := 17) hk rfl rfl rfl rfl rfl ?_
    refine g_s1 (pc2 := 19) (st2 := [.int (8 : Int32), .int (v2 - v3)]) hk rfl rfl rfl rfl rfl ?_
    refine g_icmp_gt hk rfl (fun hc => ?_) (fun hc => ?_)
    · have H := H.1 hc
      exact H
    · have H := H.2 hc
      refine g_s1 (pc2 := 23) hk rfl rfl rfl rfl rfl ?_
      refine g_s1 (pc2 := 24) hk rfl rfl rfl rfl rfl ?_
      obtain ⟨ho, H⟩ := H
      refine g_call hk rfl rfl i_k220.1 ⟨rfl, rfl⟩ rfl (i_rcv_v ho rfl (by decide)) rfl ?_
      exact H.mono (fun v h2 q => by obtain ⟨r, rfl, q⟩ := q; exact q)
theorem b226_27 {x0 : Nat} {x1 : Nat} {s0 : Int32} {h : iH} {Q : Option Value → iH → Prop} (H : ((¬ s0 = (-1 : Int32) → i_P i_MT i_AT L xs 226 35 [some (.ref x0), some (.retAddr x1)] [] h 0 0 Q) ∧ (¬ (¬ s0 = (-1 : Int32)) → i_P i_MT i_AT L xs 226 36 [some (.ref x0), some (.retAddr x1)] [.int (1 : Int32)] h 0 0 Q))) : i_P i_MT i_AT L xs 226 27 [some (.ref x0), some (.retAddr x1)] [.int s0] h 0 0 Q := by
  have hk := i_k226
  refine g_s1 (pc2 := 28) (st2 := [.int (-1 : Int32), .int s0]) hk rfl rfl rfl rfl rfl ?_
  refine g_icmp_ne hk rfl (fun hc => ?_) (fun hc => ?_)
  · have H := H.1 hc
    exact H
  · have H := H.2 hc
    refine g_s1 (pc2 := 32) (st2 := [.int (1 : Int32)]) hk rfl rfl rfl rfl rfl ?_
    refine g_s1 (pc2 := 36) hk rfl rfl rfl rfl rfl ?_
    exact H
theorem b226_35 {x0 : Nat} {x1 : Nat} {h : iH} {Q : Option Value → iH → Prop} (H : i_P i_MT i_AT L xs 226 36 [some (.ref x0), some (.retAddr x1)] [.int (0 : Int32)] h 0 0 Q) : i_P i_MT i_AT L xs 226 35 [some (.ref x0), some (.retAddr x1)] [] h 0 0 Q := by
  have hk := i_k226
  refine g_s1 (pc2 := 36) (st2 := [.int (0 : Int32)]) hk rfl rfl rfl rfl rfl ?_
  exact H
theorem b226_36 {x0 : Nat} {x1 : Nat} {s0 : Int32} {h : iH} {Q : Option Value → iH → Prop} (H : (i_ret (some .boolean) s0 = true ∧ Q (some (.int s0)) h)) : i_P i_MT i_AT L xs 226 36 [some (.ref x0), some (.retAddr x1)] [.int s0] h 0 0 Q := by
  have hk := i_k226
  exact g_ireturn hk rfl (by decide) (by decide) H.1 H.2
/-! StillTownModel.nameHere()J -/
theorem e227 {x0 : Nat} {h : iH} {Q : Option Value → iH → Prop} (H : i_P i_MT i_AT L xs 227 0 [some (.ref x0), none, none, none] [] h 0 0 Q) : i_C i_MT i_AT L xs 227 [.ref x0] h Q := ⟨i_m227, i_k227.1, Nat.le_of_ble_eq_true rfl, H⟩
theorem b227_0 {x0 : Nat} {x1 : Option Value} {x2 : Option Value} {x3 : Option Value} {h : iH} {Q : Option Value → iH → Prop} (H : (∃ v1 : Int32, i_fld h x0 12 15 = some (.int v1) ∧ i_P i_MT i_AT L xs 227 7 [some (.ref x0), some (.long (0 : Int64)), none, some (.int v1)] [] h 0 0 Q)) : i_P i_MT i_AT L xs 227 0 [some (.ref x0), x1, x2, x3] [] h 0 0 Q := by
  have hk := i_k227
  refine g_s1 (pc2 := 1) (st2 := [.long (0 : Int64)]) hk rfl rfl rfl rfl rfl ?_
  refine g_s1 (pc2 := 2) (lo2 := [some (.ref x0), some (.long (0 : Int64)), none, x3]) hk rfl rfl rfl rfl rfl ?_
  refine g_s1 (pc2 := 3) hk rfl rfl rfl rfl rfl ?_
  obtain ⟨v1, ev1, H⟩ := H
  refine g_step (pc2 := 6) hk rfl rfl rfl (s_get ev1) ?_
  refine g_s1 (pc2 := 7) (lo2 := [some (.ref x0), some (.long (0 : Int64)), none, some (.int v1)]) hk rfl rfl rfl rfl rfl ?_
  exact H
theorem b227_7 {x0 : Nat} {x1 : Int64} {x3 : Int32} {h : iH} {Q : Option Value → iH → Prop} (H : (∃ v1 : Int32, i_fld h x0 12 16 = some (.int v1) ∧ ((v1 ≤ x3 → Q (some (.long x1)) h) ∧ (¬ (v1 ≤ x3) → (i_obj? h x0 12 ∧ i_C i_MT i_AT L xs 215 [.ref x0, .int x3] h (fun v h2 => ∃ r3 : Int32, v = some (.int r3) ∧ i_P i_MT i_AT L xs 227 24 [some (.ref x0), some (.long x1), none, some (.int x3)] [.int r3, .long (x1 <<< ((8 : Int32).toInt64 &&& 63))] h2 0 0 Q)))))) : i_P i_MT i_AT L xs 227 7 [some (.ref x0), some (.long x1), none, some (.int x3)] [] h 0 0 Q := by
  have hk := i_k227
  refine g_s1 (pc2 := 8) hk rfl rfl rfl rfl rfl ?_
  refine g_s1 (pc2 := 9) hk rfl rfl rfl rfl rfl ?_
  obtain ⟨v1, ev1, H⟩ := H
  refine g_step (pc2 := 12) hk rfl rfl rfl (s_get ev1) ?_
  refine g_icmp_ge hk rfl (fun hc => ?_) (fun hc => ?_)
  · have H := H.1 hc
    refine g_s1 (pc2 := 34) hk rfl rfl rfl rfl rfl ?_
    exact g_lreturn hk rfl (by decide) (by decide) rfl H
  · have H := H.2 hc
    refine g_s1 (pc2 := 16) hk rfl rfl rfl rfl rfl ?_
    refine g_s1 (pc2 := 18) (st2 := [.int (8 : Int32), .long x1]) hk rfl rfl rfl rfl rfl ?_
    refine g_s1 (pc2 := 19) hk rfl rfl rfl rfl rfl ?_
    refine g_s1 (pc2 := 20) hk rfl rfl rfl rfl rfl ?_
    refine g_s1 (pc2 := 21) hk rfl rfl rfl rfl rfl ?_
    obtain ⟨ho, H⟩ := H
    refine g_call hk rfl rfl i_k215.1 ⟨rfl, rfl⟩ rfl (i_rcv_v ho rfl (by decide)) rfl ?_
    exact H.mono (fun v h2 q => by obtain ⟨r, rfl, q⟩ := q; exact q)
theorem b227_24 {x0 : Nat} {x1 : Int64} {x3 : Int32} {s0 : Int64} {s1 : Int32} {h : iH} {Q : Option Value → iH → Prop} (H : i_P i_MT i_AT L xs 227 7 [some (.ref x0), some (.long (s0 ||| (s1.toInt64))), none, some (.int (x3 + 1))] [] h 0 0 Q) : i_P i_MT i_AT L xs 227 24 [some (.ref x0), some (.long x1), none, some (.int x3)] [.int s1, .long s0] h 0 0 Q := by
  have hk := i_k227
  refine g_s1 (pc2 := 25) hk rfl rfl rfl rfl rfl ?_
  refine g_s1 (pc2 := 26) hk rfl rfl rfl rfl rfl ?_
  refine g_s1 (pc2 := 27) (lo2 := [some (.ref x0), some (.long (s0 ||| (s1.toInt64))), none, some (.int x3)]) hk rfl rfl rfl rfl rfl ?_
  refine g_s1 (pc2 := 30) (lo2 := [some (.ref x0), some (.long (s0 ||| (s1.toInt64))), none, some (.int (x3 + 1))]) hk rfl rfl rfl rfl rfl ?_
  refine g_s1 (pc2 := 7) hk rfl rfl rfl rfl rfl ?_
  exact H
/-! StillTownModel.findHere(II)I -/
theorem e228 {x0 : Nat} {x1 : Int32} {x2 : Int32} {h : iH} {Q : Option Value → iH → Prop} (H : i_P i_MT i_AT L xs 228 0 [some (.ref x0), some (.int x1), some (.int x2), none] [] h 0 0 Q) : i_C i_MT i_AT L xs 228 [.ref x0, .int x1, .int x2] h Q := ⟨i_m228, i_k228.1, Nat.le_of_ble_eq_true rfl, H⟩
theorem b228_0 {x0 : Nat} {x1 : Int32} {x2 : Int32} {x3 : Option Value} {h : iH} {Q : Option Value → iH → Prop} (H : i_P i_MT i_AT L xs 228 2 [some (.ref x0), some (.int x1), some (.int x2), some (.int (0 : Int32))] [] h 0 0 Q) : i_P i_MT i_AT L xs 228 0 [some (.ref x0), some (.int x1), some (.int x2), x3] [] h 0 0 Q := by
  have hk := i_k228
  refine g_s1 (pc2 := 1) (st2 := [.int (0 : Int32)]) hk rfl rfl rfl rfl rfl ?_
  refine g_s1 (pc2 := 2) (lo2 := [some (.ref x0), some (.int x1), some (.int x2), some (.int (0 : Int32))]) hk rfl rfl rfl rfl rfl ?_
  exact H
theorem b228_2 {x0 : Nat} {x1 : Int32} {x2 : Int32} {x3 : Int32} {h : iH} {Q : Option Value → iH → Prop} (H : ((x2 ≤ x3 → Q (some (.int (-1 : Int32))) h) ∧ (¬ (x2 ≤ x3) → (∃ v1 : Nat, i_fld h x0 12 1 = some (.ref v1) ∧ (∃ (n2 : Nat) (f3 : Nat → Int64), i_arJ h v1 = some (n2, f3) ∧ ¬ ((x1 + x3) < 0 ∨ n2 ≤ (x1 + x3).toNatClampNeg) ∧ (i_obj? h x0 12 ∧ i_C i_MT i_AT L xs 227 [.ref x0] h (fun v h4 => ∃ r5 : Int64, v = some (.long r5) ∧ i_P i_MT i_AT L xs 228 19 [some (.ref x0), some (.int x1), some (.int x2), some (.int x3)] [.long r5, .long (f3 (x1 + x3).toNatClampNeg)] h4 0 0 Q))))))) : i_P i_MT i_AT L xs 228 2 [some (.ref x0), some (.int x1), some (.int x2), some (.int x3)] [] h 0 0 Q := by
  have hk := i_k228
  refine g_s1 (pc2 := 3) hk rfl rfl rfl rfl rfl ?_
  refine g_s1 (pc2 := 4) hk rfl rfl rfl rfl rfl ?_
  refine g_icmp_ge hk rfl (fun hc => ?_) (fun hc => ?_)
  · have H := H.1 hc
    refine g_s1 (pc2 := 32) (st2 := [.int (-1 : Int32)]) hk rfl rfl rfl rfl rfl ?_
    exact g_ireturn hk rfl (by decide) (by decide) rfl H
  · have H := H.2 hc
    refine g_s1 (pc2 := 8) hk rfl rfl rfl rfl rfl ?_
    obtain ⟨v1, ev1, H⟩ := H
    refine g_step (pc2 := 11) hk rfl rfl rfl (s_get ev1) ?_
    refine g_s1 (pc2 := 12) hk rfl rfl rfl rfl rfl ?_
    refine g_s1 (pc2 := 13) hk rfl rfl rfl rfl rfl ?_
    refine g_s1 (pc2 := 14) hk rfl rfl rfl rfl rfl ?_
    obtain ⟨n2, f3, ef3, hi, H⟩ := H
    refine g_step (pc2 := 15) hk rfl rfl rfl (s_lget ef3 hi) ?_
    refine g_s1 (pc2 := 16) hk rfl rfl rfl rfl rfl ?_
    obtain ⟨ho, H⟩ := H
    refine g_call hk rfl rfl i_k227.1 ⟨rfl, rfl⟩ rfl (i_rcv_v ho rfl (by decide)) rfl ?_
    exact H.mono (fun v h2 q => by obtain ⟨r, rfl, q⟩ := q; exact q)
theorem b228_19 {x0 : Nat} {x1 : Int32} {x2 : Int32} {x3 : Int32} {s0 : Int64} {s1 : Int64} {h : iH} {Q : Option Value → iH → Prop} (H : ((¬ (lg_cmp s0 s1) = 0 → i_P i_MT i_AT L xs 228 2 [some (.ref x0), some (.int x1), some (.int x2), some (.int (x3 + 1))] [] h 0 0 Q) ∧ (¬ (¬ (lg_cmp s0 s1) = 0) → Q (some (.int x3)) h))) : i_P i_MT i_AT L xs 228 19 [some (.ref x0), some (.int x1), some (.int x2), some (.int x3)] [.long s1, .long s0] h 0 0 Q := by
  have hk := i_k228
  refine g_s1 (pc2 := 20) hk rfl rfl rfl rfl rfl ?_
  refine g_if_ne hk rfl (fun hc => ?_) (fun hc => ?_)
  · have H := H.1 hc
    refine g_s1 (pc2 := 28) (lo2 := [some (.ref x0), some (.int x1), some (.int x2), some (.int (x3 + 1))]) hk rfl rfl rfl rfl rfl ?_
    refine g_s1 (pc2 := 2) hk rfl rfl rfl rfl rfl ?_
    exact H
  · have H := H.2 hc
    refine g_s1 (pc2 := 24) hk rfl rfl rfl rfl rfl ?_
    exact g_ireturn hk rfl (by decide) (by decide) rfl H
/-! StillTownModel.fault(I)I -/
theorem e229 {x0 : Nat} {x1 : Int32} {h : iH} {Q : Option Value → iH → Prop} (H : i_P i_MT i_AT L xs 229 0 [some (.ref x0), some (.int x1)] [] h 0 0 Q) : i_C i_MT i_AT L xs 229 [.ref x0, .int x1] h Q := ⟨i_m229, i_k229.1, Nat.le_of_ble_eq_true rfl, H⟩
theorem b229_0 {x0 : Nat} {x1 : Int32} {h : iH} {Q : Option Value → iH → Prop} (H : ((¬ x1 = 0 → ((¬ x1 = (1 : Int32) → i_P i_MT i_AT L xs 229 24 [some (.ref x0), some (.int x1)] [.int (-1 : Int32)] h 0 0 Q) ∧ (¬ (¬ x1 = (1 : Int32)) → (∃ v1 : Int32, i_fld h x0 12 19 = some (.int v1) ∧ i_P i_MT i_AT L xs 229 24 [some (.ref x0), some (.int x1)] [.int v1] h 0 0 Q)))) ∧ (¬ (¬ x1 = 0) → (∃ v2 : Int32, i_fld h x0 12 18 = some (.int v2) ∧ i_P i_MT i_AT L xs 229 24 [some (.ref x0), some (.int x1)] [.int v2] h 0 0 Q)))) : i_P i_MT i_AT L xs 229 0 [some (.ref x0), some (.int x1)] [] h 0 0 Q := by
  have hk := i_k229
  refine g_s1 (pc2 := 1) hk rfl rfl rfl rfl rfl ?_
  refine g_if_ne hk rfl (fun hc => ?_) (fun hc => ?_)
  · have H := H.1 hc
    refine g_s1 (pc2 := 12) hk rfl rfl rfl rfl rfl ?_
    refine g_s1 (pc2 := 13) (st2 := [.int (1 : Int32), .int x1]) hk rfl rfl rfl rfl rfl ?_
    refine g_icmp_ne hk rfl (fun hc => ?_) (fun hc => ?_)
    · have H := H.1 hc
      refine g_s1 (pc2 := 24) (st2 := [.int (-1 : Int32)]) hk rfl rfl rfl rfl rfl ?_
      exact H
    · have H := H.2 hc
      refine g_s1 (pc2 := 17) hk rfl rfl rfl rfl rfl ?_
      obtain ⟨v1, ev1, H⟩ := H
      refine g_step (pc2 := 20) hk rfl rfl rfl (s_get ev1) ?_
      refine g_s1 (pc2 := 24) hk rfl rfl rfl rfl rfl ?_
      exact H
  · have H := H.2 hc
    refine g_s1 (pc2 := 5) hk rfl rfl rfl rfl rfl ?_
    obtain ⟨v2, ev2, H⟩ := H
    refine g_step (pc2 := 8) hk rfl rfl rfl (s_get ev2) ?_
    refine g_s1 (pc2 := 24) hk rfl rfl rfl rfl rfl ?_
    exact H
theorem b229_24 {x0 : Nat} {x1 : Int32} {s0 : Int32} {h : iH} {Q : Option Value → iH → Prop} (H : Q (some (.int s0)) h) : i_P i_MT i_AT L xs 229 24 [some (.ref x0), some (.int x1)] [.int s0] h 0 0 Q := by
  have hk := i_k229
  exact g_ireturn hk rfl (by decide) (by decide) rfl H
/-! StillTownModel.taken(I)I -/
theorem e230 {x0 : Nat} {x1 : Int32} {h : iH} {Q : Option Value → iH → Prop} (H : i_P i_MT i_AT L xs 230 0 [some (.ref x0), some (.int x1)] [] h 0 0 Q) : i_C i_MT i_AT L xs 230 [.ref x0, .int x1] h Q := ⟨i_m230, i_k230.1, Nat.le_of_ble_eq_true rfl, H⟩
theorem b230_0 {x0 : Nat} {x1 : Int32} {h : iH} {Q : Option Value → iH → Prop} (H : (∃ v1 : Int32, i_fld h x0 12 20 = some (.int v1) ∧ ((∃ o, i_fld h x0 12 18 = some o) ∧ i_P i_MT i_AT L xs 230 8 [some (.ref x0), some (.int x1)] [] (i_sf h x0 18 (.int v1)) 0 0 Q))) : i_P i_MT i_AT L xs 230 0 [some (.ref x0), some (.int x1)] [] h 0 0 Q := by
  have hk := i_k230
  refine g_s1 (pc2 := 1) hk rfl rfl rfl rfl rfl ?_
  refine g_s1 (pc2 := 2) hk rfl rfl rfl rfl rfl ?_
  obtain ⟨v1, ev1, H⟩ := H
  refine g_step (pc2 := 5) hk rfl rfl rfl (s_get ev1) ?_
  obtain ⟨⟨o, ho⟩, H⟩ := H
  refine g_step (pc2 := 8) hk rfl rfl rfl (s_put ho rfl) ?_
  exact H
theorem b230_8 {x0 : Nat} {x1 : Int32} {h : iH} {Q : Option Value → iH → Prop} (H : (∃ v1 : Int32, i_fld h x0 12 20 = some (.int v1) ∧ ((v1 ≤ 0 → (i_obj? h x0 12 ∧ i_C i_MT i_AT L xs 202 [.ref x0, .int x1] h (fun v h2 => ∃ r3 : Int32, v = some (.int r3) ∧ i_P i_MT i_AT L xs 230 29 [some (.ref x0), some (.int x1)] [.int r3] h2 0 0 Q))) ∧ (¬ (v1 ≤ 0) → (i_obj? h x0 12 ∧ i_C i_MT i_AT L xs 201 [.ref x0, .int (9 : Int32)] h (fun v h4 => ∃ r5 : Int32, v = some (.int r5) ∧ i_P i_MT i_AT L xs 230 21 [some (.ref x0), some (.int x1)] [.int r5] h4 0 0 Q)))))) : i_P i_MT i_AT L xs 230 8 [some (.ref x0), some (.int x1)] [] h 0 0 Q := by
  have hk := i_k230
  refine g_s1 (pc2 := 9) hk rfl rfl rfl rfl rfl ?_
  obtain ⟨v1, ev1, H⟩ := H
  refine g_step (pc2 := 12) hk rfl rfl rfl (s_get ev1) ?_
  refine g_if_le hk rfl (fun hc => ?_) (fun hc => ?_)
  · have H := H.1 hc
    refine g_s1 (pc2 := 25) hk rfl rfl rfl rfl rfl ?_
    refine g_s1 (pc2 := 26) hk rfl rfl rfl rfl rfl ?_
    obtain ⟨ho, H⟩ := H
    refine g_call hk rfl rfl i_k202.1 ⟨rfl, rfl⟩ rfl (i_rcv_v ho rfl (by decide)) rfl ?_
    exact H.mono (fun v h2 q => by obtain ⟨r, rfl, q⟩ := q; exact q)
  · have H := H.2 hc
    refine g_s1 (pc2 := 16) hk rfl rfl rfl rfl rfl ?_
    refine g_s1 (pc2 := 18) (st2 := [.int (9 : Int32), .ref x0]) hk rfl rfl rfl rfl rfl ?_
    obtain ⟨ho, H⟩ := H
    refine g_call hk rfl rfl i_k201.1 ⟨rfl, rfl⟩ rfl (i_rcv_v ho rfl (by decide)) rfl ?_
    exact H.mono (fun v h2 q => by obtain ⟨r, rfl, q⟩ := q; exact q)
theorem b230_21 {x0 : Nat} {x1 : Int32} {s0 : Int32} {h : iH} {Q : Option Value → iH → Prop} (H : i_P i_MT i_AT L xs 230 29 [some (.ref x0), some (.int x1)] [.int s0] h 0 0 Q) : i_P i_MT i_AT L xs 230 21 [some (.ref x0), some (.int x1)] [.int s0] h 0 0 Q := by
  have hk := i_k230
  refine g_s1 (pc2 := 29) hk rfl rfl rfl rfl rfl ?_
  exact H
theorem b230_29 {x0 : Nat} {x1 : Int32} {s0 : Int32} {h : iH} {Q : Option Value → iH → Prop} (H : Q (some (.int s0)) h) : i_P i_MT i_AT L xs 230 29 [some (.ref x0), some (.int x1)] [.int s0] h 0 0 Q := by
  have hk := i_k230
  exact g_ireturn hk rfl (by decide) (by decide) rfl H
/-! StillTownModel.aCell()Z -/
theorem e231 {x0 : Nat} {h : iH} {Q : Option Value → iH → Prop} (H : i_P i_MT i_AT L xs 231 0 [some (.ref x0), none] [] h 0 0 Q) : i_C i_MT i_AT L xs 231 [.ref x0] h Q := ⟨i_m231, i_k231.1, Nat.le_of_ble_eq_true rfl, H⟩
theorem b231_0 {x0 : Nat} {x1 : Option Value} {h : iH} {Q : Option Value → iH → Prop} (H : (∃ v1 : Int32, i_fld h x0 12 14 = some (.int v1) ∧ ((v1 = (3 : Int32) → (∃ v2 : Int32, i_fld h x0 12 17 = some (.int v2) ∧ (∃ v3 : Nat, i_fld h x0 12 0 = some (.ref v3) ∧ (∃ (n4 : Nat) (f5 : Nat → Int32), i_arI h 0 v3 = some (n4, f5) ∧ ¬ ((2720 : Int32) < 0 ∨ n4 ≤ (2720 : Int32).toNatClampNeg) ∧ ((v2 < (f5 (2720 : Int32).toNatClampNeg) → (∃ v6 : Int32, i_fld h x0 12 17 = some (.int v6) ∧ (i_obj? h x0 12 ∧ i_C i_MT i_AT L xs 218 [.ref x0] h (fun v h7 => v = none ∧ i_P i_MT i_AT L xs 231 44 [some (.ref x0), some (.int v6)] [] h7 0 0 Q)))) ∧ (¬ (v2 < (f5 (2720 : Int32).toNatClampNeg)) → (i_obj? h x0 12 ∧ i_C i_MT i_AT L xs 221 [.ref x0, .int (4 : Int32)] h (fun v h9 => ∃ r10 : Int32, v = some (.int r10) ∧ i_P i_MT i_AT L xs 231 34 [some (.ref x0), x1] [.int r10] h9 0 0 Q)))))))) ∧ (¬ (v1 = (3 : Int32)) → (i_obj? h x0 12 ∧ i_C i_MT i_AT L xs 221 [.ref x0, .int (2 : Int32)] h (fun v h11 => ∃ r12 : Int32, v = some (.int r12) ∧ i_P i_MT i_AT L xs 231 13 [some (.ref x0), x1] [.int r12] h11 0 0 Q)))))) : i_P i_MT i_AT L xs 231 0 [some (.ref x0), x1] [] h 0 0 Q := by
  have hk := i_k231
  refine g_s1 (pc2 := 1) hk rfl rfl rfl rfl rfl ?_
  obtain ⟨v1, ev1, H⟩ := H
  refine g_step (pc2 := 4) hk rfl rfl rfl (s_get ev1) ?_
  refine g_s1 (pc2 := 5) (st2 := [.int (3 : Int32), .int v1]) hk rfl rfl rfl rfl rfl ?_
  refine g_icmp_eq hk rfl (fun hc => ?_) (fun hc => ?_)
  · have H := H.1 hc
    refine g_s1 (pc2 := 15) hk rfl rfl rfl rfl rfl ?_
    obtain ⟨v2, ev2, H⟩ := H
    refine g_step (pc2 := 18) hk rfl rfl rfl (s_get ev2) ?_
    refine g_s1 (pc2 := 19) hk rfl rfl rfl rfl rfl ?_
    obtain ⟨v3, ev3, H⟩ := H
    refine g_step (pc2 := 22) hk rfl rfl rfl (s_get ev3) ?_
    refine g_s1 (pc2 := 25) (st2 := [.int (2720 : Int32), .ref v3, .int v2]) hk rfl rfl rfl rfl rfl ?_
    obtain ⟨n4, f5, ef5, hi, H⟩ := H
    refine g_step (pc2 := 26) hk rfl rfl rfl (s_aget (L := L) (xs := xs) ef5 hi) ?_
    refine g_icmp_lt hk rfl (fun hc => ?_) (fun hc => ?_)
    · have H := H.1 hc
      refine g_s1 (pc2 := 36) hk rfl rfl rfl rfl rfl ?_
      obtain ⟨v6, ev6, H⟩ := H
      refine g_step (pc2 := 39) hk rfl rfl rfl (s_get ev6) ?_
      refine g_s1 (pc2 := 40) (lo2 := [some (.ref x0), some (.int v6)]) hk rfl rfl rfl rfl rfl ?_
      refine g_s1 (pc2 := 41) hk rfl rfl rfl rfl rfl ?_
      obtain ⟨ho, H⟩ := H
      refine g_call hk rfl rfl i_k218.1 ⟨rfl, rfl⟩ rfl (i_rcv_v ho rfl (by decide)) rfl ?_
      exact H.mono (fun v h2 q => by obtain ⟨rfl, q⟩ := q; exact q)
    · have H := H.2 hc
      refine g_s1 (pc2 := 30) hk rfl rfl rfl rfl rfl ?_
      refine g_s1 (pc2 := 31) (st2 := [.int (4 : Int32), .ref x0]) hk rfl rfl rfl rfl rfl ?_
      obtain ⟨ho, H⟩ := H
      refine g_call hk rfl rfl i_k221.1 ⟨rfl, rfl⟩ rfl (i_rcv_v ho rfl (by decide)) rfl ?_
      exact H.mono (fun v h2 q => by obtain ⟨r, rfl, q⟩ := q; exact q)
  · have H := H.2 hc
    refine g_s1 (pc2 := 9) hk rfl rfl rfl rfl rfl ?_
    refine g_s1 (pc2 := 10) (st2 := [.int (2 : Int32), .ref x0]) hk rfl rfl rfl rfl rfl ?_
    obtain ⟨ho, H⟩ := H
    refine g_call hk rfl rfl i_k221.1 ⟨rfl, rfl⟩ rfl (i_rcv_v ho rfl (by decide)) rfl ?_
    exact H.mono (fun v h2 q => by obtain ⟨r, rfl, q⟩ := q; exact q)
theorem b231_13 {x0 : Nat} {x1 : Option Value} {s0 : Int32} {h : iH} {Q : Option Value → iH → Prop} (H : (i_ret (some .boolean) s0 = true ∧ Q (some (.int s0)) h)) : i_P i_MT i_AT L xs 231 13 [some (.ref x0), x1] [.int s0] h 0 0 Q := by
  have hk := i_k231
  exact g_ireturn hk rfl (by decide) (by decide) H.1 H.2
theorem b231_34 {x0 : Nat} {x1 : Option Value} {s0 : Int32} {h : iH} {Q : Option Value → iH → Prop} (H : (i_ret (some .boolean) s0 = true ∧ Q (some (.int s0)) h)) : i_P i_MT i_AT L xs 231 34 [some (.ref x0), x1] [.int s0] h 0 0 Q := by
  have hk := i_k231
  exact g_ireturn hk rfl (by decide) (by decide) H.1 H.2
theorem b231_44 {x0 : Nat} {x1 : Int32} {h : iH} {Q : Option Value → iH → Prop} (H : (∃ v1 : Int32, i_fld h x0 12 14 = some (.int v1) ∧ ((v1 = (3 : Int32) → (∃ v2 : Int32, i_fld h x0 12 17 = some (.int v2) ∧ (∃ v3 : Nat, i_fld h x0 12 0 = some (.ref v3) ∧ (∃ (n4 : Nat) (f5 : Nat → Int32), i_arI h 0 v3 = some (n4, f5) ∧ ¬ ((2721 : Int32) < 0 ∨ n4 ≤ (2721 : Int32).toNatClampNeg) ∧ ((v2 < (f5 (2721 : Int32).toNatClampNeg) → (∃ v6 : Nat, i_fld h x0 12 0 = some (.ref v6) ∧ (∃ (n7 : Nat) (f8 : Nat → Int32), i_arI h 0 v6 = some (n7, f8) ∧ ¬ ((2720 : Int32) < 0 ∨ n7 ≤ (2720 : Int32).toNatClampNeg) ∧ (∃ v9 : Int32, i_fld h x0 12 17 = some (.int v9) ∧ ((∃ o, i_fld h x0 12 22 = some o) ∧ i_P i_MT i_AT L xs 231 98 [some (.ref x0), some (.int x1)] [] (i_sf h x0 22 (.int (((f8 (2720 : Int32).toNatClampNeg) * v9) + x1))) 0 0 Q))))) ∧ (¬ (v2 < (f5 (2721 : Int32).toNatClampNeg)) → (i_obj? h x0 12 ∧ i_C i_MT i_AT L xs 221 [.ref x0, .int (4 : Int32)] h (fun v h10 => ∃ r11 : Int32, v = some (.int r11) ∧ i_P i_MT i_AT L xs 231 78 [some (.ref x0), some (.int x1)] [.int r11] h10 0 0 Q)))))))) ∧ (¬ (v1 = (3 : Int32)) → (i_obj? h x0 12 ∧ i_C i_MT i_AT L xs 221 [.ref x0, .int (2 : Int32)] h (fun v h12 => ∃ r13 : Int32, v = some (.int r13) ∧ i_P i_MT i_AT L xs 231 57 [some (.ref x0), some (.int x1)] [.int r13] h12 0 0 Q)))))) : i_P i_MT i_AT L xs 231 44 [some (.ref x0), some (.int x1)] [] h 0 0 Q := by
  have hk := i_k231
  refine g_s1 (pc2 := 45) hk rfl rfl rfl rfl rfl ?_
  obtain ⟨v1, ev1, H⟩ := H
  refine g_step (pc2 := 48) hk rfl rfl rfl (s_get ev1) ?_
  refine g_s1 (pc2 := 49) (st2 := [.int (3 : Int32), .int v1]) hk rfl rfl rfl rfl rfl ?_
  refine g_icmp_eq hk rfl (fun hc => ?_) (fun hc => ?_)
  · have H := H.1 hc
    refine g_s1 (pc2 := 59) hk rfl rfl rfl rfl rfl ?_
    obtain ⟨v2, ev2, H⟩ := H
    refine g_step (pc2 := 62) hk rfl rfl rfl (s_get ev2) ?_
    refine g_s1 (pc2 := 63) hk rfl rfl rfl rfl rfl ?_
    obtain ⟨v3, ev3, H⟩ := H
    refine g_step (pc2 := 66) hk rfl rfl rfl (s_get ev3) ?_
    refine g_s1 (pc2 := 69) (st2 := [.int (2721 : Int32), .ref v3, .int v2]) hk rfl rfl rfl rfl rfl ?_
    obtain ⟨n4, f5, ef5, hi, H⟩ := H
    refine g_step (pc2 := 70) hk rfl rfl rfl (s_aget (L := L) (xs := xs) ef5 hi) ?_
    refine g_icmp_lt hk rfl (fun hc => ?_) (fun hc => ?_)
    · have H := H.1 hc
      refine g_s1 (pc2 := 80) hk rfl rfl rfl rfl rfl ?_
      refine g_s1 (pc2 := 81) hk rfl rfl rfl rfl rfl ?_
      obtain ⟨v6, ev6, H⟩ := H
      refine g_step (pc2 := 84) hk rfl rfl rfl (s_get ev6) ?_
      refine g_s1 (pc2 := 87) (st2 := [.int (2720 : Int32), .ref v6, .ref x0]) hk rfl rfl rfl rfl rfl ?_
      obtain ⟨n7, f8, ef8, hi, H⟩ := H
      refine g_step (pc2 := 88) hk rfl rfl rfl (s_aget (L := L) (xs := xs) ef8 hi) ?_
      refine g_s1 (pc2 := 89) hk rfl rfl rfl rfl rfl ?_
      obtain ⟨v9, ev9, H⟩ := H
      refine g_step (pc2 := 92) hk rfl rfl rfl (s_get ev9) ?_
      refine g_s1 (pc2 := 93) hk rfl rfl rfl rfl rfl ?_
      refine g_s1 (pc2 := 94) hk rfl rfl rfl rfl rfl ?_
      refine g_s1 (pc2 := 95) hk rfl rfl rfl rfl rfl ?_
      obtain ⟨⟨o, ho⟩, H⟩ := H
      refine g_step (pc2 := 98) hk rfl rfl rfl (s_put ho rfl) ?_
      exact H
    · have H := H.2 hc
      refine g_s1 (pc2 := 74) hk rfl rfl rfl rfl rfl ?_
      refine g_s1 (pc2 := 75) (st2 := [.int (4 : Int32), .ref x0]) hk rfl rfl rfl rfl rfl ?_
      obtain ⟨ho, H⟩ := H
      refine g_call hk rfl rfl i_k221.1 ⟨rfl, rfl⟩ rfl (i_rcv_v ho rfl (by decide)) rfl ?_
      exact H.mono (fun v h2 q => by obtain ⟨r, rfl, q⟩ := q; exact q)
  · have H := H.2 hc
    refine g_s1 (pc2 := 53) hk rfl rfl rfl rfl rfl ?_
    refine g_s1 (pc2 := 54) (st2 := [.int (2 : Int32), .ref x0]) hk rfl rfl rfl rfl rfl ?_
    obtain ⟨ho, H⟩ := H
    refine g_call hk rfl rfl i_k221.1 ⟨rfl, rfl⟩ rfl (i_rcv_v ho rfl (by decide)) rfl ?_
    exact H.mono (fun v h2 q => by obtain ⟨r, rfl, q⟩ := q; exact q)
theorem b231_57 {x0 : Nat} {x1 : Int32} {s0 : Int32} {h : iH} {Q : Option Value → iH → Prop} (H : (i_ret (some .boolean) s0 = true ∧ Q (some (.int s0)) h)) : i_P i_MT i_AT L xs 231 57 [some (.ref x0), some (.int x1)] [.int s0] h 0 0 Q := by
  have hk := i_k231
  exact g_ireturn hk rfl (by decide) (by decide) H.1 H.2
theorem b231_78 {x0 : Nat} {x1 : Int32} {s0 : Int32} {h : iH} {Q : Option Value → iH → Prop} (H : (i_ret (some .boolean) s0 = true ∧ Q (some (.int s0)) h)) : i_P i_MT i_AT L xs 231 78 [some (.ref x0), some (.int x1)] [.int s0] h 0 0 Q := by
  have hk := i_k231
  exact g_ireturn hk rfl (by decide) (by decide) H.1 H.2
theorem b231_98 {x0 : Nat} {x1 : Int32} {h : iH} {Q : Option Value → iH → Prop} (H : Q (some (.int 1)) h) : i_P i_MT i_AT L xs 231 98 [some (.ref x0), some (.int x1)] [] h 0 0 Q := by
  have hk := i_k231
  refine g_s1 (pc2 := 99) (st2 := [.int (1 : Int32)]) hk rfl rfl rfl rfl rfl ?_
  exact g_ireturn hk rfl (by decide) (by decide) rfl H
/-! StillTownModel.isHeld(I)Z -/
theorem e232 {x0 : Nat} {x1 : Int32} {h : iH} {Q : Option Value → iH → Prop} (H : i_P i_MT i_AT L xs 232 0 [some (.ref x0), some (.int x1), none, none] [] h 0 0 Q) : i_C i_MT i_AT L xs 232 [.ref x0, .int x1] h Q := ⟨i_m232, i_k232.1, Nat.le_of_ble_eq_true rfl, H⟩
theorem b232_0 {x0 : Nat} {x1 : Int32} {x2 : Option Value} {x3 : Option Value} {h : iH} {Q : Option Value → iH → Prop} (H : (∃ v1 : Nat, i_fld h x0 12 0 = some (.ref v1) ∧ (∃ (n2 : Nat) (f3 : Nat → Int32), i_arI h 0 v1 = some (n2, f3) ∧ ¬ (((2778 : Int32) + x1) < 0 ∨ n2 ≤ ((2778 : Int32) + x1).toNatClampNeg) ∧ (((f3 ((2778 : Int32) + x1).toNatClampNeg) = (-1 : Int32) → i_P i_MT i_AT L xs 232 19 [some (.ref x0), some (.int x1), x2, x3] [.int (0 : Int32)] h 0 0 Q) ∧ (¬ ((f3 ((2778 : Int32) + x1).toNatClampNeg) = (-1 : Int32)) → i_P i_MT i_AT L xs 232 19 [some (.ref x0), some (.int x1), x2, x3] [.int (1 : Int32)] h 0 0 Q))))) : i_P i_MT i_AT L xs 232 0 [some (.ref x0), some (.int x1), x2, x3] [] h 0 0 Q := by
  have hk := i_k232
  refine g_s1 (pc2 := 1) hk rfl rfl rfl rfl rfl ?_
  obtain ⟨v1, ev1, H⟩ := H
  refine g_step (pc2 := 4) hk rfl rfl rfl (s_get ev1) ?_
  refine g_s1 (pc2 := 7) (st2 := [.int (2778 : Int32), .ref v1]) hk rfl rfl rfl rfl rfl ?_
  refine g_s1 (pc2 := 8) hk rfl rfl rfl rfl rfl ?_
  refine g_s1 (pc2 := 9) hk rfl rfl rfl rfl rfl ?_
  obtain ⟨n2, f3, ef3, hi, H⟩ := H
  refine g_step (pc2 := 10) hk rfl rfl rfl (s_aget (L := L) (xs := xs) ef3 hi) ?_
  refine g_s1 (pc2 := 11) (st2 := [.int (-1 : Int32), .int (f3 ((2778 : Int32) + x1).toNatClampNeg)]) hk rfl rfl rfl rfl rfl ?_
  refine g_icmp_eq hk rfl (fun hc => ?_) (fun hc => ?_)
  · have H := H.1 hc
    refine g_s1 (pc2 := 19) (st2 := [.int (0 : Int32)]) hk rfl rfl rfl rfl rfl ?_
    exact H
  · have H := H.2 hc
    refine g_s1 (pc2 := 15) (st2 := [.int (1 : Int32)]) hk rfl rfl rfl rfl rfl ?_
    refine g_s1 (pc2 := 19) hk rfl rfl rfl rfl rfl ?_
    exact H
theorem b232_19 {x0 : Nat} {x1 : Int32} {x2 : Option Value} {x3 : Option Value} {s0 : Int32} {h : iH} {Q : Option Value → iH → Prop} (H : i_P i_MT i_AT L xs 232 22 [some (.ref x0), some (.int x1), some (.int s0), some (.int (0 : Int32))] [] h 0 0 Q) : i_P i_MT i_AT L xs 232 19 [some (.ref x0), some (.int x1), x2, x3] [.int s0] h 0 0 Q := by
  have hk := i_k232
  refine g_s1 (pc2 := 20) (lo2 := [some (.ref x0), some (.int x1), some (.int s0), x3]) hk rfl rfl rfl rfl rfl ?_
  refine g_s1 (pc2 := 21) (st2 := [.int (0 : Int32)]) hk rfl rfl rfl rfl rfl ?_
  refine g_s1 (pc2 := 22) (lo2 := [some (.ref x0), some (.int x1), some (.int s0), some (.int (0 : Int32))]) hk rfl rfl rfl rfl rfl ?_
  exact H
theorem b232_22 {x0 : Nat} {x1 : Int32} {x2 : Int32} {x3 : Int32} {h : iH} {Q : Option Value → iH → Prop} (H : (∃ v1 : Nat, i_fld h x0 12 0 = some (.ref v1) ∧ (∃ (n2 : Nat) (f3 : Nat → Int32), i_arI h 0 v1 = some (n2, f3) ∧ ¬ ((2724 : Int32) < 0 ∨ n2 ≤ (2724 : Int32).toNatClampNeg) ∧ (((f3 (2724 : Int32).toNatClampNeg) ≤ x3 → i_P i_MT i_AT L xs 232 66 [some (.ref x0), some (.int x1), some (.int x2), some (.int (0 : Int32))] [] h 0 0 Q) ∧ (¬ ((f3 (2724 : Int32).toNatClampNeg) ≤ x3) → ((¬ x2 = 0 → i_P i_MT i_AT L xs 232 52 [some (.ref x0), some (.int x1), some (.int x2), some (.int x3)] [] h 0 0 Q) ∧ (¬ (¬ x2 = 0) → (∃ v4 : Nat, i_fld h x0 12 0 = some (.ref v4) ∧ (∃ (n5 : Nat) (f6 : Nat → Int32), i_arI h 0 v4 = some (n5, f6) ∧ ¬ (((2826 : Int32) + x3) < 0 ∨ n5 ≤ ((2826 : Int32) + x3).toNatClampNeg) ∧ ((¬ (f6 ((2826 : Int32) + x3).toNatClampNeg) = x1 → i_P i_MT i_AT L xs 232 57 [some (.ref x0), some (.int x1), some (.int x2), some (.int x3)] [.int (0 : Int32)] h 0 0 Q) ∧ (¬ (¬ (f6 ((2826 : Int32) + x3).toNatClampNeg) = x1) → i_P i_MT i_AT L xs 232 52 [some (.ref x0), some (.int x1), some (.int x2), some (.int x3)] [] h 0 0 Q))))))))))) : i_P i_MT i_AT L xs 232 22 [some (.ref x0), some (.int x1), some (.int x2), some (.int x3)] [] h 0 0 Q := by
  have hk := i_k232
  refine g_s1 (pc2 := 23) hk rfl rfl rfl rfl rfl ?_
  refine g_s1 (pc2 := 24) hk rfl rfl rfl rfl rfl ?_
  obtain ⟨v1, ev1, H⟩ := H
  refine g_step (pc2 := 27) hk rfl rfl rfl (s_get ev1) ?_
  refine g_s1 (pc2 := 30) (st2 := [.int (2724 : Int32), .ref v1, .int x3]) hk rfl rfl rfl rfl rfl ?_
  obtain ⟨n2, f3, ef3, hi, H⟩ := H
  refine g_step (pc2 := 31) hk rfl rfl rfl (s_aget (L := L) (xs := xs) ef3 hi) ?_
  refine g_icmp_ge hk rfl (fun hc => ?_) (fun hc => ?_)
  · have H := H.1 hc
    refine g_s1 (pc2 := 65) (st2 := [.int (0 : Int32)]) hk rfl rfl rfl rfl rfl ?_
    refine g_s1 (pc2 := 66) (lo2 := [some (.ref x0), some (.int x1), some (.int x2), some (.int (0 : Int32))]) hk rfl rfl rfl rfl rfl ?_
    exact H
  · have H := H.2 hc
    refine g_s1 (pc2 := 35) hk rfl rfl rfl rfl rfl ?_
    refine g_if_ne hk rfl (fun hc => ?_) (fun hc => ?_)
    · have H := H.1 hc
      exact H
    · have H := H.2 hc
      refine g_s1 (pc2 := 39) hk rfl rfl rfl rfl rfl ?_
      obtain ⟨v4, ev4, H⟩ := H
      refine g_step (pc2 := 42) hk rfl rfl rfl (s_get ev4) ?_
      refine g_s1 (pc2 := 45) (st2 := [.int (2826 : Int32), .ref v4]) hk rfl rfl rfl rfl rfl ?_
      refine g_s1 (pc2 := 46) hk rfl rfl rfl rfl rfl ?_
      refine g_s1 (pc2 := 47) hk rfl rfl rfl rfl rfl ?_
      obtain ⟨n5, f6, ef6, hi, H⟩ := H
      refine g_step (pc2 := 48) hk rfl rfl rfl (s_aget (L := L) (xs := xs) ef6 hi) ?_
      refine g_s1 (pc2 := 49) hk rfl rfl rfl rfl rfl ?_
      refine g_icmp_ne hk rfl (fun hc => ?_) (fun hc => ?_)
      · have H := H.1 hc
        refine g_s1 (pc2 := 57) (st2 := [.int (0 : Int32)]) hk rfl rfl rfl rfl rfl ?_
        exact H
      · have H := H.2 hc
        exact H
theorem b232_52 {x0 : Nat} {x1 : Int32} {x2 : Int32} {x3 : Int32} {h : iH} {Q : Option Value → iH → Prop} (H : i_P i_MT i_AT L xs 232 57 [some (.ref x0), some (.int x1), some (.int x2), some (.int x3)] [.int (1 : Int32)] h 0 0 Q) : i_P i_MT i_AT L xs 232 52 [some (.ref x0), some (.int x1), some (.int x2), some (.int x3)] [] h 0 0 Q := by
  have hk := i_k232
  refine g_s1 (pc2 := 53) (st2 := [.int (1 : Int32)]) hk rfl rfl rfl rfl rfl ?_
  refine g_s1 (pc2 := 57) hk rfl rfl rfl rfl rfl ?_
  exact H
theorem b232_57 {x0 : Nat} {x1 : Int32} {x2 : Int32} {x3 : Int32} {s0 : Int32} {h : iH} {Q : Option Value → iH → Prop} (H : i_P i_MT i_AT L xs 232 22 [some (.ref x0), some (.int x1), some (.int s0), some (.int (x3 + 1))] [] h 0 0 Q) : i_P i_MT i_AT L xs 232 57 [some (.ref x0), some (.int x1), some (.int x2), some (.int x3)] [.int s0] h 0 0 Q := by
  have hk := i_k232
  refine g_s1 (pc2 := 58) (lo2 := [some (.ref x0), some (.int x1), some (.int s0), some (.int x3)]) hk rfl rfl rfl rfl rfl ?_
  refine g_s1 (pc2 := 61) (lo2 := [some (.ref x0), some (.int x1), some (.int s0), some (.int (x3 + 1))]) hk rfl rfl rfl rfl rfl ?_
  refine g_s1 (pc2 := 22) hk rfl rfl rfl rfl rfl ?_
  exact H
theorem b232_66 {x0 : Nat} {x1 : Int32} {x2 : Int32} {x3 : Int32} {h : iH} {Q : Option Value → iH → Prop} (H : (∃ v1 : Nat, i_fld h x0 12 0 = some (.ref v1) ∧ (∃ (n2 : Nat) (f3 : Nat → Int32), i_arI h 0 v1 = some (n2, f3) ∧ ¬ ((2725 : Int32) < 0 ∨ n2 ≤ (2725 : Int32).toNatClampNeg) ∧ (((f3 (2725 : Int32).toNatClampNeg) ≤ x3 → (i_ret (some .boolean) x2 = true ∧ Q (some (.int x2)) h)) ∧ (¬ ((f3 (2725 : Int32).toNatClampNeg) ≤ x3) → ((¬ x2 = 0 → i_P i_MT i_AT L xs 232 98 [some (.ref x0), some (.int x1), some (.int x2), some (.int x3)] [] h 0 0 Q) ∧ (¬ (¬ x2 = 0) → (∃ v4 : Nat, i_fld h x0 12 0 = some (.ref v4) ∧ (∃ (n5 : Nat) (f6 : Nat → Int32), i_arI h 0 v4 = some (n5, f6) ∧ ¬ (((2874 : Int32) + ((5 : Int32) * x3)) < 0 ∨ n5 ≤ ((2874 : Int32) + ((5 : Int32) * x3)).toNatClampNeg) ∧ ((¬ (f6 ((2874 : Int32) + ((5 : Int32) * x3)).toNatClampNeg) = x1 → i_P i_MT i_AT L xs 232 103 [some (.ref x0), some (.int x1), some (.int x2), some (.int x3)] [.int (0 : Int32)] h 0 0 Q) ∧ (¬ (¬ (f6 ((2874 : Int32) + ((5 : Int32) * x3)).toNatClampNeg) = x1) → i_P i_MT i_AT L xs 232 98 [some (.ref x0), some (.int x1), some (.int x2), some (.int x3)] [] h 0 0 Q))))))))))) : i_P i_MT i_AT L xs 232 66 [some (.ref x0), some (.int x1), some (.int x2), some (.int x3)] [] h 0 0 Q := by
  have hk := i_k232
  refine g_s1 (pc2 := 67) hk rfl rfl rfl rfl rfl ?_
  refine g_s1 (pc2 := 68) hk rfl rfl rfl rfl rfl ?_
  obtain ⟨v1, ev1, H⟩ := H
  refine g_step (pc2 := 71) hk rfl rfl rfl (s_get ev1) ?_
  refine g_s1 (pc2 := 74) (st2 := [.int (2725 : Int32), .ref v1, .int x3]) hk rfl rfl rfl rfl rfl ?_
  obtain ⟨n2, f3, ef3, hi, H⟩ := H
  refine g_step (pc2 := 75) hk rfl rfl rfl (s_aget (L := L) (xs := xs) ef3 hi) ?_
  refine g_icmp_ge hk rfl (fun hc => ?_) (fun hc => ?_)
  · have H := H.1 hc
    refine g_s1 (pc2 := 111) hk rfl rfl rfl rfl rfl ?_
    exact g_ireturn hk rfl (by decide) (by decide) H.1 H.2
  · have H := H.2 hc
    refine g_s1 (pc2 := 79) hk rfl rfl rfl rfl rfl ?_
    refine g_if_ne hk rfl (fun hc => ?_) (fun hc => ?_)
    · have H := H.1 hc
      exact H
    · have H := H.2 hc
      refine g_s1 (pc2 := 83) hk rfl rfl rfl rfl rfl ?_
      obtain ⟨v4, ev4, H⟩ := H
      refine g_step (pc2 := 86) hk rfl rfl rfl (s_get ev4) ?_
      refine g_s1 (pc2 := 89) (st2 := [.int (2874 : Int32), .ref v4]) hk rfl rfl rfl rfl rfl ?_
      refine g_s1 (pc2 := 90) (st2 := [.int (5 : Int32), .int (2874 : Int32), .ref v4]) hk rfl rfl rfl rfl rfl ?_
      refine g_s1 (pc2 := 91) hk rfl rfl rfl rfl rfl ?_
      refine g_s1 (pc2 := 92) hk rfl rfl rfl rfl rfl ?_
      refine g_s1 (pc2 := 93) hk rfl rfl rfl rfl rfl ?_
      obtain ⟨n5, f6, ef6, hi, H⟩ := H
      refine g_step (pc2 := 94) hk rfl rfl rfl (s_aget (L := L) (xs := xs) ef6 hi) ?_
      refine g_s1 (pc2 := 95) hk rfl rfl rfl rfl rfl ?_
      refine g_icmp_ne hk rfl (fun hc => ?_) (fun hc => ?_)
      · have H := H.1 hc
        refine g_s1 (pc2 := 103) (st2 := [.int (0 : Int32)]) hk rfl rfl rfl rfl rfl ?_
        exact H
      · have H := H.2 hc
        exact H
theorem b232_98 {x0 : Nat} {x1 : Int32} {x2 : Int32} {x3 : Int32} {h : iH} {Q : Option Value → iH → Prop} (H : i_P i_MT i_AT L xs 232 103 [some (.ref x0), some (.int x1), some (.int x2), some (.int x3)] [.int (1 : Int32)] h 0 0 Q) : i_P i_MT i_AT L xs 232 98 [some (.ref x0), some (.int x1), some (.int x2), some (.int x3)] [] h 0 0 Q := by
  have hk := i_k232
  refine g_s1 (pc2 := 99) (st2 := [.int (1 : Int32)]) hk rfl rfl rfl rfl rfl ?_
  refine g_s1 (pc2 := 103) hk rfl rfl rfl rfl rfl ?_
  exact H
theorem b232_103 {x0 : Nat} {x1 : Int32} {x2 : Int32} {x3 : Int32} {s0 : Int32} {h : iH} {Q : Option Value → iH → Prop} (H : i_P i_MT i_AT L xs 232 66 [some (.ref x0), some (.int x1), some (.int s0), some (.int (x3 + 1))] [] h 0 0 Q) : i_P i_MT i_AT L xs 232 103 [some (.ref x0), some (.int x1), some (.int x2), some (.int x3)] [.int s0] h 0 0 Q := by
  have hk := i_k232
  refine g_s1 (pc2 := 104) (lo2 := [some (.ref x0), some (.int x1), some (.int s0), some (.int x3)]) hk rfl rfl rfl rfl rfl ?_
  refine g_s1 (pc2 := 107) (lo2 := [some (.ref x0), some (.int x1), some (.int s0), some (.int (x3 + 1))]) hk rfl rfl rfl rfl rfl ?_
  refine g_s1 (pc2 := 66) hk rfl rfl rfl rfl rfl ?_
  exact H
/-! StillTownModel.aWall()Z -/
theorem e233 {x0 : Nat} {h : iH} {Q : Option Value → iH → Prop} (H : i_P i_MT i_AT L xs 233 0 [some (.ref x0), none, none, none, none, none] [] h 0 0 Q) : i_C i_MT i_AT L xs 233 [.ref x0] h Q := ⟨i_m233, i_k233.1, Nat.le_of_ble_eq_true rfl, H⟩
theorem b233_0 {x0 : Nat} {x1 : Option Value} {x2 : Option Value} {x3 : Option Value} {x4 : Option Value} {x5 : Option Value} {h : iH} {Q : Option Value → iH → Prop} (H : (i_obj? h x0 12 ∧ i_C i_MT i_AT L xs 218 [.ref x0] h (fun v h1 => v = none ∧ i_P i_MT i_AT L xs 233 4 [some (.ref x0), x1, x2, x3, x4, x5] [] h1 0 0 Q))) : i_P i_MT i_AT L xs 233 0 [some (.ref x0), x1, x2, x3, x4, x5] [] h 0 0 Q := by
  have hk := i_k233
  refine g_s1 (pc2 := 1) hk rfl rfl rfl rfl rfl ?_
  obtain ⟨ho, H⟩ := H
  refine g_call hk rfl rfl i_k218.1 ⟨rfl, rfl⟩ rfl (i_rcv_v ho rfl (by decide)) rfl ?_
  exact H.mono (fun v h2 q => by obtain ⟨rfl, q⟩ := q; exact q)
theorem b233_4 {x0 : Nat} {x1 : Option Value} {x2 : Option Value} {x3 : Option Value} {x4 : Option Value} {x5 : Option Value} {h : iH} {Q : Option Value → iH → Prop} (H : (i_obj? h x0 12 ∧ i_C i_MT i_AT L xs 231 [.ref x0] h (fun v h1 => ∃ r2 : Int32, v = some (.int r2) ∧ i_P i_MT i_AT L xs 233 8 [some (.ref x0), x1, x2, x3, x4, x5] [.int r2] h1 0 0 Q))) : i_P i_MT i_AT L xs 233 4 [some (.ref x0), x1, x2, x3, x4, x5] [] h 0 0 Q := by
  have hk := i_k233
  refine g_s1 (pc2 := 5) hk rfl rfl rfl rfl rfl ?_
  obtain ⟨ho, H⟩ := H
  refine g_call hk rfl rfl i_k231.1 ⟨rfl, rfl⟩ rfl (i_rcv_v ho rfl (by decide)) rfl ?_
  exact H.mono (fun v h2 q => by obtain ⟨r, rfl, q⟩ := q; exact q)
theorem b233_8 {x0 : Nat} {x1 : Option Value} {x2 : Option Value} {x3 : Option Value} {x4 : Option Value} {x5 : Option Value} {s0 : Int32} {h : iH} {Q : Option Value → iH → Prop} (H : ((¬ s0 = 0 → (∃ v1 : Int32, i_fld h x0 12 22 = some (.int v1) ∧ (i_obj? h x0 12 ∧ i_C i_MT i_AT L xs 218 [.ref x0] h (fun v h2 => v = none ∧ i_P i_MT i_AT L xs 233 22 [some (.ref x0), some (.int v1), x2, x3, x4, x5] [] h2 0 0 Q)))) ∧ (¬ (¬ s0 = 0) → Q (some (.int 0)) h))) : i_P i_MT i_AT L xs 233 8 [some (.ref x0), x1, x2, x3, x4, x5] [.int s0] h 0 0 Q := by
  have hk := i_k233
  refine g_if_ne hk rfl (fun hc => ?_) (fun hc => ?_)
  · have H := H.1 hc
    refine g_s1 (pc2 := 14) hk rfl rfl rfl rfl rfl ?_
    obtain ⟨v1, ev1, H⟩ := H
    refine g_step (pc2 := 17) hk rfl rfl rfl (s_get ev1) ?_
    refine g_s1 (pc2 := 18) (lo2 := [some (.ref x0), some (.int v1), x2, x3, x4, x5]) hk rfl rfl rfl rfl rfl ?_
    refine g_s1 (pc2 := 19) hk rfl rfl rfl rfl rfl ?_
    obtain ⟨ho, H⟩ := H
    refine g_call hk rfl rfl i_k218.1 ⟨rfl, rfl⟩ rfl (i_rcv_v ho rfl (by decide)) rfl ?_
    exact H.mono (fun v h2 q => by obtain ⟨rfl, q⟩ := q; exact q)
  · have H := H.2 hc
    refine g_s1 (pc2 := 12) (st2 := [.int (0 : Int32)]) hk rfl rfl rfl rfl rfl ?_
    exact g_ireturn hk rfl (by decide) (by decide) rfl H
theorem b233_22 {x0 : Nat} {x1 : Int32} {x2 : Option Value} {x3 : Option Value} {x4 : Option Value} {x5 : Option Value} {h : iH} {Q : Option Value → iH → Prop} (H : (i_obj? h x0 12 ∧ i_C i_MT i_AT L xs 224 [.ref x0, .retAddr 7, .int (17 : Int32)] h (fun v h1 => ∃ r2 : Int32, v = some (.int r2) ∧ i_P i_MT i_AT L xs 233 30 [some (.ref x0), some (.int x1), x2, x3, x4, x5] [.int r2] h1 0 0 Q))) : i_P i_MT i_AT L xs 233 22 [some (.ref x0), some (.int x1), x2, x3, x4, x5] [] h 0 0 Q := by
  have hk := i_k233
  refine g_s1 (pc2 := 23) hk rfl rfl rfl rfl rfl ?_
  refine g_step (pc2 := 25) (st2 := [.retAddr 7, .ref x0]) hk rfl rfl rfl rfl ?_
  refine g_s1 (pc2 := 27) (st2 := [.int (17 : Int32), .retAddr 7, .ref x0]) hk rfl rfl rfl rfl rfl ?_
  obtain ⟨ho, H⟩ := H
  refine g_call hk rfl rfl i_k224.1 ⟨rfl, rfl⟩ rfl (i_rcv_v ho rfl (by decide)) rfl ?_
  exact H.mono (fun v h2 q => by obtain ⟨r, rfl, q⟩ := q; exact q)
theorem b233_30 {x0 : Nat} {x1 : Int32} {x2 : Option Value} {x3 : Option Value} {x4 : Option Value} {x5 : Option Value} {s0 : Int32} {h : iH} {Q : Option Value → iH → Prop} (H : ((¬ s0 = 0 → (∃ v1 : Nat, i_fld h x0 12 0 = some (.ref v1) ∧ (∃ (n2 : Nat) (f3 : Nat → Int32), i_arI h 0 v1 = some (n2, f3) ∧ ¬ ((2720 : Int32) < 0 ∨ n2 ≤ (2720 : Int32).toNatClampNeg) ∧ (∃ v4 : Int32, i_fld h x0 12 14 = some (.int v4) ∧ ((v4 = (3 : Int32) → (∃ v5 : Int32, i_fld h x0 12 17 = some (.int v5) ∧ (¬ (f3 (2720 : Int32).toNatClampNeg) = 0 ∧ ((v5 < (x1 - x1 / (f3 (2720 : Int32).toNatClampNeg) * (f3 (2720 : Int32).toNatClampNeg)) → i_P i_MT i_AT L xs 233 76 [some (.ref x0), some (.int x1), some (.int (f3 (2720 : Int32).toNatClampNeg)), x3, x4, x5] [] h 0 0 Q) ∧ (¬ (v5 < (x1 - x1 / (f3 (2720 : Int32).toNatClampNeg) * (f3 (2720 : Int32).toNatClampNeg))) → (∃ v6 : Int32, i_fld h x0 12 17 = some (.int v6) ∧ ((v6 < (f3 (2720 : Int32).toNatClampNeg) → (∃ v7 : Int32, i_fld h x0 12 17 = some (.int v7) ∧ (i_obj? h x0 12 ∧ i_C i_MT i_AT L xs 218 [.ref x0] h (fun v h8 => v = none ∧ i_P i_MT i_AT L xs 233 91 [some (.ref x0), some (.int x1), some (.int (f3 (2720 : Int32).toNatClampNeg)), some (.int v7), x4, x5] [] h8 0 0 Q)))) ∧ (¬ (v6 < (f3 (2720 : Int32).toNatClampNeg)) → i_P i_MT i_AT L xs 233 76 [some (.ref x0), some (.int x1), some (.int (f3 (2720 : Int32).toNatClampNeg)), x3, x4, x5] [] h 0 0 Q)))))))) ∧ (¬ (v4 = (3 : Int32)) → (i_obj? h x0 12 ∧ i_C i_MT i_AT L xs 221 [.ref x0, .int (2 : Int32)] h (fun v h10 => ∃ r11 : Int32, v = some (.int r11) ∧ i_P i_MT i_AT L xs 233 57 [some (.ref x0), some (.int x1), some (.int (f3 (2720 : Int32).toNatClampNeg)), x3, x4, x5] [.int r11] h10 0 0 Q)))))))) ∧ (¬ (¬ s0 = 0) → Q (some (.int 0)) h))) : i_P i_MT i_AT L xs 233 30 [some (.ref x0), some (.int x1), x2, x3, x4, x5] [.int s0] h 0 0 Q := by
  have hk := i_k233
  refine g_if_ne hk rfl (fun hc => ?_) (fun hc => ?_)
  · have H := H.1 hc
    refine g_s1 (pc2 := 36) hk rfl rfl rfl rfl rfl ?_
    obtain ⟨v1, ev1, H⟩ := H
    refine g_step (pc2 := 39) hk rfl rfl rfl (s_get ev1) ?_
    refine g_s1 (pc2 := 42) (st2 := [.int (2720 : Int32), .ref v1]) hk rfl rfl rfl rfl rfl ?_
    obtain ⟨n2, f3, ef3, hi, H⟩ := H
    refine g_step (pc2 := 43) hk rfl rfl rfl (s_aget (L := L) (xs := xs) ef3 hi) ?_
    refine g_s1 (pc2 := 44) (lo2 := [some (.ref x0), some (.int x1), some (.int (f3 (2720 : Int32).toNatClampNeg)), x3, x4, x5]) hk rfl rfl rfl rfl rfl ?_
    refine g_s1 (pc2 := 45) hk rfl rfl rfl rfl rfl ?_
    obtain ⟨v4, ev4, H⟩ := H
    refine g_step (pc2 := 48) hk rfl rfl rfl (s_get ev4) ?_
    refine g_s1 (pc2 := 49) (st2 := [.int (3 : Int32), .int v4]) hk rfl rfl rfl rfl rfl ?_
    refine g_icmp_eq hk rfl (fun hc => ?_) (fun hc => ?_)
    · have H := H.1 hc
      refine g_s1 (pc2 := 59) hk rfl rfl rfl rfl rfl ?_
      obtain ⟨v5, ev5, H⟩ := H
      refine g_step (pc2 := 62) hk rfl rfl rfl (s_get ev5) ?_
      refine g_s1 (pc2 := 63) hk rfl rfl rfl rfl rfl ?_
      refine g_s1 (pc2 := 64) hk rfl rfl rfl rfl rfl ?_
      obtain ⟨hz, H⟩ := H
      refine g_s1 (pc2 := 65) hk rfl rfl rfl rfl (s_if hz) ?_
      refine g_icmp_lt hk rfl (fun hc => ?_) (fun hc => ?_)
      · have H := H.1 hc
        exact H
      · have H := H.2 hc
        refine g_s1 (pc2 := 69) hk rfl rfl rfl rfl rfl ?_
        obtain ⟨v6, ev6, H⟩ := H
        refine g_step (pc2 := 72) hk rfl rfl rfl (s_get ev6) ?_
        refine g_s1 (pc2 := 73) hk rfl rfl rfl rfl rfl ?_
        refine g_icmp_lt hk rfl (fun hc => ?_) (fun hc => ?_)
        · have H := H.1 hc
          refine g_s1 (pc2 := 83) hk rfl rfl rfl rfl rfl ?_
          obtain ⟨v7, ev7, H⟩ := H
          refine g_step (pc2 := 86) hk rfl rfl rfl (s_get ev7) ?_
          refine g_s1 (pc2 := 87) (lo2 := [some (.ref x0), some (.int x1), some (.int (f3 (2720 : Int32).toNatClampNeg)), some (.int v7), x4, x5]) hk rfl rfl rfl rfl rfl ?_
          refine g_s1 (pc2 := 88) hk rfl rfl rfl rfl rfl ?_
          obtain ⟨ho, H⟩ := H
          refine g_call hk rfl rfl i_k218.1 ⟨rfl, rfl⟩ rfl (i_rcv_v ho rfl (by decide)) rfl ?_
          exact H.mono (fun v h2 q => by obtain ⟨rfl, q⟩ := q; exact q)
        · have H := H.2 hc
          exact H
    · have H := H.2 hc
      refine g_s1 (pc2 := 53) hk rfl rfl rfl rfl rfl ?_
      refine g_s1 (pc2 := 54) (st2 := [.int (2 : Int32), .ref x0]) hk rfl rfl rfl rfl rfl ?_
      obtain ⟨ho, H⟩ := H
      refine g_call hk rfl rfl i_k221.1 ⟨rfl, rfl⟩ rfl (i_rcv_v ho rfl (by decide)) rfl ?_
      exact H.mono (fun v h2 q => by obtain ⟨r, rfl, q⟩ := q; exact q)
  · have H := H.2 hc
    refine g_s1 (pc2 := 34) (st2 := [.int (0 : Int32)]) hk rfl rfl rfl rfl rfl ?_
    exact g_ireturn hk rfl (by decide) (by decide) rfl H
theorem b233_57 {x0 : Nat} {x1 : Int32} {x2 : Int32} {x3 : Option Value} {x4 : Option Value} {x5 : Option Value} {s0 : Int32} {h : iH} {Q : Option Value → iH → Prop} (H : (i_ret (some .boolean) s0 = true ∧ Q (some (.int s0)) h)) : i_P i_MT i_AT L xs 233 57 [some (.ref x0), some (.int x1), some (.int x2), x3, x4, x5] [.int s0] h 0 0 Q := by
  have hk := i_k233
  exact g_ireturn hk rfl (by decide) (by decide) H.1 H.2
theorem b233_76 {x0 : Nat} {x1 : Int32} {x2 : Int32} {x3 : Option Value} {x4 : Option Value} {x5 : Option Value} {h : iH} {Q : Option Value → iH → Prop} (H : (i_obj? h x0 12 ∧ i_C i_MT i_AT L xs 221 [.ref x0, .int (4 : Int32)] h (fun v h1 => ∃ r2 : Int32, v = some (.int r2) ∧ i_P i_MT i_AT L xs 233 81 [some (.ref x0), some (.int x1), some (.int x2), x3, x4, x5] [.int r2] h1 0 0 Q))) : i_P i_MT i_AT L xs 233 76 [some (.ref x0), some (.int x1), some (.int x2), x3, x4, x5] [] h 0 0 Q := by
  have hk := i_k233
  refine g_s1 (pc2 := 77) hk rfl rfl rfl rfl rfl ?_
  refine g_s1 (pc2 := 78) (st2 := [.int (4 : Int32), .ref x0]) hk rfl rfl rfl rfl rfl ?_
  obtain ⟨ho, H⟩ := H
  refine g_call hk rfl rfl i_k221.1 ⟨rfl, rfl⟩ rfl (i_rcv_v ho rfl (by decide)) rfl ?_
  exact H.mono (fun v h2 q => by obtain ⟨r, rfl, q⟩ := q; exact q)
theorem b233_81 {x0 : Nat} {x1 : Int32} {x2 : Int32} {x3 : Option Value} {x4 : Option Value} {x5 : Option Value} {s0 : Int32} {h : iH} {Q : Option Value → iH → Prop} (H : (i_ret (some .boolean) s0 = true ∧ Q (some (.int s0)) h)) : i_P i_MT i_AT L xs 233 81 [some (.ref x0), some (.int x1), some (.int x2), x3, x4, x5] [.int s0] h 0 0 Q := by
  have hk := i_k233
  exact g_ireturn hk rfl (by decide) (by decide) H.1 H.2
theorem b233_91 {x0 : Nat} {x1 : Int32} {x2 : Int32} {x3 : Int32} {x4 : Option Value} {x5 : Option Value} {h : iH} {Q : Option Value → iH → Prop} (H : (∃ v1 : Int32, i_fld h x0 12 14 = some (.int v1) ∧ ((v1 = (3 : Int32) → (∃ v2 : Int32, i_fld h x0 12 17 = some (.int v2) ∧ (¬ x2 = 0 ∧ ((v2 < (x1 / x2) → i_P i_MT i_AT L xs 233 130 [some (.ref x0), some (.int x1), some (.int x2), some (.int x3), x4, x5] [] h 0 0 Q) ∧ (¬ (v2 < (x1 / x2)) → (∃ v3 : Int32, i_fld h x0 12 17 = some (.int v3) ∧ (∃ v4 : Nat, i_fld h x0 12 0 = some (.ref v4) ∧ (∃ (n5 : Nat) (f6 : Nat → Int32), i_arI h 0 v4 = some (n5, f6) ∧ ¬ ((2721 : Int32) < 0 ∨ n5 ≤ (2721 : Int32).toNatClampNeg) ∧ ((v3 < (f6 (2721 : Int32).toNatClampNeg) → (∃ v7 : Int32, i_fld h x0 12 17 = some (.int v7) ∧ i_P i_MT i_AT L xs 233 149 [some (.ref x0), some (.int x1), some (.int x2), some (.int x3), some (.int ((x2 * v7) + x3)), some (.int (0 : Int32))] [] h 0 0 Q)) ∧ (¬ (v3 < (f6 (2721 : Int32).toNatClampNeg)) → i_P i_MT i_AT L xs 233 130 [some (.ref x0), some (.int x1), some (.int x2), some (.int x3), x4, x5] [] h 0 0 Q)))))))))) ∧ (¬ (v1 = (3 : Int32)) → (i_obj? h x0 12 ∧ i_C i_MT i_AT L xs 221 [.ref x0, .int (2 : Int32)] h (fun v h8 => ∃ r9 : Int32, v = some (.int r9) ∧ i_P i_MT i_AT L xs 233 104 [some (.ref x0), some (.int x1), some (.int x2), some (.int x3), x4, x5] [.int r9] h8 0 0 Q)))))) : i_P i_MT i_AT L xs 233 91 [some (.ref x0), some (.int x1), some (.int x2), some (.int x3), x4, x5] [] h 0 0 Q := by
  have hk := i_k233
  refine g_s1 (pc2 := 92) hk rfl rfl rfl rfl rfl ?_
  obtain ⟨v1, ev1, H⟩ := H
  refine g_step (pc2 := 95) hk rfl rfl rfl (s_get ev1) ?_
  refine g_s1 (pc2 := 96) (st2 := [.int (3 : Int32), .int v1]) hk rfl rfl rfl rfl rfl ?_
  refine g_icmp_eq hk rfl (fun hc => ?_) (fun hc => ?_)
  · have H := H.1 hc
    refine g_s1 (pc2 := 106) hk rfl rfl rfl rfl rfl ?_
    obtain ⟨v2, ev2, H⟩ := H
    refine g_step (pc2 := 109) hk rfl rfl rfl (s_get ev2) ?_
    refine g_s1 (pc2 := 110) hk rfl rfl rfl rfl rfl ?_
    refine g_s1 (pc2 := 111) hk rfl rfl rfl rfl rfl ?_
    obtain ⟨hz, H⟩ := H
    refine g_s1 (pc2 := 112) hk rfl rfl rfl rfl (s_if hz) ?_
    refine g_icmp_lt hk rfl (fun hc => ?_) (fun hc => ?_)
    · have H := H.1 hc
      exact H
    · have H := H.2 hc
      refine g_s1 (pc2 := 116) hk rfl rfl rfl rfl rfl ?_
      obtain ⟨v3, ev3, H⟩ := H
      refine g_step (pc2 := 119) hk rfl rfl rfl (s_get ev3) ?_
      refine g_s1 (pc2 := 120) hk rfl rfl rfl rfl rfl ?_
      obtain ⟨v4, ev4, H⟩ := H
      refine g_step (pc2 := 123) hk rfl rfl rfl (s_get ev4) ?_
      refine g_s1 (pc2 := 126) (st2 := [.int (2721 : Int32), .ref v4, .int v3]) hk rfl rfl rfl rfl rfl ?_
      obtain ⟨n5, f6, ef6, hi, H⟩ := H
      refine g_step (pc2 := 127) hk rfl rfl rfl (s_aget (L := L) (xs := xs) ef6 hi) ?_
      refine g_icmp_lt hk rfl (fun hc => ?_) (fun hc => ?_)
      · have H := H.1 hc
        refine g_s1 (pc2 := 137) hk rfl rfl rfl rfl rfl ?_
        refine g_s1 (pc2 := 138) hk rfl rfl rfl rfl rfl ?_
        obtain ⟨v7, ev7, H⟩ := H
        refine g_step (pc2 := 141) hk rfl rfl rfl (s_get ev7) ?_
        refine g_s1 (pc2 := 142) hk rfl rfl rfl rfl rfl ?_
        refine g_s1 (pc2 := 143) hk rfl rfl rfl rfl rfl ?_
        refine g_s1 (pc2 := 144) hk rfl rfl rfl rfl rfl ?_
        refine g_s1 (pc2 := 146) (lo2 := [some (.ref x0), some (.int x1), some (.int x2), some (.int x3), some (.int ((x2 * v7) + x3)), x5]) hk rfl rfl rfl rfl rfl ?_
        refine g_s1 (pc2 := 147) (st2 := [.int (0 : Int32)]) hk rfl rfl rfl rfl rfl ?_
        refine g_s1 (pc2 := 149) (lo2 := [some (.ref x0), some (.int x1), some (.int x2), some (.int x3), some (.int ((x2 * v7) + x3)), some (.int (0 : Int32))]) hk rfl rfl rfl rfl rfl ?_
        exact H
      · have H := H.2 hc
        exact H
  · have H := H.2 hc
    refine g_s1 (pc2 := 100) hk rfl rfl rfl rfl rfl ?_
    refine g_s1 (pc2 := 101) (st2 := [.int (2 : Int32), .ref x0]) hk rfl rfl rfl rfl rfl ?_
    obtain ⟨ho, H⟩ := H
    refine g_call hk rfl rfl i_k221.1 ⟨rfl, rfl⟩ rfl (i_rcv_v ho rfl (by decide)) rfl ?_
    exact H.mono (fun v h2 q => by obtain ⟨r, rfl, q⟩ := q; exact q)
theorem b233_104 {x0 : Nat} {x1 : Int32} {x2 : Int32} {x3 : Int32} {x4 : Option Value} {x5 : Option Value} {s0 : Int32} {h : iH} {Q : Option Value → iH → Prop} (H : (i_ret (some .boolean) s0 = true ∧ Q (some (.int s0)) h)) : i_P i_MT i_AT L xs 233 104 [some (.ref x0), some (.int x1), some (.int x2), some (.int x3), x4, x5] [.int s0] h 0 0 Q := by
  have hk := i_k233
  exact g_ireturn hk rfl (by decide) (by decide) H.1 H.2
theorem b233_130 {x0 : Nat} {x1 : Int32} {x2 : Int32} {x3 : Int32} {x4 : Option Value} {x5 : Option Value} {h : iH} {Q : Option Value → iH → Prop} (H : (i_obj? h x0 12 ∧ i_C i_MT i_AT L xs 221 [.ref x0, .int (4 : Int32)] h (fun v h1 => ∃ r2 : Int32, v = some (.int r2) ∧ i_P i_MT i_AT L xs 233 135 [some (.ref x0), some (.int x1), some (.int x2), some (.int x3), x4, x5] [.int r2] h1 0 0 Q))) : i_P i_MT i_AT L xs 233 130 [some (.ref x0), some (.int x1), some (.int x2), some (.int x3), x4, x5] [] h 0 0 Q := by
  have hk := i_k233
  refine g_s1 (pc2 := 131) hk rfl rfl rfl rfl rfl ?_
  refine g_s1 (pc2 := 132) (st2 := [.int (4 : Int32), .ref x0]) hk rfl rfl rfl rfl rfl ?_
  obtain ⟨ho, H⟩ := H
  refine g_call hk rfl rfl i_k221.1 ⟨rfl, rfl⟩ rfl (i_rcv_v ho rfl (by decide)) rfl ?_
  exact H.mono (fun v h2 q => by obtain ⟨r, rfl, q⟩ := q; exact q)
theorem b233_135 {x0 : Nat} {x1 : Int32} {x2 : Int32} {x3 : Int32} {x4 : Option Value} {x5 : Option Value} {s0 : Int32} {h : iH} {Q : Option Value → iH → Prop} (H : (i_ret (some .boolean) s0 = true ∧ Q (some (.int s0)) h)) : i_P i_MT i_AT L xs 233 135 [some (.ref x0), some (.int x1), some (.int x2), some (.int x3), x4, x5] [.int s0] h 0 0 Q := by
  have hk := i_k233
  exact g_ireturn hk rfl (by decide) (by decide) H.1 H.2
theorem b233_149 {x0 : Nat} {x1 : Int32} {x2 : Int32} {x3 : Int32} {x4 : Int32} {x5 : Int32} {h : iH} {Q : Option Value → iH → Prop} (H : (∃ v1 : Nat, i_fld h x0 12 0 = some (.ref v1) ∧ (∃ (n2 : Nat) (f3 : Nat → Int32), i_arI h 0 v1 = some (n2, f3) ∧ ¬ ((2721 : Int32) < 0 ∨ n2 ≤ (2721 : Int32).toNatClampNeg) ∧ (((x2 * (f3 (2721 : Int32).toNatClampNeg)) ≤ x5 → i_P i_MT i_AT L xs 233 200 [some (.ref x0), some (.int x1), some (.int x2), some (.int x3), some (.int x4), some (.int (0 : Int32))] [] h 0 0 Q) ∧ (¬ ((x2 * (f3 (2721 : Int32).toNatClampNeg)) ≤ x5) → (i_C i_MT i_AT L xs 234 [.int x5, .int x1, .int x4, .int x2] h (fun v h4 => ∃ r5 : Int32, v = some (.int r5) ∧ i_P i_MT i_AT L xs 233 173 [some (.ref x0), some (.int x1), some (.int x2), some (.int x3), some (.int x4), some (.int x5)] [.int r5] h4 0 0 Q))))))) : i_P i_MT i_AT L xs 233 149 [some (.ref x0), some (.int x1), some (.int x2), some (.int x3), some (.int x4), some (.int x5)] [] h 0 0 Q := by
  have hk := i_k233
  refine g_s1 (pc2 := 151) hk rfl rfl rfl rfl rfl ?_
  refine g_s1 (pc2 := 152) hk rfl rfl rfl rfl rfl ?_
  refine g_s1 (pc2 := 153) hk rfl rfl rfl rfl rfl ?_
  obtain ⟨v1, ev1, H⟩ := H
  refine g_step (pc2 := 156) hk rfl rfl rfl (s_get ev1) ?_
  refine g_s1 (pc2 := 159) (st2 := [.int (2721 : Int32), .ref v1, .int x2, .int x5]) hk rfl rfl rfl rfl rfl ?_
  obtain ⟨n2, f3, ef3, hi, H⟩ := H
  refine g_step (pc2 := 160) hk rfl rfl rfl (s_aget (L := L) (xs := xs) ef3 hi) ?_
  refine g_s1 (pc2 := 161) hk rfl rfl rfl rfl rfl ?_
  refine g_icmp_ge hk rfl (fun hc => ?_) (fun hc => ?_)
  · have H := H.1 hc
    refine g_s1 (pc2 := 198) (st2 := [.int (0 : Int32)]) hk rfl rfl rfl rfl rfl ?_
    refine g_s1 (pc2 := 200) (lo2 := [some (.ref x0), some (.int x1), some (.int x2), some (.int x3), some (.int x4), some (.int (0 : Int32))]) hk rfl rfl rfl rfl rfl ?_
    exact H
  · have H := H.2 hc
    refine g_s1 (pc2 := 166) hk rfl rfl rfl rfl rfl ?_
    refine g_s1 (pc2 := 167) hk rfl rfl rfl rfl rfl ?_
    refine g_s1 (pc2 := 169) hk rfl rfl rfl rfl rfl ?_
    refine g_s1 (pc2 := 170) hk rfl rfl rfl rfl rfl ?_
    refine g_call hk rfl rfl i_k234.1 ⟨rfl, rfl⟩ rfl (i_rcv_0 rfl) rfl ?_
    exact H.mono (fun v h2 q => by obtain ⟨r, rfl, q⟩ := q; exact q)
theorem b233_173 {x0 : Nat} {x1 : Int32} {x2 : Int32} {x3 : Int32} {x4 : Int32} {x5 : Int32} {s0 : Int32} {h : iH} {Q : Option Value → iH → Prop} (H : ((s0 = 0 → i_P i_MT i_AT L xs 233 191 [some (.ref x0), some (.int x1), some (.int x2), some (.int x3), some (.int x4), some (.int x5)] [] h 0 0 Q) ∧ (¬ (s0 = 0) → (i_obj? h x0 12 ∧ i_C i_MT i_AT L xs 232 [.ref x0, .int x5] h (fun v h1 => ∃ r2 : Int32, v = some (.int r2) ∧ i_P i_MT i_AT L xs 233 182 [some (.ref x0), some (.int x1), some (.int x2), some (.int x3), some (.int x4), some (.int x5)] [.int r2] h1 0 0 Q))))) : i_P i_MT i_AT L xs 233 173 [some (.ref x0), some (.int x1), some (.int x2), some (.int x3), some (.int x4), some (.int x5)] [.int s0] h 0 0 Q := by
  have hk := i_k233
  refine g_if_eq hk rfl (fun hc => ?_) (fun hc => ?_)
  · have H := H.1 hc
    exact H
  · have H := H.2 hc
    refine g_s1 (pc2 := 177) hk rfl rfl rfl rfl rfl ?_
    refine g_s1 (pc2 := 179) hk rfl rfl rfl rfl rfl ?_
    obtain ⟨ho, H⟩ := H
    refine g_call hk rfl rfl i_k232.1 ⟨rfl, rfl⟩ rfl (i_rcv_v ho rfl (by decide)) rfl ?_
    exact H.mono (fun v h2 q => by obtain ⟨r, rfl, q⟩ := q; exact q)
theorem b233_182 {x0 : Nat} {x1 : Int32} {x2 : Int32} {x3 : Int32} {x4 : Int32} {x5 : Int32} {s0 : Int32} {h : iH} {Q : Option Value → iH → Prop} (H : ((s0 = 0 → i_P i_MT i_AT L xs 233 191 [some (.ref x0), some (.int x1), some (.int x2), some (.int x3), some (.int x4), some (.int x5)] [] h 0 0 Q) ∧ (¬ (s0 = 0) → (i_obj? h x0 12 ∧ i_C i_MT i_AT L xs 221 [.ref x0, .int (5 : Int32)] h (fun v h1 => ∃ r2 : Int32, v = some (.int r2) ∧ i_P i_MT i_AT L xs 233 190 [some (.ref x0), some (.int x1), some (.int x2), some (.int x3), some (.int x4), some (.int x5)] [.int r2] h1 0 0 Q))))) : i_P i_MT i_AT L xs 233 182 [some (.ref x0), some (.int x1), some (.int x2), some (.int x3), some (.int x4), some (.int x5)] [.int s0] h 0 0 Q := by
  have hk := i_k233
  refine g_if_eq hk rfl (fun hc => ?_) (fun hc => ?_)
  · have H := H.1 hc
    exact H
  · have H := H.2 hc
    refine g_s1 (pc2 := 186) hk rfl rfl rfl rfl rfl ?_
    refine g_s1 (pc2 := 187) (st2 := [.int (5 : Int32), .ref x0]) hk rfl rfl rfl rfl rfl ?_
    obtain ⟨ho, H⟩ := H
    refine g_call hk rfl rfl i_k221.1 ⟨rfl, rfl⟩ rfl (i_rcv_v ho rfl (by decide)) rfl ?_
    exact H.mono (fun v h2 q => by obtain ⟨r, rfl, q⟩ := q; exact q)
theorem b233_190 {x0 : Nat} {x1 : Int32} {x2 : Int32} {x3 : Int32} {x4 : Int32} {x5 : Int32} {s0 : Int32} {h : iH} {Q : Option Value → iH → Prop} (H : (i_ret (some .boolean) s0 = true ∧ Q (some (.int s0)) h)) : i_P i_MT i_AT L xs 233 190 [some (.ref x0), some (.int x1), some (.int x2), some (.int x3), some (.int x4), some (.int x5)] [.int s0] h 0 0 Q := by
  have hk := i_k233
  exact g_ireturn hk rfl (by decide) (by decide) H.1 H.2
theorem b233_191 {x0 : Nat} {x1 : Int32} {x2 : Int32} {x3 : Int32} {x4 : Int32} {x5 : Int32} {h : iH} {Q : Option Value → iH → Prop} (H : i_P i_MT i_AT L xs 233 149 [some (.ref x0), some (.int x1), some (.int x2), some (.int x3), some (.int x4), some (.int (x5 + 1))] [] h 0 0 Q) : i_P i_MT i_AT L xs 233 191 [some (.ref x0), some (.int x1), some (.int x2), some (.int x3), some (.int x4), some (.int x5)] [] h 0 0 Q := by
  have hk := i_k233
  refine g_s1 (pc2 := 194) (lo2 := [some (.ref x0), some (.int x1), some (.int x2), some (.int x3), some (.int x4), some (.int (x5 + 1))]) hk rfl rfl rfl rfl rfl ?_
  refine g_s1 (pc2 := 149) hk rfl rfl rfl rfl rfl ?_
  exact H
theorem b233_200 {x0 : Nat} {x1 : Int32} {x2 : Int32} {x3 : Int32} {x4 : Int32} {x5 : Int32} {h : iH} {Q : Option Value → iH → Prop} (H : (∃ v1 : Nat, i_fld h x0 12 0 = some (.ref v1) ∧ (∃ (n2 : Nat) (f3 : Nat → Int32), i_arI h 0 v1 = some (n2, f3) ∧ ¬ ((2721 : Int32) < 0 ∨ n2 ≤ (2721 : Int32).toNatClampNeg) ∧ (((x2 * (f3 (2721 : Int32).toNatClampNeg)) ≤ x5 → (i_obj? h x0 12 ∧ i_C i_MT i_AT L xs 218 [.ref x0] h (fun v h4 => v = none ∧ i_P i_MT i_AT L xs 233 249 [some (.ref x0), some (.int x1), some (.int x2), some (.int x3), some (.int x4), some (.int x5)] [] h4 0 0 Q))) ∧ (¬ ((x2 * (f3 (2721 : Int32).toNatClampNeg)) ≤ x5) → (i_C i_MT i_AT L xs 234 [.int x5, .int x1, .int x4, .int x2] h (fun v h6 => ∃ r7 : Int32, v = some (.int r7) ∧ i_P i_MT i_AT L xs 233 224 [some (.ref x0), some (.int x1), some (.int x2), some (.int x3), some (.int x4), some (.int x5)] [.int r7] h6 0 0 Q))))))) : i_P i_MT i_AT L xs 233 200 [some (.ref x0), some (.int x1), some (.int x2), some (.int x3), some (.int x4), some (.int x5)] [] h 0 0 Q := by
  have hk := i_k233
  refine g_s1 (pc2 := 202) hk rfl rfl rfl rfl rfl ?_
  refine g_s1 (pc2 := 203) hk rfl rfl rfl rfl rfl ?_
  refine g_s1 (pc2 := 204) hk rfl rfl rfl rfl rfl ?_
  obtain ⟨v1, ev1, H⟩ := H
  refine g_step (pc2 := 207) hk rfl rfl rfl (s_get ev1) ?_
  refine g_s1 (pc2 := 210) (st2 := [.int (2721 : Int32), .ref v1, .int x2, .int x5]) hk rfl rfl rfl rfl rfl ?_
  obtain ⟨n2, f3, ef3, hi, H⟩ := H
  refine g_step (pc2 := 211) hk rfl rfl rfl (s_aget (L := L) (xs := xs) ef3 hi) ?_
  refine g_s1 (pc2 := 212) hk rfl rfl rfl rfl rfl ?_
  refine g_icmp_ge hk rfl (fun hc => ?_) (fun hc => ?_)
  · have H := H.1 hc
    refine g_s1 (pc2 := 246) hk rfl rfl rfl rfl rfl ?_
    obtain ⟨ho, H⟩ := H
    refine g_call hk rfl rfl i_k218.1 ⟨rfl, rfl⟩ rfl (i_rcv_v ho rfl (by decide)) rfl ?_
    exact H.mono (fun v h2 q => by obtain ⟨rfl, q⟩ := q; exact q)
  · have H := H.2 hc
    refine g_s1 (pc2 := 217) hk rfl rfl rfl rfl rfl ?_
    refine g_s1 (pc2 := 218) hk rfl rfl rfl rfl rfl ?_
    refine g_s1 (pc2 := 220) hk rfl rfl rfl rfl rfl ?_
    refine g_s1 (pc2 := 221) hk rfl rfl rfl rfl rfl ?_
    refine g_call hk rfl rfl i_k234.1 ⟨rfl, rfl⟩ rfl (i_rcv_0 rfl) rfl ?_
    exact H.mono (fun v h2 q => by obtain ⟨r, rfl, q⟩ := q; exact q)
theorem b233_224 {x0 : Nat} {x1 : Int32} {x2 : Int32} {x3 : Int32} {x4 : Int32} {x5 : Int32} {s0 : Int32} {h : iH} {Q : Option Value → iH → Prop} (H : ((s0 = 0 → i_P i_MT i_AT L xs 233 239 [some (.ref x0), some (.int x1), some (.int x2), some (.int x3), some (.int x4), some (.int x5)] [] h 0 0 Q) ∧ (¬ (s0 = 0) → (∃ v1 : Nat, i_fld h x0 12 0 = some (.ref v1) ∧ (∃ (n2 : Nat) (f3 : Nat → Int32), i_arI h 0 v1 = some (n2, f3) ∧ ¬ (((2730 : Int32) + x5) < 0 ∨ n2 ≤ ((2730 : Int32) + x5).toNatClampNeg) ∧ i_P i_MT i_AT L xs 233 239 [some (.ref x0), some (.int x1), some (.int x2), some (.int x3), some (.int x4), some (.int x5)] [] (i_siI h v1 ((2730 : Int32) + x5).toNatClampNeg (1 : Int32)) 0 0 Q))))) : i_P i_MT i_AT L xs 233 224 [some (.ref x0), some (.int x1), some (.int x2), some (.int x3), some (.int x4), some (.int x5)] [.int s0] h 0 0 Q := by
  have hk := i_k233
  refine g_if_eq hk rfl (fun hc => ?_) (fun hc => ?_)
  · have H := H.1 hc
    exact H
  · have H := H.2 hc
    refine g_s1 (pc2 := 228) hk rfl rfl rfl rfl rfl ?_
    obtain ⟨v1, ev1, H⟩ := H
    refine g_step (pc2 := 231) hk rfl rfl rfl (s_get ev1) ?_
    refine g_s1 (pc2 := 234) (st2 := [.int (2730 : Int32), .ref v1]) hk rfl rfl rfl rfl rfl ?_
    refine g_s1 (pc2 := 236) hk rfl rfl rfl rfl rfl ?_
    refine g_s1 (pc2 := 237) hk rfl rfl rfl rfl rfl ?_
    refine g_s1 (pc2 := 238) (st2 := [.int (1 : Int32), .int ((2730 : Int32) + x5), .ref v1]) hk rfl rfl rfl rfl rfl ?_
    obtain ⟨n2, f3, ef3, hi, H⟩ := H
    refine g_step (pc2 := 239) hk rfl rfl rfl (s_aput ef3 hi) ?_
    exact H
theorem b233_239 {x0 : Nat} {x1 : Int32} {x2 : Int32} {x3 : Int32} {x4 : Int32} {x5 : Int32} {h : iH} {Q : Option Value → iH → Prop} (H : i_P i_MT i_AT L xs 233 200 [some (.ref x0), some (.int x1), some (.int x2), some (.int x3), some (.int x4), some (.int (x5 + 1))] [] h 0 0 Q) : i_P i_MT i_AT L xs 233 239 [some (.ref x0), some (.int x1), some (.int x2), some (.int x3), some (.int x4), some (.int x5)] [] h 0 0 Q := by
  have hk := i_k233
  refine g_s1 (pc2 := 242) (lo2 := [some (.ref x0), some (.int x1), some (.int x2), some (.int x3), some (.int x4), some (.int (x5 + 1))]) hk rfl rfl rfl rfl rfl ?_
  refine g_s1 (pc2 := 200) hk rfl rfl rfl rfl rfl ?_
  exact H
theorem b233_249 {x0 : Nat} {x1 : Int32} {x2 : Int32} {x3 : Int32} {x4 : Int32} {x5 : Int32} {h : iH} {Q : Option Value → iH → Prop} (H : Q (some (.int 1)) h) : i_P i_MT i_AT L xs 233 249 [some (.ref x0), some (.int x1), some (.int x2), some (.int x3), some (.int x4), some (.int x5)] [] h 0 0 Q := by
  have hk := i_k233
  refine g_s1 (pc2 := 250) (st2 := [.int (1 : Int32)]) hk rfl rfl rfl rfl rfl ?_
  exact g_ireturn hk rfl (by decide) (by decide) rfl H
end
