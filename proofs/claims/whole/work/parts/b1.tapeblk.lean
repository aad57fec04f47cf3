/-! BLOCKS of the tape's constructor, behind its fields -/
section
variable {L : Nat} {xs : Nat → Int32}
set_option maxRecDepth 20000
set_option maxHeartbeats 1000000
theorem b82_88 {x0 : Nat} {x1 : Option Value} {x2 : Option Value} {x3 : Option Value} {h : iH} {Q : Option Value → iH → Prop} (H : i_P i_MT i_AT L xs 82 91 [some (.ref x0), some (.int (48 : Int32)), x2, x3] [] h 3 1189 Q) : i_P i_MT i_AT L xs 82 88 [some (.ref x0), x1, x2, x3] [] h 3 1189 Q := by
  have hk := i_k82
  refine g_s1 (pc2 := 90) (st2 := [.int (48 : Int32)]) hk rfl rfl rfl rfl rfl ?_
  refine g_s1 (pc2 := 91) (lo2 := [some (.ref x0), some (.int (48 : Int32)), x2, x3]) hk rfl rfl rfl rfl rfl ?_
  exact H
theorem b82_91 {x0 : Nat} {x1 : Int32} {x2 : Option Value} {x3 : Option Value} {h : iH} {Q : Option Value → iH → Prop} (H : (((57 : Int32) < x1 → i_P i_MT i_AT L xs 82 113 [some (.ref x0), some (.int (97 : Int32)), x2, x3] [] h 3 1189 Q) ∧ (¬ ((57 : Int32) < x1) → (∃ v1 : Nat, i_fld h x0 7 1 = some (.ref v1) ∧ (∃ (n2 : Nat) (f3 : Nat → Int32), i_arI h 0 v1 = some (n2, f3) ∧ ¬ (x1 < 0 ∨ n2 ≤ x1.toNatClampNeg) ∧ i_P i_MT i_AT L xs 82 104 [some (.ref x0), some (.int x1), x2, x3] [] (i_siI h v1 x1.toNatClampNeg (1 : Int32)) 3 1189 Q))))) : i_P i_MT i_AT L xs 82 91 [some (.ref x0), some (.int x1), x2, x3] [] h 3 1189 Q := by
  have hk := i_k82
  refine g_s1 (pc2 := 92) hk rfl rfl rfl rfl rfl ?_
  refine g_s1 (pc2 := 94) (st2 := [.int (57 : Int32), .int x1]) hk rfl rfl rfl rfl rfl ?_
  refine g_icmp_gt hk rfl (fun hc => ?_) (fun hc => ?_)
  · have H := H.1 hc
    refine g_s1 (pc2 := 112) (st2 := [.int (97 : Int32)]) hk rfl rfl rfl rfl rfl ?_
    refine g_s1 (pc2 := 113) (lo2 := [some (.ref x0), some (.int (97 : Int32)), x2, x3]) hk rfl rfl rfl rfl rfl ?_
    exact H
  · have H := H.2 hc
    refine g_s1 (pc2 := 98) hk rfl rfl rfl rfl rfl ?_
    obtain ⟨v1, ev1, H⟩ := H
    refine g_step (pc2 := 101) hk rfl rfl rfl (s_get ev1) ?_
    refine g_s1 (pc2 := 102) hk rfl rfl rfl rfl rfl ?_
    refine g_s1 (pc2 := 103) (st2 := [.int (1 : Int32), .int x1, .ref v1]) hk rfl rfl rfl rfl rfl ?_
    obtain ⟨n2, f3, ef3, hi, H⟩ := H
    refine g_step (pc2 := 104) hk rfl rfl rfl (s_aput ef3 hi) ?_
    exact H
theorem b82_104 {x0 : Nat} {x1 : Int32} {x2 : Option Value} {x3 : Option Value} {h : iH} {Q : Option Value → iH → Prop} (H : i_P i_MT i_AT L xs 82 91 [some (.ref x0), some (.int (x1 + 1)), x2, x3] [] h 3 1189 Q) : i_P i_MT i_AT L xs 82 104 [some (.ref x0), some (.int x1), x2, x3] [] h 3 1189 Q := by
  have hk := i_k82
  refine g_s1 (pc2 := 107) (lo2 := [some (.ref x0), some (.int (x1 + 1)), x2, x3]) hk rfl rfl rfl rfl rfl ?_
  refine g_s1 (pc2 := 91) hk rfl rfl rfl rfl rfl ?_
  exact H
theorem b82_113 {x0 : Nat} {x1 : Int32} {x2 : Option Value} {x3 : Option Value} {h : iH} {Q : Option Value → iH → Prop} (H : (((122 : Int32) < x1 → (∃ v1 : Nat, i_fld h x0 7 1 = some (.ref v1) ∧ (∃ (n2 : Nat) (f3 : Nat → Int32), i_arI h 0 v1 = some (n2, f3) ∧ ¬ ((59 : Int32) < 0 ∨ n2 ≤ (59 : Int32).toNatClampNeg) ∧ i_P i_MT i_AT L xs 82 140 [some (.ref x0), some (.int x1), x2, x3] [] (i_siI h v1 (59 : Int32).toNatClampNeg (3 : Int32)) 3 1189 Q))) ∧ (¬ ((122 : Int32) < x1) → (∃ v4 : Nat, i_fld h x0 7 1 = some (.ref v4) ∧ (∃ (n5 : Nat) (f6 : Nat → Int32), i_arI h 0 v4 = some (n5, f6) ∧ ¬ (x1 < 0 ∨ n5 ≤ x1.toNatClampNeg) ∧ i_P i_MT i_AT L xs 82 126 [some (.ref x0), some (.int x1), x2, x3] [] (i_siI h v4 x1.toNatClampNeg (2 : Int32)) 3 1189 Q))))) : i_P i_MT i_AT L xs 82 113 [some (.ref x0), some (.int x1), x2, x3] [] h 3 1189 Q := by
  have hk := i_k82
  refine g_s1 (pc2 := 114) hk rfl rfl rfl rfl rfl ?_
  refine g_s1 (pc2 := 116) (st2 := [.int (122 : Int32), .int x1]) hk rfl rfl rfl rfl rfl ?_
  refine g_icmp_gt hk rfl (fun hc => ?_) (fun hc => ?_)
  · have H := H.1 hc
    refine g_s1 (pc2 := 133) hk rfl rfl rfl rfl rfl ?_
    obtain ⟨v1, ev1, H⟩ := H
    refine g_step (pc2 := 136) hk rfl rfl rfl (s_get ev1) ?_
    refine g_s1 (pc2 := 138) (st2 := [.int (59 : Int32), .ref v1]) hk rfl rfl rfl rfl rfl ?_
    refine g_s1 (pc2 := 139) (st2 := [.int (3 : Int32), .int (59 : Int32), .ref v1]) hk rfl rfl rfl rfl rfl ?_
    obtain ⟨n2, f3, ef3, hi, H⟩ := H
    refine g_step (pc2 := 140) hk rfl rfl rfl (s_aput ef3 hi) ?_
    exact H
  · have H := H.2 hc
    refine g_s1 (pc2 := 120) hk rfl rfl rfl rfl rfl ?_
    obtain ⟨v4, ev4, H⟩ := H
    refine g_step (pc2 := 123) hk rfl rfl rfl (s_get ev4) ?_
    refine g_s1 (pc2 := 124) hk rfl rfl rfl rfl rfl ?_
    refine g_s1 (pc2 := 125) (st2 := [.int (2 : Int32), .int x1, .ref v4]) hk rfl rfl rfl rfl rfl ?_
    obtain ⟨n5, f6, ef6, hi, H⟩ := H
    refine g_step (pc2 := 126) hk rfl rfl rfl (s_aput ef6 hi) ?_
    exact H
theorem b82_126 {x0 : Nat} {x1 : Int32} {x2 : Option Value} {x3 : Option Value} {h : iH} {Q : Option Value → iH → Prop} (H : i_P i_MT i_AT L xs 82 113 [some (.ref x0), some (.int (x1 + 1)), x2, x3] [] h 3 1189 Q) : i_P i_MT i_AT L xs 82 126 [some (.ref x0), some (.int x1), x2, x3] [] h 3 1189 Q := by
  have hk := i_k82
  refine g_s1 (pc2 := 129) (lo2 := [some (.ref x0), some (.int (x1 + 1)), x2, x3]) hk rfl rfl rfl rfl rfl ?_
  refine g_s1 (pc2 := 113) hk rfl rfl rfl rfl rfl ?_
  exact H
theorem b82_140 {x0 : Nat} {x1 : Int32} {x2 : Option Value} {x3 : Option Value} {h : iH} {Q : Option Value → iH → Prop} (H : (∃ v1 : Nat, i_fld h x0 7 1 = some (.ref v1) ∧ (∃ (n2 : Nat) (f3 : Nat → Int32), i_arI h 0 v1 = some (n2, f3) ∧ ¬ ((32 : Int32) < 0 ∨ n2 ≤ (32 : Int32).toNatClampNeg) ∧ i_P i_MT i_AT L xs 82 148 [some (.ref x0), some (.int x1), x2, x3] [] (i_siI h v1 (32 : Int32).toNatClampNeg (5 : Int32)) 3 1189 Q))) : i_P i_MT i_AT L xs 82 140 [some (.ref x0), some (.int x1), x2, x3] [] h 3 1189 Q := by
  have hk := i_k82
  refine g_s1 (pc2 := 141) hk rfl rfl rfl rfl rfl ?_
  obtain ⟨v1, ev1, H⟩ := H
  refine g_step (pc2 := 144) hk rfl rfl rfl (s_get ev1) ?_
  refine g_s1 (pc2 := 146) (st2 := [.int (32 : Int32), .ref v1]) hk rfl rfl rfl rfl rfl ?_
  refine g_s1 (pc2 := 147) (st2 := [.int (5 : Int32), .int (32 : Int32), .ref v1]) hk rfl rfl rfl rfl rfl ?_
  obtain ⟨n2, f3, ef3, hi, H⟩ := H
  refine g_step (pc2 := 148) hk rfl rfl rfl (s_aput ef3 hi) ?_
  exact H
theorem b82_148 {x0 : Nat} {x1 : Int32} {x2 : Option Value} {x3 : Option Value} {h : iH} {Q : Option Value → iH → Prop} (H : (∃ v1 : Nat, i_fld h x0 7 1 = some (.ref v1) ∧ (∃ (n2 : Nat) (f3 : Nat → Int32), i_arI h 0 v1 = some (n2, f3) ∧ ¬ ((10 : Int32) < 0 ∨ n2 ≤ (10 : Int32).toNatClampNeg) ∧ i_P i_MT i_AT L xs 82 156 [some (.ref x0), some (.int x1), x2, x3] [] (i_siI h v1 (10 : Int32).toNatClampNeg (5 : Int32)) 3 1189 Q))) : i_P i_MT i_AT L xs 82 148 [some (.ref x0), some (.int x1), x2, x3] [] h 3 1189 Q := by
  have hk := i_k82
  refine g_s1 (pc2 := 149) hk rfl rfl rfl rfl rfl ?_
  obtain ⟨v1, ev1, H⟩ := H
  refine g_step (pc2 := 152) hk rfl rfl rfl (s_get ev1) ?_
  refine g_s1 (pc2 := 154) (st2 := [.int (10 : Int32), .ref v1]) hk rfl rfl rfl rfl rfl ?_
  refine g_s1 (pc2 := 155) (st2 := [.int (5 : Int32), .int (10 : Int32), .ref v1]) hk rfl rfl rfl rfl rfl ?_
  obtain ⟨n2, f3, ef3, hi, H⟩ := H
  refine g_step (pc2 := 156) hk rfl rfl rfl (s_aput ef3 hi) ?_
  exact H
theorem b82_156 {x0 : Nat} {x1 : Int32} {x2 : Option Value} {x3 : Option Value} {h : iH} {Q : Option Value → iH → Prop} (H : i_P i_MT i_AT L xs 82 160 [some (.ref x0), some (.int (0 : Int32)), some (.int (0 : Int32)), x3] [] h 3 1189 Q) : i_P i_MT i_AT L xs 82 156 [some (.ref x0), some (.int x1), x2, x3] [] h 3 1189 Q := by
  have hk := i_k82
  refine g_s1 (pc2 := 157) (st2 := [.int (0 : Int32)]) hk rfl rfl rfl rfl rfl ?_
  refine g_s1 (pc2 := 158) (lo2 := [some (.ref x0), some (.int (0 : Int32)), x2, x3]) hk rfl rfl rfl rfl rfl ?_
  refine g_s1 (pc2 := 159) (st2 := [.int (0 : Int32)]) hk rfl rfl rfl rfl rfl ?_
  refine g_s1 (pc2 := 160) (lo2 := [some (.ref x0), some (.int (0 : Int32)), some (.int (0 : Int32)), x3]) hk rfl rfl rfl rfl rfl ?_
  exact H
theorem b82_160 {x0 : Nat} {x1 : Int32} {x2 : Int32} {x3 : Option Value} {h : iH} {Q : Option Value → iH → Prop} (H : ((i_oR 5).isSome = true ∧ i_C i_MT i_AT L xs 338 [.retAddr 5] h (fun v h1 => ∃ r2 : Int32, v = some (.int r2) ∧ i_P i_MT i_AT L xs 82 166 [some (.ref x0), some (.int x1), some (.int x2), x3] [.int r2, .int x2] h1 3 1189 Q))) : i_P i_MT i_AT L xs 82 160 [some (.ref x0), some (.int x1), some (.int x2), x3] [] h 3 1189 Q := by
  have hk := i_k82
  refine g_s1 (pc2 := 161) hk rfl rfl rfl rfl rfl ?_
  refine g_step (pc2 := 163) (st2 := [.retAddr 5, .int x2]) hk rfl rfl rfl rfl ?_
  obtain ⟨ho, H⟩ := H
  refine g_call hk rfl rfl i_k338.1 ⟨rfl, rfl⟩ rfl (i_rcv_x ho rfl rfl) rfl ?_
  exact H.mono (fun v h2 q => by obtain ⟨r, rfl, q⟩ := q; exact q)
theorem b82_166 {x0 : Nat} {x1 : Int32} {x2 : Int32} {x3 : Option Value} {s0 : Int32} {s1 : Int32} {h : iH} {Q : Option Value → iH → Prop} (H : ((s1 ≤ s0 → Q none h) ∧ (¬ (s1 ≤ s0) → ((i_oR 5).isSome = true ∧ i_C i_MT i_AT L xs 339 [.retAddr 5, .int x2] h (fun v h1 => ∃ r2 : Int32, v = some (.int r2) ∧ i_P i_MT i_AT L xs 82 175 [some (.ref x0), some (.int x1), some (.int x2), x3] [.int r2] h1 3 1189 Q))))) : i_P i_MT i_AT L xs 82 166 [some (.ref x0), some (.int x1), some (.int x2), x3] [.int s1, .int s0] h 3 1189 Q := by
  have hk := i_k82
  refine g_icmp_ge hk rfl (fun hc => ?_) (fun hc => ?_)
  · have H := H.1 hc
    exact g_return hk rfl (by decide) (by decide) rfl H
  · have H := H.2 hc
    refine g_step (pc2 := 171) (st2 := [.retAddr 5]) hk rfl rfl rfl rfl ?_
    refine g_s1 (pc2 := 172) hk rfl rfl rfl rfl rfl ?_
    obtain ⟨ho, H⟩ := H
    refine g_call hk rfl rfl i_k339.1 ⟨rfl, rfl⟩ rfl (i_rcv_x ho rfl rfl) rfl ?_
    exact H.mono (fun v h2 q => by obtain ⟨r, rfl, q⟩ := q; exact q)
theorem b82_175 {x0 : Nat} {x1 : Int32} {x2 : Int32} {x3 : Option Value} {s0 : Int32} {h : iH} {Q : Option Value → iH → Prop} (H : ((¬ s0 = (32 : Int32) → (((33 : Int32) ≤ x1 → i_P i_MT i_AT L xs 82 216 [some (.ref x0), some (.int x1), some (.int x2), some (.int s0)] [] h 3 1189 Q) ∧ (¬ ((33 : Int32) ≤ x1) → (∃ v1 : Nat, i_fld h x0 7 2 = some (.ref v1) ∧ (∃ v2 : Nat, i_fld h x0 7 2 = some (.ref v2) ∧ (∃ (n3 : Nat) (f4 : Nat → Int64), i_arJ h v2 = some (n3, f4) ∧ ¬ (x1 < 0 ∨ n3 ≤ x1.toNatClampNeg) ∧ (∃ (n5 : Nat) (f6 : Nat → Int64), i_arJ h v1 = some (n5, f6) ∧ ¬ (x1 < 0 ∨ n5 ≤ x1.toNatClampNeg) ∧ i_P i_MT i_AT L xs 82 216 [some (.ref x0), some (.int x1), some (.int x2), some (.int s0)] [] (i_siJ h v1 x1.toNatClampNeg (((f4 x1.toNatClampNeg) <<< ((5 : Int32).toInt64 &&& 63)) ||| (((s0 - (97 : Int32)) + (1 : Int32)).toInt64))) 3 1189 Q))))))) ∧ (¬ (¬ s0 = (32 : Int32)) → i_P i_MT i_AT L xs 82 216 [some (.ref x0), some (.int (x1 + 1)), some (.int x2), some (.int s0)] [] h 3 1189 Q))) : i_P i_MT i_AT L xs 82 175 [some (.ref x0), some (.int x1), some (.int x2), x3] [.int s0] h 3 1189 Q := by
  have hk := i_k82
  refine g_s1 (pc2 := 176) (lo2 := [some (.ref x0), some (.int x1), some (.int x2), some (.int s0)]) hk rfl rfl rfl rfl rfl ?_
  refine g_s1 (pc2 := 177) hk rfl rfl rfl rfl rfl ?_
  refine g_s1 (pc2 := 179) (st2 := [.int (32 : Int32), .int s0]) hk rfl rfl rfl rfl rfl ?_
  refine g_icmp_ne hk rfl (fun hc => ?_) (fun hc => ?_)
  · have H := H.1 hc
    refine g_s1 (pc2 := 189) hk rfl rfl rfl rfl rfl ?_
    refine g_s1 (pc2 := 191) (st2 := [.int (33 : Int32), .int x1]) hk rfl rfl rfl rfl rfl ?_
    refine g_icmp_ge hk rfl (fun hc => ?_) (fun hc => ?_)
    · have H := H.1 hc
      exact H
    · have H := H.2 hc
      refine g_s1 (pc2 := 195) hk rfl rfl rfl rfl rfl ?_
      obtain ⟨v1, ev1, H⟩ := H
      refine g_step (pc2 := 198) hk rfl rfl rfl (s_get ev1) ?_
      refine g_s1 (pc2 := 199) hk rfl rfl rfl rfl rfl ?_
      refine g_s1 (pc2 := 200) hk rfl rfl rfl rfl rfl ?_
      obtain ⟨v2, ev2, H⟩ := H
      refine g_step (pc2 := 203) hk rfl rfl rfl (s_get ev2) ?_
      refine g_s1 (pc2 := 204) hk rfl rfl rfl rfl rfl ?_
      obtain ⟨n3, f4, ef4, hi, H⟩ := H
      refine g_step (pc2 := 205) hk rfl rfl rfl (s_lget ef4 hi) ?_
      refine g_s1 (pc2 := 206) (st2 := [.int (5 : Int32), .long (f4 x1.toNatClampNeg), .int x1, .ref v1]) hk rfl rfl rfl rfl rfl ?_
      refine g_s1 (pc2 := 207) hk rfl rfl rfl rfl rfl ?_
      refine g_s1 (pc2 := 208) hk rfl rfl rfl rfl rfl ?_
      refine g_s1 (pc2 := 210) (st2 := [.int (97 : Int32), .int s0, .long ((f4 x1.toNatClampNeg) <<< ((5 : Int32).toInt64 &&& 63)), .int x1, .ref v1]) hk rfl rfl rfl rfl rfl ?_
      refine g_s1 (pc2 := 211) hk rfl rfl rfl rfl rfl ?_
      refine g_s1 (pc2 := 212) (st2 := [.int (1 : Int32), .int (s0 - (97 : Int32)), .long ((f4 x1.toNatClampNeg) <<< ((5 : Int32).toInt64 &&& 63)), .int x1, .ref v1]) hk rfl rfl rfl rfl rfl ?_
      refine g_s1 (pc2 := 213) hk rfl rfl rfl rfl rfl ?_
      refine g_s1 (pc2 := 214) hk rfl rfl rfl rfl rfl ?_
      refine g_s1 (pc2 := 215) hk rfl rfl rfl rfl rfl ?_
      obtain ⟨n5, f6, ef6, hi, H⟩ := H
      refine g_step (pc2 := 216) hk rfl rfl rfl (s_lput ef6 hi) ?_
      exact H
  · have H := H.2 hc
    refine g_s1 (pc2 := 185) (lo2 := [some (.ref x0), some (.int (x1 + 1)), some (.int x2), some (.int s0)]) hk rfl rfl rfl rfl rfl ?_
    refine g_s1 (pc2 := 216) hk rfl rfl rfl rfl rfl ?_
    exact H
theorem b82_216 {x0 : Nat} {x1 : Int32} {x2 : Int32} {x3 : Int32} {h : iH} {Q : Option Value → iH → Prop} (H : i_P i_MT i_AT L xs 82 160 [some (.ref x0), some (.int x1), some (.int (x2 + 1)), some (.int x3)] [] h 3 1189 Q) : i_P i_MT i_AT L xs 82 216 [some (.ref x0), some (.int x1), some (.int x2), some (.int x3)] [] h 3 1189 Q := by
  have hk := i_k82
  refine g_s1 (pc2 := 219) (lo2 := [some (.ref x0), some (.int x1), some (.int (x2 + 1)), some (.int x3)]) hk rfl rfl rfl rfl rfl ?_
  refine g_s1 (pc2 := 160) hk rfl rfl rfl rfl rfl ?_
  exact H
end
