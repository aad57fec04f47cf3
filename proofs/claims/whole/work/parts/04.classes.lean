/-! classes: types of fields, what the tables say -/
def i_cty (ci : Nat) : Nat → FieldType := match ci with
  | 0 => tyX0
  | 1 => tyX1
  | 2 => tyX2
  | 3 => tyX3
  | 4 => tyX4
  | 5 => tyX5
  | 6 => tyX6
  | 7 => tyX7
  | 8 => tyX8
  | 9 => tyX9
  | 10 => tyX10
  | 11 => tyX11
  | _ => tyX12
def i_cn (ci : Nat) : String := match vwCl[ci]? with
  | some q => q.1
  | none => ""
def i_nf (ci : Nat) : Nat := match vwCl[ci]? with
  | some q => q.2.2
  | none => 0
def i_fl (ci k : Nat) : String × String × String × Bool := match vwCl[ci]? with
  | some q => q.2.1 k
  | none => ("", "", "", false)
def i_CF (ci : Nat) : Prop := ∃ (C : String) (T : u_T) (N : Nat), vwCl[ci]? = some (C, T, N) ∧ (∀ w ∈ u_ws C T N, w ∈ i_GT) ∧ (∀ k, k < N → parseFieldDescriptor (T k).2.2.1 = some (i_cty ci k)) ∧ (∀ x, x < N → ∀ y, y < N → x ≠ y → (T x).2.1 ≠ (T y).2.1) ∧ Jvm.Cond.instantiable C N ∈ i_GT ∧ Jvm.Cond.initialized C ∈ i_GT
set_option maxRecDepth 100000 in
set_option maxHeartbeats 4000000 in
theorem i_cf0 : i_CF 0 := ⟨RX0, TX0, i_nf 0, rfl, by decide +kernel, tyX0_ok, nmX0, by decide +kernel, by decide +kernel⟩
set_option maxRecDepth 100000 in
set_option maxHeartbeats 4000000 in
theorem i_cf1 : i_CF 1 := ⟨RX1, TX1, i_nf 1, rfl, by decide +kernel, tyX1_ok, nmX1, by decide +kernel, by decide +kernel⟩
set_option maxRecDepth 100000 in
set_option maxHeartbeats 4000000 in
theorem i_cf2 : i_CF 2 := ⟨RX2, TX2, i_nf 2, rfl, by decide +kernel, tyX2_ok, nmX2, by decide +kernel, by decide +kernel⟩
set_option maxRecDepth 100000 in
set_option maxHeartbeats 4000000 in
theorem i_cf3 : i_CF 3 := ⟨RX3, TX3, i_nf 3, rfl, by decide +kernel, tyX3_ok, nmX3, by decide +kernel, by decide +kernel⟩
set_option maxRecDepth 100000 in
set_option maxHeartbeats 4000000 in
theorem i_cf4 : i_CF 4 := ⟨RX4, TX4, i_nf 4, rfl, by decide +kernel, tyX4_ok, nmX4, by decide +kernel, by decide +kernel⟩
set_option maxRecDepth 100000 in
set_option maxHeartbeats 4000000 in
theorem i_cf5 : i_CF 5 := ⟨RX5, TX5, i_nf 5, rfl, by decide +kernel, tyX5_ok, nmX5, by decide +kernel, by decide +kernel⟩
set_option maxRecDepth 100000 in
set_option maxHeartbeats 4000000 in
theorem i_cf6 : i_CF 6 := ⟨RX6, TX6, i_nf 6, rfl, by decide +kernel, tyX6_ok, nmX6, by decide +kernel, by decide +kernel⟩
set_option maxRecDepth 100000 in
set_option maxHeartbeats 4000000 in
theorem i_cf7 : i_CF 7 := ⟨RX7, TX7, i_nf 7, rfl, by decide +kernel, tyX7_ok, nmX7, by decide +kernel, by decide +kernel⟩
set_option maxRecDepth 100000 in
set_option maxHeartbeats 4000000 in
theorem i_cf8 : i_CF 8 := ⟨RX8, TX8, i_nf 8, rfl, by decide +kernel, tyX8_ok, nmX8, by decide +kernel, by decide +kernel⟩
set_option maxRecDepth 100000 in
set_option maxHeartbeats 4000000 in
theorem i_cf9 : i_CF 9 := ⟨RX9, TX9, i_nf 9, rfl, by decide +kernel, tyX9_ok, nmX9, by decide +kernel, by decide +kernel⟩
set_option maxRecDepth 100000 in
set_option maxHeartbeats 4000000 in
theorem i_cf10 : i_CF 10 := ⟨RX10, TX10, i_nf 10, rfl, by decide +kernel, tyX10_ok, nmX10, by decide +kernel, by decide +kernel⟩
set_option maxRecDepth 100000 in
set_option maxHeartbeats 4000000 in
theorem i_cf11 : i_CF 11 := ⟨RX11, TX11, i_nf 11, rfl, by decide +kernel, tyX11_ok, nmX11, by decide +kernel, by decide +kernel⟩
set_option maxRecDepth 100000 in
set_option maxHeartbeats 4000000 in
theorem i_cf12 : i_CF 12 := ⟨RX12, TX12, i_nf 12, rfl, by decide +kernel, tyX12_ok, nmX12, by decide +kernel, by decide +kernel⟩
theorem i_cf : ∀ ci, ci < 13 → i_CF ci := fun ci h => match ci, h with
  | 0, _ => i_cf0
  | 1, _ => i_cf1
  | 2, _ => i_cf2
  | 3, _ => i_cf3
  | 4, _ => i_cf4
  | 5, _ => i_cf5
  | 6, _ => i_cf6
  | 7, _ => i_cf7
  | 8, _ => i_cf8
  | 9, _ => i_cf9
  | 10, _ => i_cf10
  | 11, _ => i_cf11
  | 12, _ => i_cf12
  | n + 13, h => absurd h (by omega)
