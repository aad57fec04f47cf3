/-! SETS AS BITS: of 64 and of 32 -/
def i_b (v : Int64) (c : Nat) : Bool := v.toBitVec.getLsbD c
theorem j_ext {x y : Int64} (h : ∀ c, c < 64 → i_b x c = i_b y c) : x = y := Int64.toBitVec_inj.mp (BitVec.eq_of_getLsbD_eq h)
theorem j_ge {x : Int64} {c : Nat} (h : 64 ≤ c) : i_b x c = false := BitVec.getLsbD_of_ge _ _ h
theorem j_or (x y : Int64) (c : Nat) : i_b (x ||| y) c = (i_b x c || i_b y c) := by
  unfold i_b
  rw [Int64.toBitVec_or, BitVec.getLsbD_or]
theorem j_and (x y : Int64) (c : Nat) : i_b (x &&& y) c = (i_b x c && i_b y c) := by
  unfold i_b
  rw [Int64.toBitVec_and, BitVec.getLsbD_and]
theorem j_not (x : Int64) {c : Nat} (hc : c < 64) : i_b (x ^^^ (-1 : Int64)) c = !i_b x c := by
  unfold i_b
  rw [Int64.toBitVec_xor, BitVec.getLsbD_xor, show ((-1 : Int64).toBitVec) = BitVec.allOnes 64 from by decide, BitVec.getLsbD_allOnes]
  simp [hc]
theorem j_0 (c : Nat) : i_b 0 c = false := by
  unfold i_b
  rw [show ((0 : Int64).toBitVec) = 0#64 from rfl, BitVec.getLsbD_zero]
theorem j_amt {k : Nat} (hk : k < 64) : (((i_n k).toInt64 &&& (63 : Int64)).toBitVec.smod (64 : BitVec 64)).toNat = k := by
  have : ∀ j : Fin 64, (((i_n j.val).toInt64 &&& (63 : Int64)).toBitVec.smod (64 : BitVec 64)).toNat = j.val := by decide +kernel
  exact this ⟨k, hk⟩
theorem j_amu {k : Nat} (hk : k < 64) : (((i_n k).toInt64.toUInt64 &&& Int64.toUInt64 63).toBitVec % (64 : BitVec 64)).toNat = k := by
  have : ∀ j : Fin 64, (((i_n j.val).toInt64.toUInt64 &&& Int64.toUInt64 63).toBitVec % (64 : BitVec 64)).toNat = j.val := by decide +kernel
  exact this ⟨k, hk⟩
theorem j_shl (x : Int64) {k : Nat} (hk : k < 64) (c : Nat) : i_b (x <<< ((i_n k).toInt64 &&& (63 : Int64))) c = (decide (k ≤ c) && decide (c < 64) && i_b x (c - k)) := by
  unfold i_b
  rw [Int64.toBitVec_shiftLeft, BitVec.getLsbD_shiftLeft']
  erw [j_amt hk]
  by_cases h1 : c < k <;> by_cases h2 : c < 64 <;> simp [h1, h2] <;> omega
theorem j_shr (x : Int64) {k : Nat} (hk : k < 64) (c : Nat) : i_b ((x.toUInt64 >>> ((i_n k).toInt64.toUInt64 &&& Int64.toUInt64 63)).toInt64) c = i_b x (k + c) := by
  unfold i_b
  rw [show ∀ z : UInt64, z.toInt64.toBitVec = z.toBitVec from fun _ => rfl, UInt64.toBitVec_shiftRight, BitVec.ushiftRight_eq', BitVec.getLsbD_ushiftRight]
  erw [j_amu hk]
  rfl
theorem j_1 (c : Nat) : i_b 1 c = decide (c = 0) := by
  unfold i_b
  rw [show ((1 : Int64).toBitVec) = 1#64 from rfl, BitVec.getLsbD_one]
  simp
theorem j_one {k : Nat} (hk : k < 64) (c : Nat) : i_b ((1 : Int64) <<< ((i_n k).toInt64 &&& (63 : Int64))) c = decide (c = k) := by
  rw [j_shl _ hk, j_1]
  by_cases h1 : k ≤ c <;> by_cases h2 : c < 64 <;> simp [h1, h2] <;> omega
theorem j_eq0 {x : Int64} : x = 0 ↔ ∀ c, c < 64 → i_b x c = false := by
  constructor
  · intro h c _
    rw [h, j_0]
  · intro h
    exact j_ext (fun c hc => by rw [h c hc, j_0])
theorem j_cmp0 (x : Int64) : lg_cmp x 0 = 0 ↔ x = 0 := by
  unfold lg_cmp
  by_cases h : x > 0
  · rw [if_pos h]
    constructor
    · intro z; exact absurd z (by decide)
    · intro z; rw [z] at h; exact absurd h (by decide)
  · rw [if_neg h]
    by_cases h2 : x = 0
    · rw [if_pos h2]; exact ⟨fun _ => h2, fun _ => rfl⟩
    · rw [if_neg h2]
      exact ⟨fun z => absurd z (by decide), fun z => absurd z h2⟩
theorem j_cmp (x y : Int64) : lg_cmp x y = 0 ↔ x = y := by
  unfold lg_cmp
  by_cases h : x > y
  · rw [if_pos h]
    constructor
    · intro z; exact absurd z (by decide)
    · intro z; rw [z] at h; exact (Int64.lt_irrefl h).elim
  · rw [if_neg h]
    by_cases h2 : x = y
    · rw [if_pos h2]; exact ⟨fun _ => h2, fun _ => rfl⟩
    · rw [if_neg h2]
      exact ⟨fun z => absurd z (by decide), fun z => absurd z h2⟩
/-- a member's bit, alone -/
theorem j_has (x : Int64) {k : Nat} (hk : k < 64) : (((x.toUInt64 >>> ((i_n k).toInt64.toUInt64 &&& Int64.toUInt64 63)).toInt64 &&& (1 : Int64)) = 0) ↔ i_b x k = false := by
  rw [j_eq0]
  constructor
  · intro h
    have := h 0 (by omega)
    rw [j_and, j_shr _ hk, j_1] at this
    simpa using this
  · intro h c hc
    rw [j_and, j_shr _ hk, j_1]
    by_cases h0 : c = 0
    · subst h0; rw [Nat.add_zero, h]; rfl
    · simp [h0]
/-! sets in an int -/
theorem n_bv (v : Nat) : (i_n v).toBitVec = BitVec.ofNat 32 v := rfl
theorem n_amt {k : Nat} (hk : k < 32) : ((i_n k &&& i_n 31).toBitVec.smod (32 : BitVec 32)).toNat = k := by
  have : ∀ j : Fin 32, ((i_n j.val &&& i_n 31).toBitVec.smod (32 : BitVec 32)).toNat = j.val := by decide +kernel
  exact this ⟨k, hk⟩
theorem n_ext {x y : Int32} (h : ∀ c, c < 32 → x.toBitVec.getLsbD c = y.toBitVec.getLsbD c) : x = y := Int32.toBitVec_inj.mp (BitVec.eq_of_getLsbD_eq h)
theorem n_or (x y : Nat) : i_n x ||| i_n y = i_n (x ||| y) := by
  refine n_ext (fun c hc => ?_)
  rw [Int32.toBitVec_or, BitVec.getLsbD_or, n_bv, n_bv, n_bv, BitVec.getLsbD_ofNat, BitVec.getLsbD_ofNat, BitVec.getLsbD_ofNat, Nat.testBit_or]
  simp [hc]
theorem n_and (x y : Nat) : i_n x &&& i_n y = i_n (x &&& y) := by
  refine n_ext (fun c hc => ?_)
  rw [Int32.toBitVec_and, BitVec.getLsbD_and, n_bv, n_bv, n_bv, BitVec.getLsbD_ofNat, BitVec.getLsbD_ofNat, BitVec.getLsbD_ofNat, Nat.testBit_and]
  simp [hc]
theorem n_shl (x : Nat) {k : Nat} (hk : k < 32) : i_n x <<< (i_n k &&& i_n 31) = i_n (x <<< k) := by
  refine n_ext (fun c hc => ?_)
  rw [Int32.toBitVec_shiftLeft, BitVec.getLsbD_shiftLeft']
  erw [n_amt hk]
  rw [n_bv, n_bv, BitVec.getLsbD_ofNat, BitVec.getLsbD_ofNat, Nat.testBit_shiftLeft]
  by_cases h1 : c < k
  · simp [h1, show ¬ k ≤ c by omega]
  · simp [h1, hc, show k ≤ c by omega, show c - k < 32 by omega]
theorem n_shr {x k : Nat} (hx : x < 2147483648) (hk : k < 32) : i_n x >>> (i_n k &&& i_n 31) = i_n (x >>> k) := by
  refine n_ext (fun c hc => ?_)
  rw [Int32.toBitVec_shiftRight, BitVec.getLsbD_sshiftRight']
  erw [n_amt hk]
  have hm : (BitVec.ofNat 32 x).msb = false := by
    rw [BitVec.msb_eq_decide, BitVec.toNat_ofNat]
    simp
    omega
  rw [n_bv, n_bv, BitVec.getLsbD_ofNat, BitVec.getLsbD_ofNat, Nat.testBit_shiftRight, hm]
  by_cases h1 : k + c < 32
  · simp [h1, hc]
  · have : x.testBit (k + c) = false := Nat.testBit_lt_two_pow (Nat.lt_of_lt_of_le hx (Nat.pow_le_pow_right (n := 2) (i := 31) (j := k + c) (by omega) (by omega)))
    simp [h1, hc, this]
theorem n_bit1 (v k : Nat) : (v >>> k) &&& 1 = 1 ↔ v.testBit k = true := by
  unfold Nat.testBit
  rw [Nat.and_comm 1, Nat.and_one_is_mod]
  rcases Nat.mod_two_eq_zero_or_one (v >>> k) with h | h <;> simp [h]
theorem n_bitlt (v k : Nat) : (v >>> k) &&& 1 < 2147483648 := by
  have := Nat.and_le_right (n := v >>> k) (m := 1)
  omega
