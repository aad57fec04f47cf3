/-! BITS OF A LONG COUNTED -/
section
variable {L : Nat} {xs : Nat → Int32} {h : iH} {Q : Option Value → iH → Prop} {a : Nat → Nat} {t : Nat}
set_option maxRecDepth 20000
theorem jj_b {v c : Nat} (hc : c < 64) : i_b (i_j v) c = v.testBit c := by
  unfold i_b
  rw [show (i_j v).toBitVec = BitVec.ofNat 64 v from rfl, BitVec.getLsbD_ofNat]
  simp [hc]
theorem jj_and (x y : Nat) : i_j x &&& i_j y = i_j (x &&& y) := j_ext (fun c hc => by rw [j_and, jj_b hc, jj_b hc, jj_b hc, Nat.testBit_and])
theorem jj_or (x y : Nat) : i_j x ||| i_j y = i_j (x ||| y) := j_ext (fun c hc => by rw [j_or, jj_b hc, jj_b hc, jj_b hc, Nat.testBit_or])
theorem jj_shr {x k : Nat} (hx : x < 18446744073709551616) (hk : k < 64) : ((i_j x).toUInt64 >>> ((i_n k).toInt64.toUInt64 &&& Int64.toUInt64 63)).toInt64 = i_j (x >>> k) := j_ext (fun c hc => by
  rw [j_shr _ hk, jj_b hc, Nat.testBit_shiftRight]
  by_cases h1 : k + c < 64
  · rw [jj_b h1]
  · rw [j_ge (by omega), Nat.testBit_lt_two_pow (Nat.lt_of_lt_of_le hx (Nat.pow_le_pow_right (n := 2) (i := 64) (j := k + c) (by omega) (by omega)))])
/-- every long is that of a natural -/
theorem jj_ex (x : Int64) : ∃ v, v < 18446744073709551616 ∧ x = i_j v := ⟨x.toBitVec.toNat, x.toBitVec.isLt, Int64.toBitVec_inj.mp (by
  show x.toBitVec = BitVec.ofNat 64 x.toBitVec.toNat
  rw [BitVec.ofNat_toNat, BitVec.setWidth_eq])⟩
def g1 (x : Int64) : Int64 := x - ((x.toUInt64 >>> ((1 : Int32).toInt64.toUInt64 &&& Int64.toUInt64 63)).toInt64 &&& (6148914691236517205 : Int64))
def g2 (x : Int64) : Int64 := (x &&& (3689348814741910323 : Int64)) + ((x.toUInt64 >>> ((2 : Int32).toInt64.toUInt64 &&& Int64.toUInt64 63)).toInt64 &&& (3689348814741910323 : Int64))
def g3 (x : Int64) : Int64 := (x + (x.toUInt64 >>> ((4 : Int32).toInt64.toUInt64 &&& Int64.toUInt64 63)).toInt64) &&& (1085102592571150095 : Int64)
def g4 (x : Int64) : Int64 := x + (x.toUInt64 >>> ((8 : Int32).toInt64.toUInt64 &&& Int64.toUInt64 63)).toInt64
def g5 (x : Int64) : Int64 := x + (x.toUInt64 >>> ((16 : Int32).toInt64.toUInt64 &&& Int64.toUInt64 63)).toInt64
def g6 (x : Int64) : Int64 := x + (x.toUInt64 >>> ((32 : Int32).toInt64.toUInt64 &&& Int64.toUInt64 63)).toInt64
/-- a mask of n bytes -/
def o_M (c : Nat) : Nat → Nat
  | 0 => 0
  | n + 1 => 256 * o_M c n + c
theorem sp_and {y b M m : Nat} (hb : b < 256) (hm : m < 256) : (256 * y + b) &&& (256 * M + m) = 256 * (y &&& M) + (b &&& m) := by
  have hbm : b &&& m < 256 := Nat.lt_of_le_of_lt Nat.and_le_left hb
  apply Nat.eq_of_testBit_eq
  intro i
  rw [Nat.testBit_and]
  rw [show (256 : Nat) = 2 ^ 8 from rfl] at *
  rw [Nat.testBit_two_pow_mul_add _ hb, Nat.testBit_two_pow_mul_add _ hm, Nat.testBit_two_pow_mul_add _ hbm]
  split <;> rw [Nat.testBit_and]
theorem by_1 : ∀ b : Fin 256, ∀ e : Fin 2, (128 * e.val + b.val / 2) &&& 85 = (b.val / 2) &&& 85 ∧ (b.val / 2) &&& 85 ≤ b.val := by decide +kernel
def by_A (b : Nat) : Nat := b - ((b / 2) &&& 85)
theorem by_2 : ∀ b : Fin 256, ∀ e : Fin 4, (64 * e.val + by_A b.val / 4) &&& 51 = (by_A b.val / 4) &&& 51 ∧ by_A b.val < 256 := by decide +kernel
def by_B (b : Nat) : Nat := (by_A b &&& 51) + ((by_A b / 4) &&& 51)
theorem by_3 : ∀ b : Fin 256, ∀ e : Fin 5, by_B b.val + 16 * e.val + by_B b.val / 16 < 256 ∧ (by_B b.val + 16 * e.val + by_B b.val / 16) &&& 15 = o_pc b.val ∧ by_B b.val % 16 < 5 ∧ by_B b.val < 256 := by decide +kernel
def n_A (n x : Nat) : Nat := x - ((x / 2) &&& o_M 85 n)
def n_B (n x : Nat) : Nat := (x &&& o_M 51 n) + ((x / 4) &&& o_M 51 n)
def n_C (n x : Nat) : Nat := (x + x / 16) &&& o_M 15 n
/-- the bits of each byte -/
def o_pcs : Nat → Nat → Nat
  | 0, _ => 0
  | n + 1, x => 256 * o_pcs n (x / 256) + o_pc (x % 256)
theorem n_ABC : ∀ n x, x < 256 ^ n → n_B n (n_A n x) % 16 < 5 ∧ n_C n (n_B n (n_A n x)) = o_pcs n x
  | 0, x, hx => by
    have x0 : x = 0 := by rw [Nat.pow_zero] at hx; omega
    subst x0
    decide
  | n + 1, x, hx => by
    have hy : x / 256 < 256 ^ n := by
      rw [Nat.pow_succ] at hx
      omega
    obtain ⟨i1, i2⟩ := n_ABC n (x / 256) hy
    have ex : x = 256 * (x / 256) + x % 256 := (Nat.div_add_mod x 256).symm
    have hb : x % 256 < 256 := Nat.mod_lt _ (by omega)
    generalize x / 256 = y at *
    generalize x % 256 = b at *
    subst ex
    have A : n_A (n + 1) (256 * y + b) = 256 * n_A n y + by_A b := by
      unfold n_A by_A
      have := by_1 ⟨b, hb⟩ ⟨y % 2, by omega⟩
      dsimp only at this
      rw [show (256 * y + b) / 2 = 256 * (y / 2) + (128 * (y % 2) + b / 2) by omega, o_M, sp_and (by omega) (by omega), this.1]
      have h1 : y / 2 &&& o_M 85 n ≤ y := Nat.le_trans Nat.and_le_left (Nat.div_le_self _ _)
      omega
    have hA := (by_2 ⟨b, hb⟩ 0).2
    dsimp only at hA
    have B : n_B (n + 1) (256 * n_A n y + by_A b) = 256 * n_B n (n_A n y) + by_B b := by
      unfold n_B by_B
      have := (by_2 ⟨b, hb⟩ ⟨n_A n y % 4, by omega⟩).1
      dsimp only at this
      generalize n_A n y = u at *
      rw [show (256 * u + by_A b) / 4 = 256 * (u / 4) + (64 * (u % 4) + by_A b / 4) by omega, o_M, sp_and hA (by omega), sp_and (by omega) (by omega), this]
      omega
    rw [A, B]
    generalize n_B n (n_A n y) = u at *
    have q := by_3 ⟨b, hb⟩ ⟨u % 16, i1⟩
    dsimp only at q
    refine ⟨by omega, ?_⟩
    have q5 : o_pcs (n + 1) (256 * y + b) = 256 * o_pcs n y + o_pc b := by rw [o_pcs, show (256 * y + b) / 256 = y by omega, show (256 * y + b) % 256 = b by omega]
    rw [q5, ← i2]
    unfold n_C
    rw [show 256 * u + by_B b + (256 * u + by_B b) / 16 = 256 * (u + u / 16) + (by_B b + 16 * (u % 16) + by_B b / 16) by omega, o_M, sp_and q.1 (by omega), q.2.1]
theorem o_cn0_add {P : Nat → Bool} (m : Nat) : ∀ n, o_cn0 P (m + n) = o_cn0 P m + o_cn0 (fun i => P (m + i)) n
  | 0 => rfl
  | n + 1 => by rw [← Nat.add_assoc, o_cn0, o_cn0, o_cn0_add m n]; omega
theorem o_cn0_ext {P R : Nat → Bool} : ∀ n, (∀ i, i < n → P i = R i) → o_cn0 P n = o_cn0 R n
  | 0, _ => rfl
  | n + 1, z => by rw [o_cn0, o_cn0, o_cn0_ext n (fun i hi => z i (by omega)), z n (by omega)]
/-- how many bits of 64 -/
def o_pl (v : Nat) : Nat := o_cn0 (fun i => v.testBit i) 64
theorem o_pl_8 (v : Nat) (n : Nat) : o_cn0 (fun i => v.testBit i) (8 + n) = o_pc (v % 256) + o_cn0 (fun i => (v / 256).testBit i) n := by
  rw [o_cn0_add]
  congr 1
  · refine o_cn0_ext 8 (fun i hi => ?_)
    rw [show (256 : Nat) = 2 ^ 8 from rfl, Nat.testBit_mod_two_pow]
    simp [hi]
  · refine o_cn0_ext n (fun i hi => ?_)
    rw [show (256 : Nat) = 2 ^ 8 from rfl, Nat.testBit_div_two_pow, Nat.add_comm]
theorem o_pl_bytes (v : Nat) : o_pl v = o_pc (v % 256) + (o_pc (v / 256 % 256) + (o_pc (v / 256 / 256 % 256) + (o_pc (v / 256 / 256 / 256 % 256) + (o_pc (v / 256 / 256 / 256 / 256 % 256) + (o_pc (v / 256 / 256 / 256 / 256 / 256 % 256) + (o_pc (v / 256 / 256 / 256 / 256 / 256 / 256 % 256) + o_pc (v / 256 / 256 / 256 / 256 / 256 / 256 / 256 % 256))))))) := by
  unfold o_pl
  rw [show 64 = 8 + (8 + (8 + (8 + (8 + (8 + (8 + (8 + 0))))))) from rfl]
  rw [o_pl_8, o_pl_8, o_pl_8, o_pl_8, o_pl_8, o_pl_8, o_pl_8, o_pl_8]
  rfl
theorem o_pl_le (v : Nat) : o_pl v ≤ 64 := o_cn0_le 64
theorem n_sum8 {c0 c1 c2 c3 c4 c5 c6 c7 : Nat} (h0 : c0 ≤ 8) (h1 : c1 ≤ 8) (h2 : c2 ≤ 8) (h3 : c3 ≤ 8) (h4 : c4 ≤ 8) (h5 : c5 ≤ 8) (h6 : c6 ≤ 8) (h7 : c7 ≤ 8) : c0 + (c1 + (c2 + (c3 + (c4 + (c5 + (c6 + c7)))))) < 128 := by omega
theorem n_sum {c0 c1 c2 c3 c4 c5 c6 c7 x : Nat} (h0 : c0 ≤ 8) (h1 : c1 ≤ 8) (h2 : c2 ≤ 8) (h3 : c3 ≤ 8) (h4 : c4 ≤ 8) (h5 : c5 ≤ 8) (h6 : c6 ≤ 8) (h7 : c7 ≤ 8) (hx : x = 256 * (256 * (256 * (256 * (256 * (256 * (256 * (256 * 0 + c7) + c6) + c5) + c4) + c3) + c2) + c1) + c0) : x + x / 256 < 1000000000000000000 ∧ (x + x / 256) + (x + x / 256) / 65536 < 1000000000000000000 ∧ ((x + x / 256) + (x + x / 256) / 65536 + ((x + x / 256) + (x + x / 256) / 65536) / 4294967296) % 128 = c0 + (c1 + (c2 + (c3 + (c4 + (c5 + (c6 + c7)))))) ∧ (x + x / 256) + (x + x / 256) / 65536 + ((x + x / 256) + (x + x / 256) / 65536) / 4294967296 < 1000000000000000000 := by
  have e1 : x / 256 = 256 * (256 * (256 * (256 * (256 * (256 * c7 + c6) + c5) + c4) + c3) + c2) + c1 := by omega
  rw [e1]
  generalize hy : x + (256 * (256 * (256 * (256 * (256 * (256 * c7 + c6) + c5) + c4) + c3) + c2) + c1) = y
  have e2 : y / 65536 = 256 * (256 * (256 * (256 * (256 * c7 + (c6 + c7)) + (c5 + c6)) + (c4 + c5)) + (c3 + c4)) + (c2 + c3) := by omega
  rw [e2]
  generalize hz : y + (256 * (256 * (256 * (256 * (256 * c7 + (c6 + c7)) + (c5 + c6)) + (c4 + c5)) + (c3 + c4)) + (c2 + c3)) = z
  have e3 : z / 4294967296 = 256 * (256 * (256 * c7 + (c6 + c7)) + (c5 + c6 + c7)) + (c4 + c5 + c6 + c7) := by omega
  rw [e3]
  have e4 : z + (256 * (256 * (256 * c7 + (c6 + c7)) + (c5 + c6 + c7)) + (c4 + c5 + c6 + c7)) = 128 * (2 * (1 * c1 + 257 * c2 + 65793 * c3 + 16843009 * c4 + 4311810305 * c5 + 1103823438081 * c6 + 282578800148737 * c7)) + (c0 + (c1 + (c2 + (c3 + (c4 + (c5 + (c6 + c7))))))) := by omega
  refine ⟨by omega, by omega, ?_, by omega⟩
  rw [e4, Nat.mul_add_mod, Nat.mod_eq_of_lt (n_sum8 h0 h1 h2 h3 h4 h5 h6 h7)]
theorem o_M8 : o_M 85 8 = 6148914691236517205 ∧ o_M 51 8 = 3689348814741910323 ∧ o_M 15 8 = 1085102592571150095 := by decide +kernel
theorem n_and127 (x : Nat) : x &&& 127 = x % 128 := Nat.and_two_pow_sub_one_eq_mod x 7
theorem c334 {v : Nat} (hv : v < 18446744073709551616) (H : Q (some (.int (i_n (o_pl v)))) h) : i_C i_MT i_AT L xs 334 [.long (i_j v)] h Q := by
  refine e334 (b334_0 ?_)
  show Q (some (.int ((g6 (g5 (g4 (g3 (g2 (g1 (i_j v))))))).toInt32 &&& (127 : Int32)))) h
  obtain ⟨i1, i2⟩ := n_ABC 8 v (by rw [show 256 ^ 8 = 18446744073709551616 from rfl]; exact hv)
  have l1 : (v / 2) &&& 6148914691236517205 ≤ v := Nat.le_trans Nat.and_le_left (Nat.div_le_self _ _)
  have E1 : g1 (i_j v) = i_j (n_A 8 v) := by
    unfold g1 n_A
    rw [show (1 : Int32) = i_n 1 from rfl, jj_shr hv (by omega), show (6148914691236517205 : Int64) = i_j 6148914691236517205 from rfl, jj_and, Nat.shiftRight_eq_div_pow, show 2 ^ 1 = 2 from rfl, jj_sub l1, o_M8.1]
  have b1 : n_A 8 v < 18446744073709551616 := Nat.lt_of_le_of_lt (Nat.sub_le _ _) hv
  have E2 : g2 (i_j (n_A 8 v)) = i_j (n_B 8 (n_A 8 v)) := by
    unfold g2 n_B
    rw [show (2 : Int32) = i_n 2 from rfl, jj_shr b1 (by omega), show (3689348814741910323 : Int64) = i_j 3689348814741910323 from rfl, jj_and, jj_and, Nat.shiftRight_eq_div_pow, show 2 ^ 2 = 4 from rfl, jj_add, o_M8.2.1]
  have b2 : n_B 8 (n_A 8 v) < 18446744073709551616 := by
    unfold n_B
    rw [o_M8.2.1]
    have q1 : n_A 8 v &&& 3689348814741910323 ≤ 3689348814741910323 := Nat.and_le_right
    have q2 : n_A 8 v / 4 &&& 3689348814741910323 ≤ 3689348814741910323 := Nat.and_le_right
    omega
  have E3 : g3 (i_j (n_B 8 (n_A 8 v))) = i_j (o_pcs 8 v) := by
    rw [← i2]
    unfold g3 n_C
    rw [show (4 : Int32) = i_n 4 from rfl, jj_shr b2 (by omega), show (1085102592571150095 : Int64) = i_j 1085102592571150095 from rfl, jj_add, jj_and, Nat.shiftRight_eq_div_pow, show 2 ^ 4 = 16 from rfl, o_M8.2.2]
  have hp : ∀ w, o_pc w ≤ 8 := fun w => o_cn0_le 8
  obtain ⟨s1, s2, s3, s4⟩ := n_sum (x := o_pcs 8 v) (hp (v % 256)) (hp (v / 256 % 256)) (hp (v / 256 / 256 % 256)) (hp (v / 256 / 256 / 256 % 256)) (hp (v / 256 / 256 / 256 / 256 % 256)) (hp (v / 256 / 256 / 256 / 256 / 256 % 256)) (hp (v / 256 / 256 / 256 / 256 / 256 / 256 % 256)) (hp (v / 256 / 256 / 256 / 256 / 256 / 256 / 256 % 256)) rfl
  rw [← o_pl_bytes] at s3
  rw [E1, E2, E3]
  generalize o_pcs 8 v = x at *
  have E4 : g4 (i_j x) = i_j (x + x / 256) := by
    unfold g4
    rw [show (8 : Int32) = i_n 8 from rfl, jj_shr (by omega) (by omega), jj_add, Nat.shiftRight_eq_div_pow, show 2 ^ 8 = 256 from rfl]
  rw [E4]
  generalize x + x / 256 = y at *
  have E5 : g5 (i_j y) = i_j (y + y / 65536) := by
    unfold g5
    rw [show (16 : Int32) = i_n 16 from rfl, jj_shr (by omega) (by omega), jj_add, Nat.shiftRight_eq_div_pow, show 2 ^ 16 = 65536 from rfl]
  rw [E5]
  generalize y + y / 65536 = z at *
  have E6 : g6 (i_j z) = i_j (z + z / 4294967296) := by
    unfold g6
    rw [show (32 : Int32) = i_n 32 from rfl, jj_shr (by omega) (by omega), jj_add, Nat.shiftRight_eq_div_pow, show 2 ^ 32 = 4294967296 from rfl]
  rw [E6]
  have E7 : (i_j (z + z / 4294967296)).toInt32 &&& (127 : Int32) = i_n (o_pl v) := by
    rw [show (i_j (z + z / 4294967296)).toInt32 = i_n (z + z / 4294967296) from Int64.toInt32_ofNat', show (127 : Int32) = i_n 127 from rfl, n_and, n_and127, s3]
  rw [E7]
  exact H
theorem o_cn0_s {P : Nat → Bool} : ∀ n, o_cn0 P (n + 1) = (if P 0 = true then 1 else 0) + o_cn0 (fun i => P (i + 1)) n := by
  intro n
  rw [Nat.add_comm n 1, o_cn0_add]
  congr 1
  · rw [o_cn0, o_cn0, Nat.zero_add]
  · exact o_cn0_ext n (fun i _ => by rw [Nat.add_comm])
theorem pl_and : ∀ n v, v ≠ 0 → v < 2 ^ n → o_cn0 (fun i => (v &&& (v - 1)).testBit i) n + 1 = o_cn0 (fun i => v.testBit i) n
  | 0, v, h0, hv => by rw [Nat.pow_zero] at hv; omega
  | n + 1, v, h0, hv => by
    have e2 : 2 ^ (n + 1) = 2 * 2 ^ n := by rw [Nat.pow_succ, Nat.mul_comm]
    rw [o_cn0_s, o_cn0_s]
    have sh : ∀ w : Nat, (fun i => w.testBit (i + 1)) = (fun i => (w / 2).testBit i) := fun w => funext (fun i => Nat.testBit_succ w i)
    rw [sh, sh, Nat.testBit_zero, Nat.testBit_zero, Nat.and_div_two]
    rcases Nat.mod_two_eq_zero_or_one v with e | e
    · have ih := pl_and n (v / 2) (by omega) (by omega)
      rw [show (v - 1) / 2 = v / 2 - 1 by omega]
      have h1 : (v &&& (v - 1)) % 2 = 0 := by
        have : (v &&& (v - 1)).testBit 0 = false := by rw [Nat.testBit_and, Nat.testBit_zero, e]; rfl
        rw [Nat.testBit_zero, decide_eq_false_iff_not] at this
        omega
      rw [h1, e, if_neg (by decide)]
      omega
    · have h1 : (v &&& (v - 1)) % 2 = 0 := by
        have : (v &&& (v - 1)).testBit 0 = false := by rw [Nat.testBit_and, Nat.testBit_zero (v - 1), show (v - 1) % 2 = 0 by omega]; simp
        rw [Nat.testBit_zero, decide_eq_false_iff_not] at this
        omega
      rw [h1, e, show (v - 1) / 2 = v / 2 by omega, Nat.and_self, if_neg (by decide), if_pos (by decide)]
      omega
theorem c320 (hL : i_Lay h) {v : Nat} (hv : v < 9223372036854775808) (H : Q (some (.int (i_n (o_pl v)))) h) : i_C i_MT i_AT L xs 320 [.long (i_j v)] h Q := by
  have key : ∀ m w k, o_pl w ≤ m → w < 9223372036854775808 → k + o_pl w = o_pl v → i_P i_MT i_AT L xs 320 4 [some (.long (i_j v)), none, some (.int (i_n k)), some (.long (i_j w)), none] [] h 0 0 Q := by
    intro m
    induction m with
    | zero =>
      intro w k hw hw2 hk
      have w0 : w = 0 := by
        by_cases e : w = 0
        · exact e
        · have := pl_and 64 w e (by omega)
          unfold o_pl at hw
          omega
      subst w0
      refine d320_4 hL ?_
      rw [show (0 : Int64) = i_j 0 from rfl]
      try simp (disch := omega) only [n_lit, n_m, i_bo01, j_cmpn, Classical.not_not, n_add, n_mul, n_div, n_mod, n_cl, n_lt, n_le, n_eq, n_in, n_eqm, n_meq, n_mlt, n_ltm, n_mle, n_lem, not_true_eq_false, not_false_eq_true, true_implies, false_implies, true_and, and_true, Nat.not_lt_zero, Nat.zero_le]
      rw [show o_pl 0 = 0 from by decide, Nat.add_zero] at hk
      rw [hk]; exact H
    | succ m ih =>
      intro w k hw hw2 hk
      refine d320_4 hL ?_
      rw [show (0 : Int64) = i_j 0 from rfl, show (1 : Int64) = i_j 1 from rfl]
      by_cases w0 : w = 0
      · subst w0
        rw [show o_pl 0 = 0 from by decide, Nat.add_zero] at hk
        try simp (disch := omega) only [n_lit, n_m, i_bo01, j_cmpn, Classical.not_not, n_add, n_mul, n_div, n_mod, n_cl, n_lt, n_le, n_eq, n_in, n_eqm, n_meq, n_mlt, n_ltm, n_mle, n_lem, not_true_eq_false, not_false_eq_true, true_implies, false_implies, true_and, and_true, Nat.not_lt_zero, Nat.zero_le]
        rw [hk]; exact H
      · have q := pl_and 64 w w0 (by omega)
        have q2 : w &&& (w - 1) ≤ w := Nat.and_le_left
        rw [jj_sub (by omega), jj_and]
        try simp (disch := omega) only [n_lit, n_m, i_bo01, j_cmpn, Classical.not_not, n_add, n_mul, n_div, n_mod, n_cl, n_lt, n_le, n_eq, n_in, n_eqm, n_meq, n_mlt, n_ltm, n_mle, n_lem, not_true_eq_false, not_false_eq_true, true_implies, false_implies, true_and, and_true, Nat.not_lt_zero, Nat.zero_le, jj_eq]
        refine ⟨fun z => absurd z w0, fun _ => ih _ _ ?_ (by omega) ?_⟩
        · unfold o_pl at *; omega
        · unfold o_pl at *; omega
  refine e320 (d320_0 hL ?_)
  try simp (disch := omega) only [n_lit, n_m, n_add, n_mul, n_div, n_mod, n_cl, n_lt, n_le, n_eq, n_in, n_eqm, n_meq, n_mlt, n_ltm, n_mle, n_lem, not_true_eq_false, not_false_eq_true, true_implies, false_implies, true_and, and_true, Nat.not_lt_zero, Nat.zero_le]
  exact key (o_pl v) v 0 (Nat.le_refl _) hv (by omega)
/-- how many members a long has -/
def o_pj (s : Int64) : Nat := o_pl s.toBitVec.toNat
theorem o_pj_j {s : Int64} {v : Nat} (hv : v < 18446744073709551616) (e : s = i_j v) : o_pj s = o_pl v := by
  subst e
  unfold o_pj
  rw [show (i_j v).toBitVec.toNat = v % 2 ^ 64 from rfl, Nat.mod_eq_of_lt hv]
theorem o_pj_le (s : Int64) : o_pj s ≤ 64 := o_pl_le _
theorem c334s {s : Int64} (H : Q (some (.int (i_n (o_pj s)))) h) : i_C i_MT i_AT L xs 334 [.long s] h Q := by
  obtain ⟨v, hv, e⟩ := jj_ex s
  rw [o_pj_j hv e] at H
  rw [e]
  exact c334 hv H
theorem c320s (hL : i_Lay h) {s : Int64} (hs : i_b s 63 = false) (H : Q (some (.int (i_n (o_pj s)))) h) : i_C i_MT i_AT L xs 320 [.long s] h Q := by
  obtain ⟨v, hv, e⟩ := jj_ex s
  rw [o_pj_j hv e] at H
  rw [e, jj_b (by omega)] at hs
  rw [e]
  refine c320 hL ?_ H
  by_cases q : v < 9223372036854775808
  · exact q
  · exfalso
    have : v.testBit 63 = true := by
      unfold Nat.testBit
      rw [Nat.shiftRight_eq_div_pow, show v / 2 ^ 63 = 1 from Nat.div_eq_of_lt_le (by omega) (by omega)]
      rfl
    rw [hs] at this; cases this
/-! SWEPT -/
/-- where the k-th choice leads -/
def o_swo (a : Nat → Nat) (c k : Nat) : Option Nat := if k < 8 then some c else (match o_lead (a 0) (a 1) c (k - 8) with
  | some t => if o_wall a t = true then none else some t
  | none => none)
/-- what it shows anew -/
def o_sws (a : Nat → Nat) (p m : Nat) (S : Int64) (o w : Nat) : Int64 := o_mk (fun c => o_seen (a 0) (o_bl a m) o w (a (156 + 5 * p)) c) (a 0 * a 1) &&& (S ^^^ (-1 : Int64))
abbrev wS : Type := Option Nat × Nat × Int64
def o_swb (v : Nat) : Option Nat → Bool
  | none => true
  | some b => decide (b < v)
def o_swk (a : Nat → Nat) (p m c : Nat) (S : Int64) : Nat → wS
  | 0 => (none, c, 0)
  | k + 1 => match o_swo a c k with
    | none => o_swk a p m c S k
    | some o => if o_swb (o_pj (o_sws a p m S o (k % 8))) (o_swk a p m c S k).1 = true then (some (o_pj (o_sws a p m S o (k % 8))), o, o_sws a p m S o (k % 8)) else o_swk a p m c S k
/-- the cell and what has been in sight behind m minutes -/
def o_swm (a : Nat → Nat) (p : Nat) : Nat → Nat × Int64
  | 0 => (a (154 + 5 * p), 0)
  | m + 1 => ((o_swk a p (m + 1) (o_swm a p m).1 (o_swm a p m).2 16).2.1, (o_swm a p m).2 ||| (o_swk a p (m + 1) (o_swm a p m).1 (o_swm a p m).2 16).2.2)
def o_swpA (a : Nat → Nat) (x y : Int32) : Int32 × Int32 := o_A (v_p a x ∧ v_t y) (i_n (o_pj (o_swm a x.toNatClampNeg y.toNatClampNeg).2))
/-- within the cells -/
def o_wi (s : Int64) (n : Nat) : Prop := ∀ c, n ≤ c → c < 64 → i_b s c = false
theorem o_is.wi {s : Int64} {n : Nat} {P : Nat → Bool} (x : o_is s n P) : o_wi s n := fun c h1 h2 => by rw [x c h2]; simp; omega
theorem o_wi.and {s s2 : Int64} {n : Nat} (x : o_wi s n) : o_wi (s &&& s2) n := fun c h1 h2 => by rw [j_and, x c h1 h2]; rfl
theorem o_wi.or {s s2 : Int64} {n : Nat} (x : o_wi s n) (y : o_wi s2 n) : o_wi (s ||| s2) n := fun c h1 h2 => by rw [j_or, x c h1 h2, y c h1 h2]; rfl
theorem o_wi0 {n : Nat} : o_wi 0 n := fun c _ _ => j_0 c
theorem o_sws_wi (h48 : a 0 * a 1 ≤ 48) {p m o w : Nat} {S : Int64} : o_wi (o_sws a p m S o w) (a 0 * a 1) := (o_mk_is (a 0 * a 1) (by omega)).wi.and
theorem o_swk_ok (w : o_WF a) {p m c : Nat} {S : Int64} (hc : c < a 0 * a 1) (hw : o_wall a c = false) : ∀ k, (o_swk a p m c S k).2.1 < a 0 * a 1 ∧ o_wall a (o_swk a p m c S k).2.1 = false ∧ o_wi (o_swk a p m c S k).2.2 (a 0 * a 1) ∧ (∀ b, (o_swk a p m c S k).1 = some b → b ≤ 64)
  | 0 => ⟨hc, hw, o_wi0, fun b z => by cases z⟩
  | k + 1 => by
    have ih := o_swk_ok w (p := p) (m := m) (S := S) hc hw k
    rw [o_swk]
    cases ho : o_swo a c k with
    | none => exact ih
    | some o =>
      dsimp only
      split
      · unfold o_swo at ho
        split at ho
        · cases ho
          exact ⟨hc, hw, o_sws_wi w.c48.1, fun b z => by cases z; exact o_pj_le _⟩
        · split at ho
          · rename_i tt ht
            split at ho
            · cases ho
            · rename_i hwt
              cases ho
              exact ⟨o_lead_lt ht, by simpa using hwt, o_sws_wi w.c48.1, fun b z => by cases z; exact o_pj_le _⟩
          · cases ho
      · exact ih
theorem o_swm_ok (w : o_WF a) {p : Nat} (hp : p < a 5) : ∀ m, (o_swm a p m).1 < a 0 * a 1 ∧ o_wall a (o_swm a p m).1 = false ∧ o_wi (o_swm a p m).2 (a 0 * a 1)
  | 0 => by
    have h := o_cr_ok w hp 0 (by omega)
    exact ⟨h.1, h.2.1, o_wi0⟩
  | m + 1 => by
    obtain ⟨i1, i2, i3⟩ := o_swm_ok w hp m
    have k := o_swk_ok w (p := p) (m := m + 1) (S := (o_swm a p m).2) i1 i2 16
    rw [o_swm]
    exact ⟨k.1, k.2.1, i3.or k.2.2.1⟩
/-- what was tried is no better than the best -/
theorem o_swk_mx {p m c : Nat} {S : Int64} : ∀ k j o, j < k → o_swo a c j = some o → ∃ b, (o_swk a p m c S k).1 = some b ∧ o_pj (o_sws a p m S o (j % 8)) ≤ b
  | 0, j, o, hj, _ => absurd hj (Nat.not_lt_zero j)
  | k + 1, j, o, hj, ho => by
    rw [o_swk]
    by_cases e : j = k
    · subst e
      rw [ho]
      dsimp only
      cases hB : (o_swk a p m c S j).1 with
      | none => rw [if_pos (show o_swb (o_pj (o_sws a p m S o (j % 8))) none = true from rfl)]; exact ⟨_, rfl, Nat.le_refl _⟩
      | some b =>
        by_cases hb : o_swb (o_pj (o_sws a p m S o (j % 8))) (some b) = true
        · rw [if_pos hb]; exact ⟨_, rfl, Nat.le_refl _⟩
        · rw [if_neg hb]
          refine ⟨b, hB, ?_⟩
          unfold o_swb at hb
          simp at hb
          exact hb
    · obtain ⟨b, h1, h2⟩ := o_swk_mx (p := p) (m := m) (S := S) k j o (by omega) ho
      cases hk : o_swo a c k with
      | none => exact ⟨b, h1, h2⟩
      | some o2 =>
        dsimp only
        rw [h1]
        by_cases hb : o_swb (o_pj (o_sws a p m S o2 (k % 8))) (some b) = true
        · rw [if_pos hb]
          refine ⟨_, rfl, ?_⟩
          unfold o_swb at hb
          simp at hb
          omega
        · rw [if_neg hb]; exact ⟨b, h1, h2⟩
theorem i_CO.fars (g : i_CO a t h) {p : Nat} (hp : p < a 5) : aI h (t + 11) p = i_n (a (156 + 5 * p)) ∧ a (156 + 5 * p) ≤ 9 := ⟨(g.ct.2.2.2.2.2.2.2.1.2 p hp).2.2.1, (g.w.2.2.2.2.2.2.2.2.2.2.1 p hp).2.2.2.2.1⟩
end
