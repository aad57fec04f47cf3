/-! FOUND: what both know; the class's step -/
section
variable {L : Nat} {xs : Nat → Int32} {h : iH} {Q : Option Value → iH → Prop} {a : Nat → Nat} {t : Nat}
set_option maxRecDepth 20000
theorem j_sar (x : Int64) {k : Nat} (hk : k < 64) {c : Nat} (hc : c < 64) : i_b (x >>> ((i_n k).toInt64 &&& (63 : Int64))) c = (if k + c < 64 then i_b x (k + c) else i_b x 63) := by
  unfold i_b
  rw [Int64.toBitVec_shiftRight, BitVec.getLsbD_sshiftRight']
  erw [j_amt hk]
  have e : x.toBitVec.msb = x.toBitVec.getLsbD 63 := by rw [BitVec.msb_eq_getLsbD_last]
  rw [e]
  by_cases h1 : k + c < 64
  · simp [h1, hc]
  · simp [h1, hc]
theorem z_rq {W q r : Nat} (hr : r < W) : (W * q + r) % W = r ∧ (W * q + r) / W = q := by
  refine ⟨?_, ?_⟩
  · rw [Nat.mul_add_mod, Nat.mod_eq_of_lt hr]
  · rw [Nat.mul_add_div (by omega), Nat.div_eq_of_lt hr, Nat.add_zero]
theorem o_lead_iff {W H b c w : Nat} (hW : 0 < W) (hc : c < W * H) : o_lead W H b w = some c ↔ b % W + o_ex w = c % W + 1 ∧ b / W + o_sy w = c / W + 1 := by
  have c1 := Nat.mod_lt c hW
  have c2 : c / W < H := Nat.div_lt_of_lt_mul hc
  have c3 := Nat.div_add_mod c W
  unfold o_lead
  split
  · rename_i e
    obtain ⟨e1, e2, e3, e4⟩ := e
    obtain ⟨q1, q2⟩ := z_rq (W := W) (q := b / W + o_sy w - 1) (r := b % W + o_ex w - 1) (by omega)
    constructor
    · intro z
      have z := Option.some.inj z
      rw [← z, q1, q2]
      omega
    · rintro ⟨z1, z2⟩
      congr 1
      rw [show b / W + o_sy w - 1 = c / W by omega, show b % W + o_ex w - 1 = c % W by omega]
      exact c3
  · rename_i e
    constructor
    · intro z; cases z
    · rintro ⟨z1, z2⟩
      have v1 := z_dv c W
      have v2 := z_dv b W
      exact absurd ⟨by omega, by omega, by omega, by omega⟩ e
/-- c is come to from a place of P by the look k -/
def o_stp (a : Nat → Nat) (P : Nat → Bool) (k c : Nat) : Bool := !o_wall a c && o_or (fun b => P b && decide (o_lead (a 0) (a 1) b k = some c)) (a 0 * a 1)
theorem o_stp_t {P : Nat → Bool} {k c : Nat} : o_stp a P k c = true ↔ o_wall a c = false ∧ ∃ b, b < a 0 * a 1 ∧ P b = true ∧ o_lead (a 0) (a 1) b k = some c := by
  unfold o_stp
  rw [Bool.and_eq_true, o_or_t]
  simp
theorem o_ex3 (k : Nat) (hk : k < 8) : o_ex k = 0 ∨ o_ex k = 1 ∨ o_ex k = 2 := by
  have : ∀ j : Fin 8, o_ex j.val = 0 ∨ o_ex j.val = 1 ∨ o_ex j.val = 2 := by decide
  exact this ⟨k, hk⟩
theorem o_sy3 (k : Nat) (hk : k < 8) : o_sy k = 0 ∨ o_sy k = 1 ∨ o_sy k = 2 := by
  have : ∀ j : Fin 8, o_sy j.val = 0 ∨ o_sy j.val = 1 ∨ o_sy j.val = 2 := by decide
  exact this ⟨k, hk⟩
theorem z_succ {W c : Nat} (hW : 0 < W) : ((c + 1) % W ≠ 0 ↔ c % W + 1 < W) ∧ (c % W + 1 < W → (c + 1) % W = c % W + 1 ∧ (c + 1) / W = c / W) := by
  have c1 := Nat.mod_lt c hW
  have c3 := Nat.div_add_mod c W
  have up : c % W + 1 < W → (c + 1) % W = c % W + 1 ∧ (c + 1) / W = c / W := by
    intro z
    have := z_rq (W := W) (q := c / W) (r := c % W + 1) z
    rw [show W * (c / W) + (c % W + 1) = c + 1 by omega] at this
    exact this
  refine ⟨⟨fun z => ?_, fun z => ?_⟩, up⟩
  · by_cases q : c % W + 1 < W
    · exact q
    · exfalso
      apply z
      have := z_rq (W := W) (q := c / W + 1) (r := 0) hW
      rw [show W * (c / W + 1) + 0 = c + 1 by rw [Nat.mul_add]; omega] at this
      exact this.1
  · rw [(up z).1]; omega
theorem c24 (hL : i_Lay h) (w : o_WF a) (g : i_GR a h) {s : Int64} {k : Nat} {P : Nat → Bool} (hs : o_is s (a 0 * a 1) P) (hk : k < 8) (H : ∀ s2, o_is s2 (a 0 * a 1) (o_stp a P k) → Q (some (.long s2)) h) : i_C i_MT i_AT L xs 24 [.ref 96, .long s, .int (i_n k)] h Q := by
  have h48 := w.c48
  obtain ⟨gF, gW, gE⟩ := (⟨g.2.1.2.1, g.2.1.2.2.1, g.2.1.2.2.2⟩ : _ ∧ _ ∧ _)
  -- the end
  have fin : ∀ (s2 : Int64) (P1 : Nat → Bool), (∀ c, c < a 0 * a 1 → (P1 c = true ↔ ∃ b, b < a 0 * a 1 ∧ P b = true ∧ b % a 0 + o_ex k = c % a 0 + 1 ∧ b / a 0 = c / a 0)) → (∀ c, c < a 0 * a 1 → (i_b s2 c = true ↔ ∃ b, b < a 0 * a 1 ∧ P1 b = true ∧ b % a 0 = c % a 0 ∧ b / a 0 + o_sy k = c / a 0 + 1)) → Q (some (.long (s2 &&& fJ h 96 4))) h := by
    intro s2 P1 h1 h2
    refine H _ (fun c hc => ?_)
    rw [j_and, gF c hc]
    by_cases hcn : c < a 0 * a 1
    · have hp := w.pos hcn
      rw [Bool.eq_iff_iff]
      simp only [Bool.and_eq_true, decide_eq_true_eq, Bool.not_eq_true', o_stp_t]
      rw [h2 c hcn]
      constructor
      · rintro ⟨⟨b1, q1, q2, q3, q4⟩, -, q5⟩
        obtain ⟨b, r1, r2, r3, r4⟩ := (h1 b1 q1).mp q2
        refine ⟨hcn, q5, b, r1, r2, (o_lead_iff (by omega) hcn).mpr ⟨by omega, by omega⟩⟩
      · rintro ⟨-, q5, b, r1, r2, r3⟩
        obtain ⟨r3, r4⟩ := (o_lead_iff (by omega) hcn).mp r3
        have c1 := Nat.mod_lt c (show a 0 > 0 by omega)
        have b3 := Nat.div_add_mod b (a 0)
        have c3 := Nat.div_add_mod c (a 0)
        obtain ⟨m1, m2⟩ := z_rq (W := a 0) (q := b / a 0) (r := c % a 0) c1
        have b2 : b / a 0 < a 1 := Nat.div_lt_of_lt_mul r1
        have lt : a 0 * (b / a 0) + c % a 0 < a 0 * a 1 := by
          have := Nat.mul_le_mul_left (a 0) (show b / a 0 + 1 ≤ a 1 by omega)
          rw [Nat.mul_add] at this
          omega
        refine ⟨⟨a 0 * (b / a 0) + c % a 0, lt, (h1 _ lt).mpr ⟨b, r1, r2, by omega, by omega⟩, m1, by omega⟩, hcn, q5⟩
    · simp [hcn]
  -- south
  have mid : ∀ (s1 : Int64) (P1 : Nat → Bool), o_is s1 (a 0 * a 1) P1 → (∀ c, c < a 0 * a 1 → (P1 c = true ↔ ∃ b, b < a 0 * a 1 ∧ P b = true ∧ b % a 0 + o_ex k = c % a 0 + 1 ∧ b / a 0 = c / a 0)) → ∀ (y4 : Int32), ∀ (y5 y6 y7 : Option Value), i_P i_MT i_AT L xs 24 48 [some (.ref 96), some (.long s), none, some (.int (i_n k)), some (.int y4), y5, y6, y7] [.long s1] h 0 0 Q := by
    intro s1 P1 hs1 h1 y4 y5 y6 y7
    refine d24_48 hL ?_
    rw [n_cl (by omega), i_SOUTHn hk, g.1.1]
    refine ⟨(n_in (by omega)).mpr (by omega), ?_⟩
    rcases o_sy3 k hk with e | e | e
    · rw [show i_n (o_sy k) - i_n 1 = (-1 : Int32) by rw [e]; rfl]
      refine ⟨fun _ => ⟨fun z => absurd z (by decide), fun _ => d24_89 hL ?_⟩, fun z => absurd (by decide) z⟩
      refine fin _ P1 h1 (fun c hc => ?_)
      have hp := w.pos hc
      rw [j_shr _ (by omega), e]
      by_cases hb : a 0 + c < a 0 * a 1
      · rw [hs1.b hb (by omega)]
        have m1 : (a 0 + c) % a 0 = c % a 0 := by rw [Nat.add_mod_left]
        have m2 : (a 0 + c) / a 0 = c / a 0 + 1 := by rw [Nat.add_div_left _ (by omega)]
        constructor
        · intro z; exact ⟨_, hb, z, m1, by omega⟩
        · rintro ⟨b, q1, q2, q3, q4⟩
          have b3 := Nat.div_add_mod b (a 0)
          have c3 := Nat.div_add_mod (a 0 + c) (a 0)
          rw [m1, m2, ← q3, ← (show b / a 0 = c / a 0 + 1 by omega), b3] at c3
          rw [← c3]; exact q2
      · constructor
        · intro z
          by_cases h64 : a 0 + c < 64
          · rw [hs1 _ h64] at z
            simp [hb] at z
          · rw [j_ge (by omega)] at z; cases z
        · rintro ⟨b, q1, q2, q3, q4⟩
          exfalso
          have b3 := Nat.div_add_mod b (a 0)
          have c3 := Nat.div_add_mod c (a 0)
          rw [q3, show b / a 0 = c / a 0 + 1 by omega, Nat.mul_add] at b3
          omega
    · rw [show i_n (o_sy k) - i_n 1 = (0 : Int32) by rw [e]; rfl]
      refine ⟨fun _ => ⟨fun _ => d24_89 hL ?_, fun z => absurd (by decide) z⟩, fun z => absurd (by decide) z⟩
      refine fin _ P1 h1 (fun c hc => ?_)
      rw [hs1.b hc (by omega), e]
      constructor
      · intro z; exact ⟨c, hc, z, rfl, rfl⟩
      · rintro ⟨b, q1, q2, q3, q4⟩
        have b3 := Nat.div_add_mod b (a 0)
        have c3 := Nat.div_add_mod c (a 0)
        rw [q3, show b / a 0 = c / a 0 by omega, c3] at b3
        rw [b3]; exact q2
    · rw [show i_n (o_sy k) - i_n 1 = (1 : Int32) by rw [e]; rfl]
      refine ⟨fun z => absurd z (by decide), fun _ => d24_89 hL ?_⟩
      refine fin _ P1 h1 (fun c hc => ?_)
      have hp := w.pos hc
      rw [j_shl _ (by omega), e, decide_eq_true (show c < 64 by omega), Bool.and_true]
      by_cases hb : a 0 ≤ c
      · rw [decide_eq_true hb, Bool.true_and, hs1.b (by omega) (by omega)]
        have m1 : (c - a 0) % a 0 = c % a 0 := by
          have : (a 0 + (c - a 0)) % a 0 = (c - a 0) % a 0 := Nat.add_mod_left _ _
          rw [show a 0 + (c - a 0) = c by omega] at this
          exact this.symm
        have m2 : (c - a 0) / a 0 + 1 = c / a 0 := by
          have : (a 0 + (c - a 0)) / a 0 = (c - a 0) / a 0 + 1 := Nat.add_div_left _ (by omega)
          rw [show a 0 + (c - a 0) = c by omega] at this
          exact this.symm
        constructor
        · intro z; exact ⟨c - a 0, by omega, z, m1, by omega⟩
        · rintro ⟨b, q1, q2, q3, q4⟩
          have b3 := Nat.div_add_mod b (a 0)
          have c3 := Nat.div_add_mod (c - a 0) (a 0)
          rw [m1, show (c - a 0) / a 0 = b / a 0 by omega, ← q3, b3] at c3
          rw [← c3]; exact q2
      · rw [decide_eq_false hb, Bool.false_and]
        constructor
        · intro z; cases z
        · rintro ⟨b, q1, q2, q3, q4⟩
          have : c / a 0 = 0 := Nat.div_eq_of_lt (by omega)
          have v2 := z_dv b (a 0)
          omega
  refine e24 (d24_0 hL ?_)
  rw [n_cl (by omega), i_EASTn hk]
  refine ⟨(n_in (by omega)).mpr (by omega), ?_⟩
  rcases o_ex3 k hk with e | e | e
  · rw [show i_n (o_ex k) - i_n 1 = (-1 : Int32) by rw [e]; rfl]
    refine ⟨fun _ => ⟨fun z => absurd z (by decide), fun _ => ?_⟩, fun z => absurd (by decide) z⟩
    refine mid _ (fun c => decide (c + 1 < a 0 * a 1) && (P (c + 1) && !((c + 1) % a 0 == 0))) (fun c hc => ?_) (fun c hc => ?_) _ _ _ _
    · rw [show (1 : Int32) = i_n 1 from rfl, j_shr _ (by omega), j_and, Nat.add_comm 1 c]
      by_cases h64 : c + 1 < 64
      · rw [j_not _ h64, hs _ h64, gW _ h64]
        by_cases q : c + 1 < a 0 * a 1
        · simp [q, show c < a 0 * a 1 by omega]
        · simp [q]
      · rw [j_ge (x := s) (by omega)]
        simp [show ¬ c + 1 < a 0 * a 1 by omega]
    · have hp := w.pos hc
      have zs := z_succ (W := a 0) (c := c) (by omega)
      simp only [Bool.and_eq_true, decide_eq_true_eq, Bool.not_eq_true', beq_eq_false_iff_ne]
      rw [zs.1, e]
      constructor
      · rintro ⟨q1, q2, q3⟩
        have := zs.2 q3
        exact ⟨c + 1, q1, q2, by omega, by omega⟩
      · rintro ⟨b, q1, q2, q3, q4⟩
        have b1 := Nat.mod_lt b (show a 0 > 0 by omega)
        have b3 := Nat.div_add_mod b (a 0)
        have c3 := Nat.div_add_mod c (a 0)
        rw [q4, show b % a 0 = c % a 0 + 1 by omega] at b3
        obtain rfl : b = c + 1 := by omega
        exact ⟨q1, q2, by omega⟩
  · rw [show i_n (o_ex k) - i_n 1 = (0 : Int32) by rw [e]; rfl]
    refine ⟨fun _ => ⟨fun _ => ?_, fun z => absurd (by decide) z⟩, fun z => absurd (by decide) z⟩
    refine mid _ P hs (fun c hc => ?_) _ _ _ _
    rw [e]
    constructor
    · intro z; exact ⟨c, hc, z, rfl, rfl⟩
    · rintro ⟨b, q1, q2, q3, q4⟩
      have b3 := Nat.div_add_mod b (a 0)
      have c3 := Nat.div_add_mod c (a 0)
      rw [q4, show b % a 0 = c % a 0 by omega, c3] at b3
      rw [b3]; exact q2
  · rw [show i_n (o_ex k) - i_n 1 = (1 : Int32) by rw [e]; rfl]
    refine ⟨fun z => absurd z (by decide), fun _ => ?_⟩
    refine mid _ (fun c => decide (1 ≤ c) && (P (c - 1) && !((c - 1) % a 0 + 1 == a 0))) (fun c hc => ?_) (fun c hc => ?_) _ _ _ _
    · rw [show (1 : Int32) = i_n 1 from rfl, j_shl _ (by omega), decide_eq_true hc, Bool.and_true, j_and, j_not _ (by omega), hs _ (by omega), gE _ (by omega)]
      by_cases q1 : 1 ≤ c
      · by_cases q : c < a 0 * a 1
        · simp [q, q1, show c - 1 < a 0 * a 1 by omega]
        · by_cases q2 : c - 1 < a 0 * a 1
          · have e3 : c = a 0 * a 1 := by omega
            have hp := w.pos q2
            have : (c - 1) % a 0 + 1 = a 0 := by
              have e4 : a 0 * a 1 = a 0 * (a 1 - 1) + a 0 := by
                rw [← Nat.mul_succ]
                congr 1
                omega
              have := (z_rq (W := a 0) (q := a 1 - 1) (r := a 0 - 1) (by omega)).1
              rw [show c - 1 = a 0 * (a 1 - 1) + (a 0 - 1) by omega, this]
              omega
            simp [q, q1, q2, this]
          · simp [q, q2]
      · simp [q1]
    · have hp := w.pos hc
      simp only [Bool.and_eq_true, decide_eq_true_eq, Bool.not_eq_true', beq_eq_false_iff_ne]
      rw [e]
      constructor
      · rintro ⟨q1, q2, q3⟩
        have zs := z_succ (W := a 0) (c := c - 1) (by omega)
        have c1 := Nat.mod_lt (c - 1) (show a 0 > 0 by omega)
        have := zs.2 (by omega)
        rw [show c - 1 + 1 = c by omega] at this
        exact ⟨c - 1, by omega, q2, by omega, by omega⟩
      · rintro ⟨b, q1, q2, q3, q4⟩
        have b3 := Nat.div_add_mod b (a 0)
        have c3 := Nat.div_add_mod c (a 0)
        have c1 := Nat.mod_lt c (show a 0 > 0 by omega)
        rw [q4] at b3
        obtain rfl : c = b + 1 := by omega
        rw [show b + 1 - 1 = b by omega]
        exact ⟨by omega, q2, by omega⟩
end
