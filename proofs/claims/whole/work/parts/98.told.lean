/-! TOLD -/
section
variable {L : Nat} {xs : Nat → Int32} {h : iH} {Q : Option Value → iH → Prop} {a : Nat → Nat} {t : Nat}
set_option maxRecDepth 20000
def o_tolA (a : Nat → Nat) (x : Int32) : Int32 × Int32 := o_A (0 ≤ x ∧ x ≤ i_n 9) (i_n (a x.toNatClampNeg))
/-- how many trees there are, is told rightly -/
def o_W2 (a : Nat → Nat) : Prop := a 2 = o_cn0 (fun c => a (58 + c) != 4294967295) 48
theorem c140 (g : i_ST a t h) (w2 : o_W2 a) {x : Int32} (H : i_K0 a t h Q (o_tolA a x)) : i_C i_MT i_AT L xs 140 [.ref 0, .int x] h Q := by
  have h4 := g.w.2.2.2.1
  unfold o_tolA at H
  have ct := g.1.ct
  have xe : ∀ k : Nat, k ≤ 9 → x.toInt = (k : Int) → x = i_n k := fun k hk e => by
    refine Int32.toInt_inj.mp ?_
    rw [e]
    have : ∀ j : Fin 10, ((j.val : Nat) : Int) = (i_n j.val).toInt := by decide
    exact this ⟨k, by omega⟩
  have ex : ∀ k : Nat, k ≤ 9 → 0 ≤ i_n k ∧ i_n k ≤ i_n 9 := fun k hk => by
    have : ∀ j : Fin 10, 0 ≤ i_n j.val ∧ i_n j.val ≤ i_n 9 := by decide
    exact this ⟨k, by omega⟩
  have val : ∀ k : Nat, k ≤ 9 → x = i_n k → ∀ h2, i_ST a t h2 → i_F0 h h2 → fI h2 0 0 = 0 → Q (some (.int (i_n (a k)))) h2 := by
    intro k hk e h2 g2 f2 s2
    rw [e, n_cl (by omega), o_A_t (ex k hk)] at H
    exact H h2 g2 f2 s2
  refine e140 (d140_0 g.l ⟨fun e => c192 ⟨_, rfl, d140_126 g.l ?_⟩, fun e => ⟨t, g.tw, g.T, ?_⟩, fun e => ⟨t, g.tw, g.T, ?_⟩, fun e => ⟨t, g.tw, g.T, ?_⟩, fun e => ⟨t, g.tw, g.T, ?_⟩, fun e => ⟨t, g.tw, g.T, ?_⟩, fun e => ⟨t, g.tw, g.T, ?_⟩⟩)
  · rw [i_bo_0, Classical.not_not]
    refine ⟨fun z => ⟨t, g.tw, g.T, ?_⟩, fun z => m179 g (fun h2 g2 f2 s2 => ⟨_, rfl, d140_134 g2.l ?_⟩)⟩
    · have : ∃ k : Nat, k < 4 ∧ x = i_n (6 + k) := by
        have z1 := z.1
        have z2 := z.2
        rw [Int32.le_iff_toInt_le] at z1 z2
        rw [show (6 : Int32).toInt = 6 from rfl] at z1
        rw [show (9 : Int32).toInt = 9 from rfl] at z2
        exact ⟨(x.toInt - 6).toNat, by omega, xe _ (by omega) (by omega)⟩
      obtain ⟨k, hk, rfl⟩ := this
      have e6 : i_n (6 + k) - i_n 6 = i_n k := by rw [n_sub (by omega), show 6 + k - 6 = k by omega]
      rw [show (6 : Int32) = i_n 6 from rfl, e6, n_cl (by omega), g.1.sn hk]
      exact ⟨(n_in (by omega)).mpr hk, m181 g (fun h2 g2 f2 s2 => ⟨_, rfl, d140_151 g2.l (val (6 + k) (by omega) rfl h2 g2 f2 s2)⟩)⟩
    · have : ¬ (0 ≤ x ∧ x ≤ i_n 9) := by
        rintro ⟨z1, z2⟩
        apply z
        rw [Int32.le_iff_toInt_le] at z1 z2 ⊢
        rw [Int32.le_iff_toInt_le]
        rw [show (0 : Int32).toInt = 0 from rfl] at z1
        rw [show (i_n 9).toInt = 9 from rfl] at z2
        rw [show (6 : Int32).toInt = 6 from rfl, show (9 : Int32).toInt = 9 from rfl]
        omega
      rw [o_A_f this] at H
      exact H h2 g2 f2 s2
  · rw [ct.1.1]
    exact m181 g (fun h2 g2 f2 s2 => ⟨_, rfl, d140_51 g2.l (val 0 (by omega) (xe 0 (by omega) e) h2 g2 f2 s2)⟩)
  · rw [ct.1.2]
    exact m181 g (fun h2 g2 f2 s2 => ⟨_, rfl, d140_63 g2.l (val 1 (by omega) (xe 1 (by omega) e) h2 g2 f2 s2)⟩)
  · have hs := ct.2.2.1
    refine c334s ⟨_, rfl, d140_75 g.l ?_⟩
    have : o_pj (fJ h t 3) = a 2 := by
      rw [o_pj_cn, o_cn0_cut (m := 48) 64 (by omega) (fun c h1 h2 => by rw [hs c h2, decide_eq_false (by omega), Bool.false_and]), w2]
      exact o_cn0_ext 48 (fun c hc => by rw [hs c (by omega), decide_eq_true hc, Bool.true_and])
    rw [this]
    exact m181 g (fun h2 g2 f2 s2 => ⟨_, rfl, d140_78 g2.l (val 2 (by omega) (xe 2 (by omega) e) h2 g2 f2 s2)⟩)
  · rw [ct.2.2.2.2.1.1]
    exact m181 g (fun h2 g2 f2 s2 => ⟨_, rfl, d140_90 g2.l (val 3 (by omega) (xe 3 (by omega) e) h2 g2 f2 s2)⟩)
  · rw [g.1.nl]
    exact m181 g (fun h2 g2 f2 s2 => ⟨_, rfl, d140_102 g2.l (val 4 (by omega) (xe 4 (by omega) e) h2 g2 f2 s2)⟩)
  · rw [g.1.np]
    exact m181 g (fun h2 g2 f2 s2 => ⟨_, rfl, d140_117 g2.l (val 5 (by omega) (xe 5 (by omega) e) h2 g2 f2 s2)⟩)
theorem c257 (r : i_RA a h) {x : Int32} (H : i_R0 a h Q (o_tolA a x)) : i_C i_MT i_AT L xs 257 [.ref 138, .int x] h Q := by
  unfold o_tolA at H
  have bad : ¬ (0 ≤ x ∧ x ≤ i_n 9) → i_P i_MT i_AT L xs 257 10 [some (.ref 138), some (.int x)] [] h 0 0 Q := by
    intro z
    rw [o_A_f z] at H
    exact d257_10 r.1 (m201 r (fun h2 g2 f2 s2 => ⟨_, rfl, d257_15 g2.1 (d257_28 g2.1 (H h2 g2 f2 s2))⟩))
  refine e257 (d257_0 r.1 ⟨fun z => bad (fun q => (Int32.not_lt.mpr q.1) z), fun z => ⟨fun z2 => ?_, fun z2 => bad (fun q => z2 q.2)⟩⟩)
  have hx : 0 ≤ x ∧ x ≤ i_n 9 := ⟨Int32.not_lt.mp z, z2⟩
  rw [o_A_t hx] at H
  obtain ⟨k, hk, rfl⟩ := n_gle (k := 9) hx (by omega)
  rw [n_cl (by omega)] at H ⊢
  refine ⟨(n_in (by omega)).mpr (by omega), ?_⟩
  rw [r.2.2.1 k (by omega)]
  exact m202 r (fun h2 g2 f2 s2 => ⟨_, rfl, d257_28 g2.1 (H h2 g2 f2 s2)⟩)
end
