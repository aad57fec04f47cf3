/-! JAVA.LANG.MATH: its methods are called by the kit's rows; SOUNDNESS over these tables -/
section
variable {p : Program} {l : Launch} {e : Env} {s : State} {m : MethodId} {args : Array Value} {below : List Frame} {meth : Method} {c : Code} {H : Heap} {locs : List Loc} {Q : State → Prop}
variable {D : va_G} {ad ox cT : Nat → Nat} {A : Nat → Prop} {L : Nat} {xs : Nat → Int32} {h h2 : iH} {ls : Array Slot} {M M2 : i_M} {pc u w idx : Nat} {st As rr : List Value} {v : Option Value}
set_option maxRecDepth 100000 in
theorem i_nwm0 : i_NW.all (fun w => match w with
  | .methodLinkNest _ _ y _ => decide (y.cls ≠ "java/lang/Math")
  | _ => true) = true := by decide +kernel
theorem i_nwm {own C : String} {y : MethodName} (h : Jvm.Cond.methodLinkNest own idx y C ∈ i_NW) : y.cls ≠ "java/lang/Math" := by
  have h1 := List.all_eq_true.mp i_nwm0 _ h
  exact of_decide_eq_true h1
set_option maxRecDepth 100000 in
theorem i_w335 : Jvm.Cond.code Lib.Math.abs.name Lib.Math.abs.code 1 (some .int) ∈ i_GT := i_isW_ok (c := 2057) (by decide +kernel)
set_option maxRecDepth 100000 in
theorem i_w336 : Jvm.Cond.code Lib.Math.max.name Lib.Math.max.code 2 (some .int) ∈ i_GT := i_isW_ok (c := 1016) (by decide +kernel)
set_option maxRecDepth 100000 in
theorem i_w337 : Jvm.Cond.code Lib.Math.min.name Lib.Math.min.code 2 (some .int) ∈ i_GT := i_isW_ok (c := 1046) (by decide +kernel)
set_option maxRecDepth 100000 in
theorem i_u335 : Jvm.Cond.static Lib.Math.abs.name ∈ i_GT := i_isW_ok (c := 2056) (by decide +kernel)
set_option maxRecDepth 100000 in
theorem i_u336 : Jvm.Cond.static Lib.Math.max.name ∈ i_GT := i_isW_ok (c := 1015) (by decide +kernel)
set_option maxRecDepth 100000 in
theorem i_u337 : Jvm.Cond.static Lib.Math.min.name ∈ i_GT := i_isW_ok (c := 1045) (by decide +kernel)
set_option maxRecDepth 100000 in
theorem i_umath : Jvm.Cond.initialized "java/lang/Math" ∈ i_GT := i_isW_ok (c := 155) (by decide +kernel)
theorem i_y335 : i_y i_m335 = Lib.Math.abs.name := rfl
theorem i_y336 : i_y i_m336 = Lib.Math.max.name := rfl
theorem i_y337 : i_y i_m337 = Lib.Math.min.name := rfl
set_option maxRecDepth 100000 in
theorem i_lc21a : i_ALL.all (fun q => decide (21 ≤ i_lc q.1) || q.2.all (fun n => !i_isC n.2.1 n.2.2.2.1 || !(decide (335 ≤ n.2.2.1) && decide (n.2.2.1 ≤ 337)))) = true := by decide +kernel
/-- who calls java.lang.Math has room for it -/
theorem i_lc21 {k a b : Nat} {ins : Instr} (hM : i_MT k = some M) (hA : i_AT k pc = some (ins, a, b)) (hC : i_isC ins b = true) (ha : 335 ≤ a ∧ a ≤ 337) : 21 ≤ i_lc M := by
  unfold i_MT at hM
  unfold i_AT at hA
  split at hM
  · rename_i q hq
    cases hM
    rw [hq] at hA
    obtain ⟨c2, hc⟩ := i_fd2_mem hA
    have h1 := List.all_eq_true.mp i_lc21a q (List.mem_of_getElem? hq)
    rw [Bool.or_eq_true] at h1
    rcases h1 with h1 | h1
    · exact of_decide_eq_true h1
    · have h3 := List.all_eq_true.mp h1 _ hc
      have h4 : (!i_isC ins b || !(decide (335 ≤ a) && decide (a ≤ 337))) = true := h3
      rw [hC, decide_eq_true ha.1, decide_eq_true ha.2] at h4
      cases h4
  · cases hM
theorem i_ex_det {MT : Nat → Option i_M} {AT : Nat → Nat → Option (Instr × Nat × Nat)} {n n2 k : Nat} {lo : iL} {z z2 : Option Value × iH} (h1 : i_ex MT AT L xs n k pc lo st h u w = some z) (h2 : i_ex MT AT L xs n2 k pc lo st h u w = some z2) : z = z2 := by
  have r1 := i_more n (max n n2) _ _ _ _ _ _ _ _ (Nat.le_max_left _ _) h1
  have r2 := i_more n2 (max n n2) _ _ _ _ _ _ _ _ (Nat.le_max_right _ _) h2
  exact Option.some.inj (r1.symm.trans r2)
theorem i_ex_ld {n k a b : Nat} {i : Fin 4} {lo : iL} {z : Option Value × iH} (hA : i_AT k pc = some (.iload_n i, a, b)) (hs : i_ex i_MT i_AT L xs n k pc lo st h u w = some z) : ∃ x n2, lo[(i : Nat)]? = some (some (.int x)) ∧ i_ex i_MT i_AT L xs n2 k (pc + 1) lo (.int x :: st) h u w = some z := by
  cases n with
  | zero => rw [i_ex] at hs; cases hs
  | succ n =>
    obtain ⟨r, h3⟩ := z
    obtain ⟨M, ins, a2, b2, hM, hA2, h1⟩ := i_ex_s hs
    rw [hA] at hA2
    cases hA2
    rcases h1 with h1 | h1 | h1
    · have z : false = true := h1.1
      cases z
    · have z : false = true := h1.1
      cases z
    · obtain ⟨-, -, pc2, lo2, st2, h2, u2, w2, h2s, hr⟩ := h1
      have h2s : i_s1w (.iload_n i) a pc lo st h u w = some (pc2, lo2, st2, h2, u2, w2) := h2s
      unfold i_s1w at h2s
      split at h2s
      · rename_i q hq
        cases h2s
        have hq : (i_ldi lo (i : Nat) fun x => some (pc + 1, lo, .int x :: st)) = some q := hq
        obtain ⟨x, hx, hq2⟩ := i_ldi_s hq
        cases hq2
        exact ⟨x, n, hx, hr⟩
      · cases h2s
theorem i_lo0_0 {v0 : Value} {vs : List Value} {n : Nat} : (i_lo0 (v0 :: vs) n)[0]? = some (some v0) := by
  unfold i_lo0 i_sl
  split <;> rfl
theorem i_lo0_1 {x : Int32} {v1 : Value} {vs : List Value} {n : Nat} : (i_lo0 (.int x :: v1 :: vs) n)[1]? = some (some v1) := by
  unfold i_lo0
  rw [show i_sl (.int x :: v1 :: vs) = some (.int x) :: i_sl (v1 :: vs) from rfl, List.cons_append, List.getElem?_cons_succ]
  unfold i_sl
  split <;> rfl
theorem i_len2v : ∀ {l : List Value}, l.length = 2 → ∃ x y, l = [x, y]
  | [x, y], _ => ⟨x, y, rfl⟩
theorem i_mx_ki {a : Nat} (ha : 335 ≤ a ∧ a ≤ 337) (hM2 : i_MT a = some M2) : i_ki M2 = 0 ∧ i_mc M2 = 0 ∧ i_ms M2 = 0 := by
  rcases (show a = 335 ∨ a = 336 ∨ a = 337 by omega) with rfl | rfl | rfl
  · cases (Option.some.inj (hM2.symm.trans i_k335.1) : M2 = i_m335)
    exact ⟨rfl, rfl, rfl⟩
  · cases (Option.some.inj (hM2.symm.trans i_k336.1) : M2 = i_m336)
    exact ⟨rfl, rfl, rfl⟩
  · cases (Option.some.inj (hM2.symm.trans i_k337.1) : M2 = i_m337)
    exact ⟨rfl, rfl, rfl⟩
set_option maxHeartbeats 4000000 in
/-- a call of java.lang.Math: what the run answers, the machine does -/
theorem i_mx {a n : Nat} (ha : 335 ≤ a ∧ a ≤ 337) (hM2 : i_MT a = some M2) (X : i_CX p c (i_by M) s m args (i_own M) A D cT ox L xs) (hml : c.maxLocals = i_ml M) (hl : ls.size = i_ml M) (hpop : i_pop M2 st = some (As, rr)) (hcc : i_cc M M2 As rr h u w = true) (hlk : i_link (i_own M) idx (i_y M2)) (hlc : 21 ≤ i_lc M) (hdg : decode (i_by M) pc = .ok (.invokestatic idx, 3)) (hrun : i_ex i_MT i_AT L xs n a 0 (i_lo0 As (i_ml M2)) [] h 0 0 = some (v, h2))
    (kk : ∀ z : Int32, v = some (.int z) → h2 = h → W p l e (i_rm M) s m args below meth c H locs u w Q (F0 m (pc + 3) ls (.int z :: rr.map (i_tr ad ox)))) : W p l e (i_rm M) s m args below meth c H locs u w Q (F0 m pc ls (st.map (i_tr ad ox))) := by
  obtain ⟨hexec, hb, hown, hts, hK, hEX, hA⟩ := X
  unfold i_cc at hcc
  simp only [Bool.and_eq_true, decide_eq_true_eq] at hcc
  obtain ⟨⟨⟨⟨⟨⟨c1, c2⟩, c3⟩, c4⟩, c5⟩, c6⟩, c7⟩ := hcc
  have hsum : ((rr.map (i_tr ad ox)).map fun v => v.category).sum + 13 ≤ (i_rm M).locals := by
    rw [i_sum]
    show _ ≤ i_lc M
    omega
  have hf1 : 1 ≤ (i_rm M).frames := by
    show 1 ≤ i_fm M
    omega
  have hf2 : u ≤ (i_rm M).cells := by
    show u ≤ i_mc M
    omega
  have hf3 : w ≤ (i_rm M).slots := by
    show w ≤ i_ms M
    omega
  have hsz : c.maxLocals = ls.size := hml.trans hl.symm
  rcases (show a = 335 ∨ a = 336 ∨ a = 337 by omega) with rfl | rfl | rfl
  · cases (Option.some.inj (hM2.symm.trans i_k335.1) : M2 = i_m335)
    rcases i_pop_s hpop with ⟨-, pn, pst⟩ | ⟨k0, -⟩
    · have pn : As.length = 1 := pn
      obtain ⟨v0, rfl⟩ := List.length_eq_one_iff.mp pn
      obtain ⟨x, n2, hx, -⟩ := i_ex_ld (i := 0) (a := 0) (b := 0) ((i_k335.2 0).trans rfl) hrun
      cases (Option.some.inj (Option.some.inj (i_lo0_0.symm.trans hx)) : v0 = .int x)
      obtain ⟨M3, d1, d2, n3, r3, h3, d3, d4, d5⟩ := c335 (L := L) (xs := xs) (h := h) (x := x) (Q := fun r h3 => r = some (.int (if 0 ≤ x then x else -x)) ∧ h3 = h) ⟨rfl, rfl⟩
      cases (Option.some.inj (d1.symm.trans i_k335.1) : M3 = i_m335)
      cases i_ex_det hrun d3
      subst pst
      rcases hlk with q | q
      · rw [i_y335] at q
        refine va_mabs (x := x) (rest := rr.map (i_tr ad ox)) hexec hb hsz hown (hts _ q) (hts _ i_u335) (hts _ i_umath) (hts _ i_w335) hf1 hsum hf2 hf3 hdg (kk _ ?_ d5)
        rw [d4, Int32.zero_sub]
      · exact absurd rfl (i_nwm q)
    · exact absurd rfl k0
  · cases (Option.some.inj (hM2.symm.trans i_k336.1) : M2 = i_m336)
    rcases i_pop_s hpop with ⟨-, pn, pst⟩ | ⟨k0, -⟩
    · have pn : As.length = 2 := pn
      obtain ⟨v0, v1, rfl⟩ := i_len2v pn
      obtain ⟨x, n2, hx, hrun2⟩ := i_ex_ld (i := 0) (a := 0) (b := 0) ((i_k336.2 0).trans rfl) hrun
      cases (Option.some.inj (Option.some.inj (i_lo0_0.symm.trans hx)) : v0 = .int x)
      obtain ⟨y, n4, hy, -⟩ := i_ex_ld (i := 1) (a := 0) (b := 0) ((i_k336.2 1).trans rfl) hrun2
      cases (Option.some.inj (Option.some.inj (i_lo0_1.symm.trans hy)) : v1 = .int y)
      obtain ⟨M3, d1, d2, n3, r3, h3, d3, d4, d5⟩ := c336 (L := L) (xs := xs) (h := h) (x := x) (y := y) (Q := fun r h3 => r = some (.int (if x < y then y else x)) ∧ h3 = h) ⟨rfl, rfl⟩
      cases (Option.some.inj (d1.symm.trans i_k336.1) : M3 = i_m336)
      cases i_ex_det hrun d3
      subst pst
      rcases hlk with q | q
      · rw [i_y336] at q
        exact va_mmax (x := x) (y := y) (rest := rr.map (i_tr ad ox)) hexec hb hsz hown (hts _ q) (hts _ i_u336) (hts _ i_umath) (hts _ i_w336) hf1 hsum hf2 hf3 hdg (kk _ d4 d5)
      · exact absurd rfl (i_nwm q)
    · exact absurd rfl k0
  · cases (Option.some.inj (hM2.symm.trans i_k337.1) : M2 = i_m337)
    rcases i_pop_s hpop with ⟨-, pn, pst⟩ | ⟨k0, -⟩
    · have pn : As.length = 2 := pn
      obtain ⟨v0, v1, rfl⟩ := i_len2v pn
      obtain ⟨x, n2, hx, hrun2⟩ := i_ex_ld (i := 0) (a := 0) (b := 0) ((i_k337.2 0).trans rfl) hrun
      cases (Option.some.inj (Option.some.inj (i_lo0_0.symm.trans hx)) : v0 = .int x)
      obtain ⟨y, n4, hy, -⟩ := i_ex_ld (i := 1) (a := 0) (b := 0) ((i_k337.2 1).trans rfl) hrun2
      cases (Option.some.inj (Option.some.inj (i_lo0_1.symm.trans hy)) : v1 = .int y)
      obtain ⟨M3, d1, d2, n3, r3, h3, d3, d4, d5⟩ := c337 (L := L) (xs := xs) (h := h) (x := x) (y := y) (Q := fun r h3 => r = some (.int (if y < x then y else x)) ∧ h3 = h) ⟨rfl, rfl⟩
      cases (Option.some.inj (d1.symm.trans i_k337.1) : M3 = i_m337)
      cases i_ex_det hrun d3
      subst pst
      rcases hlk with q | q
      · rw [i_y337] at q
        exact va_mmin (x := x) (y := y) (rest := rr.map (i_tr ad ox)) hexec hb hsz hown (hts _ q) (hts _ i_u337) (hts _ i_umath) (hts _ i_w337) hf1 hsum hf2 hf3 hdg (kk _ d4 d5)
      · exact absurd rfl (i_nwm q)
    · exact absurd rfl k0
end
