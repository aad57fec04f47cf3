/-! SWEPT, the methods -/
section
variable {L : Nat} {xs : Nat → Int32} {h : iH} {Q : Option Value → iH → Prop} {a : Nat → Nat} {t : Nat}
set_option maxRecDepth 20000
theorem i_CO.bl (g : i_CO a t h) {m : Nat} (hm : m ≤ 60) : o_is (aJ h 101 m) (a 0 * a 1) (o_bl a m) := g.1.2.2.2.2.2.1 m hm
theorem op_le {b c : Nat} (hb : b < 2147483648) (hc : c < 2147483648) : i_n c ≤ o_op (some b) ↔ c ≤ b := n_le hc hb
set_option maxHeartbeats 2000000 in
theorem c54 (g : i_CO a t h) {p m : Nat} (hp : p < a 5) (hm : m ≤ 60) (H : ∀ h2 : iH, i_CO a t h2 → i_FS h h2 → Q (some (.int (i_n (o_pj (o_swm a p m).2)))) h2) : i_C i_MT i_AT L xs 54 [.ref 121, .int (i_n p), .int (i_n m)] h Q := by
  have h5 := g.w.2.2.2.2.1
  have h48 := g.w.c48
  have hfar := (g.fars hp).2
  generalize hf : a (156 + 5 * p) = f at hfar
  have key : ∀ k, k ≤ m + 1 → 1 ≤ k → ∀ h1, i_CO a t h1 → i_FS h h1 → ∀ (y8 y9 y10 y11 y12 y13 y14 y15 y16 : Option Value), i_P i_MT i_AT L xs 54 39 [some (.ref 121), some (.int (i_n p)), some (.int (i_n m)), some (.int (i_n f)), some (.int (i_n (o_swm a p (k - 1)).1)), some (.long ((o_swm a p (k - 1)).2)), none, some (.int (i_n k)), y8, y9, y10, y11, y12, y13, y14, y15, y16] [] h1 0 0 Q := by
    refine l_up ?_ ?_
    · intro _ h1 g1 f1 y8 y9 y10 y11 y12 y13 y14 y15 y16
      refine d54_39 g1.l ?_
      try simp (disch := omega) only [n_lit, n_m, n_add, n_mul, n_div, n_mod, n_cl, n_lt, n_le, n_eq, n_in, n_eqm, n_meq, n_mlt, n_ltm, n_mle, n_lem, not_true_eq_false, not_false_eq_true, true_implies, false_implies, true_and, and_true, Nat.not_lt_zero, Nat.zero_le, Nat.lt_succ_self]
      exact c334s ⟨_, rfl, d54_187 g1.l (H h1 g1 f1)⟩
    · intro k hk ih hk1 h1 g1 f1 y8 y9 y10 y11 y12 y13 y14 y15 y16
      have ok := o_swm_ok g.w hp (k - 1)
      have nx := ih (by omega)
      rw [show k + 1 - 1 = (k - 1) + 1 by omega, o_swm, show k - 1 + 1 = k by omega] at nx
      generalize o_swm a p (k - 1) = W at ok nx ⊢
      obtain ⟨c, S⟩ := W
      dsimp only at ok nx ⊢
      have cho : ∀ j, j ≤ 16 → ∀ h2, i_CO a t h2 → i_FS h h2 → ∀ (y13 y14 y15 y16 : Option Value), i_P i_MT i_AT L xs 54 58 [some (.ref 121), some (.int (i_n p)), some (.int (i_n m)), some (.int (i_n f)), some (.int (i_n c)), some (.long S), none, some (.int (i_n k)), some (.int (o_op (o_swk a p k c S j).1)), some (.long ((o_swk a p k c S j).2.2)), none, some (.int (i_n (o_swk a p k c S j).2.1)), some (.int (i_n j)), y13, y14, y15, y16] [] h2 0 0 Q := by
        refine l_up ?_ ?_
        · intro h2 g2 f2 y13 y14 y15 y16
          refine d54_58 g2.l ?_
          try simp (disch := omega) only [n_lit, n_m, n_add, n_mul, n_div, n_mod, n_cl, n_lt, n_le, n_eq, n_in, n_eqm, n_meq, n_mlt, n_ltm, n_mle, n_lem, not_true_eq_false, not_false_eq_true, true_implies, false_implies, true_and, and_true, Nat.not_lt_zero, Nat.zero_le, Nat.le_refl]
          exact nx h2 g2 f2 _ _ _ _ _ _ _ _ _
        · intro j hj ih2 h2 g2 f2 y13 y14 y15 y16
          have okj := o_swk_ok g.w (p := p) (m := k) (S := S) ok.1 ok.2.1 j
          -- a choice that shows o with the way j % 8
          have see : ∀ (o : Nat), o < a 0 * a 1 → (∀ b2 : Option Nat × Nat × Int64, b2 = (if o_swb (o_pj (o_sws a p k S o (j % 8))) (o_swk a p k c S j).1 = true then (some (o_pj (o_sws a p k S o (j % 8))), o, o_sws a p k S o (j % 8)) else o_swk a p k c S j) → o_swk a p k c S (j + 1) = b2) → ∀ (y14 y15 y16 : Option Value), i_P i_MT i_AT L xs 54 98 [some (.ref 121), some (.int (i_n p)), some (.int (i_n m)), some (.int (i_n f)), some (.int (i_n c)), some (.long S), none, some (.int (i_n k)), some (.int (o_op (o_swk a p k c S j).1)), some (.long ((o_swk a p k c S j).2.2)), none, some (.int (i_n (o_swk a p k c S j).2.1)), some (.int (i_n j)), some (.int (i_n (j % 8))), y14, y15, y16] [.int (i_n o)] h2 0 0 Q := by
            intro o ho hb2 y14 y15 y16
            have hb2 := hb2 _ rfl
            rw [hb2] at ih2
            refine d54_98 g2.l ?_
            try simp (disch := omega) only [n_lit, n_m, n_add, n_mul, n_div, n_mod, n_cl, n_lt, n_le, n_eq, n_in, n_eqm, n_meq, n_mlt, n_ltm, n_mle, n_lem, not_true_eq_false, not_false_eq_true, true_implies, false_implies, true_and, and_true, Nat.not_lt_zero, Nat.zero_le]
            refine ⟨by omega, c31 g2.l g2.w g2.2.1 ho (by omega) (by omega) (g2.bl (by omega)) (fun s h3 hs hL3 g3 f3 => ⟨_, rfl, ?_⟩)⟩
            have F3 : i_Fr [99, 100, 106, 107] [] h2 h3 := f3.mono (by decide) (by decide)
            have G3 : i_CO a t h3 := ⟨g2.1.fr hL3 f3 (by decide) (by decide), g3, by unfold i_VW; rw [f3.rJ (by decide)]; exact g2.2.2.1, by unfold i_WG; rw [f3.rI (by decide)]; exact g2.2.2.2⟩
            have es : s &&& (S ^^^ -1) = o_sws a p k S o (j % 8) := by
              unfold o_sws
              rw [hf, hs.eq (by omega)]
            refine d54_125 G3.l (c334s ⟨_, rfl, ?_⟩)
            rw [es]
            have hpj := o_pj_le (o_sws a p k S o (j % 8))
            have keep : ¬ o_swb (o_pj (o_sws a p k S o (j % 8))) (o_swk a p k c S j).1 = true → i_P i_MT i_AT L xs 54 159 [some (.ref 121), some (.int (i_n p)), some (.int (i_n m)), some (.int (i_n f)), some (.int (i_n c)), some (.long S), none, some (.int (i_n k)), some (.int (o_op (o_swk a p k c S j).1)), some (.long ((o_swk a p k c S j).2.2)), none, some (.int (i_n (o_swk a p k c S j).2.1)), some (.int (i_n j)), some (.int (i_n (j % 8))), some (.int (i_n o)), some (.long (o_sws a p k S o (j % 8))), none] [] h3 0 0 Q := by
              intro e
              rw [if_neg e] at ih2
              refine d54_159 G3.l ?_
              try simp (disch := omega) only [n_lit, n_m, n_add, n_mul, n_div, n_mod, n_cl, n_lt, n_le, n_eq, n_in, n_eqm, n_meq, n_mlt, n_ltm, n_mle, n_lem, not_true_eq_false, not_false_eq_true, true_implies, false_implies, true_and, and_true, Nat.not_lt_zero, Nat.zero_le]
              exact ih2 h3 G3 (f2.trans F3.s4) _ _ _ _
            have take : o_swb (o_pj (o_sws a p k S o (j % 8))) (o_swk a p k c S j).1 = true → i_P i_MT i_AT L xs 54 149 [some (.ref 121), some (.int (i_n p)), some (.int (i_n m)), some (.int (i_n f)), some (.int (i_n c)), some (.long S), none, some (.int (i_n k)), some (.int (o_op (o_swk a p k c S j).1)), some (.long (o_swk a p k c S j).2.2), none, some (.int (i_n (o_swk a p k c S j).2.1)), some (.int (i_n j)), some (.int (i_n (j % 8))), some (.int (i_n o)), some (.long (o_sws a p k S o (j % 8))), none] [.int (i_n (o_pj (o_sws a p k S o (j % 8))))] h3 0 0 Q := by
              intro e
              rw [if_pos e] at ih2
              refine d54_149 G3.l (d54_159 G3.l ?_)
              try simp (disch := omega) only [n_lit, n_m, n_add, n_mul, n_div, n_mod, n_cl, n_lt, n_le, n_eq, n_in, n_eqm, n_meq, n_mlt, n_ltm, n_mle, n_lem, not_true_eq_false, not_false_eq_true, true_implies, false_implies, true_and, and_true, Nat.not_lt_zero, Nat.zero_le]
              exact ih2 h3 G3 (f2.trans F3.s4) _ _ _ _
            refine d54_139 G3.l ?_
            cases hB : (o_swk a p k c S j).1 with
            | none =>
              rw [hB] at keep take
              dsimp only [o_op] at keep take ⊢
              try simp (disch := omega) only [n_lit, n_m, n_add, n_mul, n_div, n_mod, n_cl, n_lt, n_le, n_eq, n_in, n_eqm, n_meq, n_mlt, n_ltm, n_mle, n_lem, not_true_eq_false, not_false_eq_true, true_implies, false_implies, true_and, and_true, Nat.not_lt_zero, Nat.zero_le]
              exact c334s ⟨_, rfl, take rfl⟩
            | some b =>
              have hb64 := okj.2.2.2 b hB
              rw [hB] at keep take
              unfold o_swb at keep take
              rw [decide_eq_true_eq] at keep take
              rw [op_le (by omega) (by omega)]
              exact ⟨fun e => keep (by omega), fun e => c334s ⟨_, rfl, take (by omega)⟩⟩
          refine d54_58 g2.l ?_
          try simp (disch := omega) only [n_lit, n_m, n_add, n_mul, n_div, n_mod, n_cl, n_lt, n_le, n_eq, n_in, n_eqm, n_meq, n_mlt, n_ltm, n_mle, n_lem, not_true_eq_false, not_false_eq_true, true_implies, false_implies, true_and, and_true, Nat.not_lt_zero, Nat.zero_le]
          refine ⟨fun z => by omega, fun _ => ⟨fun z => c26 g2.l g2.w g2.2.1 ok.1 (by omega) ⟨_, rfl, ?_⟩, fun z => ?_⟩⟩
          · have e8 : j % 8 = j - 8 := by omega
            cases ho : o_swo a c j with
            | some o =>
              have ho2 := ho
              unfold o_swo at ho
              rw [if_neg (by omega), ← e8] at ho
              have hgo : (match o_lead (a 0) (a 1) c (j % 8) with | some t => if o_wall a t = true then c else t | none => c) = o ∧ o < a 0 * a 1 := by
                cases hl : o_lead (a 0) (a 1) c (j % 8) with
                | none => rw [hl] at ho; cases ho
                | some tt =>
                  rw [hl] at ho
                  dsimp only at ho ⊢
                  by_cases hw : o_wall a tt = true
                  · rw [if_pos hw] at ho; cases ho
                  · rw [if_neg hw] at ho ⊢
                    cases ho
                    exact ⟨rfl, o_lead_lt hl⟩
              have q := see o hgo.2 (fun b2 e => by rw [o_swk, ho2]; exact e.symm) y14 y15 y16
              rw [← hgo.1] at q
              exact q
            | none =>
              have ho2 := ho
              unfold o_swo at ho
              rw [if_neg (by omega), ← e8] at ho
              have hgo : (match o_lead (a 0) (a 1) c (j % 8) with | some t => if o_wall a t = true then c else t | none => c) = c := by
                cases hl : o_lead (a 0) (a 1) c (j % 8) with
                | none => rfl
                | some tt =>
                  rw [hl] at ho
                  dsimp only at ho ⊢
                  by_cases hw : o_wall a tt = true
                  · rw [if_pos hw]
                  · rw [if_neg hw] at ho; cases ho
              -- the turn that was tried already
              obtain ⟨b, hb1, hb2⟩ := o_swk_mx (p := p) (m := k) (S := S) j (j - 8) c (by omega) (by unfold o_swo; rw [if_pos (by omega)])
              rw [show (j - 8) % 8 = j % 8 by omega] at hb2
              have q := see c ok.1 (fun b2 e => by
                rw [o_swk, ho2, e, hb1, if_neg]
                unfold o_swb
                simp
                omega) y14 y15 y16
              have q2 : ∀ d, d = c → i_P i_MT i_AT L xs 54 98 [some (.ref 121), some (.int (i_n p)), some (.int (i_n m)), some (.int (i_n f)), some (.int (i_n c)), some (.long S), none, some (.int (i_n k)), some (.int (o_op (o_swk a p k c S j).1)), some (.long ((o_swk a p k c S j).2.2)), none, some (.int (i_n (o_swk a p k c S j).2.1)), some (.int (i_n j)), some (.int (i_n (j % 8))), y14, y15, y16] [.int (i_n d)] h2 0 0 Q := fun d e => by rw [e]; exact q
              exact q2 _ hgo
          · have e8 : o_swo a c j = some c := by unfold o_swo; rw [if_pos (by omega)]
            have := see c ok.1 (fun b2 e => by rw [o_swk, e8]; exact e.symm)
            exact this _ _ _
      refine d54_39 g1.l ?_
      try simp (disch := omega) only [n_lit, n_m, n_add, n_mul, n_div, n_mod, n_cl, n_lt, n_le, n_eq, n_in, n_eqm, n_meq, n_mlt, n_ltm, n_mle, n_lem, not_true_eq_false, not_false_eq_true, true_implies, false_implies, true_and, and_true, Nat.not_lt_zero, Nat.zero_le]
      exact ⟨fun z => by omega, fun _ => cho 0 (by omega) h1 g1 f1 _ _ _ _⟩
  refine e54 (d54_0 g.l ⟨t, g.tw, g.T, ?_⟩)
  try simp (disch := omega) only [n_lit, n_m, n_add, n_mul, n_div, n_mod, n_cl, n_lt, n_le, n_eq, n_in, n_eqm, n_meq, n_mlt, n_ltm, n_mle, n_lem, not_true_eq_false, not_false_eq_true, true_implies, false_implies, true_and, and_true, Nat.not_lt_zero, Nat.zero_le, (g.fars hp).1]
  rw [hf]
  refine ⟨by omega, t, g.tw, g.T, by omega, ?_⟩
  rw [(g.st hp).1]
  exact key 1 (by omega) (Nat.le_refl 1) h g i_Fr.refl _ _ _ _ _ _ _ _ _
theorem c171 (g : i_ST a t h) {x y : Int32} (H : i_KS a t h Q (o_swpA a x y)) : i_C i_MT i_AT L xs 171 [.ref 0, .int x, .int y] h Q := by
  have h5 := g.w.2.2.2.2.1
  unfold o_swpA at H
  have bad : ¬ (v_p a x ∧ v_t y) → i_P i_MT i_AT L xs 171 15 [some (.ref 0), some (.int x), some (.int y)] [] h 0 0 Q := by
    intro z
    rw [o_A_f z] at H
    exact d171_15 g.l (m179 g (fun h2 g2 f2 s2 => ⟨_, rfl, d171_20 g2.l (H h2 g2 f2.s s2)⟩))
  refine e171 (d171_0 g.l (c186 g ⟨_, rfl, d171_5 g.l ?_⟩))
  rw [i_bo_0, Classical.not_not]
  refine ⟨fun z => bad (fun q => z q.1), fun z => c190 ⟨_, rfl, d171_12 g.l ?_⟩⟩
  rw [i_bo_0, Classical.not_not]
  refine ⟨fun z2 => ?_, fun z2 => bad (fun q => z2 q.2)⟩
  rw [o_A_t ⟨z, z2⟩] at H
  obtain ⟨p, hp, rfl⟩ := n_get z (by omega)
  obtain ⟨m, hm, rfl⟩ := n_gle (k := 60) z2 (by omega)
  rw [n_cl (by omega), n_cl (by omega)] at H
  refine c54 g.1 hp hm (fun h1 g1 f1 => ?_)
  have G1 := g.fs g1 f1
  exact ⟨_, rfl, d171_31 G1.l (m181 G1 (fun h2 g2 f2 s2 => ⟨_, rfl, d171_34 g2.l (H h2 g2 (f1.trans f2.s) s2)⟩))⟩
theorem i_RA.st (r : i_RA a h) {p : Nat} (hp : p < a 5) : a (154 + 5 * p) < a 0 * a 1 ∧ o_wall a (a (154 + 5 * p)) = false ∧ a (155 + 5 * p) < 8 ∧ a (156 + 5 * p) ≤ 9 ∧ a (157 + 5 * p) < 256 ∧ a (158 + 5 * p) < 256 := by
  have z := r.2.1.2.2.2.2.2.2.2.2.2.2.1 p hp
  refine ⟨z.1, ?_, z.2.2.1, z.2.2.2.2.1, z.2.2.2.2.2.1, z.2.2.2.2.2.2⟩
  unfold o_wall
  rw [z.2.1]; rfl
theorem c319 (r : i_RA a h) {p b w m : Nat} (hp : p < a 5) (hb : b < a 0 * a 1) (hw : w < 8) (hm : m ≤ 60) (H : Q (some (.long (o_mk (fun c => o_seen (a 0) (o_bl a m) b w (a (156 + 5 * p)) c) (a 0 * a 1)))) h) : i_C i_MT i_AT L xs 319 [.ref 138, .int (i_n p), .int (i_n b), .int (i_n w), .int (i_n m)] h Q := by
  have h5 := r.2.1.2.2.2.2.1
  have h48 := r.2.1.c48
  have hst := r.st hp
  have key : ∀ c, c ≤ a 0 * a 1 → ∀ s : Int64, o_is s c (fun c => o_seen (a 0) (o_bl a m) b w (a (156 + 5 * p)) c) → i_P i_MT i_AT L xs 319 6 [some (.ref 138), some (.int (i_n p)), some (.int (i_n b)), some (.int (i_n w)), some (.int (i_n m)), some (.long s), none, some (.int (i_n c))] [] h 0 0 Q := by
    refine l_up ?_ ?_
    · intro s hs
      refine d319_6 r.1 (c248 r ⟨_, rfl, d319_12 r.1 ?_⟩)
      try simp (disch := omega) only [n_lit, n_m, n_add, n_mul, n_div, n_mod, n_cl, n_lt, n_le, n_eq, n_in, n_eqm, n_meq, n_mlt, n_ltm, n_mle, n_lem, not_true_eq_false, not_false_eq_true, true_implies, false_implies, true_and, and_true, Nat.not_lt_zero, Nat.zero_le, Nat.le_refl]
      rw [hs.eq (by omega)]
      exact H
    · intro c hc ih s hs
      refine d319_6 r.1 (c248 r ⟨_, rfl, d319_12 r.1 ?_⟩)
      try simp (disch := omega) only [n_lit, n_m, n_add, n_mul, n_div, n_mod, n_cl, n_lt, n_le, n_eq, n_in, n_eqm, n_meq, n_mlt, n_ltm, n_mle, n_lem, not_true_eq_false, not_false_eq_true, true_implies, false_implies, true_and, and_true, Nat.not_lt_zero, Nat.zero_le]
      refine ⟨fun z => by omega, fun _ => c256 (w := 2) r (by omega) (by omega) ⟨_, rfl, d319_26 r.1 ?_⟩⟩
      rw [show 154 + 5 * p + 2 = 156 + 5 * p by omega]
      refine c271 r hb hw (by omega) hc hm ⟨_, rfl, d319_33 r.1 ?_⟩
      try simp (disch := omega) only [n_lit, n_m, i_bo01, j_cmpn, Classical.not_not, n_add, n_mul, n_div, n_mod, n_cl, n_lt, n_le, n_eq, n_in, n_eqm, n_meq, n_mlt, n_ltm, n_mle, n_lem, not_true_eq_false, not_false_eq_true, true_implies, false_implies, true_and, and_true, Nat.not_lt_zero, Nat.zero_le]
      refine ⟨fun z => d319_44 r.1 ?_, fun z => d319_44 r.1 ?_⟩
      · try simp (disch := omega) only [n_lit, n_m, n_add, n_mul, n_div, n_mod, n_cl, n_lt, n_le, n_eq, n_in, n_eqm, n_meq, n_mlt, n_ltm, n_mle, n_lem, not_true_eq_false, not_false_eq_true, true_implies, false_implies, true_and, and_true, Nat.not_lt_zero, Nat.zero_le]
        rw [j_or0]
        exact ih _ (hs.f (by simpa using z))
      · try simp (disch := omega) only [n_lit, n_m, n_add, n_mul, n_div, n_mod, n_cl, n_lt, n_le, n_eq, n_in, n_eqm, n_meq, n_mlt, n_ltm, n_mle, n_lem, not_true_eq_false, not_false_eq_true, true_implies, false_implies, true_and, and_true, Nat.not_lt_zero, Nat.zero_le]
        exact ih _ (hs.t (by omega) z)
  refine e319 (d319_0 r.1 ?_)
  try simp (disch := omega) only [n_lit, n_m, n_add, n_mul, n_div, n_mod, n_cl, n_lt, n_le, n_eq, n_in, n_eqm, n_meq, n_mlt, n_ltm, n_mle, n_lem, not_true_eq_false, not_false_eq_true, true_implies, false_implies, true_and, and_true, Nat.not_lt_zero, Nat.zero_le]
  exact key 0 (Nat.zero_le _) 0 o_is.zero
theorem o_wi.b63 {s : Int64} {n : Nat} (x : o_wi s n) (h48 : n ≤ 48) : i_b s 63 = false := x 63 (by omega) (by omega)
set_option maxHeartbeats 2000000 in
theorem c321 (r : i_RA a h) {x y : Int32} (H : i_RS a h Q (o_swpA a x y)) : i_C i_MT i_AT L xs 321 [.ref 138, .int x, .int y] h Q := by
  have h5 := r.2.1.2.2.2.2.1
  have h48 := r.2.1.c48
  have hA := r.2.2.1
  unfold o_swpA at H
  have bad : ¬ (v_p a x ∧ v_t y) → ∀ (y3 y4 y5 y6 y7 y8 y9 y10 y11 y12 y13 y14 : Option Value), i_P i_MT i_AT L xs 321 15 [some (.ref 138), some (.int x), some (.int y), y3, y4, y5, y6, y7, y8, y9, y10, y11, y12, y13, y14] [] h 0 0 Q := by
    intro z y3 y4 y5 y6 y7 y8 y9 y10 y11 y12 y13 y14
    rw [o_A_f z] at H
    exact d321_15 r.1 (m201 r (fun h2 g2 f2 s2 => ⟨_, rfl, d321_20 g2.1 (H h2 g2 f2.s s2)⟩))
  refine e321 (d321_0 r.1 (c254 r ⟨_, rfl, d321_5 r.1 ?_⟩))
  rw [i_bo_0, Classical.not_not]
  refine ⟨fun z => bad (fun q => z q.1) _ _ _ _ _ _ _ _ _ _ _ _, fun z => c255 r.1 ⟨_, rfl, d321_12 r.1 ?_⟩⟩
  rw [i_bo_0, Classical.not_not]
  refine ⟨fun z2 => ?_, fun z2 => bad (fun q => z2 q.2) _ _ _ _ _ _ _ _ _ _ _ _⟩
  rw [o_A_t ⟨z, z2⟩] at H
  obtain ⟨p, hp, rfl⟩ := n_get z (by omega)
  obtain ⟨m, hm, rfl⟩ := n_gle (k := 60) z2 (by omega)
  rw [n_cl (by omega), n_cl (by omega)] at H
  have key : ∀ k, k ≤ m + 1 → 1 ≤ k → ∀ (y7 y8 y9 y10 y11 y12 y13 y14 : Option Value), i_P i_MT i_AT L xs 321 40 [some (.ref 138), some (.int (i_n p)), some (.int (i_n m)), some (.int (i_n (o_swm a p (k - 1)).1)), some (.long ((o_swm a p (k - 1)).2)), none, some (.int (i_n k)), y7, y8, y9, y10, y11, y12, y13, y14] [] h 0 0 Q := by
    refine l_up ?_ ?_
    · intro _ y7 y8 y9 y10 y11 y12 y13 y14
      have ok := o_swm_ok r.2.1 hp m
      refine d321_40 r.1 ?_
      try simp (disch := omega) only [n_lit, n_m, n_add, n_mul, n_div, n_mod, n_cl, n_lt, n_le, n_eq, n_in, n_eqm, n_meq, n_mlt, n_ltm, n_mle, n_lem, not_true_eq_false, not_false_eq_true, true_implies, false_implies, true_and, and_true, Nat.not_lt_zero, Nat.zero_le, Nat.lt_succ_self]
      exact c320s r.1 (ok.2.2.b63 h48.1) ⟨_, rfl, d321_179 r.1 (m202 r (fun h2 g2 f2 s2 => ⟨_, rfl, d321_182 g2.1 (H h2 g2 f2.s s2)⟩))⟩
    · intro k hk ih hk1 y7 y8 y9 y10 y11 y12 y13 y14
      have ok := o_swm_ok r.2.1 hp (k - 1)
      have nx := ih (by omega)
      rw [show k + 1 - 1 = (k - 1) + 1 by omega, o_swm, show k - 1 + 1 = k by omega] at nx
      generalize o_swm a p (k - 1) = W at ok nx ⊢
      obtain ⟨c, S⟩ := W
      dsimp only at ok nx ⊢
      have cho : ∀ j, j ≤ 16 → ∀ (y12 y13 y14 : Option Value), i_P i_MT i_AT L xs 321 58 [some (.ref 138), some (.int (i_n p)), some (.int (i_n m)), some (.int (i_n c)), some (.long S), none, some (.int (i_n k)), some (.int (o_op (o_swk a p k c S j).1)), some (.int (i_n (o_swk a p k c S j).2.1)), some (.long ((o_swk a p k c S j).2.2)), none, some (.int (i_n j)), y12, y13, y14] [] h 0 0 Q := by
        refine l_up ?_ ?_
        · intro y12 y13 y14
          refine d321_58 r.1 ?_
          try simp (disch := omega) only [n_lit, n_m, n_add, n_mul, n_div, n_mod, n_cl, n_lt, n_le, n_eq, n_in, n_eqm, n_meq, n_mlt, n_ltm, n_mle, n_lem, not_true_eq_false, not_false_eq_true, true_implies, false_implies, true_and, and_true, Nat.not_lt_zero, Nat.zero_le, Nat.le_refl]
          exact nx _ _ _ _ _ _ _ _
        · intro j hj ih2 y12 y13 y14
          have okj := o_swk_ok r.2.1 (p := p) (m := k) (S := S) ok.1 ok.2.1 j
          have e251 : ∀ b2, o_swk a p k c S (j + 1) = b2 → ∀ (o : Int32) (y13 y14 : Option Value), b2 = o_swk a p k c S j → i_P i_MT i_AT L xs 321 151 [some (.ref 138), some (.int (i_n p)), some (.int (i_n m)), some (.int (i_n c)), some (.long S), none, some (.int (i_n k)), some (.int (o_op (o_swk a p k c S j).1)), some (.int (i_n (o_swk a p k c S j).2.1)), some (.long ((o_swk a p k c S j).2.2)), none, some (.int (i_n j)), some (.int o), y13, y14] [] h 0 0 Q := by
            intro b2 hb o y13 y14 hb2
            rw [hb, hb2] at ih2
            refine d321_151 r.1 ?_
            try simp (disch := omega) only [n_lit, n_m, n_add, n_mul, n_div, n_mod, n_cl, n_lt, n_le, n_eq, n_in, n_eqm, n_meq, n_mlt, n_ltm, n_mle, n_lem, not_true_eq_false, not_false_eq_true, true_implies, false_implies, true_and, and_true, Nat.not_lt_zero, Nat.zero_le]
            exact ih2 _ _ _
          have see : ∀ (o : Nat), o < a 0 * a 1 → o_wall a o = false → o_swo a c j = some o → ∀ (y12 y13 y14 : Option Value), i_P i_MT i_AT L xs 321 86 [some (.ref 138), some (.int (i_n p)), some (.int (i_n m)), some (.int (i_n c)), some (.long S), none, some (.int (i_n k)), some (.int (o_op (o_swk a p k c S j).1)), some (.int (i_n (o_swk a p k c S j).2.1)), some (.long ((o_swk a p k c S j).2.2)), none, some (.int (i_n j)), y12, y13, y14] [.int (i_n o)] h 0 0 Q := by
            intro o ho how hoo y12 y13 y14
            refine d321_86 r.1 (c250 r (by omega) ⟨_, rfl, d321_94 r.1 ?_⟩)
            try simp (disch := omega) only [n_lit, n_m, i_bo01, j_cmpn, Classical.not_not, n_add, n_mul, n_div, n_mod, n_cl, n_lt, n_le, n_eq, n_in, n_eqm, n_meq, n_mlt, n_ltm, n_mle, n_lem, not_true_eq_false, not_false_eq_true, true_implies, false_implies, true_and, and_true, Nat.not_lt_zero, Nat.zero_le]
            refine ⟨fun _ => c319 r hp ho (by omega) (by omega) ⟨_, rfl, ?_⟩, fun e => absurd how e⟩
            have es : o_mk (fun c => o_seen (a 0) (o_bl a k) o (j % 8) (a (156 + 5 * p)) c) (a 0 * a 1) &&& (S ^^^ -1) = o_sws a p k S o (j % 8) := rfl
            have hpj := o_pj_le (o_sws a p k S o (j % 8))
            have h63 := (o_sws_wi (a := a) (p := p) (m := k) (S := S) (o := o) (w := j % 8) h48.1).b63 h48.1
            refine d321_114 r.1 ?_
            rw [es]
            refine c320s r.1 h63 ⟨_, rfl, d321_128 r.1 ?_⟩
            rw [o_swk, hoo] at ih2
            dsimp only at ih2
            rw [o_swk, hoo] at e251
            dsimp only at e251
            have keep : ¬ o_swb (o_pj (o_sws a p k S o (j % 8))) (o_swk a p k c S j).1 = true → i_P i_MT i_AT L xs 321 151 [some (.ref 138), some (.int (i_n p)), some (.int (i_n m)), some (.int (i_n c)), some (.long S), none, some (.int (i_n k)), some (.int (o_op (o_swk a p k c S j).1)), some (.int (i_n (o_swk a p k c S j).2.1)), some (.long ((o_swk a p k c S j).2.2)), none, some (.int (i_n j)), some (.int (i_n o)), some (.long (o_sws a p k S o (j % 8))), none] [] h 0 0 Q := by
              intro e
              rw [if_neg e] at e251
              exact e251 _ rfl _ _ _ rfl
            have take : o_swb (o_pj (o_sws a p k S o (j % 8))) (o_swk a p k c S j).1 = true → i_P i_MT i_AT L xs 321 141 [some (.ref 138), some (.int (i_n p)), some (.int (i_n m)), some (.int (i_n c)), some (.long S), none, some (.int (i_n k)), some (.int (o_op (o_swk a p k c S j).1)), some (.int (i_n (o_swk a p k c S j).2.1)), some (.long ((o_swk a p k c S j).2.2)), none, some (.int (i_n j)), some (.int (i_n o)), some (.long (o_sws a p k S o (j % 8))), none] [.int (i_n (o_pj (o_sws a p k S o (j % 8))))] h 0 0 Q := by
              intro e
              rw [if_pos e] at ih2
              refine d321_141 r.1 (d321_151 r.1 ?_)
              try simp (disch := omega) only [n_lit, n_m, n_add, n_mul, n_div, n_mod, n_cl, n_lt, n_le, n_eq, n_in, n_eqm, n_meq, n_mlt, n_ltm, n_mle, n_lem, not_true_eq_false, not_false_eq_true, true_implies, false_implies, true_and, and_true, Nat.not_lt_zero, Nat.zero_le]
              exact ih2 _ _ _
            cases hB : (o_swk a p k c S j).1 with
            | none =>
              rw [hB] at keep take
              dsimp only [o_op] at keep take ⊢
              try simp (disch := omega) only [n_lit, n_m, n_add, n_mul, n_div, n_mod, n_cl, n_lt, n_le, n_eq, n_in, n_eqm, n_meq, n_mlt, n_ltm, n_mle, n_lem, not_true_eq_false, not_false_eq_true, true_implies, false_implies, true_and, and_true, Nat.not_lt_zero, Nat.zero_le]
              exact c320s r.1 h63 ⟨_, rfl, take rfl⟩
            | some b =>
              have hb64 := okj.2.2.2 b hB
              rw [hB] at keep take
              unfold o_swb at keep take
              rw [decide_eq_true_eq] at keep take
              dsimp only [o_op] at keep take ⊢
              try simp (disch := omega) only [n_lit, n_m, n_add, n_mul, n_div, n_mod, n_cl, n_lt, n_le, n_eq, n_in, n_eqm, n_meq, n_mlt, n_ltm, n_mle, n_lem, not_true_eq_false, not_false_eq_true, true_implies, false_implies, true_and, and_true, Nat.not_lt_zero, Nat.zero_le]
              exact ⟨fun e => c320s r.1 h63 ⟨_, rfl, take (by omega)⟩, fun e => keep (by omega)⟩
          refine d321_58 r.1 ?_
          try simp (disch := omega) only [n_lit, n_m, n_add, n_mul, n_div, n_mod, n_cl, n_lt, n_le, n_eq, n_in, n_eqm, n_meq, n_mlt, n_ltm, n_mle, n_lem, not_true_eq_false, not_false_eq_true, true_implies, false_implies, true_and, and_true, Nat.not_lt_zero, Nat.zero_le, n_sub]
          refine ⟨fun z => by omega, fun _ => ⟨fun z => ?_, fun z => ?_⟩⟩
          · try rw [n_sub z]
            refine c251 r ok.1 (by omega) ⟨_, rfl, ?_⟩
            cases ho : o_swo a c j with
            | some o =>
              have ho2 := ho
              unfold o_swo at ho
              rw [if_neg (by omega)] at ho
              cases hl : o_lead (a 0) (a 1) c (j - 8) with
              | none => rw [hl] at ho; cases ho
              | some tt =>
                rw [hl] at ho
                dsimp only at ho
                by_cases hw : o_wall a tt = true
                · rw [if_pos hw] at ho; cases ho
                · rw [if_neg hw] at ho
                  cases ho
                  exact see o (o_lead_lt hl) (by simpa using hw) ho2 _ _ _
            | none =>
              have ho2 := ho
              unfold o_swo at ho
              rw [if_neg (by omega)] at ho
              have eq : o_swk a p k c S (j + 1) = o_swk a p k c S j := by rw [o_swk, ho2]
              cases hl : o_lead (a 0) (a 1) c (j - 8) with
              | none =>
                refine d321_86 r.1 (c250m r ⟨_, rfl, d321_94 r.1 ?_⟩)
                try simp (disch := omega) only [n_lit, n_m, n_add, n_mul, n_div, n_mod, n_cl, n_lt, n_le, n_eq, n_in, n_eqm, n_meq, n_mlt, n_ltm, n_mle, n_lem, not_true_eq_false, not_false_eq_true, true_implies, false_implies, true_and, and_true, Nat.not_lt_zero, Nat.zero_le]
                exact e251 _ rfl _ _ _ eq
              | some tt =>
                rw [hl] at ho
                dsimp only at ho
                by_cases hw : o_wall a tt = true
                · have htt := o_lead_lt hl
                  refine d321_86 r.1 (c250 r (by omega) ⟨_, rfl, d321_94 r.1 ?_⟩)
                  try simp (disch := omega) only [n_lit, n_m, i_bo01, j_cmpn, Classical.not_not, n_add, n_mul, n_div, n_mod, n_cl, n_lt, n_le, n_eq, n_in, n_eqm, n_meq, n_mlt, n_ltm, n_mle, n_lem, not_true_eq_false, not_false_eq_true, true_implies, false_implies, true_and, and_true, Nat.not_lt_zero, Nat.zero_le]
                  exact ⟨fun e => absurd (hw.symm.trans e) (by decide), fun e => e251 _ rfl _ _ _ eq⟩
                · rw [if_neg hw] at ho; cases ho
          · exact see c ok.1 ok.2.1 (by unfold o_swo; rw [if_pos (by omega)]) _ _ _
      refine d321_40 r.1 ?_
      try simp (disch := omega) only [n_lit, n_m, n_add, n_mul, n_div, n_mod, n_cl, n_lt, n_le, n_eq, n_in, n_eqm, n_meq, n_mlt, n_ltm, n_mle, n_lem, not_true_eq_false, not_false_eq_true, true_implies, false_implies, true_and, and_true, Nat.not_lt_zero, Nat.zero_le]
      exact ⟨fun z => by omega, fun _ => cho 0 (by omega) _ _ _⟩
  try simp (disch := omega) only [n_lit, n_m, n_add, n_mul, n_div, n_mod, n_cl, n_lt, n_le, n_eq, n_in, n_eqm, n_meq, n_mlt, n_ltm, n_mle, n_lem, not_true_eq_false, not_false_eq_true, true_implies, false_implies, true_and, and_true, Nat.not_lt_zero, Nat.zero_le, hA]
  exact ⟨by omega, key 1 (by omega) (Nat.le_refl 1) _ _ _ _ _ _ _ _⟩
end
