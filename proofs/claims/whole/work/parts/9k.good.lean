/-! A TOWN'S TEXT, what it says is well made -/
section
variable {L : Nat} {xs : Nat → Int32} {h : iH} {Q : Option Value → iH → Prop} {a : Nat → Nat} {t : Nat} {n k : Nat} {T : Nat → Nat}
set_option maxRecDepth 20000
theorem p_tree_g {k0 : Nat} (w : o_PW a) (hk : k0 ≤ n) : o_good n k0 (p_tree T n k0 a) := by
  have l5 := o_ke_le (T := T) hk 5
  refine o_good_if (by omega) (fun h2 => o_good_nu (fun e1 => o_good_nu (fun e2 => o_good_if (by omega) (fun e3 => o_good_wo (fun e4 => o_good_nu (fun e5 => ?_))))))
  exact ⟨l5.1, l5.2, w.tree h2 (o_cel_lt w e1 e2) (o_nf_0 e5).2.2 (Classical.not_not.mp (fun z => e3 (Or.inr z)))⟩
theorem p_lamp_g {k0 : Nat} (w : o_PW a) (hk : k0 ≤ n) : o_good n k0 (p_lamp T n k0 a) := by
  have l3 := o_ke_le (T := T) hk 3
  refine o_good_if (by omega) (fun h2 => o_good_nu (fun e1 => o_good_nu (fun e2 => o_good_if (by omega) (fun e3 => ?_))))
  exact ⟨l3.1, l3.2, w.lamp h2 (o_cel_lt w e1 e2)⟩
theorem p_ways_g {k0 : Nat} : ∀ f j k (a : Nat → Nat), f + j = 8 → o_PW a → a 3 < 4 → a (114 + 10 * a 3) < a 0 * a 1 → (∀ i, i < j → a (116 + 10 * a 3 + i) < 8) → (1 ≤ j ∨ o_wy T n k < 8) → k0 ≤ k → k ≤ n → o_good n k0 (p_ways T n f j k a)
  | 0, j, k, a, hf, w, h3, hc, hw, hj, l1, l2 => by
    rw [p_ways]
    refine o_good_if (by omega) (fun _ => ?_)
    exact ⟨l1, l2, w.cend h3 hc (by omega) hw⟩
  | f + 1, j, k, a, hf, w, h3, hc, hw, hj, l1, l2 => by
    rw [p_ways]
    split
    · rename_i q
      have l := o_tk_le (T := T) l2
      have e3 : (o_su a (116 + 10 * a 3 + j) (o_wy T n k)) 3 = a 3 := o_su_f (by omega)
      have e0 : (o_su a (116 + 10 * a 3 + j) (o_wy T n k)) 0 = a 0 := o_su_f (by omega)
      have e1 : (o_su a (116 + 10 * a 3 + j) (o_wy T n k)) 1 = a 1 := o_su_f (by omega)
      refine p_ways_g f (j + 1) (o_tke T n k) _ (by omega) (w.cway h3 (Or.inr ⟨by omega, by omega⟩)) ?_ ?_ ?_ (Or.inl (by omega)) (by omega) (by omega)
      · rw [e3]; exact h3
      · rw [e3, e0, e1, o_su_f (by omega)]; exact hc
      · intro i hi
        rw [e3]
        by_cases z : i = j
        · subst z; rw [o_su_t]; exact q
        · rw [o_su_f (by omega)]; exact hw i (by omega)
    · rename_i q
      exact ⟨l1, l2, w.cend h3 hc (by omega) hw⟩
theorem p_cart_g {k0 : Nat} (w : o_PW a) (hk : k0 ≤ n) : o_good n k0 (p_cart T n k0 a) := by
  have l4 := o_ke_le (T := T) hk 4
  have w3 := w.1.2.2.1
  refine o_good_if (by omega) (fun h2 => o_good_nu (fun e1 => o_good_nu (fun e2 => o_good_wo (fun e3 => ?_))))
  split
  · rename_i q
    have f3 : (o_su a (114 + 10 * a 3) (o_cel T n a (o_ke T n 1 k0))) 3 = a 3 := o_su_f (by omega)
    have f0 : (o_su a (114 + 10 * a 3) (o_cel T n a (o_ke T n 1 k0))) 0 = a 0 := o_su_f (by omega)
    have f1 : (o_su a (114 + 10 * a 3) (o_cel T n a (o_ke T n 1 k0))) 1 = a 1 := o_su_f (by omega)
    refine p_ways_g 8 0 _ _ rfl (w.cway (by omega) (Or.inl rfl)) ?_ ?_ (fun i hi => absurd hi (by omega)) (Or.inr q) l4.1 l4.2
    · rw [f3]; omega
    · rw [f3, f0, f1, o_su_t]; exact o_cel_lt w e1 e2
  · exact o_good_no
theorem p_person_g {k0 : Nat} (w : o_PW a) (hk : k0 ≤ n) : o_good n k0 (p_person T n k0 a) := by
  have l9 := o_ke_le (T := T) hk 9
  unfold p_person
  refine o_good_if (by omega) (fun h5 => ?_)
  split
  · split
    · show 1 ≤ 3 ∧ 3 ≤ 7
      omega
    · refine o_good_wo (fun e2 => o_good_nu (fun e3 => o_good_nu (fun e4 => o_good_if (by omega) (fun e5 => o_good_wo (fun e6 => ?_)))))
      split
      · rename_i q
        refine o_good_wo (fun e7 => o_good_nu (fun e8 => ?_))
        have z := (o_nf_0 e8).2
        exact ⟨l9.1, l9.2, w.psn h5 o_tkc_lt (o_cel_lt w e3 e4) e5 q z⟩
      · exact o_good_no
  · exact o_good_no
theorem o_or_lt {x q : Nat} (hx : x < 256) (hq : q < 8) : x ||| (1 <<< q) < 256 := by
  have : 1 <<< q < 2 ^ 8 := by
    rw [Nat.one_shiftLeft]
    exact Nat.pow_lt_pow_right (by omega) hq
  exact Nat.or_lt_two_pow (n := 8) hx this
theorem p_pair_g {k0 w0 off : Nat} (ho : off = 157 ∨ off = 158) (w : o_PW a) (hk : k0 ≤ n) : o_good n k0 (p_pair T n w0 off k0 a) := by
  have l4 := o_ke_le (T := T) hk 4
  have w5 := w.1.2.2.2.2.1
  unfold p_pair
  split
  · split
    · show 1 ≤ 3 ∧ 3 ≤ 7
      omega
    · rename_i p ep
      refine o_good_wo (fun e2 => ?_)
      split
      · split
        · show 1 ≤ 3 ∧ 3 ≤ 7
          omega
        · rename_i q eq
          refine o_good_if (by omega) (fun e3 => ?_)
          have hp := o_fd_lt ep
          have hq := o_fd_lt eq
          have z := w.1.2.2.2.2.2.2.2.2.2.2.1 p hp
          refine ⟨l4.1, l4.2, w.pair ho hp (o_or_lt ?_ (by omega))⟩
          rcases ho with rfl | rfl
          · exact z.2.2.2.2.2.1
          · exact z.2.2.2.2.2.2
      · exact o_good_no
  · exact o_good_no
theorem p_sn_g {k0 : Nat} : ∀ f i k (a : Nat → Nat), f + i = 4 → o_PW a → k0 ≤ k → k ≤ n → o_good n k0 (p_sn T n f i k a)
  | 0, i, k, a, _, w, l1, l2 => by
    rw [p_sn]
    exact ⟨l1, l2, w⟩
  | f + 1, i, k, a, hf, w, l1, l2 => by
    have h1 := o_tk_le (T := T) l2
    have h2 := o_tk_le (T := T) h1.2.2
    rw [p_sn]
    refine o_good_wo (fun e1 => o_good_nu (fun e2 => ?_))
    exact p_sn_g f (i + 1) _ _ (by omega) (w.how (by omega) (o_nf_0 e2).2.2) (by omega) (by omega)
theorem p_seen_g {k0 : Nat} (w : o_PW a) (hk : k0 ≤ n) : o_good n k0 (p_seen T n k0 a) := by
  have l1 := o_ke_le (T := T) hk 1
  exact o_good_if (by omega) (fun _ => p_sn_g 4 0 _ _ rfl w.seen l1.1 l1.2)
theorem p_part_g {k0 : Nat} (w : o_PW a) (hk : k0 ≤ n) : o_good n k0 (p_part T n k0 a) := by
  unfold p_part
  split
  · exact p_wall_g w hk
  split
  · exact p_tree_g w hk
  split
  · exact p_cart_g w hk
  split
  · exact p_lamp_g w hk
  split
  · exact p_person_g w hk
  split
  · exact p_pair_g (Or.inl rfl) w hk
  split
  · exact p_pair_g (Or.inr rfl) w hk
  split
  · exact p_seen_g w hk
  · exact o_good_no
theorem p_stop_l {k0 f p : Nat} {r : o_R} (g : o_good n k0 r) (e : p_stop T n r = .inl (f, p)) : 1 ≤ f ∧ f ≤ 7 := by
  match r, g, e with
  | .inl (f2, p2), g, e =>
    cases e
    exact g
  | .inr (k2, a2), g, e =>
    have e : (if o_tkk T n k2 = 3 then .inr (o_tke T n k2, a2) else o_no T n k2) = (.inl (f, p) : o_R) := e
    split at e
    · cases e
    · have := o_bad_0 (T := T) (n := n) (k := k2)
      cases e
      omega
theorem p_stop_r {k0 k2 : Nat} {a2 : Nat → Nat} {r : o_R} (g : o_good n k0 r) (e : p_stop T n r = .inr (k2, a2)) : k0 < k2 ∧ k2 ≤ n ∧ o_PW a2 := by
  match r, g, e with
  | .inl (f2, p2), g, e => cases e
  | .inr (k3, a3), g, e =>
    have e : (if o_tkk T n k3 = 3 then .inr (o_tke T n k3, a3) else o_no T n k3) = (.inr (k2, a2) : o_R) := e
    have g : k0 ≤ k3 ∧ k3 ≤ n ∧ o_PW a3 := g
    split at e
    · rename_i q
      cases e
      have h1 := o_tk_le (T := T) g.2.1
      have h2 := o_tk_on (T := T) g.2.1 (by omega)
      exact ⟨by omega, h1.2.2, g.2.2⟩
    · cases e
theorem p_parts_g : ∀ f k (a : Nat → Nat), n - k < f → k ≤ n → o_PW a → o_good n 0 (p_parts T n f k a)
  | 0, k, a, h, _, _ => absurd h (by omega)
  | f + 1, k, a, hf, hk, w => by
    rw [p_parts]
    split
    · exact ⟨by omega, hk, w⟩
    · have g := p_part_g (T := T) w hk
      split
      · rename_i e he
        obtain ⟨f2, p2⟩ := e
        exact p_stop_l g he
      · rename_i k2 a2 he
        have z := p_stop_r g he
        exact p_parts_g f k2 a2 (by omega) z.2.1 z.2.2
theorem o_new_0 {i : Nat} (h1 : i < 6 ∨ 10 ≤ i) (h2 : i < 58 ∨ 106 ≤ i) : o_new i = 0 := by
  unfold o_new
  rw [if_neg (by omega), if_neg (by omega), if_neg (by omega), if_neg (by omega), if_neg (by omega)]
theorem o_new_s {c : Nat} (hc : c < 48) : o_new (58 + c) = 4294967295 := by
  unfold o_new
  rw [if_pos (by omega)]
theorem o_new_h : ∀ k, k < 4 → o_new (6 + k) ≤ 16 := by
  have : ∀ j : Fin 4, o_new (6 + j.val) ≤ 16 := by decide
  exact fun k hk => this ⟨k, hk⟩
theorem o_new_w2 {b : Nat → Nat} (e : ∀ c, c < 48 → b (58 + c) = 4294967295) : o_cn0 (fun c => b (58 + c) != 4294967295) 48 = 0 := by
  rw [o_cn0_cut (m := 0) 48 (by omega) (fun c _ h2 => by rw [e c h2]; rfl)]
  rfl
theorem o_new_w : o_WF o_new ∧ o_W2 o_new := by
  have z : ∀ i, i < 6 → o_new i = 0 := fun i hi => o_new_0 (Or.inl hi) (by omega)
  refine ⟨⟨Or.inl ⟨z 0 (by omega), z 1 (by omega), z 3 (by omega), z 4 (by omega), z 5 (by omega)⟩, ?_, ?_, ?_, ?_, o_new_h, ?_, ?_, ?_, ?_, ?_, ?_⟩, ?_⟩
  · rw [z 2 (by omega)]; omega
  · rw [z 3 (by omega)]; omega
  · rw [z 4 (by omega)]; omega
  · rw [z 5 (by omega)]; omega
  · intro c hc; rw [o_new_0 (by omega) (by omega)]; omega
  · intro c hc; rw [o_new_s hc]; omega
  · intro k hk; rw [z 4 (by omega)] at hk; omega
  · intro k hk; rw [z 3 (by omega)] at hk; omega
  · intro k hk; rw [z 5 (by omega)] at hk; omega
  · intro j hj; rw [o_new_0 (by omega) (by omega)]; omega
  · unfold o_W2
    rw [o_new_w2 (fun c hc => o_new_s hc), z 2 (by omega)]
/-- the town in the making, its size told -/
def o_siz (W H : Nat) : Nat → Nat := o_su (o_su o_new 0 W) 1 H
theorem o_siz_0 {W H : Nat} : o_siz W H 0 = W := by unfold o_siz; rw [o_su_f (by omega), o_su_t]
theorem o_siz_1 {W H : Nat} : o_siz W H 1 = H := by unfold o_siz; rw [o_su_t]
theorem o_siz_o {W H i : Nat} (hi : 2 ≤ i) : o_siz W H i = o_new i := by unfold o_siz; rw [o_su_f (by omega), o_su_f (by omega)]
theorem o_siz_w {W H : Nat} (hW : 2 ≤ W ∧ W ≤ 8) (hH : 2 ≤ H ∧ H ≤ 6) : o_PW (o_siz W H) := by
  have z : ∀ i, 2 ≤ i → i < 6 → o_siz W H i = 0 := fun i h2 hi => by rw [o_siz_o h2]; exact o_new_0 (Or.inl hi) (by omega)
  have z3 := z 3 (by omega) (by omega)
  have z5 := z 5 (by omega) (by omega)
  refine ⟨⟨Or.inr ?_, ?_, ?_, ?_, ?_, ?_, ?_, ?_, ?_, ?_, ?_, ?_⟩, ?_, ?_, ?_, ?_, ?_, ?_⟩
  · rw [o_siz_0, o_siz_1]; omega
  · rw [z 2 (by omega) (by omega)]; omega
  · rw [z 3 (by omega) (by omega)]; omega
  · rw [z 4 (by omega) (by omega)]; omega
  · rw [z 5 (by omega) (by omega)]; omega
  · intro k hk; rw [o_siz_o (by omega)]; exact o_new_h k hk
  · intro c hc; rw [o_siz_o (by omega), o_new_0 (by omega) (by omega)]; omega
  · intro c hc; rw [o_siz_o (by omega), o_new_s hc]; omega
  · intro k hk; rw [z 4 (by omega) (by omega)] at hk; omega
  · intro k hk; rw [z3] at hk; omega
  · intro k hk; rw [z5] at hk; omega
  · intro j hj; rw [o_siz_o (by omega), o_new_0 (by omega) (by omega)]; omega
  · rw [o_siz_0, o_siz_1]; omega
  · unfold o_W2
    rw [o_new_w2 (fun c hc => by rw [o_siz_o (by omega)]; exact o_new_s hc), z 2 (by omega) (by omega)]
  · intro p hp; rw [z5] at hp; omega
  · rw [o_siz_o (by omega), o_new_0 (by omega) (by omega)]; omega
  · intro k h1 h2; rw [o_siz_o (by omega), o_new_0 (by omega) (by omega)]
  · intro p h1 h2; rw [o_siz_o (by omega), o_siz_o (by omega), o_new_0 (by omega) (by omega), o_new_0 (by omega) (by omega)]; exact ⟨rfl, rfl⟩
theorem p_town_g (hn : n ≤ 900) : o_good n 0 (p_town T n) := by
  have l3 := o_ke_le (T := T) (Nat.zero_le n) 3
  unfold p_town
  refine o_good_wo (fun e1 => o_good_nu (fun e2 => o_good_nu (fun e3 => ?_)))
  split
  · rename_i q
    have h1 := o_tk_on (T := T) l3.2 (by omega)
    have h2 := o_tk_le (T := T) l3.2
    have z2 := (o_nf_0 e2).2
    have z3 := (o_nf_0 e3).2
    refine p_parts_g 900 (o_ke T n 4 0) _ ?_ ?_ (o_siz_w z2 z3)
    · show n - o_tke T n (o_ke T n 3 0) < 900
      omega
    · exact h2.2.2
  · exact o_good_no
end
