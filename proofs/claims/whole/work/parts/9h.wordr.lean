/-! WORDS AND NAMES, of the reference -/
section
variable {L : Nat} {xs : Nat → Int32} {h : iH} {Q : Option Value → iH → Prop} {a : Nat → Nat} {t : Nat} {n k : Nat} {T : Nat → Nat}
set_option maxRecDepth 20000
/-- the class's number of the reference's word w; and back -/
def o_cw (w : Nat) : Nat := ([0, 1, 2, 3, 4, 5, 6, 7, 8, 9, 11, 13, 15, 16, 20, 22, 23, 10, 12, 14, 17, 18, 19, 21, 24, 25, 26, 27, 28, 29, 30, 31, 32] : List Nat).getD w 0
def o_rc (u : Nat) : Nat := ([0, 1, 2, 3, 4, 5, 6, 7, 8, 9, 17, 10, 18, 11, 19, 12, 13, 20, 21, 22, 14, 23, 15, 16, 24, 25, 26, 27, 28, 29, 30, 31, 32] : List Nat).getD u 0
def o_ps (w : Nat) : Nat := ([1, 3, 6, 8, 11, 13, 16, 18, 21, 26, 31, 36, 41, 46, 53, 59, 65, 70, 73, 79, 84, 87, 93, 97, 102, 107, 112, 117, 122, 127, 132, 138, 143, 147] : List Nat).getD w 0
def o_kb (i : Nat) : Nat := (i_TX2.getD i 0).toNatClampNeg
def o_wln (w : Nat) : Nat := (o_W1.getD (o_cw w) []).length
theorem o_kb_1 : ∀ w : Fin 33, o_ps (w.val + 1) = o_ps w.val + o_wln w.val + 1 ∧ o_kb (o_ps w.val + o_wln w.val) = 32 ∧ 1 ≤ o_wln w.val ∧ o_wln w.val ≤ 8 ∧ o_ps w.val + o_wln w.val < 147 ∧ o_cw w.val < 33 ∧ o_rc (o_cw w.val) = w.val := by decide +kernel
theorem o_kb_2 : ∀ w : Fin 33, ∀ j : Fin 8, j.val < o_wln w.val → o_kb (o_ps w.val + j.val) = (o_W1.getD (o_cw w.val) []).getD j.val 0 ∧ 97 ≤ o_kb (o_ps w.val + j.val) ∧ o_kb (o_ps w.val + j.val) ≤ 122 := by decide +kernel
theorem o_rc_1 : ∀ u : Fin 33, o_cw (o_rc u.val) = u.val ∧ o_rc u.val < 33 := by decide +kernel
theorem o_kc_w5 : ∀ u : Fin 33, o_kc u.val = o_w5 (fun i => (o_W1.getD u.val []).getD i 0) 0 (o_W1.getD u.val []).length ∧ (o_W1.getD u.val []).length ≤ 8 := by decide +kernel
theorem o_kc_lt : ∀ u : Fin 33, ∀ j : Fin 8, j.val < (o_W1.getD u.val []).length → 97 ≤ (o_W1.getD u.val []).getD j.val 0 ∧ (o_W1.getD u.val []).getD j.val 0 ≤ 122 := by decide +kernel
theorem o_kw_kc : ∀ u : Fin 33, o_kw (o_kc u.val) 33 = some u.val := by decide +kernel
theorem o_kw_s {v : Nat} : ∀ m w, o_kw v m = some w → o_kc w = v
  | 0, w, e => by rw [o_kw] at e; cases e
  | m + 1, w, e => by
    rw [o_kw] at e
    split at e
    · rename_i q; cases e; exact q
    · exact o_kw_s m w e
theorem o_w5_inj {U : Nat → Nat} {s r : Nat} : ∀ m l, (∀ i, i < m → 97 ≤ T (s + i) ∧ T (s + i) ≤ 122) → (∀ i, i < l → 97 ≤ U (r + i) ∧ U (r + i) ≤ 122) → o_w5 T s m = o_w5 U r l → m = l ∧ ∀ i, i < m → T (s + i) = U (r + i)
  | 0, 0, _, _, _ => ⟨rfl, fun i hi => absurd hi (by omega)⟩
  | 0, l + 1, _, z2, e => by
    rw [o_w5, o_w5] at e
    have := z2 l (by omega)
    omega
  | m + 1, 0, z1, _, e => by
    rw [o_w5, o_w5] at e
    have := z1 m (by omega)
    omega
  | m + 1, l + 1, z1, z2, e => by
    rw [o_w5, o_w5] at e
    have h1 := z1 m (by omega)
    have h2 := z2 l (by omega)
    obtain ⟨e1, e2⟩ := o_w5_inj m l (fun i hi => z1 i (by omega)) (fun i hi => z2 i (by omega)) (by omega)
    subst e1
    refine ⟨rfl, fun i hi => ?_⟩
    by_cases q : i = m
    · subst q; omega
    · exact e2 i (by omega)
theorem o_w5_ext {U : Nat → Nat} {s r : Nat} : ∀ m, (∀ i, i < m → T (s + i) = U (r + i)) → o_w5 T s m = o_w5 U r m
  | 0, _ => rfl
  | m + 1, z => by rw [o_w5, o_w5, o_w5_ext m (fun i hi => z i (by omega)), z m (by omega)]
theorem o_like (e : o_tkk T n k = 2) {u : Nat} (hu : u < 33) : (o_tke T n k - o_tks T n k = (o_W1.getD u []).length ∧ ∀ j, j < o_tke T n k - o_tks T n k → T (o_tks T n k + j) = (o_W1.getD u []).getD j 0) ↔ o_wy T n k = u := by
  have kl := o_kc_w5 ⟨u, hu⟩
  dsimp only at kl
  obtain ⟨-, h1, h3⟩ := o_tkk2 e
  constructor
  · rintro ⟨e1, e2⟩
    have l8 : o_tke T n k - o_tks T n k ≤ 8 := by omega
    have ec : o_tkc T n k = o_kc u := by
      unfold o_tkc
      rw [if_pos ⟨e, l8⟩, kl.1, ← e1]
      exact o_w5_ext (U := fun i => (o_W1.getD u []).getD i 0) (r := 0) _ (fun i hi => by rw [e2 i hi, Nat.zero_add])
    unfold o_wy o_tkw
    rw [if_pos ⟨e, l8⟩, ec, o_kw_kc ⟨u, hu⟩]
    rfl
  · intro q
    rcases o_wy_cases (T := T) (n := n) (k := k) with ⟨-, z⟩ | ⟨w, hw, z1, z2⟩
    · omega
    · have : w = u := by omega
      subst this
      unfold o_tkw at z1
      split at z1
      · rename_i q2
        have z3 := o_kw_s _ _ z1
        unfold o_tkc at z3
        rw [if_pos q2, kl.1] at z3
        obtain ⟨y1, y2⟩ := o_w5_inj _ _ (fun i hi => by
          have := o_kc_lt ⟨w, hw⟩ ⟨i, by omega⟩ hi
          dsimp only at this
          rw [Nat.zero_add]; exact this) (fun i hi => h3 _ (by omega) (by omega)) z3
        refine ⟨y1.symm, fun j hj => ?_⟩
        rw [← y2 j (by omega), Nat.zero_add]
      · cases z1
/-! the text of words -/
theorem i_oA8 : i_oA L xs 8 = none := rfl
theorem c342 {x y : Int32} (hx : ¬ x < 0) (hy : x < y) (H : Q none h) : i_C i_MT i_AT L xs 342 [.int x, .int y] h Q := e342 (b342_0 (e350 (b350_0 ⟨fun z => absurd z hx, fun _ => ⟨fun _ => b350_16 ⟨_, rfl, b342_8 H⟩, fun z => absurd hy z⟩⟩)))
theorem c338 (H : Q (some (.int (i_n 147))) h) : i_C i_MT i_AT L xs 338 [.retAddr 7] h Q := by
  refine e338 (b338_0 ⟨8, rfl, i_TX2, i_oA8, rfl, rfl, e340 (b340_0 ⟨fun z => absurd z (by decide), fun _ => ⟨0, rfl, b340_14 ⟨by decide, _, rfl, b338_9 ?_⟩⟩⟩)⟩)
  have : (Int32.ofNat i_TX2.length) >>> ((0 : Int32) &&& 31) = i_n 147 := by decide +kernel
  rw [this]
  exact H
theorem o_kb_3 : ∀ i : Fin 147, ((((i_TX2.getD i.val 0) &&& (255 : Int32)).toUInt32 % 65536).toInt32) = i_n (o_kb i.val) ∧ i_ret (some .char) (i_n (o_kb i.val)) = true := by decide +kernel
theorem c339 {i : Nat} (hi : i < 147) (H : Q (some (.int (i_n (o_kb i)))) h) : i_C i_MT i_AT L xs 339 [.retAddr 7, .int (i_n i)] h Q := by
  have kb := o_kb_3 ⟨i, hi⟩
  dsimp only at kb
  have hl : i_TX2.length = 147 := by decide +kernel
  have h0 : ¬ i_n i < 0 := by
    rw [show (0 : Int32) = i_n 0 from rfl, n_lt (by omega) (by omega)]
    omega
  refine e339 (b339_0 ⟨rfl, e341 (b341_0 ⟨fun z => absurd z (by decide), fun _ => ⟨0, rfl, fun z => absurd rfl z, fun _ => b341_18 ⟨rfl, _, rfl, b339_4 ⟨fun z => absurd z (by decide), fun _ => ⟨8, rfl, e343 (b343_0 ⟨i_TX2, i_oA8, rfl, c342 h0 ?_ ⟨rfl, b343_6 ⟨i_TX2, rfl, ?_, ?_⟩⟩⟩)⟩⟩⟩⟩⟩)⟩)
  · rw [hl]
    show i_n i < i_n 147
    rw [n_lt (by omega) (by omega)]
    exact hi
  · rw [hl, n_cl (by omega)]
    rintro (z | z)
    · exact h0 z
    · omega
  · rw [n_cl (by omega), kb.1]
    exact ⟨kb.2, _, rfl, b339_15 ⟨kb.2, H⟩⟩
/-- the reference's number of the class's word u, none: 99 -/
def o_rix (u : Nat) : Int32 := if u = 99 then i_m else i_n (o_rc u)
theorem o_ri_is {w : Nat} (hw : w < 33) : o_rix (o_wy T n k) = i_n w ↔ o_wy T n k = o_cw w := by
  have hc := o_kb_1 ⟨w, hw⟩
  dsimp only at hc
  unfold o_rix
  rcases o_wy_cases (T := T) (n := n) (k := k) with ⟨-, q⟩ | ⟨u, hu, -, q⟩
  · rw [if_pos q, n_meq (by omega)]
    exact ⟨fun z => z.elim, fun z => by omega⟩
  · have h2 := o_rc_1 ⟨u, hu⟩
    dsimp only at h2
    rw [q, if_neg (by omega), n_eq (by omega) (by omega)]
    constructor
    · intro z; rw [← z]; exact h2.1.symm
    · intro z; rw [z]; exact hc.2.2.2.2.2.2
theorem o_ri_m : o_rix (o_wy T n k) = i_m ↔ o_wy T n k = 99 := by
  unfold o_rix
  rcases o_wy_cases (T := T) (n := n) (k := k) with ⟨-, q⟩ | ⟨u, hu, -, q⟩
  · rw [if_pos q]; exact ⟨fun _ => q, fun _ => rfl⟩
  · have h2 := o_rc_1 ⟨u, hu⟩
    dsimp only at h2
    rw [q, if_neg (by omega), n_eqm (by omega)]
    exact ⟨fun z => z.elim, fun z => by omega⟩
/-- a way's number is the same on both sides -/
theorem o_rc_8 : ∀ u : Fin 33, (u.val < 8 → o_rc u.val = u.val) ∧ (o_rc u.val < 8 → u.val < 8) := by decide +kernel
theorem o_ri_way : ((¬ o_rix (o_wy T n k) < 0) ∧ o_rix (o_wy T n k) ≤ i_n 7) ↔ o_wy T n k < 8 := by
  unfold o_rix
  rcases o_wy_cases (T := T) (n := n) (k := k) with ⟨-, q⟩ | ⟨u, hu, -, q⟩
  · rw [if_pos q]
    exact ⟨fun z => absurd (show i_m < 0 by decide) z.1, fun z => by omega⟩
  · have h2 := o_rc_1 ⟨u, hu⟩
    have h8 := o_rc_8 ⟨u, hu⟩
    dsimp only at h2 h8
    rw [q, if_neg (by omega), show (0 : Int32) = i_n 0 from rfl, n_lt (by omega) (by omega), n_le (by omega) (by omega)]
    constructor
    · intro z; exact h8.2 (by omega)
    · intro z; have := h8.1 z; omega
theorem o_ri_w8 (e : o_wy T n k < 8) : o_rix (o_wy T n k) = i_n (o_wy T n k) := by
  have h8 := o_rc_8 ⟨o_wy T n k, by omega⟩
  dsimp only at h8
  unfold o_rix
  rw [if_neg (by omega), h8.1 e]
set_option maxHeartbeats 2000000 in
theorem c220 (hL : i_Lay h) (x : i_TXr h n T) (z : i_RK h T n k) (hk : k ≤ n) (H : Q (some (.int (o_rix (o_wy T n k)))) h) : i_C i_MT i_AT L xs 220 [.ref 138, .retAddr 7] h Q := by
  have k4 := o_tkk4 (T := T) (n := n) (k := k)
  have rl := o_rk_le (show o_tkk T n k ≤ 5 by omega)
  have tl := o_tk_le (T := T) hk
  have hn := x.2.1
  have words : o_tkk T n k = 2 → ∀ w, w ≤ 33 → (∀ v, v < w → o_wy T n k ≠ o_cw v) → ∀ (y4 y5 y6 : Option Value), i_P i_MT i_AT L xs 220 14 [some (.ref 138), some (.retAddr 7), some (.int (i_n w)), some (.int (i_n (o_ps w))), y4, y5, y6] [] h 0 0 Q := by
    intro e2
    refine l_up ?_ ?_
    · intro hv y4 y5 y6
      refine d220_14 hL ⟨rfl, c338 ⟨_, rfl, d220_19 hL ⟨fun _ => ?_, fun q => absurd (show i_n 147 ≤ i_n (o_ps 33) by decide +kernel) q⟩⟩⟩
      have : o_wy T n k = 99 := by
        rcases o_wy_cases (T := T) (n := n) (k := k) with ⟨-, q⟩ | ⟨u, hu, -, q⟩
        · exact q
        · have h2 := o_rc_1 ⟨u, hu⟩
          dsimp only at h2
          exact absurd (q.trans h2.1.symm) (hv _ h2.2)
      rw [o_ri_m.mpr this] at H
      exact H
    · intro w hw ih hv y4 y5 y6
      obtain ⟨p1, p2, p3, p4, p5, p6, p7⟩ := o_kb_1 ⟨w, hw⟩
      dsimp only at p1 p2 p3 p4 p5 p6 p7
      have lk := o_like e2 p6
      have p115 : ∀ b x6, b ≤ 1 → (b = 1 ↔ o_wy T n k = o_cw w) → i_P i_MT i_AT L xs 220 115 [some (.ref 138), some (.retAddr 7), some (.int (i_n w)), some (.int (i_n (o_ps w))), some (.int (i_n (o_ps w + o_wln w))), some (.int (i_n b)), some (.int x6)] [] h 0 0 Q := by
        intro b x6 hb hb2
        refine d220_115 hL ?_
        try simp (disch := omega) only [n_lit, n_m, n_add, n_mul, n_div, n_mod, n_cl, n_lt, n_le, n_eq, n_in, n_eqm, n_meq, n_mlt, n_ltm, n_mle, n_lem, not_true_eq_false, not_false_eq_true, true_implies, false_implies, true_and, and_true, Nat.not_lt_zero, Nat.zero_le]
        rw [← p1]
        refine ⟨fun q => ih (fun v hv2 => ?_) _ _ _, fun q => ?_⟩
        · by_cases y : v = w
          · rw [y]; exact fun y2 => by have := hb2.mpr y2; omega
          · exact hv v (by omega)
        · have : o_wy T n k = o_cw w := hb2.mp (by omega)
          rw [(o_ri_is hw).mpr this] at H
          exact H
      have p68 : ∀ j, j ≤ o_wln w → ∀ b, b ≤ 1 → (b = 1 ↔ (o_tke T n k - o_tks T n k = o_wln w ∧ ∀ i, i < j → T (o_tks T n k + i) = (o_W1.getD (o_cw w) []).getD i 0)) → i_P i_MT i_AT L xs 220 68 [some (.ref 138), some (.retAddr 7), some (.int (i_n w)), some (.int (i_n (o_ps w))), some (.int (i_n (o_ps w + o_wln w))), some (.int (i_n b)), some (.int (i_n (o_ps w + j)))] [] h 0 0 Q := by
        refine l_up ?_ ?_
        · intro b hb hb2
          refine d220_68 hL ?_
          try simp (disch := omega) only [n_lit, n_m, n_add, n_mul, n_div, n_mod, n_cl, n_lt, n_le, n_eq, n_in, n_eqm, n_meq, n_mlt, n_ltm, n_mle, n_lem, not_true_eq_false, not_false_eq_true, true_implies, false_implies, true_and, and_true, Nat.not_lt_zero, Nat.zero_le, Nat.le_refl]
          refine p115 b _ hb ?_
          rw [hb2, ← lk]
          constructor
          · rintro ⟨y1, y2⟩; exact ⟨y1, fun j hj => y2 j (by omega)⟩
          · rintro ⟨y1, y2⟩; exact ⟨y1, fun j hj => y2 j (by rw [y1]; exact hj)⟩
        · intro j hj ihj b hb hb2
          have kb := o_kb_2 ⟨w, hw⟩ ⟨j, by omega⟩ hj
          dsimp only at kb
          refine d220_68 hL ?_
          try simp (disch := omega) only [n_lit, n_m, n_add, n_mul, n_div, n_mod, n_cl, n_lt, n_le, n_eq, n_in, n_eqm, n_meq, n_mlt, n_ltm, n_mle, n_lem, not_true_eq_false, not_false_eq_true, true_implies, false_implies, true_and, and_true, Nat.not_lt_zero, Nat.zero_le]
          refine ⟨fun q => by omega, fun _ => ⟨fun q => p115 b _ hb ?_, fun q => ⟨rfl, c339 (by omega) ⟨_, rfl, d220_86 hL ?_⟩⟩⟩⟩
          · constructor
            · intro y; omega
            · intro y
              obtain ⟨y1, y2⟩ := lk.mpr y
              exact hb2.mpr ⟨y1, fun i hi => y2 i (by have : o_wln w = (o_W1.getD (o_cw w) []).length := rfl; omega)⟩
          · have b1 : b = 1 := by omega
            obtain ⟨y1, y2⟩ := hb2.mp b1
            have hT := (x.2.2 (o_tks T n k + j) (by omega)).1
            rw [z.2.1, n_add, show o_tks T n k + (o_ps w + j) = (o_tks T n k + j) + o_ps w by omega, n_sub (by omega), Nat.add_sub_cancel]
            refine c215 hL x (by omega) ⟨_, rfl, d220_99 hL ?_⟩
            rw [o_bt_t (by omega)]
            try simp (disch := omega) only [n_lit, n_m, n_add, n_mul, n_div, n_mod, n_cl, n_lt, n_le, n_eq, n_in, n_eqm, n_meq, n_mlt, n_ltm, n_mle, n_lem, not_true_eq_false, not_false_eq_true, true_implies, false_implies, true_and, and_true, Nat.not_lt_zero, Nat.zero_le]
            have nx : ∀ c, c ≤ 1 → (c = 1 ↔ o_kb (o_ps w + j) = T (o_tks T n k + j)) → i_P i_MT i_AT L xs 220 107 [some (.ref 138), some (.retAddr 7), some (.int (i_n w)), some (.int (i_n (o_ps w))), some (.int (i_n (o_ps w + o_wln w))), some (.int (i_n b)), some (.int (i_n (o_ps w + j)))] [.int (i_n c)] h 0 0 Q := by
              intro c hc hc2
              refine d220_107 hL ?_
              try simp (disch := omega) only [n_lit, n_m, n_add, n_mul, n_div, n_mod, n_cl, n_lt, n_le, n_eq, n_in, n_eqm, n_meq, n_mlt, n_ltm, n_mle, n_lem, not_true_eq_false, not_false_eq_true, true_implies, false_implies, true_and, and_true, Nat.not_lt_zero, Nat.zero_le]
              refine ihj c hc ?_
              rw [hc2]
              constructor
              · intro y
                refine ⟨y1, fun i hi => ?_⟩
                by_cases y3 : i = j
                · subst y3; rw [← y, kb.1]
                · exact y2 i (by omega)
              · intro y
                rw [y.2 j (by omega)]; exact kb.1
            exact ⟨fun q => nx 0 (by omega) ⟨fun y => by omega, fun y => absurd y q⟩, fun q => nx 1 (by omega) ⟨fun _ => Classical.not_not.mp q, fun _ => rfl⟩⟩
      have p25 : ∀ j, j ≤ o_wln w → ∀ (y5 y6 : Option Value), i_P i_MT i_AT L xs 220 25 [some (.ref 138), some (.retAddr 7), some (.int (i_n w)), some (.int (i_n (o_ps w))), some (.int (i_n (o_ps w + j))), y5, y6] [] h 0 0 Q := by
        refine l_up ?_ ?_
        · intro y5 y6
          refine d220_25 hL ⟨rfl, c339 (by omega) ⟨_, rfl, d220_31 hL ?_⟩⟩
          rw [p2, z.2.1, z.2.2.1, show i_n (o_tke T n k) - i_n (o_tks T n k) = i_n (o_tke T n k - o_tks T n k) from n_sub (by omega), show i_n (o_ps w + o_wln w) - i_n (o_ps w) = i_n (o_wln w) from by rw [n_sub (by omega), Nat.add_sub_cancel_left]]
          try simp (disch := omega) only [n_lit, n_m, n_add, n_mul, n_div, n_mod, n_cl, n_lt, n_le, n_eq, n_in, n_eqm, n_meq, n_mlt, n_ltm, n_mle, n_lem, not_true_eq_false, not_false_eq_true, true_implies, false_implies, true_and, and_true, Nat.not_lt_zero, Nat.zero_le]
          have go : ∀ b, b ≤ 1 → (b = 1 ↔ o_wln w = o_tke T n k - o_tks T n k) → ∀ (y5 y6 : Option Value), i_P i_MT i_AT L xs 220 63 [some (.ref 138), some (.retAddr 7), some (.int (i_n w)), some (.int (i_n (o_ps w))), some (.int (i_n (o_ps w + o_wln w))), y5, y6] [.int (i_n b)] h 0 0 Q := fun b hb hb2 y5 y6 => by
            refine d220_63 hL ?_
            refine p68 0 (by omega) b hb ?_
            rw [hb2]
            exact ⟨fun y => ⟨y.symm, fun i hi => absurd hi (by omega)⟩, fun y => y.1.symm⟩
          exact ⟨fun q => go 0 (by omega) ⟨fun y => by omega, fun y => absurd y q⟩ _ _, fun q => go 1 (by omega) ⟨fun _ => Classical.not_not.mp q, fun _ => rfl⟩ _ _⟩
        · intro j hj ihj y5 y6
          have kb := o_kb_2 ⟨w, hw⟩ ⟨j, by omega⟩ hj
          dsimp only at kb
          refine d220_25 hL ⟨rfl, c339 (by omega) ⟨_, rfl, d220_31 hL ?_⟩⟩
          try simp (disch := omega) only [n_lit, n_m, n_add, n_mul, n_div, n_mod, n_cl, n_lt, n_le, n_eq, n_in, n_eqm, n_meq, n_mlt, n_ltm, n_mle, n_lem, not_true_eq_false, not_false_eq_true, true_implies, false_implies, true_and, and_true, Nat.not_lt_zero, Nat.zero_le]
          exact ⟨fun q => by omega, fun _ => ihj _ _⟩
      refine d220_14 hL ⟨rfl, c338 ⟨_, rfl, d220_19 hL ?_⟩⟩
      try simp (disch := omega) only [n_lit, n_m, n_add, n_mul, n_div, n_mod, n_cl, n_lt, n_le, n_eq, n_in, n_eqm, n_meq, n_mlt, n_ltm, n_mle, n_lem, not_true_eq_false, not_false_eq_true, true_implies, false_implies, true_and, and_true, Nat.not_lt_zero, Nat.zero_le]
      exact ⟨fun q => by omega, fun _ => p25 0 (by omega) _ _⟩
  refine e220 (d220_0 hL ?_)
  rw [z.1]
  try simp (disch := omega) only [n_lit, n_m, n_add, n_mul, n_div, n_mod, n_cl, n_lt, n_le, n_eq, n_in, n_eqm, n_meq, n_mlt, n_ltm, n_mle, n_lem, not_true_eq_false, not_false_eq_true, true_implies, false_implies, true_and, and_true, Nat.not_lt_zero, Nat.zero_le]
  rw [o_rk_2 k4]
  refine ⟨fun q => words q 0 (by omega) (fun v hv => absurd hv (by omega)) _ _ _, fun q => ?_⟩
  have : o_wy T n k = 99 := by
    by_cases y : o_wy T n k = 99
    · exact y
    · exact absurd (o_wy_kind y) q
  rw [o_ri_m.mpr this] at H
  exact H
end
