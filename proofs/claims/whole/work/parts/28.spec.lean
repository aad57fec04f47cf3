/-! WHAT IS SAID OF A TOWN, over the row a of its numbers: 0 width, 1 height, 2.. how many trees, carts, lamps, people, 6.. weights, 10.. walls, 58.. sways, 106.. lamps, 114.. carts, 154.. people, 194.. scripts -/
def o_ex (w : Nat) : Nat := ([1, 2, 2, 2, 1, 0, 0, 0] : List Nat).getD w 1
def o_sy (w : Nat) : Nat := ([0, 0, 1, 2, 2, 2, 1, 0] : List Nat).getD w 1
/-- a place or none -/
def o_op (x : Option Nat) : Int32 := match x with
  | some k => i_n k
  | none => i_m
def o_lead (W H c w : Nat) : Option Nat := if 1 ≤ c % W + o_ex w ∧ c % W + o_ex w ≤ W ∧ 1 ≤ c / W + o_sy w ∧ c / W + o_sy w ≤ H then some (W * (c / W + o_sy w - 1) + (c % W + o_ex w - 1)) else none
def o_far (W b c : Nat) : Nat := max ((b % W - c % W) + (c % W - b % W)) ((b / W - c / W) + (c / W - b / W))
def o_pt (n k u v : Nat) : Nat := (2 * ((n - k) * u + k * v) + n) / (2 * n)
def o_mid (W n k b c : Nat) : Nat := W * o_pt n k (b / W) (c / W) + o_pt n k (b % W) (c % W)
def o_free (W : Nat) (bl : Nat → Bool) (b c : Nat) : Bool := (List.range (o_far W b c)).all (fun k => k == 0 || !bl (o_mid W (o_far W b c) k b c))
def o_fx (W b w c : Nat) : Int := (((c % W : Nat) : Int) - ((b % W : Nat) : Int)) * ((o_ex w : Int) - 1) + (((c / W : Nat) : Int) - ((b / W : Nat) : Int)) * ((o_sy w : Int) - 1)
def o_sx (W b w c : Nat) : Int := (((c % W : Nat) : Int) - ((b % W : Nat) : Int)) * ((o_sy w : Int) - 1) - (((c / W : Nat) : Int) - ((b / W : Nat) : Int)) * ((o_ex w : Int) - 1)
def o_cone (W b w c : Nat) : Bool := decide (0 < o_fx W b w c) && decide (((o_sx W b w c).natAbs : Int) ≤ o_fx W b w c)
def o_seen (W : Nat) (bl : Nat → Bool) (b w f c : Nat) : Bool := o_cone W b w c && decide (o_far W b c ≤ f) && o_free W bl b c
section
variable (a : Nat → Nat)
def o_wall (c : Nat) : Bool := a (10 + c) == 1
def o_sway (c : Nat) : Nat := if a (58 + c) = 4294967295 then 0 else a (58 + c)
/-- CELL, look and move of a person behind a minute -/
def o_go (c l v : Nat) : Nat × Nat × Nat :=
  if v / 8 = 1 ∨ v / 8 = 2 then (match o_lead (a 0) (a 1) c (v % 8) with
    | some t => if o_wall a t then (c, l, 0) else (t, v % 8, v / 8)
    | none => (c, l, 0))
  else if v / 8 = 3 then (c, v % 8, 3) else (c, l, v / 8)
def o_cr (p : Nat) : Nat → Nat × Nat × Nat
  | 0 => (a (154 + 5 * p), a (155 + 5 * p), 0)
  | m + 1 => o_go a (o_cr p m).1 (o_cr p m).2.1 (a (194 + 60 * p + m))
def o_cell (p m : Nat) : Nat := (o_cr a p m).1
def o_look (p m : Nat) : Nat := (o_cr a p m).2.1
def o_did (p m : Nat) : Nat := (o_cr a p m).2.2
def o_cart (k : Nat) : Nat → Nat
  | 0 => a (114 + 10 * k)
  | m + 1 => (o_lead (a 0) (a 1) (o_cart k m) (a (116 + 10 * k + m % a (115 + 10 * k)))).getD (o_cart k m)
def o_bl (m c : Nat) : Bool := o_wall a c || (List.range (a 3)).any (fun k => o_cart a k m == c)
def o_sees (p c m : Nat) : Bool := o_seen (a 0) (o_bl a m) (o_cell a p m) (o_look a p m) (a (156 + 5 * p)) c
def o_moved (p m : Nat) : Bool := o_did a p m == 1 || o_did a p m == 2 || o_did a p m == 3
def o_its (p d m : Nat) : Nat := if d = 1 then 16 else if d = 0 then (if o_moved a p m then a 9 else 0) else a (4 + d)
def o_wgh (p c d m : Nat) : Nat := if o_sees a p c m then o_its a p d m * (16 - o_sway a c) / 16 else 0
def o_wt (p q m : Nat) : Nat := o_wgh a p (o_cell a q m) (o_did a q m) m
def o_wat (b p : Nat) : Bool := (a (157 + 5 * p)).testBit b
def o_sho (b p : Nat) : Bool := (a (158 + 5 * p)).testBit b
/-- what holds of every town's numbers -/
def o_WF : Prop :=
  ((a 0 = 0 ∧ a 1 = 0 ∧ a 3 = 0 ∧ a 4 = 0 ∧ a 5 = 0) ∨ (2 ≤ a 0 ∧ a 0 ≤ 8 ∧ 2 ≤ a 1 ∧ a 1 ≤ 6)) ∧
  a 2 ≤ 8 ∧ a 3 ≤ 4 ∧ a 4 ≤ 8 ∧ a 5 ≤ 8 ∧
  (∀ k, k < 4 → a (6 + k) ≤ 16) ∧
  (∀ c, c < 48 → a (10 + c) ≤ 1 ∧ (a 0 * a 1 ≤ c → a (10 + c) = 0)) ∧
  (∀ c, c < 48 → a (58 + c) ≤ 16 ∨ a (58 + c) = 4294967295) ∧
  (∀ k, k < a 4 → a (106 + k) < a 0 * a 1) ∧
  (∀ k, k < a 3 → a (114 + 10 * k) < a 0 * a 1 ∧ 1 ≤ a (115 + 10 * k) ∧ a (115 + 10 * k) ≤ 8 ∧ ∀ j, j < a (115 + 10 * k) → a (116 + 10 * k + j) < 8) ∧
  (∀ p, p < a 5 → a (154 + 5 * p) < a 0 * a 1 ∧ a (10 + a (154 + 5 * p)) = 0 ∧ a (155 + 5 * p) < 8 ∧ 1 ≤ a (156 + 5 * p) ∧ a (156 + 5 * p) ≤ 9 ∧ a (157 + 5 * p) < 256 ∧ a (158 + 5 * p) < 256) ∧
  (∀ j, j < 480 → a (194 + j) < 40)
end
section
variable {a : Nat → Nat}
theorem o_WF.c48 (w : o_WF a) : a 0 * a 1 ≤ 48 ∧ a 0 ≤ 8 ∧ a 1 ≤ 6 := by
  obtain ⟨h1, -⟩ := w
  rcases h1 with h1 | h1
  · rw [h1.1]; omega
  · have := Nat.mul_le_mul h1.2.1 h1.2.2.2
    omega
theorem o_WF.pos (w : o_WF a) {c : Nat} (hc : c < a 0 * a 1) : 2 ≤ a 0 ∧ a 0 ≤ 8 ∧ 2 ≤ a 1 ∧ a 1 ≤ 6 := by
  obtain ⟨h1, -⟩ := w
  rcases h1 with h1 | h1
  · rw [h1.1] at hc; omega
  · exact h1
theorem o_lead_lt {W H c w t : Nat} (e : o_lead W H c w = some t) : t < W * H := by
  unfold o_lead at e
  split at e
  · rename_i h
    cases e
    obtain ⟨h1, h2, h3, h4⟩ := h
    have : W * (c / W + o_sy w - 1) + W ≤ W * H := by
      rw [← Nat.mul_succ]
      exact Nat.mul_le_mul_left _ (by omega)
    omega
  · cases e
theorem o_ex_le (w : Nat) : o_ex w ≤ 2 := by
  unfold o_ex
  match w with
  | 0 => decide
  | 1 => decide
  | 2 => decide
  | 3 => decide
  | 4 => decide
  | 5 => decide
  | 6 => decide
  | 7 => decide
  | n + 8 => exact Nat.le_succ 1
theorem o_sy_le (w : Nat) : o_sy w ≤ 2 := by
  unfold o_sy
  match w with
  | 0 => decide
  | 1 => decide
  | 2 => decide
  | 3 => decide
  | 4 => decide
  | 5 => decide
  | 6 => decide
  | 7 => decide
  | n + 8 => exact Nat.le_succ 1
theorem o_wall_f (w : o_WF a) {c : Nat} (hc : c < 48) : a (10 + c) = 0 ∨ a (10 + c) = 1 := by
  have := (w.2.2.2.2.2.2.1 c hc).1
  omega
theorem o_cr_ok (w : o_WF a) {p : Nat} (hp : p < a 5) : ∀ m, m ≤ 60 → o_cell a p m < a 0 * a 1 ∧ o_wall a (o_cell a p m) = false ∧ o_look a p m < 8 ∧ o_did a p m ≤ 4
  | 0, _ => by
    have h := w.2.2.2.2.2.2.2.2.2.2.1 p hp
    refine ⟨h.1, ?_, h.2.2.1, Nat.zero_le _⟩
    unfold o_wall o_cell o_cr
    rw [h.2.1]
    rfl
  | m + 1, hm => by
    have ih := o_cr_ok w hp m (by omega)
    have hv : a (194 + 60 * p + m) < 40 := by
      have h5 := w.2.2.2.2.1
      have := w.2.2.2.2.2.2.2.2.2.2.2 (60 * p + m) (by omega)
      rwa [← Nat.add_assoc] at this
    unfold o_cell o_look o_did at ih ⊢
    rw [o_cr]
    unfold o_go
    generalize a (194 + 60 * p + m) = v at hv ⊢
    by_cases h1 : v / 8 = 1 ∨ v / 8 = 2
    · rw [if_pos h1]
      cases hl : o_lead (a 0) (a 1) (o_cr a p m).1 (v % 8) with
      | none => exact ⟨ih.1, ih.2.1, ih.2.2.1, Nat.zero_le 4⟩
      | some t =>
        dsimp only
        by_cases h2 : o_wall a t = true
        · rw [if_pos h2]
          exact ⟨ih.1, ih.2.1, ih.2.2.1, Nat.zero_le 4⟩
        · rw [if_neg h2]
          refine ⟨o_lead_lt hl, by simpa using h2, ?_, ?_⟩ <;> dsimp only <;> omega
    · rw [if_neg h1]
      by_cases h2 : v / 8 = 3
      · rw [if_pos h2]
        refine ⟨ih.1, ih.2.1, ?_, ?_⟩ <;> dsimp only <;> omega
      · rw [if_neg h2]
        refine ⟨ih.1, ih.2.1, ih.2.2.1, ?_⟩
        dsimp only
        omega
theorem o_cart_ok (w : o_WF a) {k : Nat} (hk : k < a 3) : ∀ m, o_cart a k m < a 0 * a 1
  | 0 => (w.2.2.2.2.2.2.2.2.2.1 k hk).1
  | m + 1 => by
    rw [o_cart]
    cases hl : o_lead (a 0) (a 1) (o_cart a k m) (a (116 + 10 * k + m % a (115 + 10 * k))) with
    | none => exact o_cart_ok w hk m
    | some t => exact o_lead_lt hl
theorem o_sway_le (w : o_WF a) {c : Nat} (hc : c < 48) : o_sway a c ≤ 16 := by
  unfold o_sway
  rcases w.2.2.2.2.2.2.2.1 c hc with h | h
  · split <;> omega
  · rw [if_pos h]; omega
theorem o_its_le (w : o_WF a) {p d m : Nat} (hd : d ≤ 4) : o_its a p d m ≤ 16 := by
  have h9 := w.2.2.2.2.2.1
  unfold o_its
  split
  · omega
  · split
    · split
      · exact h9 3 (by omega)
      · omega
    · have := h9 (d - 2) (by omega)
      rwa [show 6 + (d - 2) = 4 + d by omega] at this
theorem o_wgh_le (w : o_WF a) {p c d m : Nat} (hd : d ≤ 4) (hc : c < 48) : o_wgh a p c d m ≤ 16 := by
  unfold o_wgh
  split
  · have h1 := o_its_le w (p := p) (m := m) hd
    have h2 : o_its a p d m * (16 - o_sway a c) ≤ 16 * 16 := Nat.mul_le_mul h1 (by omega)
    omega
  · omega
end
/-- the reference holds the town a -/
def i_RA (a : Nat → Nat) (h : iH) : Prop := i_Lay h ∧ o_WF a ∧ (∀ i, i < 680 → aI h 139 i = i_n (a i)) ∧ (∀ k, k < 8 → aI h 141 k = i_n (o_ex k) - i_n 1 ∧ aI h 142 k = i_n (o_sy k) - i_n 1) ∧
  (∀ p m, p < a 5 → m ≤ 60 → aI h 151 (61 * p + m) = i_n (o_cell a p m) ∧ aI h 152 (61 * p + m) = i_n (o_look a p m) ∧ aI h 153 (61 * p + m) = i_n (o_did a p m)) ∧
  (∀ k m, k < a 3 → m ≤ 60 → aI h 154 (61 * k + m) = i_n (o_cart a k m))
theorem i_RA.fr {a : Nat → Nat} {h h2 : iH} {A : List Nat} {F : List (Nat × Nat)} (r : i_RA a h) (hL : i_Lay h2) (f : i_Fr A F h h2) (hA : ∀ p, p ∈ [139, 141, 142, 151, 152, 153, 154] → p ∉ A) : i_RA a h2 := by
  obtain ⟨-, r2, r3, r4, r5, r6⟩ := r
  refine ⟨hL, r2, ?_, ?_, ?_, ?_⟩
  · rw [f.rI (hA 139 (by decide))]; exact r3
  · rw [f.rI (hA 141 (by decide)), f.rI (hA 142 (by decide))]; exact r4
  · rw [f.rI (hA 151 (by decide)), f.rI (hA 152 (by decide)), f.rI (hA 153 (by decide))]; exact r5
  · rw [f.rI (hA 154 (by decide))]; exact r6
