/-! THE TOKEN, of the class -/
section
variable {L : Nat} {xs : Nat → Int32} {h : iH} {Q : Option Value → iH → Prop} {a : Nat → Nat} {t : Nat}
set_option maxRecDepth 20000
/-- what a byte begins: 1 a number, 2 a word, 3 a stop, 5 nothing, 4 none of these -/
def o_cc (c : Nat) : Nat := if 48 ≤ c ∧ c ≤ 57 then 1 else if 97 ≤ c ∧ c ≤ 122 then 2 else if c = 59 then 3 else if c = 32 ∨ c = 10 then 5 else 4
/-- on while P, before n -/
def o_run (P : Nat → Bool) (n : Nat) : Nat → Nat → Nat
  | 0, i => i
  | f + 1, i => if i < n ∧ P i = true then o_run P n f (i + 1) else i
theorem o_run_le {P : Nat → Bool} {n : Nat} : ∀ f i, i ≤ n → i ≤ o_run P n f i ∧ o_run P n f i ≤ n
  | 0, i, h => ⟨Nat.le_refl _, h⟩
  | f + 1, i, h => by
    rw [o_run]
    split
    · rename_i e
      have := o_run_le (P := P) f (i + 1) (by omega)
      omega
    · exact ⟨Nat.le_refl _, h⟩
/-- one step of a run that has room -/
theorem o_run_s {P : Nat → Bool} {n i : Nat} (h : i < n) (e : P i = true) : o_run P n (n - i) i = o_run P n (n - (i + 1)) (i + 1) := by
  rw [show n - i = (n - (i + 1)) + 1 by omega, o_run, if_pos ⟨h, e⟩]
theorem o_run_e {P : Nat → Bool} {n i : Nat} (e : ¬ (i < n ∧ P i = true)) : ∀ f, o_run P n f i = i
  | 0 => rfl
  | f + 1 => by rw [o_run, if_neg e]
/-- the token from k on -/
def o_tks (T : Nat → Nat) (n k : Nat) : Nat := o_run (fun i => o_cc (T i) == 5) n (n - k) k
def o_tk0 (T : Nat → Nat) (n k : Nat) : Nat := if o_tks T n k < n then o_cc (T (o_tks T n k)) else 0
def o_tke (T : Nat → Nat) (n k : Nat) : Nat := if o_tk0 T n k = 1 ∨ o_tk0 T n k = 2 then o_run (fun i => o_cc (T i) == o_tk0 T n k) n (n - o_tks T n k) (o_tks T n k) else if o_tk0 T n k = 0 then o_tks T n k else o_tks T n k + 1
def o_tkk (T : Nat → Nat) (n k : Nat) : Nat := if o_tk0 T n k = 1 ∧ 4 < o_tke T n k - o_tks T n k then 4 else o_tk0 T n k
def o_num (T : Nat → Nat) (s : Nat) : Nat → Nat
  | 0 => 0
  | m + 1 => o_num T s m * 10 + (T (s + m) - 48)
def o_w5 (T : Nat → Nat) (s : Nat) : Nat → Nat
  | 0 => 0
  | m + 1 => o_w5 T s m * 32 + (T (s + m) - 96)
def o_tkv (T : Nat → Nat) (n k : Nat) : Nat := if o_tkk T n k = 1 then o_num T (o_tks T n k) (o_tke T n k - o_tks T n k) else 0
def o_tkc (T : Nat → Nat) (n k : Nat) : Nat := if o_tkk T n k = 2 ∧ o_tke T n k - o_tks T n k ≤ 8 then o_w5 T (o_tks T n k) (o_tke T n k - o_tks T n k) else 0
/-- the words that are no names, by the class's numbers -/
def o_W1 : List (List Nat) := [[110], [110, 101], [101], [115, 101], [115], [115, 119], [119], [110, 119], [115, 105, 122, 101], [119, 97, 108, 108], [116, 111], [116, 114, 101, 101], [115, 119, 97, 121, 115], [99, 97, 114, 116], [103, 111, 101, 115], [108, 97, 109, 112], [112, 101, 114, 115, 111, 110], [97, 116], [108, 111, 111, 107, 115], [102, 97, 114], [104, 105, 100, 101, 115], [102, 114, 111, 109], [115, 104, 111, 119, 115], [115, 101, 101, 110], [115, 108, 111, 119], [116, 117, 114, 110], [115, 105, 103, 110], [115, 101, 108, 102], [100, 111, 101, 115], [115, 116, 101, 112], [115, 116, 105, 108, 108], [108, 111, 111, 112], [101, 110, 100]]
def o_wc (w : List Nat) : Nat := w.foldl (fun s c => s * 32 + (c - 96)) 0
def o_kc (w : Nat) : Nat := o_wc (o_W1.getD w [])
/-- the last word below m with this code -/
def o_kw (v : Nat) : Nat → Option Nat
  | 0 => none
  | m + 1 => if o_kc m = v then some m else o_kw v m
def o_tkw (T : Nat → Nat) (n k : Nat) : Option Nat := if o_tkk T n k = 2 ∧ o_tke T n k - o_tks T n k ≤ 8 then o_kw (o_tkc T n k) 33 else none
/-- the tape's tables -/
def i_TT (h : iH) : Prop := (∀ c, c < 256 → aI h 12 c = i_n (o_cc c)) ∧ ∀ w, w < 33 → aJ h 13 w = i_j (o_kc w)
theorem o_W1_33 : o_W1.length = 33 := by decide
theorem o_kc_in : ∀ w : Fin 33, ∀ u : Fin 33, o_kc w.val = o_kc u.val → w = u := by decide +kernel
theorem o_cc_le (c : Nat) : o_cc c ≤ 5 ∧ 1 ≤ o_cc c := by unfold o_cc; split <;> (try split) <;> (try split) <;> (try split) <;> omega
end
