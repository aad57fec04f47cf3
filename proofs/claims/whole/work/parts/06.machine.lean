/-! THE MACHINE DOES THEM -/
def i_CX (p : Program) (c : Code) (cc : ByteArray) (s : State) (m : MethodId) (args : Array Value) (own : String) (A : Nat → Prop) (D : va_G) (cT ox : Nat → Nat) (L : Nat) (xs : Nat → Int32) : Prop :=
  p.tables.exec = Jvm.exec ∧ c.code = cc ∧ s.vm.findClass own = some m.cls ∧ (∀ w ∈ i_GT, w.before args s = true) ∧ va_K D vwCl (i_tys cT) s ∧ i_EX ox L xs A s s.heap ∧ (∀ q, s.heap.size ≤ q → A q)
def i_Wd (D : va_G) (ad ox cT : Nat → Nat) (A : Nat → Prop) (s : State) (H : Heap) (locs : List Loc) (h : iH) : Prop := va_P D vwCl (i_ws ad ox cT h) H ∧ va_D A (i_ws ad ox cT h) ∧ va_S A s.heap H locs
def i_lk (own : String) (idx a b : Nat) : Jvm.Cond := .fieldLink own idx (i_fl a b).1 (i_fl a b).2.1 (i_fl a b).2.2.1
theorem i_fl_eq {ci k : Nat} {C : String} {T : u_T} {N : Nat} (h : vwCl[ci]? = some (C, T, N)) : i_fl ci k = T k := by unfold i_fl; rw [h]
theorem i_nf_eq {ci : Nat} {C : String} {T : u_T} {N : Nat} (h : vwCl[ci]? = some (C, T, N)) : i_nf ci = N := by unfold i_nf; rw [h]
theorem i_cn_eq {ci : Nat} {C : String} {T : u_T} {N : Nat} (h : vwCl[ci]? = some (C, T, N)) : i_cn ci = C := by unfold i_cn; rw [h]
theorem i_oF_ext {j b : Nat} {v : Value} (h : i_oF j b = some v) (ad ox : Nat → Nat) : i_tr ad ox v = i_tr ox ox v := by
  unfold i_oF at h
  split at h <;> cases h <;> rfl
theorem i_oS_ext {a : Nat} {q : String × String × String × Value} (h : i_oS a = some q) (ad ox : Nat → Nat) : i_tr ad ox q.2.2.2 = i_tr ox ox q.2.2.2 := by
  unfold i_oS at h
  split at h <;> cases h <;> rfl
theorem i_rf_tr (ad ox : Nat → Nat) (o : Option Nat) : i_tr ad ox (i_rf o) = va_rf (o.map ad) := by cases o <;> rfl
theorem i_tys_at (cT : Nat → Nat) {t : Nat} (h : t < 6) : (i_tys cT)[t]? = some (cT t, i_ty t) := by
  match t, h with
  | 0, _ => rfl
  | 1, _ => rfl
  | 2, _ => rfl
  | 3, _ => rfl
  | 4, _ => rfl
  | 5, _ => rfl
  | n + 6, h => exact absurd h (by omega)
section IHP
variable {p : Program} {l : Launch} {e : Env} {R : Room} {s : State} {m : MethodId} {args : Array Value} {below : List Frame} {meth : Method} {c : Code} {H : Heap} {locs : List Loc} {Q : State → Prop}
variable {cc : ByteArray} {D : va_G} {ad ox cT : Nat → Nat} {A : Nat → Prop} {L : Nat} {xs : Nat → Int32} {own : String} {nL pc pc2 a b u u2 w w2 idx : Nat} {lo lo2 : iL} {st st2 : List Value} {h h2 : iH} {ls : Array Slot}
theorem i_Wd.set (hw : i_Wd D ad ox cT A s H locs h) {q : Nat} {e : va_E} {H2 : Heap} {locs2 : List Loc} (h1 : va_P D vwCl ((i_ws ad ox cT h).set q (ad q, i_te ad ox cT e)) H2) (h2 : va_D A ((i_ws ad ox cT h).set q (ad q, i_te ad ox cT e))) (h3 : va_S A s.heap H2 locs2) : i_Wd D ad ox cT A s H2 locs2 (h.set q e) := by
  rw [i_ws_set] at h1 h2
  exact ⟨h1, h2, h3⟩
theorem i_Wd.cls (hw : i_Wd D ad ox cT A s H locs h) {q ci : Nat} {fs : List Value} (he : h[q]? = some (.inr (ci, fs))) : ci < 13 := by
  obtain ⟨r, h1, -⟩ := hw.1 q _ (i_ws_get he)
  have := (List.getElem?_eq_some_iff.mp h1).1
  exact this
/-- a new cell -/
theorem i_Wd.app (hw : i_Wd D ad ox cT A s H locs h) {e : va_E} {q : Nat} {H2 : Heap} {locs2 : List Loc} {lo : iL} {st : List Value} {nL : Nat} {ls : Array Slot} (hfr : i_fr h.length lo st = true) (hfh : h.all (i_frE h.length) = true) (hl : i_LR ad ox lo ls nL) (te : ∀ ad2 : Nat → Nat, i_te ad2 ox cT e = i_te ad ox cT e) (h1 : va_P D vwCl (i_ws ad ox cT h ++ [(q, i_te ad ox cT e)]) H2) (h2 : va_D A (i_ws ad ox cT h ++ [(q, i_te ad ox cT e)])) (h3 : va_S A s.heap H2 locs2) :
    ∃ ad2 : Nat → Nat, (∀ k, ¬ (h.length ≤ k ∧ k < (h ++ [e]).length) → ad2 k = ad k) ∧ i_Wd D ad2 ox cT A s H2 locs2 (h ++ [e]) ∧ i_LR ad2 ox lo ls nL ∧ st.map (i_tr ad2 ox) = st.map (i_tr ad ox) ∧ ad2 h.length = q := by
  have hk : ∀ k, k < h.length → va_up ad h.length q k = ad k := fun k hk => by unfold va_up; rw [if_neg (by omega)]
  have hq : va_up ad h.length q h.length = q := by unfold va_up; rw [if_pos rfl]
  have hws : i_ws (va_up ad h.length q) ox cT (h ++ [e]) = i_ws ad ox cT h ++ [(q, i_te ad ox cT e)] := by
    rw [i_ws_app, i_ws_fr (Nat.le_refl _) hk hfh, hq, te]
  have hfr2 := hfr
  simp only [i_fr, Bool.and_eq_true] at hfr2
  refine ⟨va_up ad h.length q, fun k hk2 => ?_, ⟨by rw [hws]; exact h1, by rw [hws]; exact h2, h3⟩, i_LR_fr hk hfr2.1 hl, i_map_fr hk hfr2.2, hq⟩
  unfold va_up
  rw [if_neg]
  intro z
  apply hk2
  rw [List.length_append, z]
  simp
theorem i_vpin {i : Int32} {n : Nat} (h : ¬ (i < 0 ∨ n ≤ i.toNatClampNeg)) : vp_in i n := h

set_option maxHeartbeats 1000000 in
theorem i_h_get (X : i_CX p c cc s m args own A D cT ox L xs) (hw : i_Wd D ad ox cT A s H locs h) (hs : i_get a b pc lo st h u w = some (pc2, lo2, st2, h2, u2, w2)) (hE : (a = 100 ∧ Jvm.Cond.fieldLink own idx "java/lang/String" (i_fd b).1 (i_fd b).2 ∈ i_GT) ∨ (a < 13 ∧ b < i_nf a ∧ i_lk own idx a b ∈ i_GT)) (hdg : decode cc pc = .ok (.getfield idx, 3)) (hl : i_LR ad ox lo ls nL) (kk : ∀ (ad2 : Nat → Nat) (H2 : Heap) (locs2 : List Loc), (∀ k, ¬ (h.length ≤ k ∧ k < h2.length) → ad2 k = ad k) → i_Wd D ad2 ox cT A s H2 locs2 h2 → i_LR ad2 ox lo2 ls nL → W p l e R s m args below meth c H2 locs2 u2 w2 Q (F0 m pc2 ls (st2.map (i_tr ad2 ox)))) : W p l e R s m args below meth c H locs u w Q (F0 m pc ls (st.map (i_tr ad ox))) := by
  obtain ⟨hexec, hb, hown, hts, hK, hEX, hA⟩ := X
  unfold i_get at hs
  split at hs
  · rename_i q r
    split at hs
    · rename_i ci fs he
      split at hs
      · rename_i hc
        split at hs
        · rename_i v hv
          cases hs
          subst hc
          rcases hE with ⟨h0, -⟩ | ⟨h1, h2, h3⟩
          · have := hw.cls he
            omega
          · obtain ⟨C, T, N, c1, c2, c3, c4, -, -⟩ := i_cf ci h1
            have hlk := hts _ h3
            unfold i_lk at hlk
            rw [i_fl_eq c1] at hlk
            rw [i_nf_eq c1] at h2
            exact va_get (D := D) (ci := ci) (v := i_tr ad ox v) (C := C) (T := T) (N := N) hexec hb hts c2 hown hK hw.1 q (i_ws_get he) c1 b h2 hlk (fun _ h9 => h9) (by rw [List.getElem?_map, hv]; rfl) hdg (kk ad H locs (fun _ _ => rfl) hw hl)
        · cases hs
      · cases hs
    · cases hs
  · rename_i j r
    split at hs
    · rename_i hc
      split at hs
      · rename_i v hv
        cases hs
        rcases hE with ⟨-, h3⟩ | ⟨h1, -, -⟩
        · have k2 := kk ad H locs (fun _ _ => rfl) hw hl
          rw [List.map_cons, i_oF_ext hv] at k2
          exact vk_getf hexec hb (hEX.2.2.1 j b v hv) hw.2.2 hown (hts _ h3) (fun _ h9 => h9) hdg k2
        · omega
      · cases hs
    · cases hs
  · cases hs
set_option maxHeartbeats 1000000 in
theorem i_h_put (X : i_CX p c cc s m args own A D cT ox L xs) (hw : i_Wd D ad ox cT A s H locs h) (hs : i_put a b pc lo st h u w = some (pc2, lo2, st2, h2, u2, w2)) {ini : Bool} (hini : ini = true → meth.name = "<init>") (hE : a < 13 ∧ b < i_nf a ∧ i_lk own idx a b ∈ i_GT ∧ ((i_fl a b).2.2.2 = false ∨ (ini = true ∧ (i_fl a b).1 = own))) (hdg : decode cc pc = .ok (.putfield idx, 3)) (hl : i_LR ad ox lo ls nL) (kk : ∀ (ad2 : Nat → Nat) (H2 : Heap) (locs2 : List Loc), (∀ k, ¬ (h.length ≤ k ∧ k < h2.length) → ad2 k = ad k) → i_Wd D ad2 ox cT A s H2 locs2 h2 → i_LR ad2 ox lo2 ls nL → W p l e R s m args below meth c H2 locs2 u2 w2 Q (F0 m pc2 ls (st2.map (i_tr ad2 ox)))) : W p l e R s m args below meth c H locs u w Q (F0 m pc ls (st.map (i_tr ad ox))) := by
  obtain ⟨hexec, hb, hown, hts, hK, hEX, hA⟩ := X
  unfold i_put at hs
  split at hs
  · rename_i v q r
    split at hs
    · rename_i ci fs he
      obtain ⟨⟨hci, hbl, hfit⟩, hs2⟩ := i_if_s hs
      subst hci
      cases hs2
      obtain ⟨h1, h2, h3, h4⟩ := hE
      obtain ⟨C, T, N, c1, c2, c3, c4, -, -⟩ := i_cf ci h1
      have hlk := hts _ h3
      unfold i_lk at hlk
      rw [i_fl_eq c1] at hlk h4
      rw [i_nf_eq c1] at h2
      obtain ⟨f1, f2⟩ := i_fit_ok hfit ad ox
      have hset : ∀ H1 locs1, va_P D vwCl ((i_ws ad ox cT h).set q (ad q, .inr (ci, (fs.map (i_tr ad ox)).set b (i_tr ad ox v)))) H1 → va_D A ((i_ws ad ox cT h).set q (ad q, .inr (ci, (fs.map (i_tr ad ox)).set b (i_tr ad ox v)))) → va_S A s.heap H1 locs1 → i_Wd D ad ox cT A s H1 locs1 (h.set q (.inr (ci, fs.set b v))) := by
        intro H1 locs1 q1 q2 q3
        rw [← List.map_set] at q1 q2
        exact hw.set (e := .inr (ci, fs.set b v)) q1 q2 q3
      rcases h4 with h4 | ⟨h4, h5⟩
      · exact va_put (D := D) (ci := ci) (v := i_tr ad ox v) (ty := i_cty ci b) (C := C) (T := T) (N := N) hexec hb hts c2 (i_cty ci) c3 c4 hown hK hw.1 hw.2.1 hw.2.2 q (i_ws_get he) c1 b h2 hlk (fun _ h9 => h9) h4 (c3 b h2) f2 f1 (by rw [List.length_map]; exact hbl) hdg (fun H1 locs1 q1 q2 q3 => kk ad H1 locs1 (fun _ _ => rfl) (hset H1 locs1 q1 q2 q3) hl)
      · by_cases hf : (T b).2.2.2 = true
        · exact va_putF (D := D) (ci := ci) (v := i_tr ad ox v) (ty := i_cty ci b) (C := C) (T := T) (N := N) hexec hb hts c2 (i_cty ci) c3 c4 hown hK hw.1 hw.2.1 hw.2.2 q (i_ws_get he) c1 b h2 hlk (fun _ h9 => h9) hf (hini h4) h5 (c3 b h2) f2 f1 (by rw [List.length_map]; exact hbl) hdg (fun H1 locs1 q1 q2 q3 => kk ad H1 locs1 (fun _ _ => rfl) (hset H1 locs1 q1 q2 q3) hl)
        · exact va_put (D := D) (ci := ci) (v := i_tr ad ox v) (ty := i_cty ci b) (C := C) (T := T) (N := N) hexec hb hts c2 (i_cty ci) c3 c4 hown hK hw.1 hw.2.1 hw.2.2 q (i_ws_get he) c1 b h2 hlk (fun _ h9 => h9) (by simpa using hf) (c3 b h2) f2 f1 (by rw [List.length_map]; exact hbl) hdg (fun H1 locs1 q1 q2 q3 => kk ad H1 locs1 (fun _ _ => rfl) (hset H1 locs1 q1 q2 q3) hl)
    · cases hs
  · cases hs
set_option maxHeartbeats 1000000 in
theorem i_h_aget (X : i_CX p c cc s m args own A D cT ox L xs) (hw : i_Wd D ad ox cT A s H locs h) (hs : i_aget L xs pc lo st h u w = some (pc2, lo2, st2, h2, u2, w2)) (hdg : decode cc pc = .ok (.iaload, 1)) (hl : i_LR ad ox lo ls nL) (kk : ∀ (ad2 : Nat → Nat) (H2 : Heap) (locs2 : List Loc), (∀ k, ¬ (h.length ≤ k ∧ k < h2.length) → ad2 k = ad k) → i_Wd D ad2 ox cT A s H2 locs2 h2 → i_LR ad2 ox lo2 ls nL → W p l e R s m args below meth c H2 locs2 u2 w2 Q (F0 m pc2 ls (st2.map (i_tr ad2 ox)))) : W p l e R s m args below meth c H locs u w Q (F0 m pc ls (st.map (i_tr ad ox))) := by
  obtain ⟨hexec, hb, hown, hts, hK, hEX, hA⟩ := X
  unfold i_aget at hs
  split at hs
  · rename_i i q r
    split at hs
    · rename_i t n f he
      obtain ⟨⟨ht0, hin⟩, hs2⟩ := i_if_s hs
      subst ht0
      cases hs2
      exact va_iald (a := ad q) hexec hb hK hw.1 q 0 (i_ws_get he) rfl (i_vpin hin) hdg (kk ad H locs (fun _ _ => rfl) hw hl)
    · cases hs
  · rename_i i j r
    split at hs
    · rename_i n f he
      obtain ⟨hin, hs⟩ := i_if_s hs
      cases hs
      exact va_ti hexec hb (hEX.1 j n f he) hw.2.2 (i_vpin hin) rfl hdg (kk ad H locs (fun _ _ => rfl) hw hl)
    · cases hs
  · cases hs
set_option maxHeartbeats 1000000 in
theorem i_h_lget (X : i_CX p c cc s m args own A D cT ox L xs) (hw : i_Wd D ad ox cT A s H locs h) (hs : i_lget pc lo st h u w = some (pc2, lo2, st2, h2, u2, w2)) (hdg : decode cc pc = .ok (.laload, 1)) (hl : i_LR ad ox lo ls nL) (kk : ∀ (ad2 : Nat → Nat) (H2 : Heap) (locs2 : List Loc), (∀ k, ¬ (h.length ≤ k ∧ k < h2.length) → ad2 k = ad k) → i_Wd D ad2 ox cT A s H2 locs2 h2 → i_LR ad2 ox lo2 ls nL → W p l e R s m args below meth c H2 locs2 u2 w2 Q (F0 m pc2 ls (st2.map (i_tr ad2 ox)))) : W p l e R s m args below meth c H locs u w Q (F0 m pc ls (st.map (i_tr ad ox))) := by
  obtain ⟨hexec, hb, hown, hts, hK, hEX, hA⟩ := X
  unfold i_lget at hs
  split at hs
  · rename_i i q r
    split at hs
    · rename_i t n f he
      obtain ⟨⟨ht0, hin⟩, hs2⟩ := i_if_s hs
      subst ht0
      cases hs2
      exact va_lald (a := ad q) hexec hb hK hw.1 q 1 (i_ws_get he) rfl (i_vpin hin) hdg (kk ad H locs (fun _ _ => rfl) hw hl)
    · cases hs
  · cases hs
set_option maxHeartbeats 1000000 in
theorem i_h_bget (X : i_CX p c cc s m args own A D cT ox L xs) (hw : i_Wd D ad ox cT A s H locs h) (hs : i_bget pc lo st h u w = some (pc2, lo2, st2, h2, u2, w2)) (hdg : decode cc pc = .ok (.baload, 1)) (hl : i_LR ad ox lo ls nL) (kk : ∀ (ad2 : Nat → Nat) (H2 : Heap) (locs2 : List Loc), (∀ k, ¬ (h.length ≤ k ∧ k < h2.length) → ad2 k = ad k) → i_Wd D ad2 ox cT A s H2 locs2 h2 → i_LR ad2 ox lo2 ls nL → W p l e R s m args below meth c H2 locs2 u2 w2 Q (F0 m pc2 ls (st2.map (i_tr ad2 ox)))) : W p l e R s m args below meth c H locs u w Q (F0 m pc ls (st.map (i_tr ad ox))) := by
  obtain ⟨hexec, hb, hown, hts, hK, hEX, hA⟩ := X
  unfold i_bget at hs
  split at hs
  · rename_i i q r
    split at hs
    · rename_i t n f he
      obtain ⟨⟨ht, hin⟩, hs⟩ := i_if_s hs
      cases hs
      rcases ht with rfl | rfl
      · exact va_zald (a := ad q) hexec hb hK hw.1 q 2 (i_ws_get he) rfl (i_vpin hin) hdg (kk ad H locs (fun _ _ => rfl) hw hl)
      · exact va_bald (a := ad q) hexec hb hK hw.1 q 3 (i_ws_get he) rfl (i_vpin hin) hdg (kk ad H locs (fun _ _ => rfl) hw hl)
    · cases hs
  · rename_i i j r
    split at hs
    · rename_i bs he
      obtain ⟨hin, hs⟩ := i_if_s hs
      cases hs
      exact va_tb hexec hb (hEX.2.1 j bs he) hw.2.2 (i_vpin hin) rfl hdg (kk ad H locs (fun _ _ => rfl) hw hl)
    · cases hs
  · cases hs
set_option maxHeartbeats 1000000 in
theorem i_h_rget (X : i_CX p c cc s m args own A D cT ox L xs) (hw : i_Wd D ad ox cT A s H locs h) (hs : i_rget pc lo st h u w = some (pc2, lo2, st2, h2, u2, w2)) (hdg : decode cc pc = .ok (.aaload, 1)) (hl : i_LR ad ox lo ls nL) (kk : ∀ (ad2 : Nat → Nat) (H2 : Heap) (locs2 : List Loc), (∀ k, ¬ (h.length ≤ k ∧ k < h2.length) → ad2 k = ad k) → i_Wd D ad2 ox cT A s H2 locs2 h2 → i_LR ad2 ox lo2 ls nL → W p l e R s m args below meth c H2 locs2 u2 w2 Q (F0 m pc2 ls (st2.map (i_tr ad2 ox)))) : W p l e R s m args below meth c H locs u w Q (F0 m pc ls (st.map (i_tr ad ox))) := by
  obtain ⟨hexec, hb, hown, hts, hK, hEX, hA⟩ := X
  unfold i_rget at hs
  split at hs
  · rename_i i q r
    split at hs
    · rename_i t n f he
      obtain ⟨⟨ht, hin⟩, hs⟩ := i_if_s hs
      cases hs
      have hlt : i.toNatClampNeg < n := Nat.not_le.mp fun q => hin (Or.inr q)
      have k2 := kk ad H locs (fun _ _ => rfl) hw hl
      rw [List.map_cons, i_rf_tr] at k2
      have hcell : (i_ws ad ox cT h)[q]? = some (ad q, .inl (cT t, n, .inr (.inr (.inr (.inr (fun j => if j < n then (f j).map ad else none)))))) := i_ws_get he
      have hv : (if i.toNatClampNeg < n then (f i.toNatClampNeg).map ad else none) = (f i.toNatClampNeg).map ad := if_pos hlt
      rw [← hv] at k2
      rcases ht with rfl | rfl
      · exact W.aald (v := va_rf (if i.toNatClampNeg < n then (f i.toNatClampNeg).map ad else none)) (ty := .array .long) hexec hb (hw.1 q _ hcell) ((hK.2 4 _ rfl).1 n (fun j => va_rf (if j < n then (f j).map ad else none))) rfl (fun q => by cases q) (by show ¬ (i < 0 ∨ (arrV _ _ _).slots.size ≤ _); rw [arrV_size]; exact hin) (by show (arrV _ _ _).slots[_]? = _; rw [arrV_read _ _ hlt]) rfl rfl hdg k2
      · exact W.aald (v := va_rf (if i.toNatClampNeg < n then (f i.toNatClampNeg).map ad else none)) (ty := .object "StillTown$Town") hexec hb (hw.1 q _ hcell) ((hK.2 5 _ rfl).1 n (fun j => va_rf (if j < n then (f j).map ad else none))) rfl (fun q => by cases q) (by show ¬ (i < 0 ∨ (arrV _ _ _).slots.size ≤ _); rw [arrV_size]; exact hin) (by show (arrV _ _ _).slots[_]? = _; rw [arrV_read _ _ hlt]) rfl rfl hdg k2
    · cases hs
  · cases hs
set_option maxHeartbeats 1000000 in
theorem i_h_aput (X : i_CX p c cc s m args own A D cT ox L xs) (hw : i_Wd D ad ox cT A s H locs h) (hs : i_aput pc lo st h u w = some (pc2, lo2, st2, h2, u2, w2)) (hdg : decode cc pc = .ok (.iastore, 1)) (hl : i_LR ad ox lo ls nL) (kk : ∀ (ad2 : Nat → Nat) (H2 : Heap) (locs2 : List Loc), (∀ k, ¬ (h.length ≤ k ∧ k < h2.length) → ad2 k = ad k) → i_Wd D ad2 ox cT A s H2 locs2 h2 → i_LR ad2 ox lo2 ls nL → W p l e R s m args below meth c H2 locs2 u2 w2 Q (F0 m pc2 ls (st2.map (i_tr ad2 ox)))) : W p l e R s m args below meth c H locs u w Q (F0 m pc ls (st.map (i_tr ad ox))) := by
  obtain ⟨hexec, hb, hown, hts, hK, hEX, hA⟩ := X
  unfold i_aput at hs
  split at hs
  · rename_i x i q r
    split at hs
    · rename_i t n f he
      obtain ⟨⟨ht0, hin⟩, hs2⟩ := i_if_s hs
      subst ht0
      cases hs2
      exact va_iast (a := ad q) hexec hb hK hw.1 hw.2.1 hw.2.2 q 0 (i_ws_get he) rfl (i_vpin hin) hdg (fun H1 locs1 q1 q2 q3 => kk ad H1 locs1 (fun _ _ => rfl) (hw.set (e := .inl (0, n, .inl (upd f i.toNatClampNeg x))) q1 q2 q3) hl)
    · cases hs
  · cases hs
set_option maxHeartbeats 1000000 in
theorem i_h_lput (X : i_CX p c cc s m args own A D cT ox L xs) (hw : i_Wd D ad ox cT A s H locs h) (hs : i_lput pc lo st h u w = some (pc2, lo2, st2, h2, u2, w2)) (hdg : decode cc pc = .ok (.lastore, 1)) (hl : i_LR ad ox lo ls nL) (kk : ∀ (ad2 : Nat → Nat) (H2 : Heap) (locs2 : List Loc), (∀ k, ¬ (h.length ≤ k ∧ k < h2.length) → ad2 k = ad k) → i_Wd D ad2 ox cT A s H2 locs2 h2 → i_LR ad2 ox lo2 ls nL → W p l e R s m args below meth c H2 locs2 u2 w2 Q (F0 m pc2 ls (st2.map (i_tr ad2 ox)))) : W p l e R s m args below meth c H locs u w Q (F0 m pc ls (st.map (i_tr ad ox))) := by
  obtain ⟨hexec, hb, hown, hts, hK, hEX, hA⟩ := X
  unfold i_lput at hs
  split at hs
  · rename_i x i q r
    split at hs
    · rename_i t n f he
      obtain ⟨⟨ht0, hin⟩, hs2⟩ := i_if_s hs
      subst ht0
      cases hs2
      exact va_last (a := ad q) hexec hb hK hw.1 hw.2.1 hw.2.2 q 1 (i_ws_get he) rfl (i_vpin hin) hdg (fun H1 locs1 q1 q2 q3 => kk ad H1 locs1 (fun _ _ => rfl) (hw.set (e := .inl (1, n, .inr (.inl (vp_updL f i.toNatClampNeg x)))) q1 q2 q3) hl)
    · cases hs
  · cases hs
set_option maxHeartbeats 1000000 in
theorem i_h_bput (X : i_CX p c cc s m args own A D cT ox L xs) (hw : i_Wd D ad ox cT A s H locs h) (hs : i_bput pc lo st h u w = some (pc2, lo2, st2, h2, u2, w2)) (hdg : decode cc pc = .ok (.bastore, 1)) (hl : i_LR ad ox lo ls nL) (kk : ∀ (ad2 : Nat → Nat) (H2 : Heap) (locs2 : List Loc), (∀ k, ¬ (h.length ≤ k ∧ k < h2.length) → ad2 k = ad k) → i_Wd D ad2 ox cT A s H2 locs2 h2 → i_LR ad2 ox lo2 ls nL → W p l e R s m args below meth c H2 locs2 u2 w2 Q (F0 m pc2 ls (st2.map (i_tr ad2 ox)))) : W p l e R s m args below meth c H locs u w Q (F0 m pc ls (st.map (i_tr ad ox))) := by
  obtain ⟨hexec, hb, hown, hts, hK, hEX, hA⟩ := X
  unfold i_bput at hs
  split at hs
  · rename_i x i q r
    split at hs
    · rename_i t n f he
      obtain ⟨⟨ht, hin⟩, hs⟩ := i_if_s hs
      cases hs
      rcases ht with rfl | rfl
      · exact va_zast (a := ad q) hexec hb hK hw.1 hw.2.1 hw.2.2 q 2 (i_ws_get he) rfl (i_vpin hin) hdg (fun H1 locs1 q1 q2 q3 => kk ad H1 locs1 (fun _ _ => rfl) (hw.set (e := .inl (2, n, .inl (upd f i.toNatClampNeg (vp_nar .boolean x)))) q1 q2 q3) hl)
      · exact va_bast (a := ad q) hexec hb hK hw.1 hw.2.1 hw.2.2 q 3 (i_ws_get he) rfl (i_vpin hin) hdg (fun H1 locs1 q1 q2 q3 => kk ad H1 locs1 (fun _ _ => rfl) (hw.set (e := .inl (3, n, .inl (upd f i.toNatClampNeg (vp_nar .byte x)))) q1 q2 q3) hl)
    · cases hs
  · cases hs
set_option maxHeartbeats 1000000 in
theorem i_h_rput (X : i_CX p c cc s m args own A D cT ox L xs) (hw : i_Wd D ad ox cT A s H locs h) (hs : i_rput pc lo st h u w = some (pc2, lo2, st2, h2, u2, w2)) (hdg : decode cc pc = .ok (.aastore, 1)) (hl : i_LR ad ox lo ls nL) (kk : ∀ (ad2 : Nat → Nat) (H2 : Heap) (locs2 : List Loc), (∀ k, ¬ (h.length ≤ k ∧ k < h2.length) → ad2 k = ad k) → i_Wd D ad2 ox cT A s H2 locs2 h2 → i_LR ad2 ox lo2 ls nL → W p l e R s m args below meth c H2 locs2 u2 w2 Q (F0 m pc2 ls (st2.map (i_tr ad2 ox)))) : W p l e R s m args below meth c H locs u w Q (F0 m pc ls (st.map (i_tr ad ox))) := by
  obtain ⟨hexec, hb, hown, hts, hK, hEX, hA⟩ := X
  unfold i_rput at hs
  split at hs
  · rename_i v i q r
    split at hs
    · rename_i t n f ci fs he hv
      obtain ⟨⟨ht0, hc0, hin⟩, hs2⟩ := i_if_s hs
      subst ht0
      subst hc0
      cases hs2
      have hlt : i.toNatClampNeg < n := Nat.not_le.mp fun q => hin (Or.inr q)
      have hup : va_up (fun j => if j < n then (f j).map ad else none) i.toNatClampNeg (some (ad v)) = (fun j => if j < n then (va_up f i.toNatClampNeg (some v) j).map ad else none) := by
        funext j
        unfold va_up
        by_cases e1 : j = i.toNatClampNeg
        · rw [if_pos e1, if_pos e1, if_pos (by omega)]
          rfl
        · rw [if_neg e1, if_neg e1]
      exact va_astq (a := ad q) hexec hb hK hw.1 hw.2.1 hw.2.2 q 5 v 8 (r := (RX8, TX8, 14)) (i_ws_get he) rfl (i_ws_get hv) rfl (i_vpin hin) hdg (fun H1 locs1 q1 q2 q3 => kk ad H1 locs1 (fun _ _ => rfl) (hw.set (e := .inl (5, n, .inr (.inr (.inr (.inr (va_up f i.toNatClampNeg (some v))))))) (by rw [hup] at q1; exact q1) (by rw [hup] at q2; exact q2) q3) hl)
    · cases hs
  · cases hs
set_option maxHeartbeats 1000000 in
theorem i_h_alen (X : i_CX p c cc s m args own A D cT ox L xs) (hw : i_Wd D ad ox cT A s H locs h) (hs : i_alen L xs pc lo st h u w = some (pc2, lo2, st2, h2, u2, w2)) (hdg : decode cc pc = .ok (.arraylength, 1)) (hl : i_LR ad ox lo ls nL) (kk : ∀ (ad2 : Nat → Nat) (H2 : Heap) (locs2 : List Loc), (∀ k, ¬ (h.length ≤ k ∧ k < h2.length) → ad2 k = ad k) → i_Wd D ad2 ox cT A s H2 locs2 h2 → i_LR ad2 ox lo2 ls nL → W p l e R s m args below meth c H2 locs2 u2 w2 Q (F0 m pc2 ls (st2.map (i_tr ad2 ox)))) : W p l e R s m args below meth c H locs u w Q (F0 m pc ls (st.map (i_tr ad ox))) := by
  obtain ⟨hexec, hb, hown, hts, hK, hEX, hA⟩ := X
  unfold i_alen at hs
  split at hs
  · rename_i q r
    split at hs
    · rename_i t x he
      obtain ⟨ht, hs⟩ := i_if_s hs
      cases hs
      have hlen : (i_ta ad x).1 = x.1 := by
        obtain ⟨n, f⟩ := x
        rcases f with f | f | f | f | f <;> rfl
      exact va_alen (a := ad q) hexec hb hK hw.1 q t (i_ws_get he) (i_tys_at cT ht) (by rw [hlen]) hdg (kk ad H locs (fun _ _ => rfl) hw hl)
    · cases hs
  · rename_i j r
    split at hs
    · rename_i n f he
      cases hs
      exact va_tlen hexec hb (hEX.1 j n f he) hw.2.2 rfl hdg (kk ad H locs (fun _ _ => rfl) hw hl)
    · split at hs
      · rename_i bs he
        cases hs
        exact va_tlen hexec hb (hEX.2.1 j bs he) hw.2.2 rfl hdg (kk ad H locs (fun _ _ => rfl) hw hl)
      · cases hs
  · cases hs
set_option maxHeartbeats 1000000 in
theorem i_h_newo (X : i_CX p c cc s m args own A D cT ox L xs) (hw : i_Wd D ad ox cT A s H locs h) (hs : i_newo R.cells R.slots a pc lo st h u w = some (pc2, lo2, st2, h2, u2, w2)) (hE : a < 13 ∧ Jvm.Cond.classLink own idx (i_cn a) ∈ i_GT) (hdg : decode cc pc = .ok (.new idx, 3)) (hl : i_LR ad ox lo ls nL) (kk : ∀ (ad2 : Nat → Nat) (H2 : Heap) (locs2 : List Loc), (∀ k, ¬ (h.length ≤ k ∧ k < h2.length) → ad2 k = ad k) → i_Wd D ad2 ox cT A s H2 locs2 h2 → i_LR ad2 ox lo2 ls nL → W p l e R s m args below meth c H2 locs2 u2 w2 Q (F0 m pc2 ls (st2.map (i_tr ad2 ox)))) : W p l e R s m args below meth c H locs u w Q (F0 m pc ls (st.map (i_tr ad ox))) := by
  obtain ⟨hexec, hb, hown, hts, hK, hEX, hA⟩ := X
  unfold i_newo at hs
  obtain ⟨⟨hc1, hc2, hf1, hf2⟩, hs⟩ := i_if_s hs
  cases hs
  obtain ⟨C, T, N, c1, c2, c3, c4, c5, c6⟩ := i_cf a hE.1
  have hn := i_nf_eq c1
  have hcl := hts _ hE.2
  rw [i_cn_eq c1] at hcl
  rw [hn] at hc2
  have hmap : (i_dfl a).map (i_tr ad ox) = i_dfl a := by
    unfold i_dfl
    rw [List.map_map]
    refine List.map_congr_left (fun k _ => ?_)
    show i_tr ad ox (defaultValue (i_cty a k)) = _
    cases i_cty a k <;> rfl
  have hte : ∀ ad2 : Nat → Nat, i_te ad2 ox cT (.inr (a, i_dfl a)) = i_te ad ox cT (.inr (a, i_dfl a)) := by
    intro ad2
    simp only [i_te]
    have hmap2 : (i_dfl a).map (i_tr ad2 ox) = i_dfl a := by
      unfold i_dfl
      rw [List.map_map]
      refine List.map_congr_left (fun k _ => ?_)
      show i_tr ad2 ox (defaultValue (i_cty a k)) = _
      cases i_cty a k <;> rfl
    rw [hmap, hmap2]
  refine va_new (ci := a) (fs := (i_dfl a).map (i_tr ad ox)) (C := C) (T := T) (N := N) hexec hb hts c2 (i_cty a) c3 hown hcl (hts _ c5) (hts _ c6) hK hw.1 hw.2.1 hw.2.2 hA c1 (fun j hj => ?_) hc1 hc2 hdg (fun q H1 q1 q2 q3 => ?_)
  · rw [hmap]
    unfold i_dfl vp_V
    rw [hn]
    simp [List.getD, hj]
  · obtain ⟨ad2, b1, b2, b3, b4, b5⟩ := hw.app (e := .inr (a, i_dfl a)) hf1 hf2 hl hte q1 q2 q3
    have k2 := kk ad2 H1 locs b1 b2 b3
    rw [List.map_cons, b4] at k2
    simp only [i_tr, b5, hn] at k2
    exact k2
set_option maxHeartbeats 1000000 in
theorem i_h_newa (X : i_CX p c cc s m args own A D cT ox L xs) (hw : i_Wd D ad ox cT A s H locs h) {at_ : ArrayType} (hs : i_newa R.cells R.slots a pc lo st h u w = some (pc2, lo2, st2, h2, u2, w2)) (hE : a < 4 ∧ newarray.typeOf at_ = i_ty a ∧ Jvm.Cond.arrayClass (i_ty a) ∈ i_GT) (hdg : decode cc pc = .ok (.newarray at_, 2)) (hl : i_LR ad ox lo ls nL) (kk : ∀ (ad2 : Nat → Nat) (H2 : Heap) (locs2 : List Loc), (∀ k, ¬ (h.length ≤ k ∧ k < h2.length) → ad2 k = ad k) → i_Wd D ad2 ox cT A s H2 locs2 h2 → i_LR ad2 ox lo2 ls nL → W p l e R s m args below meth c H2 locs2 u2 w2 Q (F0 m pc2 ls (st2.map (i_tr ad2 ox)))) : W p l e R s m args below meth c H locs u w Q (F0 m pc ls (st.map (i_tr ad ox))) := by
  obtain ⟨hexec, hb, hown, hts, hK, hEX, hA⟩ := X
  unfold i_newa at hs
  split at hs
  · rename_i n r
    obtain ⟨⟨hn, hbig, hc1, hc2, hf1, hf2⟩, hs⟩ := i_if_s hs
    cases hs
    obtain ⟨h1, h2, h3⟩ := hE
    have hte : ∀ ad2 : Nat → Nat, i_te ad2 ox cT (.inl (a, i_zero a n.toNatClampNeg)) = i_te ad ox cT (.inl (a, i_zero a n.toNatClampNeg)) := by
      intro ad2
      unfold i_zero
      split <;> rfl
    have hta : ∀ ad2 : Nat → Nat, i_ta ad2 (i_zero a n.toNatClampNeg) = i_zero a n.toNatClampNeg := by
      intro ad2
      unfold i_zero
      split <;> rfl
    have hz : ∀ cA : ClassId, vp_cell cA (i_zero a n.toNatClampNeg) = arrV cA n.toNatClampNeg (fun _ => defaultValue (i_ty a)) := by
      intro cA
      match a, h1 with
      | 0, _ => rfl
      | 1, _ => rfl
      | 2, _ => rfl
      | 3, _ => rfl
    have hbb : n.toNatClampNeg * componentBytes (i_ty a) ≤ 536870912 := by
      refine Nat.le_trans (Nat.mul_le_mul_left _ ?_) hbig
      match a, h1 with
      | 0, _ => decide
      | 1, _ => decide
      | 2, _ => decide
      | 3, _ => decide
    refine va_newa (ty := i_ty a) (N' := n.toNatClampNeg) (a0 := i_zero a n.toNatClampNeg) hexec hb (by rw [h2]; exact hts _ h3) h2 hK hw.1 hw.2.1 hw.2.2 hA hz hn rfl hbb hc1 hc2 hdg (fun q cA H1 qK q1 q2 q3 => ?_)
    have hcA : cA = cT a := by
      have e1 := (qK.2 6 (cA, i_ty a) rfl).2
      have e2 := (hK.2 a (cT a, i_ty a) (i_tys_at cT (by omega))).2
      match a, h1 with
      | 0, _ => exact Option.some.inj (e1.symm.trans e2)
      | 1, _ => exact Option.some.inj (e1.symm.trans e2)
      | 2, _ => exact Option.some.inj (e1.symm.trans e2)
      | 3, _ => exact Option.some.inj (e1.symm.trans e2)
    subst hcA
    have he : (.inl (cT a, i_zero a n.toNatClampNeg) : va_E) = i_te ad ox cT (.inl (a, i_zero a n.toNatClampNeg)) := by
      simp only [i_te, hta]
    rw [he] at q1 q2
    obtain ⟨ad2, b1, b2, b3, b4, b5⟩ := hw.app (e := .inl (a, i_zero a n.toNatClampNeg)) hf1 hf2 hl hte q1 q2 q3
    have k2 := kk ad2 H1 locs b1 b2 b3
    rw [List.map_cons, b4] at k2
    simp only [i_tr, b5] at k2
    exact k2
  · cases hs
set_option maxHeartbeats 1000000 in
theorem i_h_newr (X : i_CX p c cc s m args own A D cT ox L xs) (hw : i_Wd D ad ox cT A s H locs h) (hs : i_newr R.cells R.slots pc lo st h u w = some (pc2, lo2, st2, h2, u2, w2)) (hE : Jvm.Cond.classLink own idx "StillTown$Town" ∈ i_GT) (hdg : decode cc pc = .ok (.anewarray idx, 3)) (hl : i_LR ad ox lo ls nL) (kk : ∀ (ad2 : Nat → Nat) (H2 : Heap) (locs2 : List Loc), (∀ k, ¬ (h.length ≤ k ∧ k < h2.length) → ad2 k = ad k) → i_Wd D ad2 ox cT A s H2 locs2 h2 → i_LR ad2 ox lo2 ls nL → W p l e R s m args below meth c H2 locs2 u2 w2 Q (F0 m pc2 ls (st2.map (i_tr ad2 ox)))) : W p l e R s m args below meth c H locs u w Q (F0 m pc ls (st.map (i_tr ad ox))) := by
  obtain ⟨hexec, hb, hown, hts, hK, hEX, hA⟩ := X
  unfold i_newr at hs
  split at hs
  · rename_i n r
    obtain ⟨⟨hn, hbig, hc1, hc2, hf1, hf2⟩, hs⟩ := i_if_s hs
    cases hs
    have hta : ∀ ad2 : Nat → Nat, i_te ad2 ox cT (.inl (5, n.toNatClampNeg, .inr (.inr (.inr (.inr (fun _ => none)))))) = .inl (cT 5, n.toNatClampNeg, .inr (.inr (.inr (.inr (fun _ => none))))) := by
      intro ad2
      simp only [i_te, i_ta, Option.map_none, ite_self]
    refine va_newq (N' := n.toNatClampNeg) hexec hb hown (hts _ hE) hEX.2.2.2.2.2.2.1 hK hw.1 hw.2.1 hw.2.2 hA hn rfl (by omega) hc1 hc2 hdg (fun q cA H1 qK q1 q2 q3 => ?_)
    have hcA : cA = cT 5 := by
      obtain ⟨-, -, -, -, -, e1⟩ := (qK.2 6 (cA, .object "StillTown$Town") rfl).2
      obtain ⟨-, -, -, -, -, e2⟩ := (hK.2 5 (cT 5, i_ty 5) rfl).2
      exact Option.some.inj (e1.symm.trans e2)
    subst hcA
    rw [← hta ad] at q1 q2
    obtain ⟨ad2, b1, b2, b3, b4, b5⟩ := hw.app (e := .inl (5, n.toNatClampNeg, .inr (.inr (.inr (.inr (fun _ => none)))))) hf1 hf2 hl (fun ad2 => (hta ad2).trans (hta ad).symm) q1 q2 q3
    have k2 := kk ad2 H1 locs b1 b2 b3
    rw [List.map_cons, b4] at k2
    simp only [i_tr, b5] at k2
    exact k2
  · cases hs
set_option maxHeartbeats 1000000 in
theorem i_h_stat (X : i_CX p c cc s m args own A D cT ox L xs) (hw : i_Wd D ad ox cT A s H locs h) (hs : i_stat a pc lo st h u w = some (pc2, lo2, st2, h2, u2, w2)) (hE : ∃ q, i_oS a = some q ∧ (Jvm.Cond.fieldLink own idx q.1 q.2.1 q.2.2.1 ∈ i_GT ∨ Jvm.Cond.fieldLinkNest own idx q.1 q.2.1 q.2.2.1 "StillTown" ∈ i_NW)) (hdg : decode cc pc = .ok (.getstatic idx, 3)) (hl : i_LR ad ox lo ls nL) (kk : ∀ (ad2 : Nat → Nat) (H2 : Heap) (locs2 : List Loc), (∀ k, ¬ (h.length ≤ k ∧ k < h2.length) → ad2 k = ad k) → i_Wd D ad2 ox cT A s H2 locs2 h2 → i_LR ad2 ox lo2 ls nL → W p l e R s m args below meth c H2 locs2 u2 w2 Q (F0 m pc2 ls (st2.map (i_tr ad2 ox)))) : W p l e R s m args below meth c H locs u w Q (F0 m pc ls (st.map (i_tr ad ox))) := by
  obtain ⟨hexec, hb, hown, hts, hK, hEX, hA⟩ := X
  unfold i_stat at hs
  split at hs
  · rename_i q hq
    cases hs
    obtain ⟨q', e1, e2⟩ := hE
    cases hq.symm.trans e1
    obtain ⟨C, n, d, v⟩ := q
    have hZ := hEX.2.2.2.1 a C n d v hq
    have k2 := kk ad H locs (fun _ _ => rfl) hw hl
    rw [List.map_cons, i_oS_ext hq] at k2
    rcases e2 with e2 | e2
    · exact va_gets hexec hb hZ hw.2.2 hown (hts _ e2) (fun _ h9 => h9) hdg k2
    · exact va_getsN hexec hb hZ hw.2.2 hown (va_Nw.use rfl (hEX.2.2.2.2.2.1 _ e2)) (fun _ h9 => h9) hdg k2
  · cases hs
set_option maxHeartbeats 1000000 in
theorem i_h_obj (X : i_CX p c cc s m args own A D cT ox L xs) (hw : i_Wd D ad ox cT A s H locs h) (hs : i_obj R.frames R.locals pc lo st h u w = some (pc2, lo2, st2, h2, u2, w2)) (hml : c.maxLocals = nL) (hE : Jvm.Cond.methodLink own idx objectInit ∈ i_GT ∧ Jvm.Cond.instanceMethod objectInit ∈ i_GT ∧ Jvm.Cond.code objectInit ⟨#[0xb1]⟩ 1 none ∈ i_GT) (hdg : decode cc pc = .ok (.invokespecial idx, 3)) (hl : i_LR ad ox lo ls nL) (kk : ∀ (ad2 : Nat → Nat) (H2 : Heap) (locs2 : List Loc), (∀ k, ¬ (h.length ≤ k ∧ k < h2.length) → ad2 k = ad k) → i_Wd D ad2 ox cT A s H2 locs2 h2 → i_LR ad2 ox lo2 ls nL → W p l e R s m args below meth c H2 locs2 u2 w2 Q (F0 m pc2 ls (st2.map (i_tr ad2 ox)))) : W p l e R s m args below meth c H locs u w Q (F0 m pc ls (st.map (i_tr ad ox))) := by
  obtain ⟨hexec, hb, hown, hts, hK, hEX, hA⟩ := X
  unfold i_obj at hs
  split at hs
  · rename_i q r
    obtain ⟨⟨h1, h2⟩, hs⟩ := i_if_s hs
    cases hs
    have hsum : ((st2.map (i_tr ad ox)).map fun v => v.category).sum = (st2.map fun v => v.category).sum := by
      rw [List.map_map]
      congr 1
      exact List.map_congr_left (fun v _ => i_tr_cat ad ox v)
    refine W.objInit hexec hb hown (hts _ hE.1) (hts _ hE.2.1) (hts _ hE.2.2) rfl (by rw [hml]; exact hl.2.1) rfl hdg h1 (by rw [hsum]; show 2 * 0 + _ + 12 ≤ _; omega) ?_
    exact W.eq rfl (kk ad H locs (fun _ _ => rfl) hw hl)
  · cases hs
end IHP
