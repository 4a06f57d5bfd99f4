def pw_ad (b B : Nat) (k : Nat) : Nat := match k with
  | 0 => b
  | k + 1 => B + k
def pw_v (ad : Nat → Nat) (v : pw_V) : Value := match v with
  | .inl x => .int x
  | .inr none => .null
  | .inr (some k) => .ref (ad k)
theorem pw_v_rf (ad : Nat → Nat) (r : Option Nat) : pw_v ad (.inr r) = va_rf (r.map ad) := by cases r <;> rfl
theorem pw_cat (ad : Nat → Nat) (v : pw_V) : (pw_v ad v).category = 1 := by
  obtain x | x := v
  · rfl
  · cases x <;> rfl
theorem pw_cats (ad : Nat → Nat) (st : List pw_V) : ((st.map (pw_v ad)).map fun v => v.category).sum = st.length := by
  induction st with
  | nil => rfl
  | cons a l ih => simp only [List.map_cons, List.sum_cons, List.length_cons, pw_cat, ih]; omega
def pw_e (ad : Nat → Nat) (ca : Nat → ClassId) (c : pw_C) : va_E := match c with
  | .inl (t, n, f) => .inl (ca t, n, .inl f)
  | .inr (.inl (t, n, g)) => .inl (ca (t + 2), n, .inr (.inr (.inr (.inr (fun j => (g j).map ad)))))
  | .inr (.inr (k, fs)) => .inr (k, fs.map (pw_v ad))
abbrev pw_tys (ca : Nat → ClassId) : List (ClassId × FieldType) := [(ca 0, .int), (ca 1, .boolean), (ca 2, .object "BoundWalks$House"), (ca 4, .object "BoundWalks$Walk")]
def pw_tbl : List Cond := lw_tbl.filter goodWord
def pw_isN (w : Cond) : Bool := match w with
  | .fieldLinkNest .. => true
  | .methodLinkNest .. => true
  | _ => false
def pw_wf (c : pw_C) : Prop := match c with
  | .inl (t, _, _) => t = 0 ∨ t = 1
  | .inr (.inl (t, _, _)) => t = 0 ∨ t = 2
  | .inr (.inr _) => True
def pw_rep (D : va_G) (ca : Nat → ClassId) (b B N : Nat) (xs : Nat → Int32) (h : pw_H) (H : Heap) : Prop :=
  h[0]? = some (.inl (2, N, xs)) ∧ H.size + 1 = B + h.length ∧ ∀ (k : Nat) (c : pw_C), h[k + 1]? = some c → pw_wf c ∧ va_at D pw_cl (B + k, pw_e (pw_ad b B) ca c) H
def pw_nw (U : State) : Prop := (∀ w ∈ lw_tbl, pw_isN w = true → va_Nw w U) ∧ va_AO "BoundWalks$House" U ∧ va_AO "BoundWalks$Walk" U
theorem pw_nw.warm {s U : State} (hW : s.WarmedH U.vm) (h : pw_nw s) : pw_nw U := by
  refine ⟨fun w hw hn => ?_, h.2.1.moved hW.alike, h.2.2.moved hW.alike⟩
  have h1 := h.1 w hw hn
  cases w <;> first | exact va_Nw.warmF hW h1 | exact va_Nw.warmM hW h1 | (exact absurd hn (by simp [pw_isN]))
theorem pw_nw.same {u U : State} (hv : u.vm = U.vm) (h : pw_nw u) : pw_nw U := by
  have ha : u.vm.Alike U.vm := by rw [hv]; exact Vm.Alike.refl _
  refine ⟨fun w hw hn => ?_, h.2.1.moved ha, h.2.2.moved ha⟩
  have h1 := h.1 w hw hn
  cases w <;> first | exact va_Nw.same rfl hv h1 | (exact absurd hn (by simp [pw_isN]))
theorem pw_size_set {h : pw_H} {k : Nat} {c c' : pw_C} (hk : h[k]? = some c) (hz : pw_sz c' = pw_sz c) : pw_size (h.set k c') = pw_size h := by
  induction h generalizing k with
  | nil => simp at hk
  | cons a l ih =>
    cases k with
    | zero =>
      simp at hk
      subst hk
      simp [pw_size, hz]
    | succ k =>
      have := ih (k := k) (by simpa using hk)
      simp only [pw_size, List.set_cons_succ, List.map_cons, List.sum_cons] at this ⊢
      omega
theorem pw_size_push (h : pw_H) (c : pw_C) : pw_size (h ++ [c]) = pw_size h + pw_sz c := by simp [pw_size]
section PWREP
variable {D : va_G} {ca : Nat → ClassId} {b B N : Nat} {xs : Nat → Int32} {h : pw_H} {H H1 : Heap}
theorem pw_rep.pos (hR : pw_rep D ca b B N xs h H) : 0 < h.length := (List.getElem?_eq_some_iff.mp hR.1).1
theorem pw_rep.set (hR : pw_rep D ca b B N xs h H) {k : Nat} {c c' : pw_C} (hk : h[k + 1]? = some c) (hw : pw_wf c') (he : va_at D pw_cl (B + k, pw_e (pw_ad b B) ca c') H1) (hz : H1.size = H.size) (oq : ∀ q : Nat, q ≠ B + k → H1[q]? = H[q]?) : pw_rep D ca b B N xs (h.set (k + 1) c') H1 := by
  obtain ⟨h0, h1, h2⟩ := hR
  have hl := (List.getElem?_eq_some_iff.mp hk).1
  refine ⟨by rw [List.getElem?_set_ne (by omega)]; exact h0, by rw [hz, List.length_set]; exact h1, fun j d hj => ?_⟩
  by_cases hjk : j = k
  · subst hjk
    rw [List.getElem?_set_self hl] at hj
    cases hj
    exact ⟨hw, he⟩
  · rw [List.getElem?_set_ne (by omega)] at hj
    obtain ⟨a1, a2⟩ := h2 j d hj
    exact ⟨a1, a2.kept (oq (B + j) (by omega))⟩
theorem pw_rep.push (hR : pw_rep D ca b B N xs h H) {c : pw_C} (hw : pw_wf c) (he : va_at D pw_cl (H.size, pw_e (pw_ad b B) ca c) H1) (hz : H1.size = H.size + 1) (oq : ∀ q : Nat, q < H.size → H1[q]? = H[q]?) : pw_rep D ca b B N xs (h ++ [c]) H1 := by
  have hp := hR.pos
  obtain ⟨h0, h1, h2⟩ := hR
  refine ⟨by rw [List.getElem?_append_left hp]; exact h0, by rw [hz, List.length_append, List.length_singleton]; omega, fun j d hj => ?_⟩
  by_cases hjl : j + 1 < h.length
  · rw [List.getElem?_append_left hjl] at hj
    obtain ⟨a1, a2⟩ := h2 j d hj
    exact ⟨a1, a2.kept (oq (B + j) a2.lt)⟩
  · rw [List.getElem?_append_right (by omega)] at hj
    have hz2 : j + 1 - h.length < 1 := (List.getElem?_eq_some_iff.mp hj).1
    rw [show j + 1 - h.length = 0 by omega] at hj
    cases hj
    rw [show B + j = H.size by omega]
    exact ⟨hw, he⟩
theorem pw_rep.adn (hR : pw_rep D ca b B N xs h H) : pw_ad b B h.length = H.size := by
  have hp := hR.pos
  obtain ⟨h0, h1, h2⟩ := hR
  obtain ⟨k, hk⟩ : ∃ k, h.length = k + 1 := ⟨h.length - 1, by omega⟩
  rw [hk]
  show B + k = H.size
  omega
theorem pw_rep.obj (hR : pw_rep D ca b B N xs h H) {a : Nat} {x : pw_C} (ha : h[a]? = some x) (hx : x ≠ .inl (2, N, xs)) : ∃ k, a = k + 1 ∧ pw_wf x ∧ va_at D pw_cl (B + k, pw_e (pw_ad b B) ca x) H := by
  cases a with
  | zero => exact absurd (Option.some.inj (ha.symm.trans hR.1)) hx
  | succ k => exact ⟨k, rfl, hR.2.2 k x ha⟩
end PWREP
def pw_lr (ad : Nat → Nat) (ls : Array Slot) (L : pw_L) : Prop := ls.size = L.length ∧ lv_wf ls ∧ ∀ (i : Nat) (v : pw_V), L[i]? = some (some v) → ls[i]? = some (.val (pw_v ad v))
def pw_lv (ad : Nat → Nat) (L : pw_L) : List (Nat × Value) := (List.range L.length).filterMap (fun i => match L[i]? with
  | some (some v) => some (i, pw_v ad v)
  | _ => none)
theorem pw_lv_mem {ad : Nat → Nat} {L : pw_L} {i : Nat} {v : pw_V} (h : L[i]? = some (some v)) : (i, pw_v ad v) ∈ pw_lv ad L := by
  have hl := (List.getElem?_eq_some_iff.mp h).1
  exact List.mem_filterMap.mpr ⟨i, List.mem_range.mpr hl, by rw [h]⟩
theorem pw_lv_of {ad : Nat → Nat} {L : pw_L} {q : Nat × Value} (h : q ∈ pw_lv ad L) : ∃ v, L[q.1]? = some (some v) ∧ q.2 = pw_v ad v := by
  obtain ⟨i, -, hi⟩ := List.mem_filterMap.mp h
  match hL : L[i]? with
  | none => rw [hL] at hi; cases hi
  | some none => rw [hL] at hi; cases hi
  | some (some v) =>
    rw [hL] at hi
    cases hi
    exact ⟨v, hL, rfl⟩
theorem pw_lr.has {ad : Nat → Nat} {ls : Array Slot} {L : pw_L} (h : pw_lr ad ls L) : lv_has ls L.length (pw_lv ad L) := by
  refine ⟨h.1, h.2.1, fun q hq => ?_⟩
  obtain ⟨v, h1, h2⟩ := pw_lv_of hq
  rw [h2]
  exact h.2.2 _ _ h1
theorem pw_lr.of {ad : Nat → Nat} {ls : Array Slot} {L : pw_L} {i : Nat} {v : pw_V} (hi : i < L.length) (h : lv_has ls L.length ((i, pw_v ad v) :: (pw_lv ad L).filter (fun q => !(q.1 == i) && !(q.1 + 1 == i && q.2.category == 2)))) : pw_lr ad ls (L.set i (some v)) := by
  refine ⟨by rw [List.length_set]; exact h.1, h.2.1, fun j w hj => ?_⟩
  by_cases hji : j = i
  · subst hji
    rw [List.getElem?_set_self hi] at hj
    cases hj
    exact h.2.2 (j, pw_v ad v) List.mem_cons_self
  · rw [List.getElem?_set_ne (Ne.symm hji)] at hj
    refine h.2.2 (j, pw_v ad w) (List.mem_cons_of_mem _ (List.mem_filter.mpr ⟨pw_lv_mem hj, ?_⟩))
    simp [hji, pw_cat]
theorem pw_inb_in {i : Int32} {n : Nat} (h : pw_inb i n = true) : vp_in i n := by
  simp only [pw_inb, Bool.and_eq_true, decide_eq_true_eq] at h
  exact vp_in_iff.mpr h
theorem pw_has_in {i : Nat} {w : Cond} (h : pw_has i w = true) : w ∈ pw_tbl := by
  simp only [pw_has, Bool.and_eq_true, decide_eq_true_eq] at h
  exact List.mem_filter.mpr ⟨List.mem_of_getElem? h.1, h.2⟩
theorem pw_u_in {ci : Nat} {r : vw_C} (h : pw_cl[ci]? = some r) : ∀ w ∈ u_ws r.1 r.2.1 r.2.2, w ∈ pw_tbl := by
  have key : ∀ (l : List Cond), (∀ w ∈ l, w ∈ lw_tbl) → l.all goodWord = true → ∀ w ∈ l, w ∈ pw_tbl := fun l h1 h2 w hw => List.mem_filter.mpr ⟨h1 w hw, List.all_eq_true.mp h2 w hw⟩
  match ci, h with
  | 0, h => obtain rfl := Option.some.inj h; exact key _ pw_in0 pw_gd0
  | 1, h => obtain rfl := Option.some.inj h; exact key _ pw_in1 pw_gd1
  | 2, h => obtain rfl := Option.some.inj h; exact key _ pw_in2 pw_gd2
  | 3, h => obtain rfl := Option.some.inj h; exact key _ pw_in3 pw_gd3
  | 4, h => obtain rfl := Option.some.inj h; exact key _ pw_in4 pw_gd4
  | k + 5, h => simp at h
theorem pw_u_ty {ci : Nat} {r : vw_C} (h : pw_cl[ci]? = some r) : ∀ k, k < r.2.2 → parseFieldDescriptor (r.2.1 k).2.2.1 = some (pw_tyf ci k) := by
  match ci, h with
  | 0, h => obtain rfl := Option.some.inj h; exact pw_ty0
  | 1, h => obtain rfl := Option.some.inj h; exact pw_ty1
  | 2, h => obtain rfl := Option.some.inj h; exact pw_ty2
  | 3, h => obtain rfl := Option.some.inj h; exact pw_ty3
  | 4, h => obtain rfl := Option.some.inj h; exact pw_ty4
  | k + 5, h => simp at h
theorem pw_u_nm {ci : Nat} {r : vw_C} (h : pw_cl[ci]? = some r) : ∀ a, a < r.2.2 → ∀ b, b < r.2.2 → a ≠ b → (r.2.1 a).2.1 ≠ (r.2.1 b).2.1 := by
  match ci, h with
  | 0, h => obtain rfl := Option.some.inj h; exact pw_nm0
  | 1, h => obtain rfl := Option.some.inj h; exact pw_nm1
  | 2, h => obtain rfl := Option.some.inj h; exact pw_nm2
  | 3, h => obtain rfl := Option.some.inj h; exact pw_nm3
  | 4, h => obtain rfl := Option.some.inj h; exact pw_nm4
  | k + 5, h => simp at h
theorem pw_df0 : ∀ ad : Nat → Nat, ∀ j, j < 6 → defaultValue (pw_tyf 0 j) = vp_V ((pw_def 0).map (pw_v ad)) j := by
  intro ad j hj
  match j, hj with
  | 0, _ => rfl
  | 1, _ => rfl
  | 2, _ => rfl
  | 3, _ => rfl
  | 4, _ => rfl
  | 5, _ => rfl
theorem pw_df1 : ∀ ad : Nat → Nat, ∀ j, j < 5 → defaultValue (pw_tyf 1 j) = vp_V ((pw_def 1).map (pw_v ad)) j := by
  intro ad j hj
  match j, hj with
  | 0, _ => rfl
  | 1, _ => rfl
  | 2, _ => rfl
  | 3, _ => rfl
  | 4, _ => rfl
theorem pw_df2 : ∀ ad : Nat → Nat, ∀ j, j < 10 → defaultValue (pw_tyf 2 j) = vp_V ((pw_def 2).map (pw_v ad)) j := by
  intro ad j hj
  match j, hj with
  | 0, _ => rfl
  | 1, _ => rfl
  | 2, _ => rfl
  | 3, _ => rfl
  | 4, _ => rfl
  | 5, _ => rfl
  | 6, _ => rfl
  | 7, _ => rfl
  | 8, _ => rfl
  | 9, _ => rfl
theorem pw_df3 : ∀ ad : Nat → Nat, ∀ j, j < 17 → defaultValue (pw_tyf 3 j) = vp_V ((pw_def 3).map (pw_v ad)) j := by
  intro ad j hj
  match j, hj with
  | 0, _ => rfl
  | 1, _ => rfl
  | 2, _ => rfl
  | 3, _ => rfl
  | 4, _ => rfl
  | 5, _ => rfl
  | 6, _ => rfl
  | 7, _ => rfl
  | 8, _ => rfl
  | 9, _ => rfl
  | 10, _ => rfl
  | 11, _ => rfl
  | 12, _ => rfl
  | 13, _ => rfl
  | 14, _ => rfl
  | 15, _ => rfl
  | 16, _ => rfl
  | k + 17, h => exact absurd h (by omega)
theorem pw_df4 : ∀ ad : Nat → Nat, ∀ j, j < 40 → defaultValue (pw_tyf 4 j) = vp_V ((pw_def 4).map (pw_v ad)) j := by
  intro ad j hj
  match j, hj with
  | 0, _ => rfl
  | 1, _ => rfl
  | 2, _ => rfl
  | 3, _ => rfl
  | 4, _ => rfl
  | 5, _ => rfl
  | 6, _ => rfl
  | 7, _ => rfl
  | 8, _ => rfl
  | 9, _ => rfl
  | 10, _ => rfl
  | 11, _ => rfl
  | 12, _ => rfl
  | 13, _ => rfl
  | 14, _ => rfl
  | 15, _ => rfl
  | 16, _ => rfl
  | 17, _ => rfl
  | 18, _ => rfl
  | 19, _ => rfl
  | 20, _ => rfl
  | 21, _ => rfl
  | 22, _ => rfl
  | 23, _ => rfl
  | 24, _ => rfl
  | 25, _ => rfl
  | 26, _ => rfl
  | 27, _ => rfl
  | 28, _ => rfl
  | 29, _ => rfl
  | 30, _ => rfl
  | 31, _ => rfl
  | 32, _ => rfl
  | 33, _ => rfl
  | 34, _ => rfl
  | 35, _ => rfl
  | 36, _ => rfl
  | 37, _ => rfl
  | 38, _ => rfl
  | 39, _ => rfl
  | k + 40, h => exact absurd h (by omega)
theorem pw_u_df {ci : Nat} {r : vw_C} (h : pw_cl[ci]? = some r) (ad : Nat → Nat) : (∀ j, j < r.2.2 → defaultValue (pw_tyf ci j) = vp_V ((pw_def ci).map (pw_v ad)) j) ∧ (pw_def ci).length = r.2.2 := by
  match ci, h with
  | 0, h => obtain rfl := Option.some.inj h; exact ⟨pw_df0 ad, rfl⟩
  | 1, h => obtain rfl := Option.some.inj h; exact ⟨pw_df1 ad, rfl⟩
  | 2, h => obtain rfl := Option.some.inj h; exact ⟨pw_df2 ad, rfl⟩
  | 3, h => obtain rfl := Option.some.inj h; exact ⟨pw_df3 ad, rfl⟩
  | 4, h => obtain rfl := Option.some.inj h; exact ⟨pw_df4 ad, rfl⟩
  | k + 5, h => simp at h
