theorem pw_dec {M pc np t : Nat} {i : Instr} {q : List Nat} (ho : pw_op M pc = some (i, np, t, q)) : (∃ len, decode (pw_inf M).2.1 pc = .ok (i, len) ∧ np = pc + len ∧ ((∀ a b c d, i ≠ .tableswitch a b c d) → len = pw_ilen i)) ∧ pw_okI (pw_inf M) pc i t q = true := by
  have h := pw_op_ok ho
  simp only [pw_ok, Bool.and_eq_true] at h
  obtain ⟨h1, h2⟩ := h
  refine ⟨?_, h2⟩
  cases hd : decode (pw_inf M).2.1 pc with
  | error e => rw [hd] at h1; cases h1
  | ok x =>
    obtain ⟨j, len⟩ := x
    rw [hd] at h1
    simp only [Bool.and_eq_true, decide_eq_true_eq] at h1
    obtain ⟨⟨h3, h4⟩, h5⟩ := h1
    refine ⟨len, by rw [h3], h4, fun hn => ?_⟩
    cases i <;> first | exact absurd rfl (hn _ _ _ _) | exact of_decide_eq_true h5
theorem pw_dec1 {M pc np t : Nat} {i : Instr} {q : List Nat} (ho : pw_op M pc = some (i, np, t, q)) (hn : ∀ a b c d, i ≠ .tableswitch a b c d) : decode (pw_inf M).2.1 pc = .ok (i, pw_ilen i) ∧ np = pc + pw_ilen i ∧ pw_okI (pw_inf M) pc i t q = true := by
  obtain ⟨⟨len, h1, h2, h3⟩, h4⟩ := pw_dec ho
  obtain rfl := h3 hn
  exact ⟨h1, h2, h4⟩
/-- where a method stands -/
def pw_ctx (D : va_G) (ca : Nat → ClassId) (b B N : Nat) (xs : Nat → Int32) (M : Nat) (p : Program) (s : State) (m : MethodId) (args : Array Value) (meth : Method) (c : Code) : Prop :=
  p.tables.exec = Jvm.exec ∧ c.code = (pw_inf M).2.1 ∧ c.maxLocals = (pw_inf M).2.2.1 ∧ s.vm.findClass (pw_inf M).1.cls = some m.cls ∧ (∀ w ∈ pw_tbl, w.before args s = true) ∧ va_K D pw_cl (pw_tys ca) s ∧ va_X b N xs s s.heap ∧ (b < B ∧ B ≤ s.heap.size) ∧ meth.name = (pw_inf M).1.name ∧ pw_nw s
abbrev pw_A (B : Nat) : Nat → Prop := fun q => B ≤ q
section PWS
variable {p : Program} {l : Launch} {e : Env} {R : Room} {s : State} {m : MethodId} {args : Array Value} {below : List Frame} {meth : Method} {c : Code} {H : Heap} {locs : List Loc} {cells slots : Nat} {Q : State → Prop}
variable {D : va_G} {ca : Nat → ClassId} {b B N : Nat} {xs : Nat → Int32} {M pc np t : Nat} {q : List Nat} {ls : Array Slot} {L : pw_L} {st : List pw_V} {h : pw_H}
theorem pw_one (hR : pw_rep D ca b B N xs h H) {k : Nat} {x : pw_C} (ha : h[k + 1]? = some x) : va_P D pw_cl [(B + k, pw_e (pw_ad b B) ca x)] H := by
  intro j y hj
  match j, hj with
  | 0, hj => obtain rfl := Option.some.inj hj; exact (hR.2.2 k x ha).2
  | j + 1, hj => simp at hj
theorem pw_getf (C : pw_ctx D ca b B N xs M p s m args meth c) {idx : Nat} (ho : pw_op M pc = some (.getfield idx, np, t, q)) (hR : pw_rep D ca b B N xs h H) {a k : Nat} {q' : List Nat} (hq : q = k :: q') {fs : List pw_V} (ha : h[a]? = some (.inr (.inr (t, fs)))) {v : pw_V} (hv : fs[k]? = some v)
    (kk : W p l e R s m args below meth c H locs cells slots Q (F0 m np ls (pw_v (pw_ad b B) v :: st.map (pw_v (pw_ad b B))))) : W p l e R s m args below meth c H locs cells slots Q (F0 m pc ls (.ref (pw_ad b B a) :: st.map (pw_v (pw_ad b B)))) := by
  obtain ⟨hx, hb, hml, hown, hts, hK, hX, hbB, hnm, hnw⟩ := C
  obtain ⟨hd, hnp, hok⟩ := pw_dec1 ho (by intro _ _ _ _ h; cases h)
  obtain ⟨j, rfl, -, hat⟩ := hR.obj ha (by intro h; cases h)
  have hP := pw_one hR ha
  subst hq
  simp only [pw_okI] at hok
  split at hok
  · rename_i r k' w z hr hq
    cases hq
    simp only [Bool.and_eq_true, decide_eq_true_eq] at hok
    obtain ⟨⟨h1, h2⟩, h3⟩ := hok
    have hvv : (fs.map (pw_v (pw_ad b B)))[k]? = some (pw_v (pw_ad b B) v) := by rw [List.getElem?_map, hv]; rfl
    obtain ⟨C, T, Nn⟩ := r
    rw [hnp] at kk
    split at h3
    · exact va_get (D := D) (ref := (T k).1) (C := C) (T := T) (N := Nn) hx hb hts (pw_u_in hr) hown hK hP 0 rfl hr k h1 (by rw [h2]; exact hts _ (pw_has_in h3)) (fun _ h => h) hvv hd kk
    · have hw := va_Nw.use (A := args) rfl (hnw.1 _ (List.mem_of_getElem? (of_decide_eq_true h3)) rfl)
      exact va_getN (D := D) (ref := (T k).1) (C := C) (T := T) (N := Nn) hx hb hts (pw_u_in hr) hown hK hP 0 rfl hr k h1 (by rw [h2]; exact hw) (fun _ h => h) hvv hd kk
  · cases hok
theorem pw_kd {ty : FieldType} {kd : Nat} {v : pw_V} {ad : Nat → Nat} (h : (match kd, ty with
      | 0, .int => true
      | 1, .boolean => true
      | 2, .object _ => true
      | 2, .array _ => true
      | _, _ => false) = true) (hk : pw_kind kd v = true) : narrow ty (pw_v ad v) = pw_v ad v ∧ fits ty (pw_v ad v) = true := by
  split at h
  · obtain x | x := v
    · exact ⟨rfl, rfl⟩
    · simp [pw_kind] at hk
  · obtain x | x := v
    · simp only [pw_kind, pw_bit, Bool.or_eq_true, decide_eq_true_eq] at hk
      rcases hk with rfl | rfl <;> exact ⟨rfl, rfl⟩
    · simp [pw_kind] at hk
  · obtain x | x := v
    · simp [pw_kind] at hk
    · cases x <;> exact ⟨rfl, rfl⟩
  · obtain x | x := v
    · simp [pw_kind] at hk
    · cases x <;> exact ⟨rfl, rfl⟩
  · cases h
theorem pw_S1 {A : Nat → Prop} {H0 H1 : Heap} {a k : Nat} (hS : va_S A H0 H locs) (hz : H1.size = H.size) (oq : ∀ q : Nat, q ≠ a → H1[q]? = H[q]?) (ha : A a) : va_S A H0 H1 (locs ++ [⟨a, k⟩]) := hS.put hz oq ha
theorem pw_putf (C : pw_ctx D ca b B N xs M p s m args meth c) {idx : Nat} (ho : pw_op M pc = some (.putfield idx, np, t, q)) (hR : pw_rep D ca b B N xs h H) (hS : va_S (pw_A B) s.heap H locs) {a k kd : Nat} {q' : List Nat} (hq : q = k :: kd :: q') {fs : List pw_V} (ha : h[a]? = some (.inr (.inr (t, fs)))) (hk : k < fs.length) {v : pw_V} (hv : pw_kind kd v = true)
    (kk : ∀ (H1 : Heap) (locs1 : List Loc), pw_rep D ca b B N xs (h.set a (.inr (.inr (t, fs.set k v)))) H1 → va_S (pw_A B) s.heap H1 locs1 → W p l e R s m args below meth c H1 locs1 cells slots Q (F0 m np ls (st.map (pw_v (pw_ad b B))))) : W p l e R s m args below meth c H locs cells slots Q (F0 m pc ls (pw_v (pw_ad b B) v :: .ref (pw_ad b B a) :: st.map (pw_v (pw_ad b B)))) := by
  obtain ⟨hx, hb, hml, hown, hts, hK, hX, hbB, hnm, hnw⟩ := C
  obtain ⟨hd, hnp, hok⟩ := pw_dec1 ho (by intro _ _ _ _ h; cases h)
  obtain ⟨j, rfl, -, hat⟩ := hR.obj ha (by intro h; cases h)
  subst hq
  simp only [pw_okI] at hok
  split at hok
  · rename_i r k' kd' w z hr hq
    cases hq
    simp only [Bool.and_eq_true, decide_eq_true_eq] at hok
    obtain ⟨⟨⟨⟨h1, h2⟩, h3⟩, h4⟩, h5⟩ := hok
    obtain ⟨hn, hfit⟩ := pw_kd (ad := pw_ad b B) h5 hv
    obtain ⟨C, T, Nn⟩ := r
    rw [hnp] at kk
    have hlink := hts _ (pw_has_in h3)
    have hin := pw_u_in hr
    have hdd := pw_u_ty hr k h1
    have hap := va_apart (own := (pw_inf M).1.cls) hts hin (pw_tyf t) (pw_u_ty hr) (pw_u_nm hr) hK hr
    obtain ⟨r', g1, cell, q1, q2, q3, q4⟩ := hat
    have hr' : r' = (C, T, Nn) := Option.some.inj (g1.symm.trans hr)
    subst hr'
    obtain ⟨hSl, hfc, kC, hkC, hkind⟩ := hK.1 t _ hr
    obtain ⟨cf, kf, fi, f, hi, hsl⟩ := hSl k h1
    have hlay := hts _ (hin _ (u_in_lay h1))
    have hst := (u_facts hfc hkC (u_lays hts hin h1) hi).1
    have h2' : (T k).1 = C := h2
    have hi2 : s.fieldFound? (T k).1 (T k).2.1 (T k).2.2.1 = some (cf, kf, fi, f) := hi
    have hi' : s.fieldFound? C (T k).2.1 (T k).2.2.1 = some (cf, kf, fi, f) := by rw [h2'] at hi2; exact hi2
    have fin : ∀ H' : Heap, H'[B + j]? = some (cell.setSlot f.slot (pw_v (pw_ad b B) v)) → H'.size = H.size → (∀ q, q ≠ B + j → H'[q]? = H[q]?) → W p l e R s m args below meth c H' (locs ++ [⟨B + j, f.slot⟩]) cells slots Q (F0 m (pc + 3) ls (st.map (pw_v (pw_ad b B)))) := by
      intro H' e1 e2 e3
      rw [hsl] at e1
      refine kk H' _ (hR.set ha trivial ?_ e2 e3) (pw_S1 hS e2 e3 (Nat.le_add_right _ _))
      refine ⟨_, hr, ?_⟩
      refine t_OB.to (V := updV (vp_V (fs.map (pw_v (pw_ad b B)))) k (pw_v (pw_ad b B) v)) ⟨_, e1, q2, q3, t_set q4 hap h1 _⟩ (fun i _ => ?_)
      rw [vp_updV_set (by rw [List.length_map]; exact hk), List.map_set]
    split at h4
    · have hf0 : (T k).2.2.2 = false := by simpa using h4
      unfold u_lay at hlay
      rw [if_neg (by rw [hf0]; decide)] at hlay
      have h6 := u_store hfc hkC hkind hlay hi hdd hn hfit
      exact W.putK hx hb (f := f) ⟨hown, hlink, ⟨_, _, _, hi'⟩, hst⟩ (by rw [q2]; exact h6) q1 q3 (by rw [hsl]; exact k2_hasslot (q4 k h1)) rfl rfl hd fin
    · simp only [Bool.and_eq_true, decide_eq_true_eq] at h4
      obtain ⟨⟨hf1, hin2⟩, hoc⟩ := h4
      unfold u_lay at hlay
      rw [if_pos hf1] at hlay
      have hcf : m.cls = cf := by
        obtain ⟨_, _, c', _, _, _, -, -, hf', -, -, -, hown2, -⟩ := Cond.laysFinal_spec hlay
        have e1 : c' = cf := by have := hi.symm.trans hf'; simp at this; exact this.1.symm
        rw [h2, hoc] at hown2
        rw [← e1]; exact Option.some.inj (hown.symm.trans hown2)
      have h6 := u_fits hfc hkC hkind (Or.inr hlay) hi hdd hn hfit
      exact W.putFinK hx hb hown hlink hi' hst hcf (by rw [hnm]; exact hin2) (by rw [q2]; exact h6) q1 q3 (by rw [hsl]; exact k2_hasslot (q4 k h1)) rfl rfl hd fin
  · cases hok
theorem pw_iald (C : pw_ctx D ca b B N xs M p s m args meth c) (ho : pw_op M pc = some (.iaload, np, t, q)) (hR : pw_rep D ca b B N xs h H) (hS : va_S (pw_A B) s.heap H locs) {a g n : Nat} {f : Nat → Int32} (ha : h[a]? = some (.inl (g, n, f))) (hg : g ≠ 1) {i : Int32} (hi : pw_inb i n = true)
    (kk : W p l e R s m args below meth c H locs cells slots Q (F0 m np ls (.int (f i.toNatClampNeg) :: st.map (pw_v (pw_ad b B))))) : W p l e R s m args below meth c H locs cells slots Q (F0 m pc ls (.int i :: .ref (pw_ad b B a) :: st.map (pw_v (pw_ad b B)))) := by
  obtain ⟨hx, hb, hml, hown, hts, hK, hX, hbB, hnm, hnw⟩ := C
  obtain ⟨hd, hnp, hok⟩ := pw_dec1 ho (by intro _ _ _ _ h; cases h)
  rw [hnp] at kk
  cases a with
  | zero =>
    have e1 := Option.some.inj (ha.symm.trans hR.1)
    cases e1
    exact va_sld hx hb hX (Nat.lt_of_lt_of_le hbB.1 hbB.2) (Nat.not_le.mpr hbB.1) hS (pw_inb_in hi) hd kk
  | succ j =>
    obtain ⟨hw, -⟩ := hR.2.2 j _ ha
    have h0 : g = 0 := hw.resolve_right hg
    subst h0
    exact va_iald hx hb hK (pw_one hR ha) 0 0 rfl rfl (pw_inb_in hi) hd kk
theorem pw_zald (C : pw_ctx D ca b B N xs M p s m args meth c) (ho : pw_op M pc = some (.baload, np, t, q)) (hR : pw_rep D ca b B N xs h H) {a n : Nat} {f : Nat → Int32} (ha : h[a]? = some (.inl (1, n, f))) {i : Int32} (hi : pw_inb i n = true)
    (kk : W p l e R s m args below meth c H locs cells slots Q (F0 m np ls (.int (f i.toNatClampNeg) :: st.map (pw_v (pw_ad b B))))) : W p l e R s m args below meth c H locs cells slots Q (F0 m pc ls (.int i :: .ref (pw_ad b B a) :: st.map (pw_v (pw_ad b B)))) := by
  obtain ⟨hx, hb, hml, hown, hts, hK, hX, hbB, hnm, hnw⟩ := C
  obtain ⟨hd, hnp, hok⟩ := pw_dec1 ho (by intro _ _ _ _ h; cases h)
  rw [hnp] at kk
  obtain ⟨j, rfl, -, hat⟩ := hR.obj ha (by intro h; cases h)
  exact va_zald hx hb hK (pw_one hR ha) 0 1 rfl rfl (pw_inb_in hi) hd kk
theorem pw_aald (C : pw_ctx D ca b B N xs M p s m args meth c) (ho : pw_op M pc = some (.aaload, np, t, q)) (hR : pw_rep D ca b B N xs h H) {a g n : Nat} {f : Nat → Option Nat} (ha : h[a]? = some (.inr (.inl (g, n, f)))) {i : Int32} (hi : pw_inb i n = true)
    (kk : W p l e R s m args below meth c H locs cells slots Q (F0 m np ls (pw_v (pw_ad b B) (.inr (f i.toNatClampNeg)) :: st.map (pw_v (pw_ad b B))))) : W p l e R s m args below meth c H locs cells slots Q (F0 m pc ls (.int i :: .ref (pw_ad b B a) :: st.map (pw_v (pw_ad b B)))) := by
  obtain ⟨hx, hb, hml, hown, hts, hK, hX, hbB, hnm, hnw⟩ := C
  obtain ⟨hd, hnp, hok⟩ := pw_dec1 ho (by intro _ _ _ _ h; cases h)
  rw [hnp, pw_v_rf] at kk
  obtain ⟨j, rfl, hw, hat⟩ := hR.obj ha (by intro h; cases h)
  rcases hw with rfl | rfl
  · exact va_aldq hx hb hK (pw_one hR ha) 0 2 rfl rfl (pw_inb_in hi) hd kk
  · exact va_aldq hx hb hK (pw_one hR ha) 0 3 rfl rfl (pw_inb_in hi) hd kk
theorem pw_iast (C : pw_ctx D ca b B N xs M p s m args meth c) (ho : pw_op M pc = some (.iastore, np, t, q)) (hR : pw_rep D ca b B N xs h H) (hS : va_S (pw_A B) s.heap H locs) {a n : Nat} {f : Nat → Int32} (ha : h[a]? = some (.inl (0, n, f))) {i x : Int32} (hi : pw_inb i n = true)
    (kk : ∀ (H1 : Heap) (locs1 : List Loc), pw_rep D ca b B N xs (h.set a (.inl (0, n, upd f i.toNatClampNeg x))) H1 → va_S (pw_A B) s.heap H1 locs1 → W p l e R s m args below meth c H1 locs1 cells slots Q (F0 m np ls (st.map (pw_v (pw_ad b B))))) : W p l e R s m args below meth c H locs cells slots Q (F0 m pc ls (.int x :: .int i :: .ref (pw_ad b B a) :: st.map (pw_v (pw_ad b B)))) := by
  obtain ⟨hx, hb, hml, hown, hts, hK, hX, hbB, hnm, hnw⟩ := C
  obtain ⟨hd, hnp, hok⟩ := pw_dec1 ho (by intro _ _ _ _ h; cases h)
  rw [hnp] at kk
  obtain ⟨j, rfl, hw, hat⟩ := hR.obj ha (by intro h; cases h)
  have hin := pw_inb_in hi
  refine W.iast hx hb hat ((hK.2 0 _ rfl).1 n (fun j => .int (f j))) (fun q => by cases q) (by show ¬ (i < 0 ∨ (arrV _ _ _).slots.size ≤ _); rw [arrV_size]; exact hin) rfl rfl hd fun H1 e z oq => ?_
  refine kk H1 _ (hR.set ha (Or.inl rfl) ?_ z oq) (pw_S1 hS z oq (Nat.le_add_right _ _))
  show H1[B + j]? = some (vp_cell _ _)
  rw [e]
  show some ((vp_cell (ca 0) (n, .inl f)).setSlot _ _) = some (vp_cell (ca 0) (n, .inl _))
  rw [vp_cell_i, vp_cell_i, arrV_store]
  congr 2
  funext r
  by_cases hr : r = i.toNatClampNeg
  · subst hr
    simp [updV, upd]
  · simp [updV, upd, hr]
theorem pw_zast (C : pw_ctx D ca b B N xs M p s m args meth c) (ho : pw_op M pc = some (.bastore, np, t, q)) (hR : pw_rep D ca b B N xs h H) (hS : va_S (pw_A B) s.heap H locs) {a n : Nat} {f : Nat → Int32} (ha : h[a]? = some (.inl (1, n, f))) {i x : Int32} (hi : pw_inb i n = true) (hbt : pw_bit x = true)
    (kk : ∀ (H1 : Heap) (locs1 : List Loc), pw_rep D ca b B N xs (h.set a (.inl (1, n, upd f i.toNatClampNeg x))) H1 → va_S (pw_A B) s.heap H1 locs1 → W p l e R s m args below meth c H1 locs1 cells slots Q (F0 m np ls (st.map (pw_v (pw_ad b B))))) : W p l e R s m args below meth c H locs cells slots Q (F0 m pc ls (.int x :: .int i :: .ref (pw_ad b B a) :: st.map (pw_v (pw_ad b B)))) := by
  obtain ⟨hx, hb, hml, hown, hts, hK, hX, hbB, hnm, hnw⟩ := C
  obtain ⟨hd, hnp, hok⟩ := pw_dec1 ho (by intro _ _ _ _ h; cases h)
  rw [hnp] at kk
  obtain ⟨j, rfl, hw, hat⟩ := hR.obj ha (by intro h; cases h)
  have hin := pw_inb_in hi
  have hnr : narrow .boolean (.int x) = .int x := by
    simp only [pw_bit, Bool.or_eq_true, decide_eq_true_eq] at hbt
    rcases hbt with rfl | rfl <;> rfl
  refine W.zast hx hb hat ((hK.2 1 _ rfl).1 n (fun j => .int (f j))) (fun q => by cases q) (by show ¬ (i < 0 ∨ (arrV _ _ _).slots.size ≤ _); rw [arrV_size]; exact hin) rfl rfl hd fun H1 e z oq => ?_
  refine kk H1 _ (hR.set ha (Or.inr rfl) ?_ z oq) (pw_S1 hS z oq (Nat.le_add_right _ _))
  show H1[B + j]? = some (vp_cell _ _)
  rw [e]
  show some ((vp_cell (ca 1) (n, .inl f)).setSlot _ _) = some (vp_cell (ca 1) (n, .inl _))
  rw [vp_cell_i, vp_cell_i, arrV_store]
  congr 2
  funext r
  by_cases hr : r = i.toNatClampNeg
  · subst hr
    simp [updV, upd, hnr]
  · simp [updV, upd, hr]
theorem pw_aast (C : pw_ctx D ca b B N xs M p s m args meth c) (ho : pw_op M pc = some (.aastore, np, t, q)) (hR : pw_rep D ca b B N xs h H) (hS : va_S (pw_A B) s.heap H locs) {a g n v : Nat} {f : Nat → Option Nat} {vs : List pw_V} (ha : h[a]? = some (.inr (.inl (g, n, f)))) (hv : h[v]? = some (.inr (.inr (g, vs)))) {i : Int32} (hi : pw_inb i n = true)
    (kk : ∀ (H1 : Heap) (locs1 : List Loc), pw_rep D ca b B N xs (h.set a (.inr (.inl (g, n, va_up f i.toNatClampNeg (some v))))) H1 → va_S (pw_A B) s.heap H1 locs1 → W p l e R s m args below meth c H1 locs1 cells slots Q (F0 m np ls (st.map (pw_v (pw_ad b B))))) : W p l e R s m args below meth c H locs cells slots Q (F0 m pc ls (.ref (pw_ad b B v) :: .int i :: .ref (pw_ad b B a) :: st.map (pw_v (pw_ad b B)))) := by
  obtain ⟨hx, hb, hml, hown, hts, hK, hX, hbB, hnm, hnw⟩ := C
  obtain ⟨hd, hnp, hok⟩ := pw_dec1 ho (by intro _ _ _ _ h; cases h)
  rw [hnp] at kk
  obtain ⟨j, rfl, hw, hat⟩ := hR.obj ha (by intro h; cases h)
  obtain ⟨j2, rfl, -, hat2⟩ := hR.obj hv (by intro h; cases h)
  have hin := pw_inb_in hi
  have hlt : i.toNatClampNeg < n := Nat.not_le.mp fun q => hin (Or.inr q)
  have h0 : ¬ i < 0 := fun q => hin (Or.inl q)
  obtain ⟨r', hr', cellV, g1, g2, g3, -⟩ := hat2
  have hcls := (hK.1 g r' hr').2
  have hRA : ∃ (kA : Class) (comp : ClassId), s.vm.classes[ca (g + 2)]? = some kA ∧ kA.kind = .array comp (.object r'.1) ∧ s.vm.findClass r'.1 = some comp := by
    rcases hw with rfl | rfl
    · obtain rfl := Option.some.inj hr'
      obtain ⟨kA, comp, k1, k2, k3, -⟩ := (hK.2 2 _ rfl).2
      exact ⟨kA, comp, k1, k2, k3⟩
    · obtain rfl := Option.some.inj hr'
      obtain ⟨kA, comp, k1, k2, k3, -⟩ := (hK.2 3 _ rfl).2
      exact ⟨kA, comp, k1, k2, k3⟩
  obtain ⟨kA, comp, k1, k2, k3⟩ := hRA
  have hcomp : comp = D.1 g := Option.some.inj (k3.symm.trans hcls.1)
  subst hcomp
  obtain ⟨kC, hkC, -⟩ := hcls.2
  refine W.aast hx hb hat (fun q h => by cases h) (fun h => by cases h) k1 k2 rfl hkC ⟨h0, by show _ < (arrV _ _ _).slots.size; rw [arrV_size]; exact hlt⟩ g1 (fun q h => by rw [g3] at h; cases h) (by rw [g2]; exact hkC) (by rw [g2]; exact va_assign hcls) rfl rfl hd fun H1 e z oq => ?_
  refine kk H1 _ (hR.set ha hw ?_ z oq) (pw_S1 hS z oq (Nat.le_add_right _ _))
  show H1[B + j]? = some (vp_cell _ _)
  rw [e]
  show some ((vp_cell (ca (g + 2)) (n, .inr (.inr (.inr (.inr _))))).setSlot _ _) = some (vp_cell (ca (g + 2)) (n, .inr (.inr (.inr (.inr _)))))
  rw [vp_cell_q, vp_cell_q, arrV_store]
  congr 2
  funext r
  by_cases hr : r = i.toNatClampNeg
  · subst hr
    simp [updV, va_up, va_rf]
    rfl
  · simp [updV, va_up, hr]
theorem pw_alen (C : pw_ctx D ca b B N xs M p s m args meth c) (ho : pw_op M pc = some (.arraylength, np, t, q)) (hR : pw_rep D ca b B N xs h H) (hS : va_S (pw_A B) s.heap H locs) {a g n : Nat} {f : Nat → Int32} (ha : h[a]? = some (.inl (g, n, f)))
    (kk : W p l e R s m args below meth c H locs cells slots Q (F0 m np ls (.int (Int32.ofNat n) :: st.map (pw_v (pw_ad b B))))) : W p l e R s m args below meth c H locs cells slots Q (F0 m pc ls (.ref (pw_ad b B a) :: st.map (pw_v (pw_ad b B)))) := by
  obtain ⟨hx, hb, hml, hown, hts, hK, hX, hbB, hnm, hnw⟩ := C
  obtain ⟨hd, hnp, hok⟩ := pw_dec1 ho (by intro _ _ _ _ h; cases h)
  rw [hnp] at kk
  cases a with
  | zero =>
    have e1 := Option.some.inj (ha.symm.trans hR.1)
    cases e1
    exact va_slen hx hb hX (Nat.lt_of_lt_of_le hbB.1 hbB.2) (Nat.not_le.mpr hbB.1) hS hd kk
  | succ j =>
    obtain ⟨hw, -⟩ := hR.2.2 j _ ha
    rcases hw with rfl | rfl
    · exact va_alen (ty := .int) hx hb hK (pw_one hR ha) 0 0 rfl rfl rfl hd kk
    · exact va_alen (ty := .boolean) hx hb hK (pw_one hR ha) 0 1 rfl rfl rfl hd kk
end PWS
