theorem pw_step_mono {o : pw_O} {L L' : pw_L} {st st' : List pw_V} {h h' : pw_H} {pc' : Nat} (hs : pw_step o L st h = some (pc', L', st', h')) : L'.length = L.length ∧ h.length ≤ h'.length ∧ pw_size h ≤ pw_size h' := by
  obtain ⟨i, np, t, q⟩ := o
  cases i <;> simp only [pw_step] at hs <;> (repeat' split at hs) <;> first
    | (cases hs; done)
    | (cases hs; exact ⟨rfl, Nat.le_refl _, Nat.le_refl _⟩)
    | (cases hs; exact ⟨List.length_set, Nat.le_refl _, Nat.le_refl _⟩)
    | (cases hs; refine ⟨rfl, ?_, ?_⟩ <;> first | (rw [List.length_set]; exact Nat.le_refl _) | (rw [List.length_append]; exact Nat.le_add_right _ _) | (rw [pw_size_push]; exact Nat.le_add_right _ _) | (rw [pw_size_set (by assumption) (by simp [pw_sz])]; exact Nat.le_refl _))
theorem pw_mono : ∀ (n d M pc : Nat) (L : pw_L) (st : List pw_V) (h : pw_H) (r : Option pw_V) (h' : pw_H), pw_run n d M pc L st h = some (r, h') → h.length ≤ h'.length ∧ pw_size h ≤ pw_size h' := by
  intro n
  induction n with
  | zero =>
    intro d M pc L st h r h' hr
    cases hr
  | succ n ih =>
    intro d M pc L st h r h' hr
    rw [pw_run] at hr
    cases ho : pw_op M pc with
    | none => rw [ho] at hr; cases hr
    | some o =>
      rw [ho] at hr
      dsimp only at hr
      cases hret : pw_isRet o.1 with
      | true =>
        rw [hret] at hr
        dsimp only [cond] at hr
        split at hr
        · cases hr
          exact ⟨Nat.le_refl _, Nat.le_refl _⟩
        · cases hr
      | false =>
        rw [hret] at hr
        dsimp only [cond] at hr
        cases hcall : pw_isCall o.1 with
        | true =>
          rw [hcall] at hr
          dsimp only at hr
          cases d with
          | zero => cases hr
          | succ d =>
            dsimp only at hr
            split at hr
            · split at hr
              · split at hr
                · exact ih _ _ _ _ _ _ _ _ hr
                · cases hr
              · cases hr
            · split at hr
              · split at hr
                · exact ih _ _ _ _ _ _ _ _ hr
                · cases hr
              · cases hr
            · split at hr
              · cases hr
              · split at hr
                · split at hr
                  · cases hr
                  · rename_i r1 h1 hr1
                    have a1 := ih _ _ _ _ _ _ _ _ hr1
                    have a2 := ih _ _ _ _ _ _ _ _ hr
                    exact ⟨Nat.le_trans a1.1 a2.1, Nat.le_trans a1.2 a2.2⟩
                · cases hr
        | false =>
          rw [hcall] at hr
          dsimp only at hr
          split at hr
          · cases hr
          · rename_i pc' L' st' h1 hs
            have a1 := (pw_step_mono hs).2
            have a2 := ih _ _ _ _ _ _ _ _ hr
            exact ⟨Nat.le_trans a1.1 a2.1, Nat.le_trans a1.2 a2.2⟩
def pw_Pc (D : va_G) (ca : Nat → ClassId) (b B N : Nat) (xs : Nat → Int32) (as : List pw_V) (h : pw_H) : Array Value → State → Prop :=
  va_Pc (as.map (pw_v (pw_ad b B))) (fun U => pw_rep D ca b B N xs h U.heap ∧ va_K D pw_cl (pw_tys ca) U ∧ va_X b N xs U U.heap ∧ (b < B ∧ B ≤ U.heap.size) ∧ pw_nw U)
def pw_Qc (D : va_G) (ca : Nat → ClassId) (b B N : Nat) (xs : Nat → Int32) (r : Option pw_V) (h' : pw_H) : Array Value → State → Outcome → State → Prop :=
  fun _ st oc t => oc = .returned (r.map (pw_v (pw_ad b B))) ∧ pw_rep D ca b B N xs h' t.heap ∧ va_F (pw_A B) st t
def pw_ws (M : Nat) : List Cond := Cond.code (pw_inf M).1 (pw_inf M).2.1 (pw_inf M).2.2.1 (pw_inf M).2.2.2 :: pw_tbl
theorem pw_good {M : Nat} (h0 : 0 < M) (h : M < 115) : GoodIn pw_tbl (pw_ws M) := by
  intro w hw
  rcases List.mem_cons.mp hw with rfl | hw
  · exact ⟨List.mem_filter.mpr ⟨pw_cw h0 h, rfl⟩, good_of_word rfl⟩
  · exact ⟨hw, good_of_word (List.mem_filter.mp hw).2⟩
theorem pw_blind (D : va_G) (ca : Nat → ClassId) (b B N : Nat) (xs : Nat → Int32) (as : List pw_V) (h : pw_H) : FrameBlind (pw_Pc D ca b B N xs as h) := by
  intro a U g mk q
  obtain ⟨q0, qR, qK, qX, qB, qN⟩ := q
  exact ⟨q0, qR, va_K.moved (u := U) (U := U.calling g mk a) (Vm.Alike.refl U.vm) qK, va_X.moved (u := U) (U := U.calling g mk a) (Vm.Alike.refl U.vm) qX, qB, pw_nw.same (u := U) (U := U.calling g mk a) rfl qN⟩
/-- the pure machine is the machine, for runs of fuel n -/
def pw_Snd (l : Launch) (D : va_G) (ca : Nat → ClassId) (b B N : Nat) (xs : Nat → Int32) (n : Nat) : Prop :=
  ∀ (d M pc : Nat) (L : pw_L) (st : List pw_V) (h : pw_H) (r : Option pw_V) (h' : pw_H), pw_run n d M pc L st h = some (r, h') →
  ∀ (p : Program) (e : Env) (R : Room) (s : State) (m : MethodId) (args : Array Value) (below : List Frame) (meth : Method) (c : Code) (H : Heap) (locs : List Loc) (cells slots : Nat) (Q : State → Prop) (ls : Array Slot),
  pw_ctx D ca b B N xs M p s m args meth c → d ≤ R.frames → 37 * d ≤ R.locals → L.length = (pw_inf M).2.2.1 → pw_lr (pw_ad b B) ls L → pw_rep D ca b B N xs h H → va_S (pw_A B) s.heap H locs → cells + h'.length ≤ R.cells + h.length → slots + pw_size h' ≤ R.slots + pw_size h →
  (∀ (pc : Nat) (ls : Array Slot) (H : Heap) (locs : List Loc) (cells slots : Nat) (i : Instr) (st : List pw_V), decode (pw_inf M).2.1 pc = .ok (i, 1) → pw_ret M i st = some r → pw_rep D ca b B N xs h' H → va_S (pw_A B) s.heap H locs → cells ≤ R.cells → slots ≤ R.slots → W p l e R s m args below meth c H locs cells slots Q (F0 m pc ls (st.map (pw_v (pw_ad b B))))) →
  W p l e R s m args below meth c H locs cells slots Q (F0 m pc ls (st.map (pw_v (pw_ad b B))))
theorem pw_sl (ad : Nat → Nat) (as : List pw_V) : lg_sl (as.map (pw_v ad)) = as.map (fun v => Slot.val (pw_v ad v)) := by
  induction as with
  | nil => rfl
  | cons a l ih =>
    show (if (pw_v ad a).category = 2 then _ else _) ++ lg_sl (l.map (pw_v ad)) = _
    rw [ih, if_neg (by rw [pw_cat]; decide)]
    rfl
theorem pw_entry {ad : Nat → Nat} {M : Nat} {as : List pw_V} (h : as.length ≤ (pw_inf M).2.2.1) : pw_lr ad ((lg_sl (as.map (pw_v ad)) ++ List.replicate ((pw_inf M).2.2.1 - (lg_sl (as.map (pw_v ad))).length) Slot.unset).toArray) (pw_ent M as) := by
  have h1 := lv_entry (as.map (pw_v ad)) (n := (pw_inf M).2.2.1) (by rw [pw_sl, List.length_map]; exact h)
  refine ⟨?_, h1.2.1, fun i v hi => ?_⟩
  · rw [h1.1]
    simp only [pw_ent, List.length_append, List.length_map, List.length_replicate]
    omega
  · simp only [pw_ent] at hi
    by_cases hl : i < as.length
    · rw [List.getElem?_append_left (by rw [List.length_map]; exact hl), List.getElem?_map] at hi
      cases ha : as[i]? with
      | none => rw [ha] at hi; cases hi
      | some w =>
        rw [ha] at hi
        cases hi
        rw [pw_sl, List.getElem?_toArray, List.getElem?_append_left (by rw [List.length_map]; exact hl), List.getElem?_map, ha]
        rfl
    · rw [List.getElem?_append_right (by rw [List.length_map]; omega), List.getElem?_replicate] at hi
      split at hi <;> cases hi
section PWM
variable {l : Launch} {D : va_G} {ca : Nat → ClassId} {b B N : Nat} {xs : Nat → Int32}
set_option maxHeartbeats 1000000 in
theorem pw_met {n : Nat} (S : pw_Snd l D ca b B N xs n) {d M : Nat} {as : List pw_V} {h : pw_H} {r : Option pw_V} {h' : pw_H} (hrun : pw_run n d M 0 (pw_ent M as) [] h = some (r, h')) (has : as.length ≤ (pw_inf M).2.2.1) (hpl : plainName (pw_inf M).1.cls = true) :
    Met l (pw_inf M).1 (pw_ws M) ({ frames := d, cells := h'.length - h.length, slots := pw_size h' - pw_size h, locals := 37 * d }) (pw_Pc D ca b B N xs as h) (pw_Qc D ca b B N xs r h') (h'.length - h.length) (pw_size h' - pw_size h) (pw_A B) := by
  have hmono := pw_mono _ _ _ _ _ _ _ _ _ hrun
  refine Met.ofW (cc := (pw_inf M).2.1) (maxL := (pw_inf M).2.2.1) (ret := (pw_inf M).2.2.2) hpl rfl ?_
  intro p e s m args below meth c s₁ Bd hml hv
  obtain ⟨rfl, hR, hK, hX, hbB, hnw⟩ := hv
  have hx := Bd.exec
  have hb := Bd.bytes
  have hr := Bd.returns
  have hts := atoms_spec (ws := pw_ws M) Bd.pre
  have hown := findClass_of_methodNamed Bd.named
  have hlocks := Bd.notSynchronized
  have hnm := (name_of_methodNamed Bd.named Bd.method).1
  rw [lg_entry_eq]
  have C : pw_ctx D ca b B N xs M p s m (as.map (pw_v (pw_ad b B))).toArray meth c := ⟨hx, hb, hml, hown, fun w hw => hts w (List.mem_cons_of_mem _ hw), hK, hX, hbB, hnm, hnw⟩
  refine S d M 0 (pw_ent M as) [] h r h' hrun p e _ s m _ below meth c s.heap [] 0 0 _ _ C (Nat.le_refl _) (Nat.le_refl _) ?_ (pw_entry has) hR va_S.rf ?_ ?_ ?_
  · simp only [pw_ent, List.length_append, List.length_map, List.length_replicate]
    omega
  · show 0 + h'.length ≤ (h'.length - h.length) + h.length
    omega
  · show 0 + pw_size h' ≤ (pw_size h' - pw_size h) + pw_size h
    omega
  · intro pc ls H locs cells slots i st hd hret hR' hS' hc hs
    refine W.widen (k := h'.length - h.length) (n := pw_size h' - pw_size h) hc hs ?_
    unfold pw_ret at hret
    split at hret
    · rename_i v
      split at hret
      · rename_i hok
        cases hret
        rcases hok with hi | ⟨hi, hbt⟩
        · exact W.iret (v := v) hx hb (hr.trans hi) (fun t ht hW => ⟨rfl, by rw [ht]; exact hR', hS'.F ht⟩) hS'.2.2 hd
        · refine W.zret (v := v) (ty := .boolean) hx hb (hr.trans hi) ?_ (fun t ht hW => ⟨rfl, by rw [ht]; exact hR', hS'.F ht⟩) hS'.2.2 hd
          simp only [pw_bit, Bool.or_eq_true, decide_eq_true_eq] at hbt
          rcases hbt with rfl | rfl <;> rfl
      · cases hret
    · rename_i v
      split at hret
      · rename_i nn hi
        cases hret
        refine W.aret (v := pw_v (pw_ad b B) (.inr v)) (rt := .object nn) hx hb (hr.trans hi) (Or.inl ⟨_, rfl⟩) ?_ (fun t ht hW => ⟨rfl, by rw [ht]; exact hR', hS'.F ht⟩) hS'.2.2 hd
        cases v with
        | none => exact Or.inl rfl
        | some a => exact Or.inr ⟨_, rfl⟩
      · cases hret
    · split at hret
      · rename_i hi
        cases hret
        exact W.vret hx hb (hr.trans hi) (fun t ht hW => ⟨rfl, by rw [ht]; exact hR', hS'.F ht⟩) hS'.2.2 hd
      · cases hret
    · cases hret
end PWM
