section PWT
variable {p : Program} {l : Launch} {e : Env} {R : Room} {s : State} {m : MethodId} {args : Array Value} {below : List Frame} {meth : Method} {c : Code} {H : Heap} {locs : List Loc} {cells slots : Nat} {Q : State → Prop}
variable {D : va_G} {ca : Nat → ClassId} {b B N : Nat} {xs : Nat → Int32} {M pc np t : Nat} {q : List Nat} {ls : Array Slot} {L : pw_L} {st : List pw_V} {h : pw_H}
theorem pw_SN {A : Nat → Prop} {H0 H1 : Heap} (hS : va_S A H0 H locs) (hz : H1.size = H.size + 1) (oq : ∀ q : Nat, q < H.size → H1[q]? = H[q]?) : va_S A H0 H1 locs :=
  ⟨Nat.le_trans hS.1 (by omega), fun x h1 h2 => (oq x (Nat.lt_of_lt_of_le h1 hS.1)).trans (hS.2.1 x h1 h2), hS.2.2⟩
theorem pw_newo (C : pw_ctx D ca b B N xs M p s m args meth c) {idx : Nat} (ho : pw_op M pc = some (.new idx, np, t, q)) (hR : pw_rep D ca b B N xs h H) (hS : va_S (pw_A B) s.heap H locs) (hc : cells + 1 ≤ R.cells) (hs : slots + (pw_def t).length ≤ R.slots)
    (kk : ∀ (H1 : Heap), pw_rep D ca b B N xs (h ++ [.inr (.inr (t, pw_def t))]) H1 → va_S (pw_A B) s.heap H1 locs → W p l e R s m args below meth c H1 locs (cells + 1) (slots + (pw_def t).length) Q (F0 m np ls (.ref (pw_ad b B h.length) :: st.map (pw_v (pw_ad b B))))) : W p l e R s m args below meth c H locs cells slots Q (F0 m pc ls (st.map (pw_v (pw_ad b B)))) := by
  obtain ⟨hx, hb, hml, hown, hts, hK, hX, hbB, hnm, hnw⟩ := C
  obtain ⟨hd, hnp, hok⟩ := pw_dec1 ho (by intro _ _ _ _ h; cases h)
  rw [hnp] at kk
  simp only [pw_okI] at hok
  split at hok
  · rename_i r w1 w2 w3 hr
    simp only [Bool.and_eq_true] at hok
    obtain ⟨⟨h1, h2⟩, h3⟩ := hok
    have hKn := hK.1 t _ hr
    obtain ⟨hdf, hdl⟩ := pw_u_df hr (pw_ad b B)
    rw [hdl] at hs kk
    refine W.newcK hx hb hown (hts _ (pw_has_in h1)) (hts _ (pw_has_in h2)) (hts _ (pw_has_in h3)) rfl hd hc hs hKn.2.1 rfl fun H1 kC hkC e1 z1 o1 => ?_
    have k1 := kk H1 (hR.push trivial ⟨_, hr, (u_born (pw_tyf t) hts (pw_u_in hr) hKn hkC e1 (pw_u_ty hr)).to hdf⟩ z1 o1) (pw_SN hS z1 o1)
    rw [hR.adn] at k1
    exact k1
  · cases hok
theorem pw_newi (C : pw_ctx D ca b B N xs M p s m args meth c) {ty : ArrayType} (ho : pw_op M pc = some (.newarray ty, np, t, q)) (hR : pw_rep D ca b B N xs h H) (hS : va_S (pw_A B) s.heap H locs) {n : Int32} (hn : 0 ≤ n.toInt ∧ n.toInt ≤ 100000) (hc : cells + 1 ≤ R.cells) (hs : slots + n.toNatClampNeg ≤ R.slots)
    (kk : ∀ (H1 : Heap), pw_rep D ca b B N xs (h ++ [.inl (t, n.toNatClampNeg, fun _ => 0)]) H1 → va_S (pw_A B) s.heap H1 locs → W p l e R s m args below meth c H1 locs (cells + 1) (slots + n.toNatClampNeg) Q (F0 m np ls (.ref (pw_ad b B h.length) :: st.map (pw_v (pw_ad b B))))) : W p l e R s m args below meth c H locs cells slots Q (F0 m pc ls (.int n :: st.map (pw_v (pw_ad b B)))) := by
  obtain ⟨hx, hb, hml, hown, hts, hK, hX, hbB, hnm, hnw⟩ := C
  obtain ⟨hd, hnp, hok⟩ := pw_dec1 ho (by intro _ _ _ _ h; cases h)
  rw [hnp] at kk
  simp only [pw_okI] at hok
  split at hok
  · rename_i w
    simp only [Bool.and_eq_true] at hok
    obtain ⟨h1, h2⟩ := hok
    have hn0 : ¬ n < 0 := by
      rw [Int32.lt_iff_toInt_lt]
      exact Int.not_lt.mpr hn.1
    have hcl : n.toNatClampNeg ≤ 100000 := by
      show n.toInt.toNat ≤ 100000
      omega
    split at h1
    · obtain rfl := of_decide_eq_true h1
      refine va_newaK hx hb (hts _ (pw_has_in h2)) rfl hd rfl hn0 rfl (by show n.toNatClampNeg * 4 ≤ _; omega) hc hs rfl fun H1 cA e1 z1 o1 hAr hNm => ?_
      have hca : cA = ca 0 := Option.some.inj (hNm.symm.trans (hK.2 0 _ rfl).2)
      subst hca
      have k1 := kk H1 (hR.push (Or.inl rfl) e1 z1 o1) (pw_SN hS z1 o1)
      rw [hR.adn] at k1
      exact k1
    · obtain rfl := of_decide_eq_true h1
      refine va_newaK hx hb (hts _ (pw_has_in h2)) rfl hd rfl hn0 rfl (by show n.toNatClampNeg * 1 ≤ _; omega) hc hs rfl fun H1 cA e1 z1 o1 hAr hNm => ?_
      have hca : cA = ca 1 := Option.some.inj (hNm.symm.trans (hK.2 1 _ rfl).2)
      subst hca
      have k1 := kk H1 (hR.push (Or.inr rfl) e1 z1 o1) (pw_SN hS z1 o1)
      rw [hR.adn] at k1
      exact k1
    · cases h1
  · cases hok
theorem pw_newr (C : pw_ctx D ca b B N xs M p s m args meth c) {idx : Nat} (ho : pw_op M pc = some (.anewarray idx, np, t, q)) (hR : pw_rep D ca b B N xs h H) (hS : va_S (pw_A B) s.heap H locs) {n : Int32} (hn : 0 ≤ n.toInt ∧ n.toInt ≤ 100000) (hc : cells + 1 ≤ R.cells) (hs : slots + n.toNatClampNeg ≤ R.slots)
    (kk : ∀ (H1 : Heap), pw_rep D ca b B N xs (h ++ [.inr (.inl (t, n.toNatClampNeg, fun _ => none))]) H1 → va_S (pw_A B) s.heap H1 locs → W p l e R s m args below meth c H1 locs (cells + 1) (slots + n.toNatClampNeg) Q (F0 m np ls (.ref (pw_ad b B h.length) :: st.map (pw_v (pw_ad b B))))) : W p l e R s m args below meth c H locs cells slots Q (F0 m pc ls (.int n :: st.map (pw_v (pw_ad b B)))) := by
  obtain ⟨hx, hb, hml, hown, hts, hK, hX, hbB, hnm, hnw⟩ := C
  obtain ⟨hd, hnp, hok⟩ := pw_dec1 ho (by intro _ _ _ _ h; cases h)
  rw [hnp] at kk
  simp only [pw_okI] at hok
  split at hok
  · rename_i r w hr
    simp only [Bool.and_eq_true, Bool.or_eq_true, decide_eq_true_eq] at hok
    obtain ⟨h1, h2⟩ := hok
    have hn0 : ¬ n < 0 := by
      rw [Int32.lt_iff_toInt_lt]
      exact Int.not_lt.mpr hn.1
    have hcl : n.toNatClampNeg ≤ 100000 := by
      show n.toInt.toNat ≤ 100000
      omega
    have fin : ∀ (C : String), (Cond.classLink (pw_inf M).1.cls idx C).before args s = true → va_AO C s → s.vm.findClass ("[" ++ (FieldType.object C).toString) = some (ca (t + 2)) → pw_wf (.inr (.inl (t, n.toNatClampNeg, fun _ => none))) → W p l e R s m args below meth c H locs cells slots Q (F0 m pc ls (.int n :: st.map (pw_v (pw_ad b B)))) := by
      intro C hl hao hfc hw
      refine W.anew hx hb hown hl (va_AO.use hao) rfl hd rfl hn0 (by omega) hc hs fun cA kA comp f1 f2 f3 f4 => ?_
      have hca : cA = ca (t + 2) := Option.some.inj (f1.symm.trans hfc)
      subst hca
      generalize hH1 : H.push ({ cls := ca (t + 2), slots := Array.replicate n.toNatClampNeg .null, vm := .none } : Cell) = H1
      have z1 : H1.size = H.size + 1 := by rw [← hH1, Array.size_push]
      have e1 : H1[H.size]? = some (arrV (ca (t + 2)) n.toNatClampNeg (fun _ => .null)) := by rw [← hH1, Array.getElem?_push_size, ← arrV_new]
      have o1 : ∀ q : Nat, q < H.size → H1[q]? = H[q]? := fun q hq => by rw [← hH1, Array.getElem?_push, if_neg (Nat.ne_of_lt hq)]
      have k1 := kk H1 (hR.push hw e1 z1 o1) (pw_SN hS z1 o1)
      rw [hR.adn] at k1
      exact k1
    rcases h1 with rfl | rfl
    · obtain rfl := Option.some.inj hr
      obtain ⟨kA, comp, k1, k2, k3, k4⟩ := (hK.2 2 _ rfl).2
      exact fin _ (hts _ (pw_has_in h2)) hnw.2.1 k4 (Or.inl rfl)
    · obtain rfl := Option.some.inj hr
      obtain ⟨kA, comp, k1, k2, k3, k4⟩ := (hK.2 3 _ rfl).2
      exact fin _ (hts _ (pw_has_in h2)) hnw.2.2 k4 (Or.inr rfl)
  · cases hok
theorem pw_ldv (hl : pw_lr (pw_ad b B) ls L) {k : Nat} {v : pw_V} (h : L[k]? = some (some v)) : ls[k]? = some (.val (pw_v (pw_ad b B) v)) := hl.2.2 k v h
/-- a simple instruction -/
theorem pw_step_sound (C : pw_ctx D ca b B N xs M p s m args meth c) {o : pw_O} (ho : pw_op M pc = some o) {pc' : Nat} {L' : pw_L} {st' : List pw_V} {h' : pw_H} (hs : pw_step o L st h = some (pc', L', st', h')) (hl : pw_lr (pw_ad b B) ls L) (hR : pw_rep D ca b B N xs h H) (hS : va_S (pw_A B) s.heap H locs) (hc : cells + h'.length ≤ R.cells + h.length) (hsl : slots + pw_size h' ≤ R.slots + pw_size h)
    (kk : ∀ (ls' : Array Slot) (H' : Heap) (locs' : List Loc) (cells' slots' : Nat), pw_lr (pw_ad b B) ls' L' → pw_rep D ca b B N xs h' H' → va_S (pw_A B) s.heap H' locs' → cells' + h.length = cells + h'.length → slots' + pw_size h = slots + pw_size h' → W p l e R s m args below meth c H' locs' cells' slots' Q (F0 m pc' ls' (st'.map (pw_v (pw_ad b B))))) : W p l e R s m args below meth c H locs cells slots Q (F0 m pc ls (st.map (pw_v (pw_ad b B)))) := by
  have hx := C.1
  have hb := C.2.1
  have hown := C.2.2.2.1
  have hts := C.2.2.2.2.1
  obtain ⟨i, np, t, q⟩ := o
  have same : pc' = np → L' = L → h' = h → W p l e R s m args below meth c H locs cells slots Q (F0 m np ls (st'.map (pw_v (pw_ad b B)))) := by
    rintro rfl rfl rfl
    exact kk ls H locs cells slots hl hR hS rfl rfl
  cases i with
  | iconst z =>
    obtain ⟨hd, hnp, -⟩ := pw_dec1 ho (by intro _ _ _ _ h; cases h)
    cases hs
    have k1 := same rfl rfl rfl
    rw [hnp] at k1
    exact lv_iconst hx hb hd rfl k1
  | bipush z =>
    obtain ⟨hd, hnp, -⟩ := pw_dec1 ho (by intro _ _ _ _ h; cases h)
    cases hs
    have k1 := same rfl rfl rfl
    rw [hnp] at k1
    exact lv_bipush hx hb hd rfl k1
  | sipush z =>
    obtain ⟨hd, hnp, -⟩ := pw_dec1 ho (by intro _ _ _ _ h; cases h)
    cases hs
    have k1 := same rfl rfl rfl
    rw [hnp] at k1
    exact lv_sipush hx hb hd rfl k1
  | ldc_w z =>
    obtain ⟨hd, hnp, hok⟩ := pw_dec1 ho (by intro _ _ _ _ h; cases h)
    cases hs
    have k1 := same rfl rfl rfl
    rw [hnp] at k1
    simp only [pw_okI] at hok
    split at hok
    · exact lv_ldcw hx hb hown (hts _ (pw_has_in hok)) hd k1
    · cases hok
  | aconst_null =>
    obtain ⟨hd, hnp, -⟩ := pw_dec1 ho (by intro _ _ _ _ h; cases h)
    cases hs
    have k1 := same rfl rfl rfl
    rw [hnp] at k1
    exact lv_null hx hb hd k1
  | iload k =>
    obtain ⟨hd, hnp, -⟩ := pw_dec1 ho (by intro _ _ _ _ h; cases h)
    simp only [pw_step] at hs
    split at hs
    · rename_i x hk
      cases hs
      have k1 := same rfl rfl rfl
      rw [hnp] at k1
      exact lv_iload hx hb hd (pw_ldv hl hk) k1
    · cases hs
  | iload_n k =>
    obtain ⟨hd, hnp, -⟩ := pw_dec1 ho (by intro _ _ _ _ h; cases h)
    simp only [pw_step] at hs
    split at hs
    · rename_i x hk
      cases hs
      have k1 := same rfl rfl rfl
      rw [hnp] at k1
      exact lv_iload_n hx hb hd rfl (pw_ldv hl hk) k1
    · cases hs
  | aload k =>
    obtain ⟨hd, hnp, -⟩ := pw_dec1 ho (by intro _ _ _ _ h; cases h)
    simp only [pw_step] at hs
    split at hs
    · rename_i x hk
      cases hs
      have k1 := same rfl rfl rfl
      rw [hnp] at k1
      cases x with
      | none => exact lv_aloadN hx hb hd (pw_ldv hl hk) k1
      | some x => exact lv_aload hx hb hd (pw_ldv hl hk) k1
    · cases hs
  | aload_n k =>
    obtain ⟨hd, hnp, -⟩ := pw_dec1 ho (by intro _ _ _ _ h; cases h)
    simp only [pw_step] at hs
    split at hs
    · rename_i x hk
      cases hs
      have k1 := same rfl rfl rfl
      rw [hnp] at k1
      cases x with
      | none => exact lv_aload_nN hx hb hd rfl (pw_ldv hl hk) k1
      | some x => exact lv_aload_n hx hb hd rfl (pw_ldv hl hk) k1
    · cases hs
  | istore k =>
    obtain ⟨hd, hnp, -⟩ := pw_dec1 ho (by intro _ _ _ _ h; cases h)
    simp only [pw_step] at hs
    split at hs
    · rename_i x st0
      split at hs
      · rename_i hk
        cases hs
        refine lv_istore hx hb hd hl.has hk rfl (fun ls' hl' => ?_)
        rw [← show _ = pc + 2 from hnp]
        exact kk ls' H locs cells slots (pw_lr.of (v := .inl x) hk hl') hR hS rfl rfl
      · cases hs
    · cases hs
  | istore_n k =>
    obtain ⟨hd, hnp, -⟩ := pw_dec1 ho (by intro _ _ _ _ h; cases h)
    simp only [pw_step] at hs
    split at hs
    · rename_i x st0
      split at hs
      · rename_i hk
        cases hs
        refine lv_istore_n hx hb hd rfl hl.has hk rfl (fun ls' hl' => ?_)
        rw [← show _ = pc + 1 from hnp]
        exact kk ls' H locs cells slots (pw_lr.of (v := .inl x) hk hl') hR hS rfl rfl
      · cases hs
    · cases hs
  | astore k =>
    obtain ⟨hd, hnp, -⟩ := pw_dec1 ho (by intro _ _ _ _ h; cases h)
    simp only [pw_step] at hs
    split at hs
    · rename_i x st0
      split at hs
      · rename_i hk
        cases hs
        cases x with
        | none =>
          refine lv_astoreN hx hb hd hl.has hk rfl (fun ls' hl' => ?_)
          rw [← show _ = pc + 2 from hnp]
          exact kk ls' H locs cells slots (pw_lr.of (v := .inr none) hk hl') hR hS rfl rfl
        | some x =>
          refine lv_astore hx hb hd hl.has hk rfl (fun ls' hl' => ?_)
          rw [← show _ = pc + 2 from hnp]
          exact kk ls' H locs cells slots (pw_lr.of (v := .inr (some x)) hk hl') hR hS rfl rfl
      · cases hs
    · cases hs
  | astore_n k =>
    obtain ⟨hd, hnp, -⟩ := pw_dec1 ho (by intro _ _ _ _ h; cases h)
    simp only [pw_step] at hs
    split at hs
    · rename_i x st0
      split at hs
      · rename_i hk
        cases hs
        cases x with
        | none =>
          refine lv_astore_nN hx hb hd rfl hl.has hk rfl (fun ls' hl' => ?_)
          rw [← show _ = pc + 1 from hnp]
          exact kk ls' H locs cells slots (pw_lr.of (v := .inr none) hk hl') hR hS rfl rfl
        | some x =>
          refine lv_astore_n hx hb hd rfl hl.has hk rfl (fun ls' hl' => ?_)
          rw [← show _ = pc + 1 from hnp]
          exact kk ls' H locs cells slots (pw_lr.of (v := .inr (some x)) hk hl') hR hS rfl rfl
      · cases hs
    · cases hs
  | iinc k z =>
    obtain ⟨hd, hnp, -⟩ := pw_dec1 ho (by intro _ _ _ _ h; cases h)
    simp only [pw_step] at hs
    split at hs
    · rename_i x hk
      cases hs
      obtain ⟨j, hj⟩ := List.getElem?_of_mem (pw_lv_mem (ad := pw_ad b B) hk)
      have hkl := (List.getElem?_eq_some_iff.mp hk).1
      refine lv_iinc hx hb hd hl.has hj rfl hkl rfl (fun ls' hl' => ?_)
      rw [← show _ = pc + 3 from hnp]
      exact kk ls' H locs cells slots (pw_lr.of (v := .inl (x + Int32.ofInt z)) hkl hl') hR hS rfl rfl
    · cases hs
  | iadd =>
    obtain ⟨hd, hnp, -⟩ := pw_dec1 ho (by intro _ _ _ _ h; cases h)
    simp only [pw_step] at hs
    split at hs
    · cases hs
      have k1 := same rfl rfl rfl
      rw [hnp] at k1
      exact lv_iadd hx hb hd  k1
    · cases hs
  | isub =>
    obtain ⟨hd, hnp, -⟩ := pw_dec1 ho (by intro _ _ _ _ h; cases h)
    simp only [pw_step] at hs
    split at hs
    · cases hs
      have k1 := same rfl rfl rfl
      rw [hnp] at k1
      exact lv_isub hx hb hd  k1
    · cases hs
  | imul =>
    obtain ⟨hd, hnp, -⟩ := pw_dec1 ho (by intro _ _ _ _ h; cases h)
    simp only [pw_step] at hs
    split at hs
    · cases hs
      have k1 := same rfl rfl rfl
      rw [hnp] at k1
      exact lv_imul hx hb hd  k1
    · cases hs
  | iand =>
    obtain ⟨hd, hnp, -⟩ := pw_dec1 ho (by intro _ _ _ _ h; cases h)
    simp only [pw_step] at hs
    split at hs
    · cases hs
      have k1 := same rfl rfl rfl
      rw [hnp] at k1
      exact lv_iand hx hb hd  k1
    · cases hs
  | ior =>
    obtain ⟨hd, hnp, -⟩ := pw_dec1 ho (by intro _ _ _ _ h; cases h)
    simp only [pw_step] at hs
    split at hs
    · cases hs
      have k1 := same rfl rfl rfl
      rw [hnp] at k1
      exact lv_ior hx hb hd  k1
    · cases hs
  | ixor =>
    obtain ⟨hd, hnp, -⟩ := pw_dec1 ho (by intro _ _ _ _ h; cases h)
    simp only [pw_step] at hs
    split at hs
    · cases hs
      have k1 := same rfl rfl rfl
      rw [hnp] at k1
      exact lv_ixor hx hb hd  k1
    · cases hs
  | ishl =>
    obtain ⟨hd, hnp, -⟩ := pw_dec1 ho (by intro _ _ _ _ h; cases h)
    simp only [pw_step] at hs
    split at hs
    · cases hs
      have k1 := same rfl rfl rfl
      rw [hnp] at k1
      exact lv_ishl hx hb hd  k1
    · cases hs
  | ishr =>
    obtain ⟨hd, hnp, -⟩ := pw_dec1 ho (by intro _ _ _ _ h; cases h)
    simp only [pw_step] at hs
    split at hs
    · cases hs
      have k1 := same rfl rfl rfl
      rw [hnp] at k1
      exact lv_ishr hx hb hd  k1
    · cases hs
  | iushr =>
    obtain ⟨hd, hnp, -⟩ := pw_dec1 ho (by intro _ _ _ _ h; cases h)
    simp only [pw_step] at hs
    split at hs
    · cases hs
      have k1 := same rfl rfl rfl
      rw [hnp] at k1
      exact lv_iushr hx hb hd rfl k1
    · cases hs
  | idiv =>
    obtain ⟨hd, hnp, -⟩ := pw_dec1 ho (by intro _ _ _ _ h; cases h)
    simp only [pw_step] at hs
    split at hs
    · split at hs
      · cases hs
      · rename_i hne
        cases hs
        have k1 := same rfl rfl rfl
        rw [hnp] at k1
        exact lv_idiv hx hb hd hne k1
    · cases hs
  | irem =>
    obtain ⟨hd, hnp, -⟩ := pw_dec1 ho (by intro _ _ _ _ h; cases h)
    simp only [pw_step] at hs
    split at hs
    · split at hs
      · cases hs
      · rename_i hne
        cases hs
        have k1 := same rfl rfl rfl
        rw [hnp] at k1
        exact lv_irem hx hb hd hne k1
    · cases hs
  | ineg =>
    obtain ⟨hd, hnp, -⟩ := pw_dec1 ho (by intro _ _ _ _ h; cases h)
    simp only [pw_step] at hs
    split at hs
    · cases hs
      have k1 := same rfl rfl rfl
      rw [hnp] at k1
      exact lv_ineg hx hb hd  k1
    · cases hs
  | dup =>
    obtain ⟨hd, hnp, -⟩ := pw_dec1 ho (by intro _ _ _ _ h; cases h)
    simp only [pw_step] at hs
    split at hs
    · cases hs
      have k1 := same rfl rfl rfl
      rw [hnp] at k1
      exact lv_dup hx hb hd (pw_cat _ _) k1
    · cases hs
  | dup_x1 =>
    obtain ⟨hd, hnp, -⟩ := pw_dec1 ho (by intro _ _ _ _ h; cases h)
    simp only [pw_step] at hs
    split at hs
    · cases hs
      have k1 := same rfl rfl rfl
      rw [hnp] at k1
      exact lv_dup_x1 hx hb hd (pw_cat _ _) (pw_cat _ _) k1
    · cases hs
  | dup2 =>
    obtain ⟨hd, hnp, -⟩ := pw_dec1 ho (by intro _ _ _ _ h; cases h)
    simp only [pw_step] at hs
    split at hs
    · cases hs
      have k1 := same rfl rfl rfl
      rw [hnp] at k1
      exact lv_dup2_11 hx hb hd (pw_cat _ _) (pw_cat _ _) k1
    · cases hs
  | pop =>
    obtain ⟨hd, hnp, -⟩ := pw_dec1 ho (by intro _ _ _ _ h; cases h)
    simp only [pw_step] at hs
    split at hs
    · cases hs
      have k1 := same rfl rfl rfl
      rw [hnp] at k1
      exact lv_pop hx hb hd (pw_cat _ _) k1
    · cases hs
  | ifCond cd off =>
    obtain ⟨hd, hnp, hok⟩ := pw_dec1 ho (by intro _ _ _ _ h; cases h)
    have htg := of_decide_eq_true hok
    simp only [pw_step] at hs
    split at hs
    · rename_i x st0
      cases hs
      have kt : pw_cond cd x 0 = true → W p l e R s m args below meth c H locs cells slots Q (F0 m t ls (st'.map (pw_v (pw_ad b B)))) := fun hcd => by
        have k1 := kk ls H locs cells slots hl hR hS rfl rfl
        rw [hcd] at k1
        exact k1
      have kf : pw_cond cd x 0 = false → W p l e R s m args below meth c H locs cells slots Q (F0 m (pc + 3) ls (st'.map (pw_v (pw_ad b B)))) := fun hcd => by
        have k1 := kk ls H locs cells slots hl hR hS rfl rfl
        rw [hcd] at k1
        rw [← show _ = pc + 3 from hnp]
        exact k1
      cases cd
      case eq => exact lv_if_eq hx hb hd htg (fun hq => kt (by simp [pw_cond, hq])) (fun hq => kf (by simp [pw_cond, hq]))
      case ne => exact lv_if_ne hx hb hd htg (fun hq => kt (by simp [pw_cond, hq])) (fun hq => kf (by simp [pw_cond, hq]))
      case lt => exact lv_if_lt hx hb hd htg (fun hq => kt (by simp [pw_cond, hq])) (fun hq => kf (by simp [pw_cond, hq]))
      case ge => exact lv_if_ge hx hb hd htg (fun hq => kt (by simp [pw_cond, hq])) (fun hq => kf (by simp [pw_cond, hq]))
      case gt => exact lv_if_gt hx hb hd htg (fun hq => kt (by simp [pw_cond, hq])) (fun hq => kf (by simp [pw_cond, hq]))
      case le => exact lv_if_le hx hb hd htg (fun hq => kt (by simp [pw_cond, hq])) (fun hq => kf (by simp [pw_cond, hq]))
    · cases hs
  | if_icmp cd off =>
    obtain ⟨hd, hnp, hok⟩ := pw_dec1 ho (by intro _ _ _ _ h; cases h)
    have htg := of_decide_eq_true hok
    simp only [pw_step] at hs
    split at hs
    · rename_i y x st0
      cases hs
      have kt : pw_cond cd x y = true → W p l e R s m args below meth c H locs cells slots Q (F0 m t ls (st'.map (pw_v (pw_ad b B)))) := fun hcd => by
        have k1 := kk ls H locs cells slots hl hR hS rfl rfl
        rw [hcd] at k1
        exact k1
      have kf : pw_cond cd x y = false → W p l e R s m args below meth c H locs cells slots Q (F0 m (pc + 3) ls (st'.map (pw_v (pw_ad b B)))) := fun hcd => by
        have k1 := kk ls H locs cells slots hl hR hS rfl rfl
        rw [hcd] at k1
        rw [← show _ = pc + 3 from hnp]
        exact k1
      cases cd
      case eq => exact lv_icmp_eq hx hb hd htg (fun hq => kt (by simp [pw_cond, hq])) (fun hq => kf (by simp [pw_cond, hq]))
      case ne => exact lv_icmp_ne hx hb hd htg (fun hq => kt (by simp [pw_cond, hq])) (fun hq => kf (by simp [pw_cond, hq]))
      case lt => exact lv_icmp_lt hx hb hd htg (fun hq => kt (by simp [pw_cond, hq])) (fun hq => kf (by simp [pw_cond, hq]))
      case ge => exact lv_icmp_ge hx hb hd htg (fun hq => kt (by simp [pw_cond, hq])) (fun hq => kf (by simp [pw_cond, hq]))
      case gt => exact lv_icmp_gt hx hb hd htg (fun hq => kt (by simp [pw_cond, hq])) (fun hq => kf (by simp [pw_cond, hq]))
      case le => exact lv_icmp_le hx hb hd htg (fun hq => kt (by simp [pw_cond, hq])) (fun hq => kf (by simp [pw_cond, hq]))
    · cases hs
  | ifnull off =>
    obtain ⟨hd, hnp, hok⟩ := pw_dec1 ho (by intro _ _ _ _ h; cases h)
    have htg := of_decide_eq_true hok
    simp only [pw_step] at hs
    split at hs
    · cases hs
      have k1 := kk ls H locs cells slots hl hR hS rfl rfl
      exact lv_ifnullN hx hb hd htg k1
    · cases hs
      have k1 := kk ls H locs cells slots hl hR hS rfl rfl
      rw [hnp] at k1; exact lv_ifnull hx hb hd k1
    · cases hs
  | ifnonnull off =>
    obtain ⟨hd, hnp, hok⟩ := pw_dec1 ho (by intro _ _ _ _ h; cases h)
    have htg := of_decide_eq_true hok
    simp only [pw_step] at hs
    split at hs
    · cases hs
      have k1 := kk ls H locs cells slots hl hR hS rfl rfl
      rw [hnp] at k1; exact lv_ifnonnullN hx hb hd k1
    · cases hs
      have k1 := kk ls H locs cells slots hl hR hS rfl rfl
      exact lv_ifnonnull hx hb hd htg k1
    · cases hs
  | goto off =>
    obtain ⟨hd, hnp, hok⟩ := pw_dec1 ho (by intro _ _ _ _ h; cases h)
    have htg := of_decide_eq_true hok
    cases hs
    exact lv_goto hx hb hd htg (kk ls H locs cells slots hl hR hS rfl rfl)
  | tableswitch df lo hi offs =>
    obtain ⟨⟨len, hd, hnp, -⟩, hok⟩ := pw_dec ho
    simp only [pw_okI, Bool.and_eq_true, decide_eq_true_eq] at hok
    obtain ⟨⟨htg, hql⟩, hqs⟩ := hok
    simp only [pw_step] at hs
    split at hs
    · rename_i x st0
      split at hs
      · rename_i hout
        cases hs
        exact lv_tableOut hx hb hd hout htg (kk ls H locs cells slots hl hR hS rfl rfl)
      · rename_i hin
        split at hs
        · rename_i u hu
          have hj := (List.getElem?_eq_some_iff.mp hu).1
          have e1 : (q.map (fun u : Nat => some ((u : Int) - (pc : Int))))[(x.toInt - lo).toNat]? = some (some ((u : Int) - (pc : Int))) := by rw [List.getElem?_map, hu]; rfl
          rw [hqs, List.getElem?_map, List.getElem?_range hj] at e1
          have e2 : offs[(x.toInt - lo).toNat]? = some ((u : Int) - (pc : Int)) := Option.some.inj e1
          cases hs
          exact lv_tableIn hx hb hd (fun h => hin (Or.inl h)) (fun h => hin (Or.inr h)) e2 (by omega) (kk ls H locs cells slots hl hR hS rfl rfl)
        · cases hs
    · cases hs
  | getfield idx =>
    simp only [pw_step] at hs
    split at hs
    · rename_i a st0 k q'
      split at hs
      · rename_i c0 fs ha
        split at hs
        · rename_i hct
          subst hct
          split at hs
          · rename_i v hv
            cases hs
            exact pw_getf C ho hR rfl ha hv (kk ls H locs cells slots hl hR hS rfl rfl)
          · cases hs
        · cases hs
      · cases hs
    · cases hs
  | putfield idx =>
    simp only [pw_step] at hs
    split at hs
    · rename_i v a st0 k kd q'
      split at hs
      · rename_i c0 fs ha
        split at hs
        · rename_i hct
          obtain ⟨rfl, hk, hkd⟩ := hct
          cases hs
          have hzz : pw_size (h.set a (.inr (.inr (c0, fs.set k v)))) = pw_size h := pw_size_set ha (by simp [pw_sz])
          exact pw_putf C ho hR hS rfl ha hk hkd (fun H1 locs1 hR1 hS1 => kk ls H1 locs1 cells slots hl hR1 hS1 (by rw [List.length_set]) (by rw [hzz]))
        · cases hs
      · cases hs
    · cases hs
  | iaload =>
    simp only [pw_step] at hs
    split at hs
    · split at hs
      · rename_i g n f ha
        split at hs
        · rename_i hg
          cases hs
          exact pw_iald C ho hR hS ha hg.1 hg.2 (kk ls H locs cells slots hl hR hS rfl rfl)
        · cases hs
      · cases hs
    · cases hs
  | baload =>
    simp only [pw_step] at hs
    split at hs
    · split at hs
      · rename_i g n f ha
        split at hs
        · rename_i hg
          obtain ⟨rfl, hg⟩ := hg
          cases hs
          exact pw_zald C ho hR ha hg (kk ls H locs cells slots hl hR hS rfl rfl)
        · cases hs
      · cases hs
    · cases hs
  | iastore =>
    simp only [pw_step] at hs
    split at hs
    · rename_i x i a st0
      split at hs
      · rename_i g n f ha
        split at hs
        · rename_i hg
          obtain ⟨rfl, hg⟩ := hg
          have hzz : pw_size (h.set a (.inl (0, n, upd f i.toNatClampNeg x))) = pw_size h := pw_size_set ha rfl
          cases hs
          exact pw_iast C ho hR hS ha hg (fun H1 locs1 hR1 hS1 => kk ls H1 locs1 cells slots hl hR1 hS1 (by rw [List.length_set]) (by rw [hzz]))
        · cases hs
      · cases hs
    · cases hs
  | bastore =>
    simp only [pw_step] at hs
    split at hs
    · rename_i x i a st0
      split at hs
      · rename_i g n f ha
        split at hs
        · rename_i hg
          obtain ⟨rfl, hg, hbt⟩ := hg
          have hzz : pw_size (h.set a (.inl (1, n, upd f i.toNatClampNeg x))) = pw_size h := pw_size_set ha rfl
          cases hs
          exact pw_zast C ho hR hS ha hg hbt (fun H1 locs1 hR1 hS1 => kk ls H1 locs1 cells slots hl hR1 hS1 (by rw [List.length_set]) (by rw [hzz]))
        · cases hs
      · cases hs
    · cases hs
  | aaload =>
    simp only [pw_step] at hs
    split at hs
    · split at hs
      · rename_i g n f ha
        split at hs
        · rename_i hg
          cases hs
          exact pw_aald C ho hR ha hg (kk ls H locs cells slots hl hR hS rfl rfl)
        · cases hs
      · cases hs
    · cases hs
  | aastore =>
    simp only [pw_step] at hs
    split at hs
    · rename_i v i a st0
      split at hs
      · rename_i g n f c0 fs ha hv
        split at hs
        · rename_i hg
          obtain ⟨rfl, hg⟩ := hg
          have hzz : pw_size (h.set a (.inr (.inl (c0, n, va_up f i.toNatClampNeg (some v))))) = pw_size h := pw_size_set ha rfl
          cases hs
          exact pw_aast C ho hR hS ha hv hg (fun H1 locs1 hR1 hS1 => kk ls H1 locs1 cells slots hl hR1 hS1 (by rw [List.length_set]) (by rw [hzz]))
        · cases hs
      · cases hs
    · cases hs
  | arraylength =>
    simp only [pw_step] at hs
    split at hs
    · split at hs
      · rename_i g n f ha
        cases hs
        exact pw_alen C ho hR hS ha (kk ls H locs cells slots hl hR hS rfl rfl)
      · cases hs
    · cases hs
  | newarray ty =>
    simp only [pw_step] at hs
    split at hs
    · split at hs
      · rename_i n st0 hn
        cases hs
        simp only [List.length_append, List.length_singleton, pw_size_push] at hc hsl
        exact pw_newi C ho hR hS hn (by omega) (by show slots + pw_sz (.inl (t, n.toNatClampNeg, fun _ => 0)) ≤ _; omega) (fun H1 hR1 hS1 => kk ls H1 locs _ _ hl hR1 hS1 (by simp only [List.length_append, List.length_singleton]; omega) (by rw [pw_size_push]; show slots + n.toNatClampNeg + _ = slots + (_ + n.toNatClampNeg); omega))
      · cases hs
    · cases hs
  | anewarray idx =>
    simp only [pw_step] at hs
    split at hs
    · split at hs
      · rename_i n st0 hn
        cases hs
        simp only [List.length_append, List.length_singleton, pw_size_push] at hc hsl
        exact pw_newr C ho hR hS hn (by omega) (by show slots + pw_sz (.inr (.inl (t, n.toNatClampNeg, fun _ => none))) ≤ _; omega) (fun H1 hR1 hS1 => kk ls H1 locs _ _ hl hR1 hS1 (by simp only [List.length_append, List.length_singleton]; omega) (by rw [pw_size_push]; show slots + n.toNatClampNeg + _ = slots + (_ + n.toNatClampNeg); omega))
      · cases hs
    · cases hs
  | new idx =>
    cases hs
    simp only [List.length_append, List.length_singleton, pw_size_push] at hc hsl
    exact pw_newo C ho hR hS (by omega) (by show slots + pw_sz (.inr (.inr (t, pw_def t))) ≤ _; omega) (fun H1 hR1 hS1 => kk ls H1 locs _ _ hl hR1 hS1 (by simp only [List.length_append, List.length_singleton]; omega) (by rw [pw_size_push]; show slots + (pw_def t).length + _ = slots + (_ + (pw_def t).length); omega))
  | _ => cases hs
end PWT
