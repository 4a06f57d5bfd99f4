section PWK
variable {p : Program} {l : Launch} {e : Env} {R : Room} {s : State} {m : MethodId} {args : Array Value} {below : List Frame} {meth : Method} {c : Code} {H : Heap} {locs : List Loc} {cells slots : Nat} {Q : State → Prop}
variable {D : va_G} {ca : Nat → ClassId} {b B N : Nat} {xs : Nat → Int32} {M pc np t : Nat} {q : List Nat} {ls : Array Slot} {L : pw_L} {st : List pw_V} {h : pw_H}
theorem pw_call {st0 rest : List Value} {a : Array Value} {r : Option pw_V} {h1 : pw_H} {mc ms : Nat} (hr : va_Run p l e R s m args below meth c H locs cells slots mc ms (F0 m pc ls st0) rest (pw_Qc D ca b B N xs r h1 a) (pw_A B)) (hS : va_S (pw_A B) s.heap H locs)
    (kk : ∀ (H1 : Heap) (locs1 : List Loc), pw_rep D ca b B N xs h1 H1 → va_S (pw_A B) s.heap H1 locs1 → W p l e R s m args below meth c H1 locs1 (cells + mc) (slots + ms) Q (F0 m (pc + 3) ls ((r.map (pw_v (pw_ad b B))).toList ++ rest))) : W p l e R s m args below meth c H locs cells slots Q (F0 m pc ls st0) := by
  intro T hT X
  obtain ⟨v, st₀, t, T', L, h0, X', hL, e1, e2, ⟨hv, hR1, hz, hk⟩, st⟩ := hr T hT X
  cases hv
  rw [h0] at hz hk
  rw [← e1] at hR1
  obtain ⟨t2, a1, b1⟩ := kk T'.heap (locs ++ L) hR1 ⟨Nat.le_trans hS.1 (by rw [e1]; exact hz), fun q h1 h2 => by rw [e1, hk q (Nat.lt_of_lt_of_le h1 hS.1) h2]; exact hS.2.1 q h1 h2, fun q hq => by
      rcases List.mem_append.mp hq with h | h
      · exact hS.2.2 q h
      · exact hL q h⟩ T' rfl X'
  exact ⟨t2, st t2 a1, b1⟩
theorem pw_pre (C : pw_ctx D ca b B N xs M p s m args meth c) (hR : pw_rep D ca b B N xs h H) (hS : va_S (pw_A B) s.heap H locs) (as : List pw_V) : ∀ U : State, U.heap = H → s.WarmedH U.vm → pw_Pc D ca b B N xs as h (as.map (pw_v (pw_ad b B))).toArray U := by
  obtain ⟨hx, hb, hml, hown, hts, hK, hX, hbB, hnm, hnw⟩ := C
  intro U hU hW
  refine ⟨rfl, by rw [hU]; exact hR, va_K.moved hW.alike hK, ?_, ⟨hbB.1, ?_⟩, hnw.warm hW⟩
  · refine va_X.moved hW.alike ?_
    rw [hU]
    exact hX.kept (hS.2.1 b (Nat.lt_of_lt_of_le hbB.1 hbB.2) (Nat.not_le.mpr hbB.1))
  · rw [hU]
    exact Nat.le_trans hbB.2 hS.1
theorem pw_tail (ad : Nat → Nat) (r : Option pw_V) (rest : List pw_V) : (r.map (pw_v ad)).toList ++ rest.map (pw_v ad) = (r.toList ++ rest).map (pw_v ad) := by cases r <;> rfl
section PWN
variable {y : MethodName} {bytes cc : ByteArray} {maxL nL mc ms n index : Nat} {ret : Option FieldType} {ws : List Cond} {rm : Room} {Pc : Array Value → State → Prop} {Qc : Array Value → State → Outcome → State → Prop} {free : Addr → Prop} {Ts : List Cond} {own host : String} {As rest : List Value} {g : JFrame}
/-- a static call that leaves up to nine words below it -/
theorem pw_runS9 (S : CallFix p m c cc nL s args Ts own) (hM : Met l y ws rm Pc Qc mc ms free) (cw : CallB R s args own index y bytes maxL ret ws rm mc ms n ∧ (Cond.static y).before args s = true) (h9 : 9 + (maxL + 11) + rm.locals ≤ R.locals) (hp : PreS s H Pc As)
    (hg : g.method = m) (hn : As.length = n) (hsize : g.locals.size = nL) (hstack : g.stack = As.reverse ++ rest) (hW : 2 * g.monitorRoom + (rest.map fun v => v.category).sum ≤ 9) (hdg : decode cc g.pc = .ok (.invokestatic index, 3)) (hf : cells + mc ≤ R.cells ∧ slots + ms ≤ R.slots) :
    va_Run p l e R s m args below meth c H locs cells slots mc ms g rest (Qc As.toArray) free := by
  obtain ⟨⟨u1, u2, u3, -, u5, u6, u7, u8, u9, u10, u11⟩, u12⟩ := cw
  obtain ⟨v1, v2, v3, v4, -⟩ := S
  have hK : Back l R p e below s args y 3 9 (PreOf R mc ms Pc) (PostOf Qc mc ms free) := back_of (bytes := bytes) (maxL := maxL) (ret := ret) hM hp.1 u1 u2 u3 h9 u5 u6 (fun _ _ hU => word_at hU (Or.inl (by first | rfl | simp [Cond.onTables, Cond.keeps, Cond.steady])) u8)
  intro T hT X
  obtain ⟨v, vm2, ⟨U2, l2, c2, s2⟩, hw2, X2, ⟨g2, mk, t2, L2, e1, e2, hq, f1, hL, f2, f3⟩, go⟩ := callS X v1 (bytes := bytes) (maxL := maxL) (ret := ret) v4 u11 u12 u8 u7 u9 hK hg (hsize.trans v3.symm) (argsL := As) (rest := rest) (fun sig hs => hn.trans (u10 sig hs)) hstack hW (by rw [v2]; exact hdg) (fun vm3 hw3 => ⟨hf.1, hf.2, hp.2 (T.setVm vm3) hT hw3⟩)
  dsimp only [Pt.U, Pt.locs, Pt.cells, Pt.slots] at X2 e1 e2 f1 f2 f3 go
  subst f1; subst f2; subst f3
  exact ⟨v, (T.setVm vm2).calling g2 mk As.toArray, t2, U2, L2, hT, X2, hL, e1, e2, hq, go⟩
theorem pw_runSN9 (S : CallFix p m c cc nL s args Ts own) (hM : Met l y ws rm Pc Qc mc ms free) (cw : va_CN R s args own index y host bytes maxL ret ws rm mc ms n ∧ (Cond.static y).before args s = true ∧ True) (h9 : 9 + (maxL + 11) + rm.locals ≤ R.locals) (hp : PreS s H Pc As)
    (hg : g.method = m) (hn : As.length = n) (hsize : g.locals.size = nL) (hstack : g.stack = As.reverse ++ rest) (hW : 2 * g.monitorRoom + (rest.map fun v => v.category).sum ≤ 9) (hdg : decode cc g.pc = .ok (.invokestatic index, 3)) (hf : cells + mc ≤ R.cells ∧ slots + ms ≤ R.slots) :
    va_Run p l e R s m args below meth c H locs cells slots mc ms g rest (Qc As.toArray) free := by
  obtain ⟨⟨⟨u1, u2, u3, -, u5, u6⟩, u7, u8, u9, u10, u11⟩, u12, -⟩ := cw
  obtain ⟨v1, v2, v3, v4, -⟩ := S
  have hK : Back l R p e below s args y 3 9 (PreOf R mc ms Pc) (PostOf Qc mc ms free) := back_of (bytes := bytes) (maxL := maxL) (ret := ret) hM hp.1 u1 u2 u3 h9 u5 u6 (fun _ _ hU => word_at hU (Or.inl (by first | rfl | simp [Cond.onTables, Cond.keeps, Cond.steady])) u8)
  have hP2 := hp.2
  intro T hT X
  obtain ⟨v, vm2, ⟨U2, l2, c2, s2⟩, hw2, X2, ⟨g2, mk, t2, L2, e1, e2, hq, f1, hL, f2, f3⟩, go⟩ := va_callSN X v1 (bytes := bytes) (maxL := maxL) (ret := ret) v4 u11 u12 u8 u7 u9 hK hg (hsize.trans v3.symm) (argsL := As) (rest := rest) (fun sig hs => hn.trans (u10 sig hs)) hstack hW (by rw [v2]; exact hdg) (fun vm3 hw3 => ⟨hf.1, hf.2, hP2 (T.setVm vm3) hT hw3⟩)
  dsimp only [Pt.U, Pt.locs, Pt.cells, Pt.slots] at X2 e1 e2 f1 f2 f3 go
  subst f1; subst f2; subst f3
  exact ⟨v, (T.setVm vm2).calling g2 mk As.toArray, t2, U2, L2, hT, X2, hL, e1, e2, hq, go⟩
end PWN
set_option maxHeartbeats 1000000 in
/-- a call of a method of the table -/
theorem pw_calls {n d : Nat} (S : pw_Snd l D ca b B N xs n) (C : pw_ctx D ca b B N xs M p s m args meth c) {i : Instr} (ho : pw_op M pc = some (i, np, t, q)) (hic : pw_isCall i = true) (hq1 : ∀ w, q ≠ [w]) (hq2 : ∀ w k, q ≠ [w, k]) (hLl : L.length = (pw_inf M).2.2.1) (hl : pw_lr (pw_ad b B) ls L) (hR : pw_rep D ca b B N xs h H) (hS : va_S (pw_A B) s.heap H locs) (hfr : d + 1 ≤ R.frames) (hlo : 37 * (d + 1) ≤ R.locals) (ht : 0 < t ∧ t < 115)
    {as rest : List pw_V} (ha : pw_args i q st h = some (as, rest)) (has : as.length ≤ (pw_inf t).2.2.1) {r1 : Option pw_V} {h1 : pw_H} (hrun : pw_run n d t 0 (pw_ent t as) [] h = some (r1, h1)) (hc : cells + h1.length ≤ R.cells + h.length) (hs : slots + pw_size h1 ≤ R.slots + pw_size h)
    (kk : ∀ (H1 : Heap) (locs1 : List Loc), pw_rep D ca b B N xs h1 H1 → va_S (pw_A B) s.heap H1 locs1 → W p l e R s m args below meth c H1 locs1 (cells + (h1.length - h.length)) (slots + (pw_size h1 - pw_size h)) Q (F0 m np ls ((r1.toList ++ rest).map (pw_v (pw_ad b B))))) : W p l e R s m args below meth c H locs cells slots Q (F0 m pc ls (st.map (pw_v (pw_ad b B)))) := by
  have C0 := C
  obtain ⟨hx, hb, hml, hown, hts, hK, hX, hbB, hnm, hnw⟩ := C
  have hmono := pw_mono _ _ _ _ _ _ _ _ _ hrun
  obtain ⟨hd, hnp, hok⟩ := pw_dec1 ho (by intro _ _ _ _ h; rw [h] at hic; cases hic)
  have hsz : ls.size = (pw_inf M).2.2.1 := hl.1.trans hLl
  have hf : cells + (h1.length - h.length) ≤ R.cells ∧ slots + (pw_size h1 - pw_size h) ≤ R.slots := ⟨by omega, by omega⟩
  have hG := pw_good ht.1 ht.2
  have hpre := pw_pre C0 hR hS
  have hCF : CallFix p m c (pw_inf M).2.1 (pw_inf M).2.2.1 s args pw_tbl (pw_inf M).1.cls := ⟨hx, hb, hml, hown, hts⟩
  have fin : ∀ {a : Array Value}, va_Run p l e R s m args below meth c H locs cells slots (h1.length - h.length) (pw_size h1 - pw_size h) (F0 m pc ls (st.map (pw_v (pw_ad b B)))) (rest.map (pw_v (pw_ad b B))) (pw_Qc D ca b B N xs r1 h1 a) (pw_A B) → pw_ilen i = 3 → W p l e R s m args below meth c H locs cells slots Q (F0 m pc ls (st.map (pw_v (pw_ad b B)))) := by
    intro a hr hi3
    rw [hi3] at hnp
    rw [hnp] at kk
    refine pw_call hr hS (fun H1 locs1 hR1 hS1 => ?_)
    rw [pw_tail]
    exact kk H1 locs1 hR1 hS1
  cases i with
  | invokestatic idx =>
    simp only [pw_okI] at hok
    split at hok
    · exact absurd rfl (hq2 _ _)
    · rename_i n0 z w1 w2 w3 w4 w5
      simp only [Bool.and_eq_true] at hok
      obtain ⟨hW, hst⟩ := hok
      simp only [pw_okW, Bool.and_eq_true, decide_eq_true_eq] at hW
      obtain ⟨⟨⟨⟨⟨⟨hlk, hini⟩, hn1⟩, hn2⟩, hpar⟩, hmax⟩, hpl⟩ := hW
      simp only [pw_args] at ha
      split at ha
      · rename_i hnl
        cases ha
        have hM := pw_met S hrun has hpl
        have hstk : st.map (pw_v (pw_ad b B)) = (((st.take n0).reverse).map (pw_v (pw_ad b B))).reverse ++ (st.drop n0).map (pw_v (pw_ad b B)) := by
          rw [List.map_reverse, List.reverse_reverse, ← List.map_append, List.take_append_drop]
        have hln : ((((st.take n0).reverse).map (pw_v (pw_ad b B)))).length = n0 := by
          rw [List.length_map, List.length_reverse, List.length_take]; omega
        have hrm : 2 * (F0 m pc ls (st.map (pw_v (pw_ad b B)))).monitorRoom + (((st.drop n0).map (pw_v (pw_ad b B))).map fun v => v.category).sum ≤ 9 := by
          show 2 * 0 + _ ≤ 9
          rw [pw_cats, List.length_drop]
          omega
        have hroom : d + 1 ≤ R.frames ∧ 8 + ((pw_inf t).2.2.1 + 11) + 37 * d ≤ R.locals := ⟨hfr, by omega⟩
        have h9 : 9 + ((pw_inf t).2.2.1 + 11) + 37 * d ≤ R.locals := by omega
        cases z with
        | zero =>
          refine fin (pw_runS9 hCF hM ⟨callB_of n0 hts hG rfl rfl rfl (hts _ (pw_has_in hini)) (hts _ (pw_has_in hlk)) ⟨hn1, hn2, hpar⟩ hroom, hts _ (pw_has_in hst)⟩ h9 ⟨pw_blind _ _ _ _ _ _ _ _, hpre _⟩ rfl hln hsz hstk hrm hd hf) rfl
        | succ z =>
          have hlk2 : va_Nw (.methodLinkNest (pw_inf M).1.cls idx (pw_inf t).1 "BoundWalks") s := hnw.1 _ (List.mem_of_getElem? (of_decide_eq_true hlk)) rfl
          refine fin (pw_runSN9 hCF hM ⟨va_cnB n0 hts hG rfl rfl rfl hlk2 (hts _ (pw_has_in hini)) ⟨hn1, hn2, hpar⟩ hroom, hts _ (pw_has_in hst), trivial⟩ h9 ⟨pw_blind _ _ _ _ _ _ _ _, hpre _⟩ rfl hln hsz hstk hrm hd hf) rfl
      · cases ha
    · cases hok
  | invokevirtual idx =>
    simp only [pw_okI] at hok
    split at hok
    · rename_i n0 k w1 w2 w3 w4 w5
      simp only [Bool.and_eq_true, decide_eq_true_eq] at hok
      obtain ⟨⟨⟨hW, him⟩, hsel⟩, hkc⟩ := hok
      simp only [pw_okW, Bool.and_eq_true, decide_eq_true_eq] at hW
      obtain ⟨⟨⟨⟨⟨⟨hlk, hini⟩, hn1⟩, hn2⟩, hpar⟩, hmax⟩, hpl⟩ := hW
      simp only [pw_args] at ha
      split at ha
      · rename_i hnl
        split at ha
        · rename_i a rest0 hdrop
          split at ha
          · rename_i c0 fs hao
            split at ha
            · rename_i hck
              subst hck
              cases ha
              have hM := pw_met S hrun has hpl
              have hstk : st.map (pw_v (pw_ad b B)) = (((st.take n0).reverse).map (pw_v (pw_ad b B))).reverse ++ .ref (pw_ad b B a) :: rest.map (pw_v (pw_ad b B)) := by
                rw [List.map_reverse, List.reverse_reverse]
                have e1 : (.ref (pw_ad b B a) :: rest.map (pw_v (pw_ad b B)) : List Value) = (st.drop n0).map (pw_v (pw_ad b B)) := by rw [hdrop]; rfl
                rw [e1, ← List.map_append, List.take_append_drop]
              have hln : ((((st.take n0).reverse).map (pw_v (pw_ad b B)))).length = n0 := by
                rw [List.length_map, List.length_reverse, List.length_take]; omega
              have hdl : (st.drop n0).length = rest.length + 1 := by rw [hdrop]; rfl
              rw [List.length_drop] at hdl
              have hrm : 2 * (F0 m pc ls (st.map (pw_v (pw_ad b B)))).monitorRoom + ((rest.map (pw_v (pw_ad b B))).map fun v => v.category).sum ≤ 8 := lv_room (by rw [pw_cats]; omega)
              have hroom : d + 1 ≤ R.frames ∧ 8 + ((pw_inf t).2.2.1 + 11) + 37 * d ≤ R.locals := ⟨hfr, by omega⟩
              obtain ⟨j, rfl, -, hat⟩ := hR.obj hao (by intro h; cases h)
              have hrecv : ∃ cellB : Cell, H[pw_ad b B (j + 1)]? = some cellB ∧ cellB.vm.isStatics = false ∧ s.vm.findClass (pw_inf t).1.cls = some cellB.cls := by
                cases hcc : pw_cl[c0]? with
                | none => rw [hcc] at hkc; cases hkc
                | some cc =>
                  rw [hcc] at hkc
                  have e3 : cc.1 = (pw_inf t).1.cls := Option.some.inj hkc
                  rw [← e3]
                  exact va_recv hK (pw_one hR hao) (ci := c0) (q0 := 0) hcc rfl
              exact fin (va_runV (C := (pw_inf t).1.cls) hCF hM ⟨callB_of n0 hts hG rfl rfl rfl (hts _ (pw_has_in hini)) (hts _ (pw_has_in hlk)) ⟨hn1, hn2, hpar⟩ hroom, hts _ (pw_has_in him), hts _ (pw_has_in hsel)⟩ ⟨pw_blind _ _ _ _ _ _ _ _, hrecv, hpre (.inr (some (j + 1)) :: (st.take n0).reverse)⟩ rfl hln hsz hstk hrm hd hf) rfl
            · cases ha
          · cases ha
        · cases ha
      · cases ha
    · cases hok
  | invokespecial idx =>
    simp only [pw_okI] at hok
    split at hok
    · exact absurd rfl (hq1 _)
    · rename_i n0 k w1 w2 w3 w4 w5
      simp only [Bool.and_eq_true, decide_eq_true_eq] at hok
      obtain ⟨⟨⟨hW, him⟩, hnin⟩, hrno⟩ := hok
      simp only [pw_okW, Bool.and_eq_true, decide_eq_true_eq] at hW
      obtain ⟨⟨⟨⟨⟨⟨hlk, hini⟩, hn1⟩, hn2⟩, hpar⟩, hmax⟩, hpl⟩ := hW
      simp only [pw_args] at ha
      split at ha
      · rename_i hnl
        split at ha
        · rename_i a rest0 hdrop
          split at ha
          · rename_i c0 fs hao
            split at ha
            · rename_i hck
              subst hck
              cases ha
              have hM := pw_met S hrun has hpl
              have hstk : st.map (pw_v (pw_ad b B)) = (((st.take n0).reverse).map (pw_v (pw_ad b B))).reverse ++ .ref (pw_ad b B a) :: rest.map (pw_v (pw_ad b B)) := by
                rw [List.map_reverse, List.reverse_reverse]
                have e1 : (.ref (pw_ad b B a) :: rest.map (pw_v (pw_ad b B)) : List Value) = (st.drop n0).map (pw_v (pw_ad b B)) := by rw [hdrop]; rfl
                rw [e1, ← List.map_append, List.take_append_drop]
              have hln : ((((st.take n0).reverse).map (pw_v (pw_ad b B)))).length = n0 := by
                rw [List.length_map, List.length_reverse, List.length_take]; omega
              have hdl : (st.drop n0).length = rest.length + 1 := by rw [hdrop]; rfl
              rw [List.length_drop] at hdl
              have hrm : 2 * (F0 m pc ls (st.map (pw_v (pw_ad b B)))).monitorRoom + ((rest.map (pw_v (pw_ad b B))).map fun v => v.category).sum ≤ 8 := lv_room (by rw [pw_cats]; omega)
              have hroom : d + 1 ≤ R.frames ∧ 8 + ((pw_inf t).2.2.1 + 11) + 37 * d ≤ R.locals := ⟨hfr, by omega⟩
              exact fin (va_runI hCF hM ⟨callB_of n0 hts hG (by rw [← hrno]; rfl) rfl rfl (hts _ (pw_has_in hini)) (hts _ (pw_has_in hlk)) ⟨hn1, hn2, hpar⟩ hroom, hnin, hts _ (pw_has_in him)⟩ ⟨pw_blind _ _ _ _ _ _ _ _, hpre (.inr (some a) :: (st.take n0).reverse)⟩ rfl hln hsz hstk hrm hd hf) rfl
            · cases ha
          · cases ha
        · cases ha
      · cases ha
    · cases hok
  | _ => cases hic
end PWK
