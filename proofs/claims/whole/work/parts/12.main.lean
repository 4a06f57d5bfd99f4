def pw_tpos (e : Nat × pw_O) : Bool := !pw_isCall e.2.1 || decide (0 < e.2.2.2.1) || decide (e.2.2.2.2.length ≤ 2)
theorem pw_tpos_ok : pw_ms.all (fun m => m.2.all pw_tpos) = true := by decide +kernel
theorem pw_op_tpos {M pc : Nat} {o : pw_O} (h : pw_op M pc = some o) : pw_tpos (pc, o) = true := by
  unfold pw_op at h
  cases hm : pw_ms[M]? with
  | none => rw [hm] at h; cases h
  | some m =>
    rw [hm] at h
    exact List.all_eq_true.mp (List.all_eq_true.mp pw_tpos_ok m (List.mem_of_getElem? hm)) _ (pw_look_mem _ _ _ h)
theorem pw_run_lt {n d M pc : Nat} {L : pw_L} {st : List pw_V} {h : pw_H} {x : Option pw_V × pw_H} (hr : pw_run n d M pc L st h = some x) : M < 115 := by
  cases n with
  | zero => cases hr
  | succ n =>
    rw [pw_run] at hr
    cases ho : pw_op M pc with
    | none => rw [ho] at hr; cases hr
    | some o =>
      unfold pw_op at ho
      cases hm : pw_ms[M]? with
      | none => rw [hm] at ho; cases ho
      | some m => exact (List.getElem?_eq_some_iff.mp hm).1
theorem pw_oi1 : Cond.instanceMethod Lib.objectInit ∈ pw_tbl := pw_has_in (i := 52) (by decide +kernel)
theorem pw_oi2 : Cond.code Lib.objectInit ⟨#[0xb1]⟩ 1 none ∈ pw_tbl := pw_has_in (i := 53) (by decide +kernel)
theorem pw_mi : Cond.initialized "java/lang/Math" ∈ pw_tbl := pw_has_in (i := 41) (by decide +kernel)
theorem pw_mx1 : Cond.static Lib.Math.max.name ∈ pw_tbl := pw_has_in (i := 63) (by decide +kernel)
theorem pw_mx2 : Cond.code Lib.Math.max.name Lib.Math.max.code 2 (some .int) ∈ pw_tbl := pw_has_in (i := 64) (by decide +kernel)
theorem pw_mn1 : Cond.static Lib.Math.min.name ∈ pw_tbl := pw_has_in (i := 238) (by decide +kernel)
theorem pw_mn2 : Cond.code Lib.Math.min.name Lib.Math.min.code 2 (some .int) ∈ pw_tbl := pw_has_in (i := 239) (by decide +kernel)
set_option maxHeartbeats 2000000 in
theorem pw_sound (l : Launch) (D : va_G) (ca : Nat → ClassId) (b B N : Nat) (xs : Nat → Int32) : ∀ n, pw_Snd l D ca b B N xs n := by
  intro n
  induction n with
  | zero =>
    intro d M pc L st h r h' hr
    cases hr
  | succ n ih =>
    intro d M pc L st h r h' hr p e R s m args below meth c H locs cells slots Q ls C hfr hlo hLl hl hR hS hc hs fin
    rw [pw_run] at hr
    cases ho : pw_op M pc with
    | none => rw [ho] at hr; cases hr
    | some o =>
      rw [ho] at hr
      dsimp only at hr
      obtain ⟨i, np, t, q⟩ := o
      dsimp only at hr
      cases hret : pw_isRet i with
      | true =>
        rw [hret] at hr
        dsimp only [cond] at hr
        split at hr
        · rename_i r0 hr0
          cases hr
          have hd : decode (pw_inf M).2.1 pc = .ok (i, 1) := by
            obtain ⟨hd, -, -⟩ := pw_dec1 ho (by intro _ _ _ _ h; rw [h] at hret; cases hret)
            have h1 : pw_ilen i = 1 := by cases i <;> first | rfl | cases hret
            rw [h1] at hd
            exact hd
          exact fin pc ls H locs cells slots i st hd hr0 hR hS (by omega) (by omega)
        · cases hr
      | false =>
        rw [hret] at hr
        dsimp only [cond] at hr
        cases hcall : pw_isCall i with
        | false =>
          rw [hcall] at hr
          dsimp only at hr
          split at hr
          · cases hr
          · rename_i pc' L' st' h1 hst
            have hm1 := pw_step_mono hst
            have hm2 := pw_mono _ _ _ _ _ _ _ _ _ hr
            refine pw_step_sound C ho hst hl hR hS (by omega) (by omega) (fun ls' H' locs' cells' slots' hl' hR' hS' hc' hs' => ?_)
            exact ih d M pc' L' st' h1 r h' hr p e R s m args below meth c H' locs' cells' slots' Q ls' C hfr hlo (hm1.1.trans hLl) hl' hR' hS' (by omega) (by omega) fin
        | true =>
          rw [hcall] at hr
          dsimp only at hr
          have hx := C.1
          have hb := C.2.1
          have hml := C.2.2.1
          have hown := C.2.2.2.1
          have hts := C.2.2.2.2.1
          have hsz : ls.size = (pw_inf M).2.2.1 := hl.1.trans hLl
          cases d with
          | zero => cases hr
          | succ d =>
            dsimp only at hr
            split at hr
            · rename_i w
              split at hr
              · rename_i a st0
                split at hr
                · rename_i hlen
                  have hm2 := pw_mono _ _ _ _ _ _ _ _ _ hr
                  have k1 := ih (d + 1) M np L st0 h r h' hr p e R s m args below meth c H locs cells slots Q ls C hfr hlo hLl hl hR hS hc hs fin
                  obtain ⟨hd, hnp, hok⟩ := pw_dec1 ho (by intro _ _ _ _ h; rw [h] at hcall; cases hcall)
                  cases i with
                  | invokespecial idx =>
                    rw [hnp] at k1
                    refine W.objInit hx hb hown (hts _ (pw_has_in hok)) (hts _ pw_oi1) (hts _ pw_oi2) rfl (hsz.trans hml.symm) (a := pw_ad b B a) (rest := st0.map (pw_v (pw_ad b B))) rfl hd (by omega) ?_ k1
                    show 2 * 0 + _ + 12 ≤ _
                    rw [pw_cats]
                    omega
                  | invokevirtual idx => cases hok
                  | invokestatic idx => cases hok
                  | _ => cases hcall
                · cases hr
              · cases hr
            · rename_i w k
              split at hr
              · rename_i y x st0
                split at hr
                · rename_i hlen
                  have hm2 := pw_mono _ _ _ _ _ _ _ _ _ hr
                  have k1 := ih (d + 1) M np L _ h r h' hr p e R s m args below meth c H locs cells slots Q ls C hfr hlo hLl hl hR hS hc hs fin
                  obtain ⟨hd, hnp, hok⟩ := pw_dec1 ho (by intro _ _ _ _ h; rw [h] at hcall; cases hcall)
                  have hcat : ((st0.map (pw_v (pw_ad b B))).map fun v => v.category).sum + 13 ≤ R.locals := by
                    rw [pw_cats]
                    omega
                  cases i with
                  | invokespecial idx => cases hok
                  | invokevirtual idx => cases hok
                  | invokestatic idx =>
                    rw [hnp] at k1
                    match k, hok, k1 with
                    | 0, hok, k1 => exact va_mmax hx hb (hml.trans hsz.symm) hown (hts _ (pw_has_in hok)) (hts _ pw_mx1) (hts _ pw_mi) (hts _ pw_mx2) (by omega) hcat (by omega) (by omega) hd k1
                    | 1, hok, k1 => exact va_mmin hx hb (hml.trans hsz.symm) hown (hts _ (pw_has_in hok)) (hts _ pw_mn1) (hts _ pw_mi) (hts _ pw_mn2) (by omega) hcat (by omega) (by omega) hd k1
                    | k + 2, hok, k1 => cases hok
                  | _ => cases hcall
                · cases hr
              · cases hr
            · rename_i hq1 hq2
              split at hr
              · cases hr
              · rename_i as rest ha
                split at hr
                · rename_i has
                  split at hr
                  · cases hr
                  · rename_i r1 h1 hr1
                    have hm1 := pw_mono _ _ _ _ _ _ _ _ _ hr1
                    have hm2 := pw_mono _ _ _ _ _ _ _ _ _ hr
                    have htp := pw_op_tpos ho
                    have hq1' : ∀ w, q ≠ [w] := fun w h => hq1 w h
                    have hq2' : ∀ w k, q ≠ [w, k] := fun w k h => hq2 w k h
                    have ht : 0 < t ∧ t < 115 := by
                      refine ⟨?_, pw_run_lt hr1⟩
                      simp only [pw_tpos, hcall, Bool.not_true, Bool.false_or, Bool.or_eq_true, decide_eq_true_eq] at htp
                      rcases htp with h1 | h1
                      · exact h1
                      · exfalso
                        match q, h1, hq1', hq2', ha with
                        | [], _, _, _, ha => cases ha
                        | [w], _, h2, _, _ => exact h2 w rfl
                        | [w, k], _, _, h3, _ => exact h3 w k rfl
                        | _ :: _ :: _ :: _, h1, _, _, _ => simp at h1
                    refine pw_calls ih C ho hcall hq1' hq2' hLl hl hR hS hfr hlo ht ha has hr1 (by omega) (by omega) (fun H1 locs1 hR1 hS1 => ?_)
                    exact ih (d + 1) M np L _ h1 r h' hr p e R s m args below meth c H1 locs1 _ _ Q ls C hfr hlo hLl hl hR1 hS1 (by omega) (by omega) fin
                · cases hr
