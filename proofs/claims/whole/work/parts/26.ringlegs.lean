theorem wl_len_b {D L U : Nat → Int} {n k : Nat} (h : wl_ok D L U n) (hf : wl_feas D L U n 0 ∧ wl_feas D L U n 1) (hk : k < n) : 1 ≤ wl_len D L U n k ∧ wl_len D L U n k ≤ 12 := by
  have hd := (h.2 k hk).1
  have hfa : wl_feas D L U n (D k % 2) := by
    have h1 : D k % 2 = 0 ∨ D k % 2 = 1 := by omega
    rcases h1 with h1 | h1 <;> rw [h1]
    · exact hf.1
    · exact hf.2
  have hkp := wl_keep h (ax := D k % 2) k (by omega) hfa
  obtain ⟨c, hc⟩ : ∃ c, n - k = c + 1 := ⟨n - k - 1, by omega⟩
  rw [hc] at hkp
  have hst := wl_step h (c := c) (i := k) (by omega) hkp rfl
  have h2 := (h.2 k hk).2
  unfold wl_len
  exact ⟨by omega, by omega⟩
theorem c_81_legs (d : Nat) {N : Nat} {xs : Nat → Int32} {zc zm : Nat → Int32} {e3 e11 e18 : Nat} {A : Nat → Nat → Int32} {g gh : Nat → Option Nat} {dy : pw_H} (j n : Nat) (hj : j < 4) (hn : A 28 j = nI n) (hw : wl_ok (md_D A j) (md_L A j) (md_U A j) n) (hx0 : 0 ≤ (A 26 j).toInt ∧ (A 26 j).toInt ≤ 12) (hy0 : 0 ≤ (A 27 j).toInt ∧ (A 27 j).toInt ≤ 12) (hfe : (wl_feas (md_D A j) (md_L A j) (md_U A j) n 0 ∧ wl_feas (md_D A j) (md_L A j) (md_U A j) n 1)) (f : Nat → Int32) (hf : ∀ k, k < n → (f k).toInt = (wl_len (md_D A j) (md_L A j) (md_U A j) n) k) : ∀ (c i : Nat) (x y : Int32) (s : Nat → Int32) (g5 g6 g7 g8 g9 : Option pw_V), i + c = n → x.toInt = wl_px (md_D A j) (wl_len (md_D A j) (md_L A j) (md_U A j) n) (A 26 j).toInt i → y.toInt = wl_py (md_D A j) (wl_len (md_D A j) (md_L A j) (md_U A j) n) (A 27 j).toInt i → ((0 ≤ x.toInt ∧ x.toInt ≤ 12) ∧ 0 ≤ y.toInt ∧ y.toInt ≤ 12) → (∀ k, k < i → (0 ≤ wl_px (md_D A j) (wl_len (md_D A j) (md_L A j) (md_U A j) n) (A 26 j).toInt (k + 1) ∧ wl_px (md_D A j) (wl_len (md_D A j) (md_L A j) (md_U A j) n) (A 26 j).toInt (k + 1) ≤ 12) ∧ 0 ≤ wl_py (md_D A j) (wl_len (md_D A j) (md_L A j) (md_U A j) n) (A 27 j).toInt (k + 1) ∧ wl_py (md_D A j) (wl_len (md_D A j) (md_L A j) (md_U A j) n) (A 27 j).toInt (k + 1) ≤ 12) → wl_sd (wl_V (md_D A j) (wl_len (md_D A j) (md_L A j) (md_U A j) n) (A 26 j).toInt (A 27 j).toInt i) s → pw_W (d + 2) 81 49 [some (.inr (some 25)), some (.inl (nI j)), some (.inl x), some (.inl y), some (.inl (nI i)), g5, g6, g7, g8, g9] [] (hp_h N xs zc e3 e11 e18 zm (uA (uA A 52 f) 53 s) g gh dy) (pw_qi (fun r h' => ∃ f s : Nat → Int32, h' = (hp_h N xs zc e3 e11 e18 zm (uA (uA A 52 f) 53 s) g gh dy) ∧ r = pw_b ((wl_feas (md_D A j) (md_L A j) (md_U A j) n 0 ∧ wl_feas (md_D A j) (md_L A j) (md_U A j) n 1) ∧ wl_land (md_D A j) (wl_len (md_D A j) (md_L A j) (md_U A j) n) (A 26 j).toInt (A 27 j).toInt n) ∧ (((wl_feas (md_D A j) (md_L A j) (md_U A j) n 0 ∧ wl_feas (md_D A j) (md_L A j) (md_U A j) n 1) ∧ wl_land (md_D A j) (wl_len (md_D A j) (md_L A j) (md_U A j) n) (A 26 j).toInt (A 27 j).toInt n) → wl_sd (wl_V (md_D A j) (wl_len (md_D A j) (md_L A j) (md_U A j) n) (A 26 j).toInt (A 27 j).toInt n) s))) := by
  have z0 := pz_0
  have z1 := pz_1
  have z2 := pz_2
  have z3 := pz_3
  have z4 := pz_4
  have z6 := pz_6
  have z7 := pz_7
  have z10 := pz_10
  have z11 := pz_11
  have z12 := pz_12
  have z20 := pz_20
  have z30 := pz_30
  have z50 := pz_50
  have z60 := pz_60
  have z80 := pz_80
  have z300 := pz_300
  have hn12 := hw.1
  have hnT : (A 28 j).toInt = (n : Int) := by rw [hn]; exact pw_T (by omega)
  intro c
  induction c with
  | zero =>
    intro i x y s g5 g6 g7 g8 g9 hi hx hy hr hla hs
    obtain rfl : i = n := by omega
    have hiT := pw_T (n := i) (by omega)
    refine pr_iload rfl rfl ?_
    refine pr_aload_n rfl rfl ?_
    refine pr_getf rfl rfl rfl ?_
    refine pr_iload_n rfl rfl ?_
    refine pr_iald (j) rfl hr_28 (by decide) (by decide) rfl (by omega) ?_
    refine pr_c_ge rfl (fun c_57 => ?_) (fun c_57 => ?_)
    · skip
      refine pr_push (v := 1) rfl rfl ?_
      exact pr_retb rfl rfl rfl (⟨f, s, rfl, by rw [pw_b1 ⟨hfe, hla⟩], fun _ => hs⟩)
    · skip
      exact absurd c_57 (by omega)
  | succ c ih =>
    intro i x y s g5 g6 g7 g8 g9 hi hx hy hr hla hs
    have hiT := pw_T (n := i) (by omega)
    have hwk : (0 ≤ (A 29 (12 * j + i)).toInt ∧ (A 29 (12 * j + i)).toInt ≤ 3) ∧ _ := hw.2 i (by omega)
    have hlb := wl_len_b hw hfe (k := i) (by omega)
    have hfi := hf i (by omega)
    obtain ⟨m, hm, hmT, -⟩ := pw_nat (x := f i) (by omega)
    refine pr_iload rfl rfl ?_
    refine pr_aload_n rfl rfl ?_
    refine pr_getf rfl rfl rfl ?_
    refine pr_iload_n rfl rfl ?_
    refine pr_iald (j) rfl hr_28 (by decide) (by decide) rfl (by omega) ?_
    refine pr_c_ge rfl (fun c_57 => ?_) (fun c_57 => ?_)
    · skip
      exact absurd c_57 (by omega)
    · skip
      refine pr_aload_n rfl rfl ?_
      refine pr_getf rfl rfl rfl ?_
      refine pr_push (v := 12) rfl rfl ?_
      refine pr_iload_n rfl rfl ?_
      refine pr_step rfl rfl rfl rfl ?_
      refine pr_iload rfl rfl ?_
      refine pr_step rfl rfl rfl rfl ?_
      refine pr_top (pw_at j i) ?_
      refine pr_iald (12 * j + i) rfl hr_29 (by decide) (by decide) rfl (by omega) ?_
      have hD : A 29 (12 * j + i) = 0 ∨ A 29 (12 * j + i) = 1 ∨ A 29 (12 * j + i) = 2 ∨ A 29 (12 * j + i) = 3 := by
        have h1 : (A 29 (12 * j + i)).toInt = 0 ∨ (A 29 (12 * j + i)).toInt = 1 ∨ (A 29 (12 * j + i)).toInt = 2 ∨ (A 29 (12 * j + i)).toInt = 3 := by omega
        rcases h1 with h1 | h1 | h1 | h1
        · exact Or.inl (Int32.toInt_inj.mp (h1.trans pz_0.symm))
        · exact Or.inr (Or.inl (Int32.toInt_inj.mp (h1.trans pz_1.symm)))
        · exact Or.inr (Or.inr (Or.inl (Int32.toInt_inj.mp (h1.trans pz_2.symm))))
        · exact Or.inr (Or.inr (Or.inr (Int32.toInt_inj.mp (h1.trans pz_3.symm))))
      rcases hD with hD | hD | hD | hD
      · refine pr_top hD ?_
        have eD : md_D A j i = 0 := by
          show (A 29 (12 * j + i)).toInt = 0
          rw [hD]; rfl
        have hml : ((m : Nat) : Int) = (wl_len (md_D A j) (md_L A j) (md_U A j) n) i := by omega
        have ex1 : wl_px (md_D A j) (wl_len (md_D A j) (md_L A j) (md_U A j) n) (A 26 j).toInt (i + 1) = wl_px (md_D A j) (wl_len (md_D A j) (md_L A j) (md_U A j) n) (A 26 j).toInt i + (m : Int) := by
          show wl_px (md_D A j) (wl_len (md_D A j) (md_L A j) (md_U A j) n) (A 26 j).toInt i + _ = _
          rw [eD]
          simp; omega
        have ey1 : wl_py (md_D A j) (wl_len (md_D A j) (md_L A j) (md_U A j) n) (A 27 j).toInt (i + 1) = wl_py (md_D A j) (wl_len (md_D A j) (md_L A j) (md_U A j) n) (A 27 j).toInt i := by
          show wl_py (md_D A j) (wl_len (md_D A j) (md_L A j) (md_U A j) n) (A 27 j).toInt i + _ = _
          rw [eD]
          simp
        refine pr_istore rfl (Nat.le_of_ble_eq_true rfl) rfl ?_
        refine pr_push (v := 0) rfl rfl ?_
        refine pr_istore rfl (Nat.le_of_ble_eq_true rfl) rfl ?_
        refine c_81_st0 d j i m hj (by omega) (by omega) f hm (wl_V (md_D A j) (wl_len (md_D A j) (md_L A j) (md_U A j) n) (A 26 j).toInt (A 27 j).toInt i) (wl_px (md_D A j) (wl_len (md_D A j) (md_L A j) (md_U A j) n) (A 26 j).toInt i) (wl_py (md_D A j) (wl_len (md_D A j) (md_L A j) (md_U A j) n) (A 27 j).toInt i) (by omega) _ (fun hno s3 => ⟨f, s3, rfl, by
          rw [pw_b0 (fun hh => hno (by
            have h3 := hh.2 i (by omega)
            rw [ex1, ey1] at h3
            exact h3))], fun hh => absurd (hh.2 i (by omega)) (fun h3 => hno (by
            rw [ex1, ey1] at h3
            exact h3))⟩) (fun x2 y2 s2 g27 g28 g29 hx2 hy2 rx2 ry2 hs2 => ?_) m 0 x y s _ _ _ (by omega) (by omega) (by omega) hr.1 hr.2 (by
          intro X Y hX hY
          rw [hs X Y hX hY]
          dsimp only
          rw [show ((0 : Nat) : Int) = 0 from rfl, wl_cov0]
          simp)
        refine pr_iinc rfl rfl (pw_inc i) rfl ?_
        refine pr_step rfl rfl rfl rfl ?_
        exact ih (i + 1) x2 y2 s2 _ _ _ _ _ (by omega) (by rw [ex1]; omega) (by rw [ey1]; omega) ⟨rx2, ry2⟩ (fun k hk => by
          by_cases hki : k = i
          · subst hki; rw [ex1, ey1]; omega
          · exact hla k (by omega)) (by
          intro X Y hX hY
          rw [hs2 X Y hX hY]
          dsimp only [wl_V]
          rw [eD, hml])
      · refine pr_top hD ?_
        have eD : md_D A j i = 1 := by
          show (A 29 (12 * j + i)).toInt = 1
          rw [hD]; rfl
        have hml : ((m : Nat) : Int) = (wl_len (md_D A j) (md_L A j) (md_U A j) n) i := by omega
        have ex1 : wl_px (md_D A j) (wl_len (md_D A j) (md_L A j) (md_U A j) n) (A 26 j).toInt (i + 1) = wl_px (md_D A j) (wl_len (md_D A j) (md_L A j) (md_U A j) n) (A 26 j).toInt i := by
          show wl_px (md_D A j) (wl_len (md_D A j) (md_L A j) (md_U A j) n) (A 26 j).toInt i + _ = _
          rw [eD]
          simp
        have ey1 : wl_py (md_D A j) (wl_len (md_D A j) (md_L A j) (md_U A j) n) (A 27 j).toInt (i + 1) = wl_py (md_D A j) (wl_len (md_D A j) (md_L A j) (md_U A j) n) (A 27 j).toInt i + (m : Int) := by
          show wl_py (md_D A j) (wl_len (md_D A j) (md_L A j) (md_U A j) n) (A 27 j).toInt i + _ = _
          rw [eD]
          simp; omega
        refine pr_istore rfl (Nat.le_of_ble_eq_true rfl) rfl ?_
        refine pr_push (v := 0) rfl rfl ?_
        refine pr_istore rfl (Nat.le_of_ble_eq_true rfl) rfl ?_
        refine c_81_st1 d j i m hj (by omega) (by omega) f hm (wl_V (md_D A j) (wl_len (md_D A j) (md_L A j) (md_U A j) n) (A 26 j).toInt (A 27 j).toInt i) (wl_px (md_D A j) (wl_len (md_D A j) (md_L A j) (md_U A j) n) (A 26 j).toInt i) (wl_py (md_D A j) (wl_len (md_D A j) (md_L A j) (md_U A j) n) (A 27 j).toInt i) (by omega) _ (fun hno s3 => ⟨f, s3, rfl, by
          rw [pw_b0 (fun hh => hno (by
            have h3 := hh.2 i (by omega)
            rw [ex1, ey1] at h3
            exact h3))], fun hh => absurd (hh.2 i (by omega)) (fun h3 => hno (by
            rw [ex1, ey1] at h3
            exact h3))⟩) (fun x2 y2 s2 g27 g28 g29 hx2 hy2 rx2 ry2 hs2 => ?_) m 0 x y s _ _ _ (by omega) (by omega) (by omega) hr.1 hr.2 (by
          intro X Y hX hY
          rw [hs X Y hX hY]
          dsimp only
          rw [show ((0 : Nat) : Int) = 0 from rfl, wl_cov0]
          simp)
        refine pr_iinc rfl rfl (pw_inc i) rfl ?_
        refine pr_step rfl rfl rfl rfl ?_
        exact ih (i + 1) x2 y2 s2 _ _ _ _ _ (by omega) (by rw [ex1]; omega) (by rw [ey1]; omega) ⟨rx2, ry2⟩ (fun k hk => by
          by_cases hki : k = i
          · subst hki; rw [ex1, ey1]; omega
          · exact hla k (by omega)) (by
          intro X Y hX hY
          rw [hs2 X Y hX hY]
          dsimp only [wl_V]
          rw [eD, hml])
      · refine pr_top hD ?_
        have eD : md_D A j i = 2 := by
          show (A 29 (12 * j + i)).toInt = 2
          rw [hD]; rfl
        have hml : ((m : Nat) : Int) = (wl_len (md_D A j) (md_L A j) (md_U A j) n) i := by omega
        have ex1 : wl_px (md_D A j) (wl_len (md_D A j) (md_L A j) (md_U A j) n) (A 26 j).toInt (i + 1) = wl_px (md_D A j) (wl_len (md_D A j) (md_L A j) (md_U A j) n) (A 26 j).toInt i - (m : Int) := by
          show wl_px (md_D A j) (wl_len (md_D A j) (md_L A j) (md_U A j) n) (A 26 j).toInt i + _ = _
          rw [eD]
          simp; omega
        have ey1 : wl_py (md_D A j) (wl_len (md_D A j) (md_L A j) (md_U A j) n) (A 27 j).toInt (i + 1) = wl_py (md_D A j) (wl_len (md_D A j) (md_L A j) (md_U A j) n) (A 27 j).toInt i := by
          show wl_py (md_D A j) (wl_len (md_D A j) (md_L A j) (md_U A j) n) (A 27 j).toInt i + _ = _
          rw [eD]
          simp
        refine pr_istore rfl (Nat.le_of_ble_eq_true rfl) rfl ?_
        refine pr_push (v := 0) rfl rfl ?_
        refine pr_istore rfl (Nat.le_of_ble_eq_true rfl) rfl ?_
        refine c_81_st2 d j i m hj (by omega) (by omega) f hm (wl_V (md_D A j) (wl_len (md_D A j) (md_L A j) (md_U A j) n) (A 26 j).toInt (A 27 j).toInt i) (wl_px (md_D A j) (wl_len (md_D A j) (md_L A j) (md_U A j) n) (A 26 j).toInt i) (wl_py (md_D A j) (wl_len (md_D A j) (md_L A j) (md_U A j) n) (A 27 j).toInt i) (by omega) _ (fun hno s3 => ⟨f, s3, rfl, by
          rw [pw_b0 (fun hh => hno (by
            have h3 := hh.2 i (by omega)
            rw [ex1, ey1] at h3
            exact h3))], fun hh => absurd (hh.2 i (by omega)) (fun h3 => hno (by
            rw [ex1, ey1] at h3
            exact h3))⟩) (fun x2 y2 s2 g27 g28 g29 hx2 hy2 rx2 ry2 hs2 => ?_) m 0 x y s _ _ _ (by omega) (by omega) (by omega) hr.1 hr.2 (by
          intro X Y hX hY
          rw [hs X Y hX hY]
          dsimp only
          rw [show ((0 : Nat) : Int) = 0 from rfl, wl_cov0]
          simp)
        refine pr_iinc rfl rfl (pw_inc i) rfl ?_
        refine pr_step rfl rfl rfl rfl ?_
        exact ih (i + 1) x2 y2 s2 _ _ _ _ _ (by omega) (by rw [ex1]; omega) (by rw [ey1]; omega) ⟨rx2, ry2⟩ (fun k hk => by
          by_cases hki : k = i
          · subst hki; rw [ex1, ey1]; omega
          · exact hla k (by omega)) (by
          intro X Y hX hY
          rw [hs2 X Y hX hY]
          dsimp only [wl_V]
          rw [eD, hml])
      · refine pr_top hD ?_
        have eD : md_D A j i = 3 := by
          show (A 29 (12 * j + i)).toInt = 3
          rw [hD]; rfl
        have hml : ((m : Nat) : Int) = (wl_len (md_D A j) (md_L A j) (md_U A j) n) i := by omega
        have ex1 : wl_px (md_D A j) (wl_len (md_D A j) (md_L A j) (md_U A j) n) (A 26 j).toInt (i + 1) = wl_px (md_D A j) (wl_len (md_D A j) (md_L A j) (md_U A j) n) (A 26 j).toInt i := by
          show wl_px (md_D A j) (wl_len (md_D A j) (md_L A j) (md_U A j) n) (A 26 j).toInt i + _ = _
          rw [eD]
          simp
        have ey1 : wl_py (md_D A j) (wl_len (md_D A j) (md_L A j) (md_U A j) n) (A 27 j).toInt (i + 1) = wl_py (md_D A j) (wl_len (md_D A j) (md_L A j) (md_U A j) n) (A 27 j).toInt i - (m : Int) := by
          show wl_py (md_D A j) (wl_len (md_D A j) (md_L A j) (md_U A j) n) (A 27 j).toInt i + _ = _
          rw [eD]
          simp; omega
        refine pr_istore rfl (Nat.le_of_ble_eq_true rfl) rfl ?_
        refine pr_push (v := 0) rfl rfl ?_
        refine pr_istore rfl (Nat.le_of_ble_eq_true rfl) rfl ?_
        refine c_81_st3 d j i m hj (by omega) (by omega) f hm (wl_V (md_D A j) (wl_len (md_D A j) (md_L A j) (md_U A j) n) (A 26 j).toInt (A 27 j).toInt i) (wl_px (md_D A j) (wl_len (md_D A j) (md_L A j) (md_U A j) n) (A 26 j).toInt i) (wl_py (md_D A j) (wl_len (md_D A j) (md_L A j) (md_U A j) n) (A 27 j).toInt i) (by omega) _ (fun hno s3 => ⟨f, s3, rfl, by
          rw [pw_b0 (fun hh => hno (by
            have h3 := hh.2 i (by omega)
            rw [ex1, ey1] at h3
            exact h3))], fun hh => absurd (hh.2 i (by omega)) (fun h3 => hno (by
            rw [ex1, ey1] at h3
            exact h3))⟩) (fun x2 y2 s2 g27 g28 g29 hx2 hy2 rx2 ry2 hs2 => ?_) m 0 x y s _ _ _ (by omega) (by omega) (by omega) hr.1 hr.2 (by
          intro X Y hX hY
          rw [hs X Y hX hY]
          dsimp only
          rw [show ((0 : Nat) : Int) = 0 from rfl, wl_cov0]
          simp)
        refine pr_iinc rfl rfl (pw_inc i) rfl ?_
        refine pr_step rfl rfl rfl rfl ?_
        exact ih (i + 1) x2 y2 s2 _ _ _ _ _ (by omega) (by rw [ex1]; omega) (by rw [ey1]; omega) ⟨rx2, ry2⟩ (fun k hk => by
          by_cases hki : k = i
          · subst hki; rw [ex1, ey1]; omega
          · exact hla k (by omega)) (by
          intro X Y hX hY
          rw [hs2 X Y hX hY]
          dsimp only [wl_V]
          rw [eD, hml])
