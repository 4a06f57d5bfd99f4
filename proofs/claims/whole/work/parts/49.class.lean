abbrev lc_3 := @c_3
abbrev lc_4 := @c_4
abbrev lc_5 := @c_5
abbrev lc_6 := @c_6
abbrev lc_8 := @c_8
theorem c_33 (d : Nat) {N : Nat} {xs : Nat → Int32} {zc zm : Nat → Int32} {e3 e11 e18 : Nat} {A : Nat → Nat → Int32} {g gh : Nat → Option Nat} {dy : pw_H} (Y : Nat) (hY : zc 3 = nI Y) (hYb : Y ≤ 300)  (n : Int32) : pw_M (d + 2) 33 [.inr (some 1), .inl n] (hp_h N xs zc e3 e11 e18 zm A g gh dy) (pw_qi (fun r h' => ((¬ pw_bt n 1 50 ∨ 300 < (Y : Int) + n.toInt) ∧ r = -2 ∧ h' = (hp_h N xs zc e3 e11 e18 zm A g gh dy)) ∨ (pw_bt n 1 50 ∧ (Y : Int) + n.toInt ≤ 300 ∧ r = zc 3 + n ∧ h' = (hp_h N xs (upd zc 3 (zc 3 + n)) e3 e11 e18 zm A g gh dy)))) := by
  have z0 := pz_0
  have z1 := pz_1
  have z2 := pz_2
  have z3 := pz_3
  have z4 := pz_4
  have z6 := pz_6
  have z7 := pz_7
  have z10 := pz_10
  have z11 := pz_11
  have z12 := pz_12
  have z20 := pz_20
  have z30 := pz_30
  have z50 := pz_50
  have z60 := pz_60
  have z80 := pz_80
  have z300 := pz_300
  have hYT : (zc 3).toInt = (Y : Int) := by rw [hY]; exact pw_T (by omega)
  have hYP : (zc 3 - 1).toInt = (Y : Int) - 1 := by rw [hY]; exact pw_pred (by omega)
  refine pr_iload_n rfl rfl ?_
  refine pr_push (v := 1) rfl rfl ?_
  refine pr_push (v := 50) rfl rfl ?_
  refine pr_si3 rfl (by decide) (Nat.le_of_ble_eq_true rfl) (Nat.le_of_ble_eq_true rfl) (c_48 _ _ _ _ _) (fun r_4 h_4 q_4 => ?_)
  obtain ⟨rfl, rfl⟩ := q_4
  refine pr_b_eq rfl (fun c_7 => ?_) (fun c_7 => ?_)
  · skip
    refine pr_push (v := (-2)) rfl rfl ?_
    exact pr_reti rfl rfl (Or.inl ⟨by omega, rfl, rfl⟩)
  · skip
    refine pr_aload_n rfl rfl ?_
    refine pr_getf rfl rfl rfl ?_
    refine pr_iload_n rfl rfl ?_
    refine pr_step rfl rfl rfl rfl ?_
    have hs : (zc 3 + n).toInt = (Y : Int) + n.toInt := by
      rw [pw_addT (by omega) (by omega)]
      omega
    refine pr_push (v := 300) rfl rfl ?_
    refine pr_c_le rfl (fun c_19 => ?_) (fun c_19 => ?_)
    · skip
      refine pr_aload_n rfl rfl ?_
      refine pr_step rfl rfl rfl rfl ?_
      refine pr_getf rfl rfl rfl ?_
      refine pr_iload_n rfl rfl ?_
      refine pr_step rfl rfl rfl rfl ?_
      refine pr_putf rfl rfl (Nat.le_of_ble_eq_true rfl) rfl hs_c3 ?_
      refine pr_aload_n rfl rfl ?_
      refine pr_getf rfl rfl rfl ?_
      exact pr_reti rfl rfl (Or.inr ⟨by omega, by omega, rfl, rfl⟩)
    · skip
      refine pr_push (v := (-2)) rfl rfl ?_
      exact pr_reti rfl rfl (Or.inl ⟨by omega, rfl, rfl⟩)
theorem c_34 (d : Nat) {N : Nat} {xs : Nat → Int32} {zc zm : Nat → Int32} {e3 e11 e18 : Nat} {A : Nat → Nat → Int32} {g gh : Nat → Option Nat} {dy : pw_H} (S : Nat) (hS : zc 7 = nI S) (hSb : S ≤ 12)  (x y : Int32) : pw_M (d + 2) 34 [.inr (some 1), .inl x, .inl y] (hp_h N xs zc e3 e11 e18 zm A g gh dy) (pw_qi (fun r h' => (¬ pw_pt x y ∧ r = -2 ∧ h' = (hp_h N xs zc e3 e11 e18 zm A g gh dy)) ∨ (¬ (¬ pw_pt x y) ∧ S = 12 ∧ r = -4 ∧ h' = (hp_h N xs zc e3 e11 e18 zm A g gh dy)) ∨ (¬ (¬ pw_pt x y) ∧ ¬ (S = 12) ∧ r = nI S ∧ h' = (hp_h N xs (upd zc 7 (nI (S + 1))) e3 e11 e18 zm (uA (uA (uA A 8 (upd (A 8) S (100 * x + y))) 9 (upd (A 9) S (zc 3))) 10 (upd (A 10) S (zc 3))) g gh dy)))) := by
  have z0 := pz_0
  have z1 := pz_1
  have z2 := pz_2
  have z3 := pz_3
  have z4 := pz_4
  have z6 := pz_6
  have z7 := pz_7
  have z10 := pz_10
  have z11 := pz_11
  have z12 := pz_12
  have z20 := pz_20
  have z30 := pz_30
  have z50 := pz_50
  have z60 := pz_60
  have z80 := pz_80
  have z300 := pz_300
  have hST : (zc 7).toInt = (S : Int) := by rw [hS]; exact pw_T (by omega)
  have hSP : (zc 7 - 1).toInt = (S : Int) - 1 := by rw [hS]; exact pw_pred (by omega)
  refine pr_iload_n rfl rfl ?_
  refine pr_iload_n rfl rfl ?_
  refine pr_si2 rfl (by decide) (Nat.le_of_ble_eq_true rfl) (Nat.le_of_ble_eq_true rfl) (c_49 _ _ _ _) (fun r_2 h_2 q_2 => ?_)
  obtain ⟨rfl, rfl⟩ := q_2
  refine pr_b_ne rfl (fun c_5 => ?_) (fun c_5 => ?_)
  · skip
    refine pr_aload_n rfl rfl ?_
    refine pr_getf rfl rfl rfl ?_
    refine pr_push (v := 12) rfl rfl ?_
    refine pr_c_lt rfl (fun c_17 => ?_) (fun c_17 => ?_)
    · skip
      refine pr_aload_n rfl rfl ?_
      refine pr_getf rfl rfl rfl ?_
      refine pr_aload_n rfl rfl ?_
      refine pr_getf rfl rfl rfl ?_
      refine pr_iload_n rfl rfl ?_
      refine pr_iload_n rfl rfl ?_
      refine pr_si2 rfl (by decide) (Nat.le_of_ble_eq_true rfl) (Nat.le_of_ble_eq_true rfl) (c_54 _ _ _ _) (fun r_33 h_33 q_33 => ?_)
      obtain ⟨rfl, rfl⟩ := q_33
      refine pr_iast (S) rfl rfl (by decide) hS (by omega) hs_a8 ?_
      refine pr_aload_n rfl rfl ?_
      refine pr_getf rfl rfl rfl ?_
      refine pr_aload_n rfl rfl ?_
      refine pr_getf rfl rfl rfl ?_
      refine pr_aload_n rfl rfl ?_
      refine pr_getf rfl rfl rfl ?_
      refine pr_iast (S) rfl rfl (by decide) hS (by omega) hs_a9 ?_
      refine pr_aload_n rfl rfl ?_
      refine pr_getf rfl rfl rfl ?_
      refine pr_aload_n rfl rfl ?_
      refine pr_getf rfl rfl rfl ?_
      refine pr_aload_n rfl rfl ?_
      refine pr_getf rfl rfl rfl ?_
      refine pr_iast (S) rfl rfl (by decide) hS (by omega) hs_a10 ?_
      refine pr_aload_n rfl rfl ?_
      refine pr_step rfl rfl rfl rfl ?_
      refine pr_getf rfl rfl rfl ?_
      refine pr_step rfl rfl rfl rfl ?_
      refine pr_push (v := 1) rfl rfl ?_
      refine pr_step rfl rfl rfl rfl ?_
      refine pr_top (pw_s hS) ?_
      refine pr_putf rfl rfl (Nat.le_of_ble_eq_true rfl) rfl hs_c7 ?_
      exact pr_reti rfl rfl (Or.inr (Or.inr ⟨by omega, by omega, hS, rfl⟩))
    · skip
      refine pr_push (v := (-4)) rfl rfl ?_
      exact pr_reti rfl rfl (Or.inr (Or.inl ⟨by omega, by omega, rfl, rfl⟩))
  · skip
    refine pr_push (v := (-2)) rfl rfl ?_
    exact pr_reti rfl rfl (Or.inl ⟨by omega, rfl, rfl⟩)
theorem c_38 (d : Nat) {N : Nat} {xs : Nat → Int32} {zc zm : Nat → Int32} {e3 e11 e18 : Nat} {A : Nat → Nat → Int32} {g gh : Nat → Option Nat} {dy : pw_H} (W : Nat) (hW : zc 10 = nI W) (hWb : W ≤ 20)  (y : Int32) : pw_M (d + 2) 38 [.inr (some 1), .inl y] (hp_h N xs zc e3 e11 e18 zm A g gh dy) (pw_qi (fun r h' => (¬ pw_yr y ∧ r = -2 ∧ h' = (hp_h N xs zc e3 e11 e18 zm A g gh dy)) ∨ (¬ (¬ pw_yr y) ∧ W = 20 ∧ r = -4 ∧ h' = (hp_h N xs zc e3 e11 e18 zm A g gh dy)) ∨ (¬ (¬ pw_yr y) ∧ ¬ (W = 20) ∧ r = nI W ∧ h' = (hp_h N xs (upd zc 10 (nI (W + 1))) e3 e11 e18 zm (uA A 16 (upd (A 16) W y)) g gh dy)))) := by
  have z0 := pz_0
  have z1 := pz_1
  have z2 := pz_2
  have z3 := pz_3
  have z4 := pz_4
  have z6 := pz_6
  have z7 := pz_7
  have z10 := pz_10
  have z11 := pz_11
  have z12 := pz_12
  have z20 := pz_20
  have z30 := pz_30
  have z50 := pz_50
  have z60 := pz_60
  have z80 := pz_80
  have z300 := pz_300
  have hWT : (zc 10).toInt = (W : Int) := by rw [hW]; exact pw_T (by omega)
  have hWP : (zc 10 - 1).toInt = (W : Int) - 1 := by rw [hW]; exact pw_pred (by omega)
  refine pr_iload_n rfl rfl ?_
  refine pr_si1 rfl (by decide) (Nat.le_of_ble_eq_true rfl) (Nat.le_of_ble_eq_true rfl) (c_51 _ _ _) (fun r_1 h_1 q_1 => ?_)
  obtain ⟨rfl, rfl⟩ := q_1
  refine pr_b_ne rfl (fun c_4 => ?_) (fun c_4 => ?_)
  · skip
    refine pr_aload_n rfl rfl ?_
    refine pr_getf rfl rfl rfl ?_
    refine pr_push (v := 20) rfl rfl ?_
    refine pr_c_lt rfl (fun c_16 => ?_) (fun c_16 => ?_)
    · skip
      refine pr_aload_n rfl rfl ?_
      refine pr_getf rfl rfl rfl ?_
      refine pr_aload_n rfl rfl ?_
      refine pr_getf rfl rfl rfl ?_
      refine pr_iload_n rfl rfl ?_
      refine pr_iast (W) rfl rfl (by decide) hW (by omega) hs_a16 ?_
      refine pr_aload_n rfl rfl ?_
      refine pr_step rfl rfl rfl rfl ?_
      refine pr_getf rfl rfl rfl ?_
      refine pr_step rfl rfl rfl rfl ?_
      refine pr_push (v := 1) rfl rfl ?_
      refine pr_step rfl rfl rfl rfl ?_
      refine pr_top (pw_s hW) ?_
      refine pr_putf rfl rfl (Nat.le_of_ble_eq_true rfl) rfl hs_c10 ?_
      exact pr_reti rfl rfl (Or.inr (Or.inr ⟨by omega, by omega, hW, rfl⟩))
    · skip
      refine pr_push (v := (-4)) rfl rfl ?_
      exact pr_reti rfl rfl (Or.inr (Or.inl ⟨by omega, by omega, rfl, rfl⟩))
  · skip
    refine pr_push (v := (-2)) rfl rfl ?_
    exact pr_reti rfl rfl (Or.inl ⟨by omega, rfl, rfl⟩)
theorem c_44 (d : Nat) {N : Nat} {xs : Nat → Int32} {zc zm : Nat → Int32} {e3 e11 e18 : Nat} {A : Nat → Nat → Int32} {g gh : Nat → Option Nat} {dy : pw_H}   (v : Int32) : pw_M (d + 2) 44 [.inr (some 1), .inl v] (hp_h N xs zc e3 e11 e18 zm A g gh dy) (pw_qi (fun r h' => (¬ pw_bt v 1 20 ∧ r = -2 ∧ h' = (hp_h N xs zc e3 e11 e18 zm A g gh dy)) ∨ (pw_bt v 1 20 ∧ r = zc 14 ∧ h' = (hp_h N xs (upd zc 14 v) e3 e11 e18 zm A g gh dy)))) := by
  have z0 := pz_0
  have z1 := pz_1
  have z2 := pz_2
  have z3 := pz_3
  have z4 := pz_4
  have z6 := pz_6
  have z7 := pz_7
  have z10 := pz_10
  have z11 := pz_11
  have z12 := pz_12
  have z20 := pz_20
  have z30 := pz_30
  have z50 := pz_50
  have z60 := pz_60
  have z80 := pz_80
  have z300 := pz_300

  refine pr_iload_n rfl rfl ?_
  refine pr_push (v := 1) rfl rfl ?_
  refine pr_push (v := 20) rfl rfl ?_
  refine pr_si3 rfl (by decide) (Nat.le_of_ble_eq_true rfl) (Nat.le_of_ble_eq_true rfl) (c_48 _ _ _ _ _) (fun r_4 h_4 q_4 => ?_)
  obtain ⟨rfl, rfl⟩ := q_4
  refine pr_b_ne rfl (fun c_7 => ?_) (fun c_7 => ?_)
  · skip
    refine pr_aload_n rfl rfl ?_
    refine pr_getf rfl rfl rfl ?_
    refine pr_istore_n rfl (Nat.le_of_ble_eq_true rfl) rfl ?_
    refine pr_aload_n rfl rfl ?_
    refine pr_iload_n rfl rfl ?_
    refine pr_putf rfl rfl (Nat.le_of_ble_eq_true rfl) rfl hs_c14 ?_
    refine pr_iload_n rfl rfl ?_
    exact pr_reti rfl rfl (Or.inr ⟨by assumption, rfl, rfl⟩)
  · skip
    refine pr_push (v := (-2)) rfl rfl ?_
    exact pr_reti rfl rfl (Or.inl ⟨by assumption, rfl, rfl⟩)
theorem c_47 (d : Nat) {N : Nat} {xs : Nat → Int32} {zc zm : Nat → Int32} {e3 e11 e18 : Nat} {A : Nat → Nat → Int32} {g gh : Nat → Option Nat} {dy : pw_H} (x : Int32) : pw_M (d + 1) 47 [.inr (some 1), .inl x] (hp_h N xs zc e3 e11 e18 zm A g gh dy) (pw_qi (fun r h' => r = ct_of (fun k => match k with | 0 => zc 1 | 1 => zc 3 | 2 => zc 7 | 3 => nI e11 | 4 => zc 10 | 5 => zc 12 | 6 => nI e3 | _ => nI e18) x ∧ h' = (hp_h N xs zc e3 e11 e18 zm A g gh dy))) := by
  refine pr_iload_n rfl rfl ?_
  refine pr_switch rfl (fun hx => ?_) (fun j u hj hu hx => ?_) (by decide)
  · refine pr_push (v := (-2)) rfl rfl ?_
    exact pr_reti rfl rfl ⟨by unfold ct_of; simp only [show ¬ x.toInt = 0 by omega, show ¬ x.toInt = 1 by omega, show ¬ x.toInt = 2 by omega, show ¬ x.toInt = 3 by omega, show ¬ x.toInt = 4 by omega, show ¬ x.toInt = 5 by omega, show ¬ x.toInt = 6 by omega, show ¬ x.toInt = 7 by omega, if_false], rfl⟩
  · match j, hj, hu with
    | 0, hj, hu =>
      obtain rfl := Option.some.inj hu
      refine pr_aload_n rfl rfl ?_
      refine pr_getf rfl rfl rfl ?_
      exact pr_reti rfl rfl (⟨by unfold ct_of; rw [hj]; rfl, rfl⟩)
    | 1, hj, hu =>
      obtain rfl := Option.some.inj hu
      refine pr_aload_n rfl rfl ?_
      refine pr_getf rfl rfl rfl ?_
      exact pr_reti rfl rfl (⟨by unfold ct_of; rw [hj]; rfl, rfl⟩)
    | 2, hj, hu =>
      obtain rfl := Option.some.inj hu
      refine pr_aload_n rfl rfl ?_
      refine pr_getf rfl rfl rfl ?_
      exact pr_reti rfl rfl (⟨by unfold ct_of; rw [hj]; rfl, rfl⟩)
    | 3, hj, hu =>
      obtain rfl := Option.some.inj hu
      refine pr_aload_n rfl rfl ?_
      refine pr_getf rfl rfl rfl ?_
      refine pr_vi0 rfl (by decide) (Nat.le_of_ble_eq_true rfl) rfl (Nat.le_of_ble_eq_true rfl) (lc_3 _ _ 11 _ _ rfl rfl) (fun r_67 h_67 q_67 => ?_)
      obtain ⟨rfl, rfl⟩ := q_67
      exact pr_reti rfl rfl (⟨by unfold ct_of; rw [hj]; rfl, rfl⟩)
    | 4, hj, hu =>
      obtain rfl := Option.some.inj hu
      refine pr_aload_n rfl rfl ?_
      refine pr_getf rfl rfl rfl ?_
      exact pr_reti rfl rfl (⟨by unfold ct_of; rw [hj]; rfl, rfl⟩)
    | 5, hj, hu =>
      obtain rfl := Option.some.inj hu
      refine pr_aload_n rfl rfl ?_
      refine pr_getf rfl rfl rfl ?_
      exact pr_reti rfl rfl (⟨by unfold ct_of; rw [hj]; rfl, rfl⟩)
    | 6, hj, hu =>
      obtain rfl := Option.some.inj hu
      refine pr_aload_n rfl rfl ?_
      refine pr_getf rfl rfl rfl ?_
      refine pr_vi0 rfl (by decide) (Nat.le_of_ble_eq_true rfl) rfl (Nat.le_of_ble_eq_true rfl) (lc_3 _ _ 3 _ _ rfl rfl) (fun r_85 h_85 q_85 => ?_)
      obtain ⟨rfl, rfl⟩ := q_85
      exact pr_reti rfl rfl (⟨by unfold ct_of; rw [hj]; rfl, rfl⟩)
    | 7, hj, hu =>
      obtain rfl := Option.some.inj hu
      refine pr_aload_n rfl rfl ?_
      refine pr_getf rfl rfl rfl ?_
      refine pr_vi0 rfl (by decide) (Nat.le_of_ble_eq_true rfl) rfl (Nat.le_of_ble_eq_true rfl) (lc_3 _ _ 18 _ _ rfl rfl) (fun r_93 h_93 q_93 => ?_)
      obtain ⟨rfl, rfl⟩ := q_93
      exact pr_reti rfl rfl (⟨by unfold ct_of; rw [hj]; rfl, rfl⟩)
    | j + 8, hj, hu => exact absurd hx (by omega)
theorem c_30 (d : Nat) {N : Nat} {xs : Nat → Int32} {zc zm : Nat → Int32} {e3 e11 e18 : Nat} {A : Nat → Nat → Int32} {g gh : Nat → Option Nat} {dy : pw_H} (P : Nat) (hP : zc 1 = nI P) (hPb : P ≤ 4) (he3 : e3 ≤ 12) (one two y x z to : Int32) : pw_M (d + 2) 30 [.inr (some 1), .inl one, .inl two, .inl y, .inl x, .inl z, .inl to] (hp_h N xs zc e3 e11 e18 zm A g gh dy) (pw_qi (fun r h' => (¬ (pw_bt one 0 (zc 1 - 1) ∧ pw_bt two 0 (zc 1 - 1) ∧ ¬ one.toInt = two.toInt ∧ pw_yr y ∧ pw_fd x z ∧ (to.toInt = one.toInt ∨ to.toInt = two.toInt)) ∧ r = -2 ∧ h' = (hp_h N xs zc e3 e11 e18 zm A g gh dy)) ∨ (¬ (¬ (pw_bt one 0 (zc 1 - 1) ∧ pw_bt two 0 (zc 1 - 1) ∧ ¬ one.toInt = two.toInt ∧ pw_yr y ∧ pw_fd x z ∧ (to.toInt = one.toInt ∨ to.toInt = two.toInt))) ∧ e3 = 12 ∧ r = -4 ∧ h' = (hp_h N xs zc e3 e11 e18 zm A g gh dy)) ∨ (¬ (¬ (pw_bt one 0 (zc 1 - 1) ∧ pw_bt two 0 (zc 1 - 1) ∧ ¬ one.toInt = two.toInt ∧ pw_yr y ∧ pw_fd x z ∧ (to.toInt = one.toInt ∨ to.toInt = two.toInt))) ∧ ¬ (e3 = 12) ∧ r = nI e3 ∧ h' = (hp_h N xs zc (e3 + 1) e11 e18 zm (uA (uA (uA (uA A 4 (upd (A 4) e3 (12 * z + x))) 5 (upd (A 5) e3 y)) 6 (upd (A 6) e3 (zc 3))) 7 (upd (A 7) e3 to)) g gh dy)))) := by
  have z0 := pz_0
  have z1 := pz_1
  have z2 := pz_2
  have z3 := pz_3
  have z4 := pz_4
  have z6 := pz_6
  have z7 := pz_7
  have z10 := pz_10
  have z11 := pz_11
  have z12 := pz_12
  have z20 := pz_20
  have z30 := pz_30
  have z50 := pz_50
  have z60 := pz_60
  have z80 := pz_80
  have z300 := pz_300
  have hPT : (zc 1).toInt = (P : Int) := by rw [hP]; exact pw_T (by omega)
  have hPP : (zc 1 - 1).toInt = (P : Int) - 1 := by rw [hP]; exact pw_pred (by omega)
  refine pr_aload_n rfl rfl ?_
  refine pr_iload_n rfl rfl ?_
  refine pr_vi1 rfl (by decide) (Nat.le_of_ble_eq_true rfl) rfl (Nat.le_of_ble_eq_true rfl) (c_52 _ _ 1 (hp_c zc) (zc 1) _ rfl rfl) (fun r_2 h_2 q_2 => ?_)
  obtain ⟨rfl, rfl⟩ := q_2
  refine pr_b_eq rfl (fun c_5 => ?_) (fun c_5 => ?_)
  · skip
    refine pr_push (v := (-2)) rfl rfl ?_
    exact pr_reti rfl rfl (Or.inl ⟨by omega, rfl, rfl⟩)
  · skip
    refine pr_aload_n rfl rfl ?_
    refine pr_iload_n rfl rfl ?_
    refine pr_vi1 rfl (by decide) (Nat.le_of_ble_eq_true rfl) rfl (Nat.le_of_ble_eq_true rfl) (c_52 _ _ 1 (hp_c zc) (zc 1) _ rfl rfl) (fun r_10 h_10 q_10 => ?_)
    obtain ⟨rfl, rfl⟩ := q_10
    refine pr_b_eq rfl (fun c_13 => ?_) (fun c_13 => ?_)
    · skip
      refine pr_push (v := (-2)) rfl rfl ?_
      exact pr_reti rfl rfl (Or.inl ⟨by omega, rfl, rfl⟩)
    · skip
      refine pr_iload_n rfl rfl ?_
      refine pr_iload_n rfl rfl ?_
      refine pr_u_eq rfl (fun c_18 => ?_) (fun c_18 => ?_)
      · skip
        refine pr_push (v := (-2)) rfl rfl ?_
        exact pr_reti rfl rfl (Or.inl ⟨by omega, rfl, rfl⟩)
      · skip
        refine pr_iload rfl rfl ?_
        refine pr_iload_n rfl rfl ?_
        refine pr_u_eq rfl (fun c_24 => ?_) (fun c_24 => ?_)
        · skip
          refine pr_iload_n rfl rfl ?_
          refine pr_si1 rfl (by decide) (Nat.le_of_ble_eq_true rfl) (Nat.le_of_ble_eq_true rfl) (c_51 _ _ _) (fun r_34 h_34 q_34 => ?_)
          obtain ⟨rfl, rfl⟩ := q_34
          refine pr_b_eq rfl (fun c_37 => ?_) (fun c_37 => ?_)
          · skip
            refine pr_push (v := (-2)) rfl rfl ?_
            exact pr_reti rfl rfl (Or.inl ⟨by omega, rfl, rfl⟩)
          · skip
            refine pr_iload rfl rfl ?_
            refine pr_iload rfl rfl ?_
            refine pr_si2 rfl (by decide) (Nat.le_of_ble_eq_true rfl) (Nat.le_of_ble_eq_true rfl) (c_50 _ _ _ _) (fun r_44 h_44 q_44 => ?_)
            obtain ⟨rfl, rfl⟩ := q_44
            refine pr_b_ne rfl (fun c_47 => ?_) (fun c_47 => ?_)
            · skip
              refine pr_aload_n rfl rfl ?_
              refine pr_getf rfl rfl rfl ?_
              refine pr_vi0 rfl (by decide) (Nat.le_of_ble_eq_true rfl) rfl (Nat.le_of_ble_eq_true rfl) (lc_4 _ _ 3 4 5 6 7 12 e3 _ _ _ _ (hl_3 he3)) (fun r_57 h_57 q_57 => ?_)
              obtain ⟨rfl, rfl⟩ := q_57
              refine pr_b_eq rfl (fun c_60 => ?_) (fun c_60 => ?_)
              · skip
                refine pr_aload_n rfl rfl ?_
                refine pr_getf rfl rfl rfl ?_
                refine pr_iload rfl rfl ?_
                refine pr_iload rfl rfl ?_
                refine pr_si2 rfl (by decide) (Nat.le_of_ble_eq_true rfl) (Nat.le_of_ble_eq_true rfl) (c_55 _ _ _ _) (fun r_74 h_74 q_74 => ?_)
                obtain ⟨rfl, rfl⟩ := q_74
                refine pr_iload_n rfl rfl ?_
                refine pr_aload_n rfl rfl ?_
                refine pr_getf rfl rfl rfl ?_
                refine pr_iload rfl rfl ?_
                refine pr_vi4 rfl (by decide) (Nat.le_of_ble_eq_true rfl) rfl (Nat.le_of_ble_eq_true rfl) (lc_5 _ _ 3 4 5 6 7 12 e3 _ _ _ _ (hl_3 he3) (by decide) (by omega) _ _ _ _) (fun r_84 h_84 q_84 => ?_)
                obtain ⟨rfl, rfl⟩ := q_84
                refine pr_heap hl_put_3 ?_
                exact pr_reti rfl rfl (Or.inr (Or.inr ⟨by omega, by omega, rfl, rfl⟩))
              · skip
                refine pr_push (v := (-4)) rfl rfl ?_
                exact pr_reti rfl rfl (Or.inr (Or.inl ⟨by omega, by omega, rfl, rfl⟩))
            · skip
              refine pr_push (v := (-2)) rfl rfl ?_
              exact pr_reti rfl rfl (Or.inl ⟨by omega, rfl, rfl⟩)
        · skip
          refine pr_iload rfl rfl ?_
          refine pr_iload_n rfl rfl ?_
          refine pr_u_ne rfl (fun c_30 => ?_) (fun c_30 => ?_)
          · skip
            refine pr_push (v := (-2)) rfl rfl ?_
            exact pr_reti rfl rfl (Or.inl ⟨by omega, rfl, rfl⟩)
          · skip
            refine pr_iload_n rfl rfl ?_
            refine pr_si1 rfl (by decide) (Nat.le_of_ble_eq_true rfl) (Nat.le_of_ble_eq_true rfl) (c_51 _ _ _) (fun r_34 h_34 q_34 => ?_)
            obtain ⟨rfl, rfl⟩ := q_34
            refine pr_b_eq rfl (fun c_37 => ?_) (fun c_37 => ?_)
            · skip
              refine pr_push (v := (-2)) rfl rfl ?_
              exact pr_reti rfl rfl (Or.inl ⟨by omega, rfl, rfl⟩)
            · skip
              refine pr_iload rfl rfl ?_
              refine pr_iload rfl rfl ?_
              refine pr_si2 rfl (by decide) (Nat.le_of_ble_eq_true rfl) (Nat.le_of_ble_eq_true rfl) (c_50 _ _ _ _) (fun r_44 h_44 q_44 => ?_)
              obtain ⟨rfl, rfl⟩ := q_44
              refine pr_b_ne rfl (fun c_47 => ?_) (fun c_47 => ?_)
              · skip
                refine pr_aload_n rfl rfl ?_
                refine pr_getf rfl rfl rfl ?_
                refine pr_vi0 rfl (by decide) (Nat.le_of_ble_eq_true rfl) rfl (Nat.le_of_ble_eq_true rfl) (lc_4 _ _ 3 4 5 6 7 12 e3 _ _ _ _ (hl_3 he3)) (fun r_57 h_57 q_57 => ?_)
                obtain ⟨rfl, rfl⟩ := q_57
                refine pr_b_eq rfl (fun c_60 => ?_) (fun c_60 => ?_)
                · skip
                  refine pr_aload_n rfl rfl ?_
                  refine pr_getf rfl rfl rfl ?_
                  refine pr_iload rfl rfl ?_
                  refine pr_iload rfl rfl ?_
                  refine pr_si2 rfl (by decide) (Nat.le_of_ble_eq_true rfl) (Nat.le_of_ble_eq_true rfl) (c_55 _ _ _ _) (fun r_74 h_74 q_74 => ?_)
                  obtain ⟨rfl, rfl⟩ := q_74
                  refine pr_iload_n rfl rfl ?_
                  refine pr_aload_n rfl rfl ?_
                  refine pr_getf rfl rfl rfl ?_
                  refine pr_iload rfl rfl ?_
                  refine pr_vi4 rfl (by decide) (Nat.le_of_ble_eq_true rfl) rfl (Nat.le_of_ble_eq_true rfl) (lc_5 _ _ 3 4 5 6 7 12 e3 _ _ _ _ (hl_3 he3) (by decide) (by omega) _ _ _ _) (fun r_84 h_84 q_84 => ?_)
                  obtain ⟨rfl, rfl⟩ := q_84
                  refine pr_heap hl_put_3 ?_
                  exact pr_reti rfl rfl (Or.inr (Or.inr ⟨by omega, by omega, rfl, rfl⟩))
                · skip
                  refine pr_push (v := (-4)) rfl rfl ?_
                  exact pr_reti rfl rfl (Or.inr (Or.inl ⟨by omega, by omega, rfl, rfl⟩))
              · skip
                refine pr_push (v := (-2)) rfl rfl ?_
                exact pr_reti rfl rfl (Or.inl ⟨by omega, rfl, rfl⟩)
theorem c_41 (d : Nat) {N : Nat} {xs : Nat → Int32} {zc zm : Nat → Int32} {e3 e11 e18 : Nat} {A : Nat → Nat → Int32} {g gh : Nat → Option Nat} {dy : pw_H}  (he18 : e18 ≤ 10) (u y b : Int32) : pw_M (d + 2) 41 [.inr (some 1), .inl u, .inl y, .inl b] (hp_h N xs zc e3 e11 e18 zm A g gh dy) (pw_qi (fun r h' => (¬ (pw_bt u 0 3 ∧ pw_yr y ∧ pw_bt b 0 2) ∧ r = -2 ∧ h' = (hp_h N xs zc e3 e11 e18 zm A g gh dy)) ∨ (¬ (¬ (pw_bt u 0 3 ∧ pw_yr y ∧ pw_bt b 0 2)) ∧ e18 = 10 ∧ r = -4 ∧ h' = (hp_h N xs zc e3 e11 e18 zm A g gh dy)) ∨ (¬ (¬ (pw_bt u 0 3 ∧ pw_yr y ∧ pw_bt b 0 2)) ∧ ¬ (e18 = 10) ∧ r = nI e18 ∧ h' = (hp_h N xs zc e3 e11 (e18 + 1) zm (uA (uA (uA (uA A 19 (upd (A 19) e18 u)) 20 (upd (A 20) e18 y)) 21 (upd (A 21) e18 (zc 3))) 22 (upd (A 22) e18 b)) g gh dy)))) := by
  have z0 := pz_0
  have z1 := pz_1
  have z2 := pz_2
  have z3 := pz_3
  have z4 := pz_4
  have z6 := pz_6
  have z7 := pz_7
  have z10 := pz_10
  have z11 := pz_11
  have z12 := pz_12
  have z20 := pz_20
  have z30 := pz_30
  have z50 := pz_50
  have z60 := pz_60
  have z80 := pz_80
  have z300 := pz_300

  refine pr_iload_n rfl rfl ?_
  refine pr_push (v := 0) rfl rfl ?_
  refine pr_push (v := 3) rfl rfl ?_
  refine pr_si3 rfl (by decide) (Nat.le_of_ble_eq_true rfl) (Nat.le_of_ble_eq_true rfl) (c_48 _ _ _ _ _) (fun r_3 h_3 q_3 => ?_)
  obtain ⟨rfl, rfl⟩ := q_3
  refine pr_b_eq rfl (fun c_6 => ?_) (fun c_6 => ?_)
  · skip
    refine pr_push (v := (-2)) rfl rfl ?_
    exact pr_reti rfl rfl (Or.inl ⟨by omega, rfl, rfl⟩)
  · skip
    refine pr_iload_n rfl rfl ?_
    refine pr_si1 rfl (by decide) (Nat.le_of_ble_eq_true rfl) (Nat.le_of_ble_eq_true rfl) (c_51 _ _ _) (fun r_10 h_10 q_10 => ?_)
    obtain ⟨rfl, rfl⟩ := q_10
    refine pr_b_eq rfl (fun c_13 => ?_) (fun c_13 => ?_)
    · skip
      refine pr_push (v := (-2)) rfl rfl ?_
      exact pr_reti rfl rfl (Or.inl ⟨by omega, rfl, rfl⟩)
    · skip
      refine pr_iload_n rfl rfl ?_
      refine pr_push (v := 0) rfl rfl ?_
      refine pr_push (v := 2) rfl rfl ?_
      refine pr_si3 rfl (by decide) (Nat.le_of_ble_eq_true rfl) (Nat.le_of_ble_eq_true rfl) (c_48 _ _ _ _ _) (fun r_19 h_19 q_19 => ?_)
      obtain ⟨rfl, rfl⟩ := q_19
      refine pr_b_ne rfl (fun c_22 => ?_) (fun c_22 => ?_)
      · skip
        refine pr_aload_n rfl rfl ?_
        refine pr_getf rfl rfl rfl ?_
        refine pr_vi0 rfl (by decide) (Nat.le_of_ble_eq_true rfl) rfl (Nat.le_of_ble_eq_true rfl) (lc_4 _ _ 18 19 20 21 22 10 e18 _ _ _ _ (hl_18 he18)) (fun r_32 h_32 q_32 => ?_)
        obtain ⟨rfl, rfl⟩ := q_32
        refine pr_b_eq rfl (fun c_35 => ?_) (fun c_35 => ?_)
        · skip
          refine pr_aload_n rfl rfl ?_
          refine pr_getf rfl rfl rfl ?_
          refine pr_iload_n rfl rfl ?_
          refine pr_iload_n rfl rfl ?_
          refine pr_aload_n rfl rfl ?_
          refine pr_getf rfl rfl rfl ?_
          refine pr_iload_n rfl rfl ?_
          refine pr_vi4 rfl (by decide) (Nat.le_of_ble_eq_true rfl) rfl (Nat.le_of_ble_eq_true rfl) (lc_5 _ _ 18 19 20 21 22 10 e18 _ _ _ _ (hl_18 he18) (by decide) (by omega) _ _ _ _) (fun r_52 h_52 q_52 => ?_)
          obtain ⟨rfl, rfl⟩ := q_52
          refine pr_heap hl_put_18 ?_
          exact pr_reti rfl rfl (Or.inr (Or.inr ⟨by omega, by omega, rfl, rfl⟩))
        · skip
          refine pr_push (v := (-4)) rfl rfl ?_
          exact pr_reti rfl rfl (Or.inr (Or.inl ⟨by omega, by omega, rfl, rfl⟩))
      · skip
        refine pr_push (v := (-2)) rfl rfl ?_
        exact pr_reti rfl rfl (Or.inl ⟨by omega, rfl, rfl⟩)
theorem c_62 (d : Nat) {N : Nat} {xs : Nat → Int32} {zc zm : Nat → Int32} {e3 e11 e18 : Nat} {A : Nat → Nat → Int32} {g gh : Nat → Option Nat} {dy : pw_H} (Y : Nat) (hY : zc 3 = nI Y) (hYb : Y ≤ 300) (S : Nat) (hS : zc 7 = nI S) (hSb : S ≤ 12) (s y : Int32) : pw_M (d + 2) 62 [.inr (some 1), .inl s, .inl y] (hp_h N xs zc e3 e11 e18 zm A g gh dy) (pw_qi (fun r h' => ((¬ pw_bt s 0 (zc 7 - 1) ∧ r = 0) ∨ ∃ j : Nat, j < S ∧ s = nI j ∧ r = pw_b (pw_bt y (A 9 j) (zc 3))) ∧ h' = (hp_h N xs zc e3 e11 e18 zm A g gh dy))) := by
  have z0 := pz_0
  have z1 := pz_1
  have z2 := pz_2
  have z3 := pz_3
  have z4 := pz_4
  have z6 := pz_6
  have z7 := pz_7
  have z10 := pz_10
  have z11 := pz_11
  have z12 := pz_12
  have z20 := pz_20
  have z30 := pz_30
  have z50 := pz_50
  have z60 := pz_60
  have z80 := pz_80
  have z300 := pz_300
  have hYT : (zc 3).toInt = (Y : Int) := by rw [hY]; exact pw_T (by omega)
  have hYP : (zc 3 - 1).toInt = (Y : Int) - 1 := by rw [hY]; exact pw_pred (by omega)
  have hST : (zc 7).toInt = (S : Int) := by rw [hS]; exact pw_T (by omega)
  have hSP : (zc 7 - 1).toInt = (S : Int) - 1 := by rw [hS]; exact pw_pred (by omega)
  refine pr_aload_n rfl rfl ?_
  refine pr_iload_n rfl rfl ?_
  refine pr_vi1 rfl (by decide) (Nat.le_of_ble_eq_true rfl) rfl (Nat.le_of_ble_eq_true rfl) (c_53 _ _ 1 (hp_c zc) (zc 7) _ rfl rfl) (fun r_2 h_2 q_2 => ?_)
  obtain ⟨rfl, rfl⟩ := q_2
  refine pr_b_eq rfl (fun c_5 => ?_) (fun c_5 => ?_)
  · skip
    refine pr_push (v := 0) rfl rfl ?_
    exact pr_retb rfl rfl rfl (⟨by first
    | exact Or.inl ⟨by assumption, rfl⟩
    | exact Or.inr ⟨j, by omega, rfl, by first | rw [pw_b1 (by assumption)] | rw [pw_b0 (by assumption)]⟩, rfl⟩)
  · skip
    obtain ⟨j, rfl, hjT, hjl⟩ := pw_nat (x := s) (by omega)
    refine pr_iload_n rfl rfl ?_
    refine pr_aload_n rfl rfl ?_
    refine pr_getf rfl rfl rfl ?_
    refine pr_iload_n rfl rfl ?_
    refine pr_iald (j) rfl rfl (by decide) (by decide) rfl (by omega) ?_
    refine pr_aload_n rfl rfl ?_
    refine pr_getf rfl rfl rfl ?_
    refine pr_si3 rfl (by decide) (Nat.le_of_ble_eq_true rfl) (Nat.le_of_ble_eq_true rfl) (c_48 _ _ _ _ _) (fun r_19 h_19 q_19 => ?_)
    obtain ⟨rfl, rfl⟩ := q_19
    refine pr_b_eq rfl (fun c_22 => ?_) (fun c_22 => ?_)
    · skip
      refine pr_push (v := 0) rfl rfl ?_
      exact pr_retb rfl rfl rfl (⟨by first
    | exact Or.inl ⟨by assumption, rfl⟩
    | exact Or.inr ⟨j, by omega, rfl, by first | rw [pw_b1 (by assumption)] | rw [pw_b0 (by assumption)]⟩, rfl⟩)
    · skip
      refine pr_push (v := 1) rfl rfl ?_
      refine pr_step rfl rfl rfl rfl ?_
      exact pr_retb rfl rfl rfl (⟨by first
    | exact Or.inl ⟨by assumption, rfl⟩
    | exact Or.inr ⟨j, by omega, rfl, by first | rw [pw_b1 (by assumption)] | rw [pw_b0 (by assumption)]⟩, rfl⟩)
theorem c_63 (d : Nat) {N : Nat} {xs : Nat → Int32} {zc zm : Nat → Int32} {e3 e11 e18 : Nat} {A : Nat → Nat → Int32} {g gh : Nat → Option Nat} {dy : pw_H}  (he11 : e11 ≤ 60) (s y v : Int32) : pw_M (d + 2) 63 [.inr (some 1), .inl s, .inl y, .inl v] (hp_h N xs zc e3 e11 e18 zm A g gh dy) (pw_qi (fun r h' => (e11 = 60 ∧ r = -4 ∧ h' = (hp_h N xs zc e3 e11 e18 zm A g gh dy)) ∨ (¬ e11 = 60 ∧ r = 1 ∧ h' = (hp_h N xs zc e3 (e11 + 1) e18 zm (uA (uA (uA (uA A 12 (upd (A 12) e11 s)) 13 (upd (A 13) e11 y)) 14 (upd (A 14) e11 (zc 3))) 15 (upd (A 15) e11 v)) g gh dy)))) := by
  have z0 := pz_0
  have z1 := pz_1
  have z2 := pz_2
  have z3 := pz_3
  have z4 := pz_4
  have z6 := pz_6
  have z7 := pz_7
  have z10 := pz_10
  have z11 := pz_11
  have z12 := pz_12
  have z20 := pz_20
  have z30 := pz_30
  have z50 := pz_50
  have z60 := pz_60
  have z80 := pz_80
  have z300 := pz_300

  refine pr_aload_n rfl rfl ?_
  refine pr_getf rfl rfl rfl ?_
  refine pr_vi0 rfl (by decide) (Nat.le_of_ble_eq_true rfl) rfl (Nat.le_of_ble_eq_true rfl) (lc_4 _ _ 11 12 13 14 15 60 e11 _ _ _ _ (hl_11 he11)) (fun r_4 h_4 q_4 => ?_)
  obtain ⟨rfl, rfl⟩ := q_4
  refine pr_b_eq rfl (fun c_7 => ?_) (fun c_7 => ?_)
  · skip
    refine pr_aload_n rfl rfl ?_
    refine pr_getf rfl rfl rfl ?_
    refine pr_iload_n rfl rfl ?_
    refine pr_iload_n rfl rfl ?_
    refine pr_aload_n rfl rfl ?_
    refine pr_getf rfl rfl rfl ?_
    refine pr_iload_n rfl rfl ?_
    refine pr_vi4 rfl (by decide) (Nat.le_of_ble_eq_true rfl) rfl (Nat.le_of_ble_eq_true rfl) (lc_5 _ _ 11 12 13 14 15 60 e11 _ _ _ _ (hl_11 he11) (by decide) (by omega) _ _ _ _) (fun r_24 h_24 q_24 => ?_)
    obtain ⟨rfl, rfl⟩ := q_24
    refine pr_heap hl_put_11 ?_
    refine pr_step rfl rfl rfl rfl ?_
    refine pr_push (v := 1) rfl rfl ?_
    exact pr_reti rfl rfl (Or.inr ⟨by omega, rfl, rfl⟩)
  · skip
    refine pr_push (v := (-4)) rfl rfl ?_
    exact pr_reti rfl rfl (Or.inl ⟨by omega, rfl, rfl⟩)
theorem c_64 (d : Nat) {N : Nat} {xs : Nat → Int32} {zc zm : Nat → Int32} {e3 e11 e18 : Nat} {A : Nat → Nat → Int32} {g gh : Nat → Option Nat} {dy : pw_H} (he11 : e11 ≤ 60) (j : Nat) (hj : j < 12) : pw_M (d + 1) 64 [.inr (some 1), .inl (nI j)] (hp_h N xs zc e3 e11 e18 zm A g gh dy) (pw_qi (fun r h' => r = pw_b ((ld_run (nI j) (zc 3) (zc 3) (A 8 j) (A 12) (A 13) (A 14) (A 15) e11).2 = -1) ∧ h' = (hp_h N xs zc e3 e11 e18 zm A g gh dy))) := by
  refine pr_aload_n rfl rfl ?_
  refine pr_getf rfl rfl rfl ?_
  refine pr_iload_n rfl rfl ?_
  refine pr_aload_n rfl rfl ?_
  refine pr_getf rfl rfl rfl ?_
  refine pr_aload_n rfl rfl ?_
  refine pr_getf rfl rfl rfl ?_
  refine pr_aload_n rfl rfl ?_
  refine pr_getf rfl rfl rfl ?_
  refine pr_iload_n rfl rfl ?_
  refine pr_iald (j) rfl rfl (by decide) (by decide) rfl (by omega) ?_
  refine pr_vi4 rfl (by decide) (Nat.le_of_ble_eq_true rfl) rfl (Nat.le_of_ble_eq_true rfl) (lc_6 _ _ 11 12 13 14 15 60 e11 _ _ _ _ (hl_11 he11) _ _ _ _) (fun r_19 h_19 q_19 => ?_)
  obtain ⟨rfl, rfl⟩ := q_19
  refine pr_push (v := (-1)) rfl rfl ?_
  refine pr_c_ne rfl (fun c_23 => ?_) (fun c_23 => ?_)
  · skip
    refine pr_push (v := 0) rfl rfl ?_
    exact pr_retb rfl rfl rfl (⟨by first | rw [pw_b1 (by assumption)] | rw [pw_b0 (by assumption)], rfl⟩)
  · skip
    refine pr_push (v := 1) rfl rfl ?_
    refine pr_step rfl rfl rfl rfl ?_
    exact pr_retb rfl rfl rfl (⟨by first | rw [pw_b1 (by assumption)] | rw [pw_b0 (by assumption)], rfl⟩)
