theorem pw_s {z : Int32} {n : Nat} (h : z = nI n) : z + 1 = nI (n + 1) := by rw [h]; exact nI_1 n
theorem pw_pred {n : Nat} (h : n < 2147483648) : (nI n - 1).toInt = (n : Int) - 1 := by
  cases n with
  | zero => rfl
  | succ n => rw [nI_pred, pw_T (by omega)]; omega
theorem pw_nat {x : Int32} (h : 0 ≤ x.toInt) : ∃ j : Nat, x = nI j ∧ x.toInt = (j : Int) ∧ j < 2147483648 := by
  have h2 := Int32.toInt_lt x
  refine ⟨x.toInt.toNat, ?_, by omega, by omega⟩
  apply Int32.toInt_inj.mp
  rw [pw_T (by omega)]
  omega
section PWQ
variable {d M pc np t : Nat} {q : List Nat} {L : pw_L} {st : List pw_V} {h : pw_H} {Q : Option pw_V → pw_H → Prop}
theorem pr_u_eq {off : Int} {x y : Int32} (ho : pw_op M pc = some (.if_icmp .eq off, np, t, q)) (kt : x.toInt = y.toInt → pw_W d M t L st h Q) (kf : ¬ x.toInt = y.toInt → pw_W d M np L st h Q) : pw_W d M pc L (.inl y :: .inl x :: st) h Q := pr_c_eq ho (fun e => kt (by rw [e])) (fun e => kf (fun z => e (Int32.toInt_inj.mp z)))
theorem pr_u_ne {off : Int} {x y : Int32} (ho : pw_op M pc = some (.if_icmp .ne off, np, t, q)) (kt : ¬ x.toInt = y.toInt → pw_W d M t L st h Q) (kf : x.toInt = y.toInt → pw_W d M np L st h Q) : pw_W d M pc L (.inl y :: .inl x :: st) h Q := pr_c_ne ho (fun e => kt (fun z => e (Int32.toInt_inj.mp z))) (fun e => kf (by rw [e]))
theorem pr_t_eq {off : Int} {x : Int32} (ho : pw_op M pc = some (.ifCond .eq off, np, t, q)) (kt : x.toInt = 0 → pw_W d M t L st h Q) (kf : ¬ x.toInt = 0 → pw_W d M np L st h Q) : pw_W d M pc L (.inl x :: st) h Q := pr_z_eq ho (fun e => kt (by rw [e]; rfl)) (fun e => kf (fun z => e (Int32.toInt_inj.mp z)))
theorem pr_t_ne {off : Int} {x : Int32} (ho : pw_op M pc = some (.ifCond .ne off, np, t, q)) (kt : ¬ x.toInt = 0 → pw_W d M t L st h Q) (kf : x.toInt = 0 → pw_W d M np L st h Q) : pw_W d M pc L (.inl x :: st) h Q := pr_z_ne ho (fun e => kt (fun z => e (Int32.toInt_inj.mp z))) (fun e => kf (by rw [e]; rfl))
end PWQ
theorem pw_addT {a b : Int32} (h1 : -1000000000 ≤ a.toInt ∧ a.toInt ≤ 1000000000) (h2 : -1000000000 ≤ b.toInt ∧ b.toInt ≤ 1000000000) : (a + b).toInt = a.toInt + b.toInt := by
  rw [Int32.toInt_add]
  exact Int.bmod_eq_of_le (by omega) (by omega)
theorem c_74 (d : Nat) {N : Nat} {xs : Nat → Int32} {zc zm : Nat → Int32} {e3 e11 e18 : Nat} {A : Nat → Nat → Int32} {g gh : Nat → Option Nat} {dy : pw_H} (P : Nat) (hP : zm 0 = nI P) (hPb : P ≤ 4)  (x y : Int32) : pw_M (d + 2) 74 [.inr (some 25), .inl x, .inl y] (hp_h N xs zc e3 e11 e18 zm A g gh dy) (pw_qi (fun r h' => (¬ pw_pt x y ∧ r = -2 ∧ h' = (hp_h N xs zc e3 e11 e18 zm A g gh dy)) ∨ (¬ (¬ pw_pt x y) ∧ P = 4 ∧ r = -4 ∧ h' = (hp_h N xs zc e3 e11 e18 zm A g gh dy)) ∨ (¬ (¬ pw_pt x y) ∧ ¬ (P = 4) ∧ r = nI P ∧ h' = (hp_h N xs zc e3 e11 e18 (upd zm 0 (nI (P + 1))) (uA (uA A 26 (upd (A 26) P x)) 27 (upd (A 27) P y)) g gh dy)))) := by
  have z0 := pz_0
  have z1 := pz_1
  have z2 := pz_2
  have z3 := pz_3
  have z4 := pz_4
  have z6 := pz_6
  have z7 := pz_7
  have z10 := pz_10
  have z11 := pz_11
  have z12 := pz_12
  have z20 := pz_20
  have z30 := pz_30
  have z50 := pz_50
  have z60 := pz_60
  have z80 := pz_80
  have z300 := pz_300
  have hPT : (zm 0).toInt = (P : Int) := by rw [hP]; exact pw_T (by omega)
  have hPP : (zm 0 - 1).toInt = (P : Int) - 1 := by rw [hP]; exact pw_pred (by omega)
  refine pr_iload_n rfl rfl ?_
  refine pr_iload_n rfl rfl ?_
  refine pr_si2 rfl (by decide) (Nat.le_of_ble_eq_true rfl) (Nat.le_of_ble_eq_true rfl) (c_70 _ _ _ _) (fun r_2 h_2 q_2 => ?_)
  obtain ⟨rfl, rfl⟩ := q_2
  refine pr_b_ne rfl (fun c_5 => ?_) (fun c_5 => ?_)
  · skip
    refine pr_aload_n rfl rfl ?_
    refine pr_getf rfl rfl rfl ?_
    refine pr_push (v := 4) rfl rfl ?_
    refine pr_u_ne rfl (fun c_16 => ?_) (fun c_16 => ?_)
    · skip
      refine pr_aload_n rfl rfl ?_
      refine pr_getf rfl rfl rfl ?_
      refine pr_aload_n rfl rfl ?_
      refine pr_getf rfl rfl rfl ?_
      refine pr_iload_n rfl rfl ?_
      refine pr_iast (P) rfl rfl (by decide) hP (by omega) hs_a26 ?_
      refine pr_aload_n rfl rfl ?_
      refine pr_getf rfl rfl rfl ?_
      refine pr_aload_n rfl rfl ?_
      refine pr_getf rfl rfl rfl ?_
      refine pr_iload_n rfl rfl ?_
      refine pr_iast (P) rfl rfl (by decide) hP (by omega) hs_a27 ?_
      refine pr_aload_n rfl rfl ?_
      refine pr_step rfl rfl rfl rfl ?_
      refine pr_getf rfl rfl rfl ?_
      refine pr_push (v := 1) rfl rfl ?_
      refine pr_step rfl rfl rfl rfl ?_
      refine pr_top (pw_s hP) ?_
      refine pr_putf rfl rfl (Nat.le_of_ble_eq_true rfl) rfl hs_m0 ?_
      refine pr_aload_n rfl rfl ?_
      refine pr_getf rfl rfl rfl ?_
      refine pr_push (v := 1) rfl rfl ?_
      refine pr_step rfl rfl rfl rfl ?_
      refine pr_top (nI_pred P) ?_
      exact pr_reti rfl rfl (Or.inr (Or.inr ⟨by omega, by omega, rfl, rfl⟩))
    · skip
      refine pr_push (v := (-4)) rfl rfl ?_
      exact pr_reti rfl rfl (Or.inr (Or.inl ⟨by omega, by omega, rfl, rfl⟩))
  · skip
    refine pr_push (v := (-2)) rfl rfl ?_
    exact pr_reti rfl rfl (Or.inl ⟨by omega, rfl, rfl⟩)
theorem c_91 (d : Nat) {N : Nat} {xs : Nat → Int32} {zc zm : Nat → Int32} {e3 e11 e18 : Nat} {A : Nat → Nat → Int32} {g gh : Nat → Option Nat} {dy : pw_H} (Y : Nat) (hY : zm 11 = nI Y) (hYb : Y ≤ 300)  (n : Int32) : pw_M (d + 2) 91 [.inr (some 25), .inl n] (hp_h N xs zc e3 e11 e18 zm A g gh dy) (pw_qi (fun r h' => ((¬ pw_bt n 1 50 ∨ 300 < (Y : Int) + n.toInt) ∧ r = -2 ∧ h' = (hp_h N xs zc e3 e11 e18 zm A g gh dy)) ∨ (pw_bt n 1 50 ∧ (Y : Int) + n.toInt ≤ 300 ∧ r = zm 11 + n ∧ h' = (hp_h N xs zc e3 e11 e18 (upd zm 11 (zm 11 + n)) A g gh dy)))) := by
  have z0 := pz_0
  have z1 := pz_1
  have z2 := pz_2
  have z3 := pz_3
  have z4 := pz_4
  have z6 := pz_6
  have z7 := pz_7
  have z10 := pz_10
  have z11 := pz_11
  have z12 := pz_12
  have z20 := pz_20
  have z30 := pz_30
  have z50 := pz_50
  have z60 := pz_60
  have z80 := pz_80
  have z300 := pz_300
  have hYT : (zm 11).toInt = (Y : Int) := by rw [hY]; exact pw_T (by omega)
  have hYP : (zm 11 - 1).toInt = (Y : Int) - 1 := by rw [hY]; exact pw_pred (by omega)
  refine pr_iload_n rfl rfl ?_
  refine pr_push (v := 1) rfl rfl ?_
  refine pr_push (v := 50) rfl rfl ?_
  refine pr_si3 rfl (by decide) (Nat.le_of_ble_eq_true rfl) (Nat.le_of_ble_eq_true rfl) (c_69 _ _ _ _ _) (fun r_4 h_4 q_4 => ?_)
  obtain ⟨rfl, rfl⟩ := q_4
  refine pr_b_eq rfl (fun c_7 => ?_) (fun c_7 => ?_)
  · skip
    refine pr_push (v := (-2)) rfl rfl ?_
    exact pr_reti rfl rfl (Or.inl ⟨by omega, rfl, rfl⟩)
  · skip
    refine pr_aload_n rfl rfl ?_
    refine pr_getf rfl rfl rfl ?_
    refine pr_iload_n rfl rfl ?_
    refine pr_step rfl rfl rfl rfl ?_
    have hs : (zm 11 + n).toInt = (Y : Int) + n.toInt := by
      rw [pw_addT (by omega) (by omega)]
      omega
    refine pr_push (v := 300) rfl rfl ?_
    refine pr_c_le rfl (fun c_19 => ?_) (fun c_19 => ?_)
    · skip
      refine pr_aload_n rfl rfl ?_
      refine pr_step rfl rfl rfl rfl ?_
      refine pr_getf rfl rfl rfl ?_
      refine pr_iload_n rfl rfl ?_
      refine pr_step rfl rfl rfl rfl ?_
      refine pr_putf rfl rfl (Nat.le_of_ble_eq_true rfl) rfl hs_m11 ?_
      refine pr_aload_n rfl rfl ?_
      refine pr_getf rfl rfl rfl ?_
      exact pr_reti rfl rfl (Or.inr ⟨by omega, by omega, rfl, rfl⟩)
    · skip
      refine pr_push (v := (-2)) rfl rfl ?_
      exact pr_reti rfl rfl (Or.inl ⟨by omega, rfl, rfl⟩)
theorem c_93 (d : Nat) {N : Nat} {xs : Nat → Int32} {zc zm : Nat → Int32} {e3 e11 e18 : Nat} {A : Nat → Nat → Int32} {g gh : Nat → Option Nat} {dy : pw_H} (S : Nat) (hS : zm 12 = nI S) (hSb : S ≤ 12)  (x y : Int32) : pw_M (d + 2) 93 [.inr (some 25), .inl x, .inl y] (hp_h N xs zc e3 e11 e18 zm A g gh dy) (pw_qi (fun r h' => (¬ pw_pt x y ∧ r = -2 ∧ h' = (hp_h N xs zc e3 e11 e18 zm A g gh dy)) ∨ (¬ (¬ pw_pt x y) ∧ S = 12 ∧ r = -4 ∧ h' = (hp_h N xs zc e3 e11 e18 zm A g gh dy)) ∨ (¬ (¬ pw_pt x y) ∧ ¬ (S = 12) ∧ r = nI S ∧ h' = (hp_h N xs zc e3 e11 e18 (upd zm 12 (nI (S + 1))) (uA (uA (uA A 35 (upd (A 35) S (zm 11))) 36 (upd (A 36) S (100 * x + y))) 37 (upd (A 37) S (zm 11))) g gh dy)))) := by
  have z0 := pz_0
  have z1 := pz_1
  have z2 := pz_2
  have z3 := pz_3
  have z4 := pz_4
  have z6 := pz_6
  have z7 := pz_7
  have z10 := pz_10
  have z11 := pz_11
  have z12 := pz_12
  have z20 := pz_20
  have z30 := pz_30
  have z50 := pz_50
  have z60 := pz_60
  have z80 := pz_80
  have z300 := pz_300
  have hST : (zm 12).toInt = (S : Int) := by rw [hS]; exact pw_T (by omega)
  have hSP : (zm 12 - 1).toInt = (S : Int) - 1 := by rw [hS]; exact pw_pred (by omega)
  refine pr_iload_n rfl rfl ?_
  refine pr_iload_n rfl rfl ?_
  refine pr_si2 rfl (by decide) (Nat.le_of_ble_eq_true rfl) (Nat.le_of_ble_eq_true rfl) (c_70 _ _ _ _) (fun r_2 h_2 q_2 => ?_)
  obtain ⟨rfl, rfl⟩ := q_2
  refine pr_b_ne rfl (fun c_5 => ?_) (fun c_5 => ?_)
  · skip
    refine pr_aload_n rfl rfl ?_
    refine pr_getf rfl rfl rfl ?_
    refine pr_push (v := 12) rfl rfl ?_
    refine pr_u_ne rfl (fun c_17 => ?_) (fun c_17 => ?_)
    · skip
      refine pr_aload_n rfl rfl ?_
      refine pr_getf rfl rfl rfl ?_
      refine pr_aload_n rfl rfl ?_
      refine pr_getf rfl rfl rfl ?_
      refine pr_aload_n rfl rfl ?_
      refine pr_getf rfl rfl rfl ?_
      refine pr_iast (S) rfl rfl (by decide) hS (by omega) hs_a35 ?_
      refine pr_aload_n rfl rfl ?_
      refine pr_getf rfl rfl rfl ?_
      refine pr_aload_n rfl rfl ?_
      refine pr_getf rfl rfl rfl ?_
      refine pr_push (v := 100) rfl rfl ?_
      refine pr_iload_n rfl rfl ?_
      refine pr_step rfl rfl rfl rfl ?_
      refine pr_iload_n rfl rfl ?_
      refine pr_step rfl rfl rfl rfl ?_
      refine pr_iast (S) rfl rfl (by decide) hS (by omega) hs_a36 ?_
      refine pr_aload_n rfl rfl ?_
      refine pr_getf rfl rfl rfl ?_
      refine pr_aload_n rfl rfl ?_
      refine pr_getf rfl rfl rfl ?_
      refine pr_aload_n rfl rfl ?_
      refine pr_getf rfl rfl rfl ?_
      refine pr_iast (S) rfl rfl (by decide) hS (by omega) hs_a37 ?_
      refine pr_aload_n rfl rfl ?_
      refine pr_step rfl rfl rfl rfl ?_
      refine pr_getf rfl rfl rfl ?_
      refine pr_push (v := 1) rfl rfl ?_
      refine pr_step rfl rfl rfl rfl ?_
      refine pr_top (pw_s hS) ?_
      refine pr_putf rfl rfl (Nat.le_of_ble_eq_true rfl) rfl hs_m12 ?_
      refine pr_aload_n rfl rfl ?_
      refine pr_getf rfl rfl rfl ?_
      refine pr_push (v := 1) rfl rfl ?_
      refine pr_step rfl rfl rfl rfl ?_
      refine pr_top (nI_pred S) ?_
      exact pr_reti rfl rfl (Or.inr (Or.inr ⟨by omega, by omega, rfl, rfl⟩))
    · skip
      refine pr_push (v := (-4)) rfl rfl ?_
      exact pr_reti rfl rfl (Or.inr (Or.inl ⟨by omega, by omega, rfl, rfl⟩))
  · skip
    refine pr_push (v := (-2)) rfl rfl ?_
    exact pr_reti rfl rfl (Or.inl ⟨by omega, rfl, rfl⟩)
theorem c_94 (d : Nat) {N : Nat} {xs : Nat → Int32} {zc zm : Nat → Int32} {e3 e11 e18 : Nat} {A : Nat → Nat → Int32} {g gh : Nat → Option Nat} {dy : pw_H} (T : Nat) (hT : zm 16 = nI T) (hTb : T ≤ 60)  (x y v : Int32) : pw_M (d + 0) 94 [.inr (some 25), .inl x, .inl y, .inl v] (hp_h N xs zc e3 e11 e18 zm A g gh dy) (pw_qi (fun r h' => (T = 60 ∧ r = -4 ∧ h' = (hp_h N xs zc e3 e11 e18 zm A g gh dy)) ∨ (¬ T = 60 ∧ r = 1 ∧ h' = (hp_h N xs zc e3 e11 e18 (upd zm 16 (nI (T + 1))) (uA (uA (uA (uA A 38 (upd (A 38) T x)) 39 (upd (A 39) T y)) 40 (upd (A 40) T (zm 11))) 41 (upd (A 41) T v)) g gh dy)))) := by
  have z0 := pz_0
  have z1 := pz_1
  have z2 := pz_2
  have z3 := pz_3
  have z4 := pz_4
  have z6 := pz_6
  have z7 := pz_7
  have z10 := pz_10
  have z11 := pz_11
  have z12 := pz_12
  have z20 := pz_20
  have z30 := pz_30
  have z50 := pz_50
  have z60 := pz_60
  have z80 := pz_80
  have z300 := pz_300
  have hTT : (zm 16).toInt = (T : Int) := by rw [hT]; exact pw_T (by omega)
  have hTP : (zm 16 - 1).toInt = (T : Int) - 1 := by rw [hT]; exact pw_pred (by omega)
  refine pr_aload_n rfl rfl ?_
  refine pr_getf rfl rfl rfl ?_
  refine pr_push (v := 60) rfl rfl ?_
  refine pr_u_ne rfl (fun c_6 => ?_) (fun c_6 => ?_)
  · skip
    refine pr_aload_n rfl rfl ?_
    refine pr_getf rfl rfl rfl ?_
    refine pr_aload_n rfl rfl ?_
    refine pr_getf rfl rfl rfl ?_
    refine pr_iload_n rfl rfl ?_
    refine pr_iast (T) rfl rfl (by decide) hT (by omega) hs_a38 ?_
    refine pr_aload_n rfl rfl ?_
    refine pr_getf rfl rfl rfl ?_
    refine pr_aload_n rfl rfl ?_
    refine pr_getf rfl rfl rfl ?_
    refine pr_iload_n rfl rfl ?_
    refine pr_iast (T) rfl rfl (by decide) hT (by omega) hs_a39 ?_
    refine pr_aload_n rfl rfl ?_
    refine pr_getf rfl rfl rfl ?_
    refine pr_aload_n rfl rfl ?_
    refine pr_getf rfl rfl rfl ?_
    refine pr_aload_n rfl rfl ?_
    refine pr_getf rfl rfl rfl ?_
    refine pr_iast (T) rfl rfl (by decide) hT (by omega) hs_a40 ?_
    refine pr_aload_n rfl rfl ?_
    refine pr_getf rfl rfl rfl ?_
    refine pr_aload_n rfl rfl ?_
    refine pr_getf rfl rfl rfl ?_
    refine pr_iload_n rfl rfl ?_
    refine pr_iast (T) rfl rfl (by decide) hT (by omega) hs_a41 ?_
    refine pr_aload_n rfl rfl ?_
    refine pr_step rfl rfl rfl rfl ?_
    refine pr_getf rfl rfl rfl ?_
    refine pr_push (v := 1) rfl rfl ?_
    refine pr_step rfl rfl rfl rfl ?_
    refine pr_top (pw_s hT) ?_
    refine pr_putf rfl rfl (Nat.le_of_ble_eq_true rfl) rfl hs_m16 ?_
    refine pr_push (v := 1) rfl rfl ?_
    exact pr_reti rfl rfl (Or.inr ⟨by omega, rfl, rfl⟩)
  · skip
    refine pr_push (v := (-4)) rfl rfl ?_
    exact pr_reti rfl rfl (Or.inl ⟨by omega, rfl, rfl⟩)
theorem c_100 (d : Nat) {N : Nat} {xs : Nat → Int32} {zc zm : Nat → Int32} {e3 e11 e18 : Nat} {A : Nat → Nat → Int32} {g gh : Nat → Option Nat} {dy : pw_H} (W : Nat) (hW : zm 21 = nI W) (hWb : W ≤ 20)  (y : Int32) : pw_M (d + 2) 100 [.inr (some 25), .inl y] (hp_h N xs zc e3 e11 e18 zm A g gh dy) (pw_qi (fun r h' => (¬ pw_yr y ∧ r = -2 ∧ h' = (hp_h N xs zc e3 e11 e18 zm A g gh dy)) ∨ (¬ (¬ pw_yr y) ∧ W = 20 ∧ r = -4 ∧ h' = (hp_h N xs zc e3 e11 e18 zm A g gh dy)) ∨ (¬ (¬ pw_yr y) ∧ ¬ (W = 20) ∧ r = nI W ∧ h' = (hp_h N xs zc e3 e11 e18 (upd zm 21 (nI (W + 1))) (uA A 42 (upd (A 42) W y)) g gh dy)))) := by
  have z0 := pz_0
  have z1 := pz_1
  have z2 := pz_2
  have z3 := pz_3
  have z4 := pz_4
  have z6 := pz_6
  have z7 := pz_7
  have z10 := pz_10
  have z11 := pz_11
  have z12 := pz_12
  have z20 := pz_20
  have z30 := pz_30
  have z50 := pz_50
  have z60 := pz_60
  have z80 := pz_80
  have z300 := pz_300
  have hWT : (zm 21).toInt = (W : Int) := by rw [hW]; exact pw_T (by omega)
  have hWP : (zm 21 - 1).toInt = (W : Int) - 1 := by rw [hW]; exact pw_pred (by omega)
  refine pr_iload_n rfl rfl ?_
  refine pr_si1 rfl (by decide) (Nat.le_of_ble_eq_true rfl) (Nat.le_of_ble_eq_true rfl) (c_72 _ _ _) (fun r_1 h_1 q_1 => ?_)
  obtain ⟨rfl, rfl⟩ := q_1
  refine pr_b_ne rfl (fun c_4 => ?_) (fun c_4 => ?_)
  · skip
    refine pr_aload_n rfl rfl ?_
    refine pr_getf rfl rfl rfl ?_
    refine pr_push (v := 20) rfl rfl ?_
    refine pr_u_ne rfl (fun c_16 => ?_) (fun c_16 => ?_)
    · skip
      refine pr_aload_n rfl rfl ?_
      refine pr_getf rfl rfl rfl ?_
      refine pr_aload_n rfl rfl ?_
      refine pr_getf rfl rfl rfl ?_
      refine pr_iload_n rfl rfl ?_
      refine pr_iast (W) rfl rfl (by decide) hW (by omega) hs_a42 ?_
      refine pr_aload_n rfl rfl ?_
      refine pr_step rfl rfl rfl rfl ?_
      refine pr_getf rfl rfl rfl ?_
      refine pr_push (v := 1) rfl rfl ?_
      refine pr_step rfl rfl rfl rfl ?_
      refine pr_top (pw_s hW) ?_
      refine pr_putf rfl rfl (Nat.le_of_ble_eq_true rfl) rfl hs_m21 ?_
      refine pr_aload_n rfl rfl ?_
      refine pr_getf rfl rfl rfl ?_
      refine pr_push (v := 1) rfl rfl ?_
      refine pr_step rfl rfl rfl rfl ?_
      refine pr_top (nI_pred W) ?_
      exact pr_reti rfl rfl (Or.inr (Or.inr ⟨by omega, by omega, rfl, rfl⟩))
    · skip
      refine pr_push (v := (-4)) rfl rfl ?_
      exact pr_reti rfl rfl (Or.inr (Or.inl ⟨by omega, by omega, rfl, rfl⟩))
  · skip
    refine pr_push (v := (-2)) rfl rfl ?_
    exact pr_reti rfl rfl (Or.inl ⟨by omega, rfl, rfl⟩)
