/-- where a stone is, by the class's rows -/
def wc_of (A : Nat → Nat → Int32) (T j : Nat) (yr kn : Int32) : Int32 :=
  if yr.toInt < (A 9 j).toInt ∨ kn.toInt < (A 9 j).toInt then -1 else (ld_run (nI j) yr kn (A 8 j) (A 12) (A 13) (A 14) (A 15) T).2
/-- where it is now, set at no later year -/
def lt_of (A : Nat → Nat → Int32) (T j : Nat) (now : Int32) : Int32 := (ld_run (nI j) now now (A 8 j) (A 12) (A 13) (A 14) (A 15) T).2
def dc_run (A : Nat → Nat → Int32) (T : Nat) (now gap : Int32) : Nat → Int32
  | 0 => 0
  | i + 1 => dc_run A T now gap i ||| (if ¬ lt_of A T i now = -1 ∧ gap.toInt ≤ (now - A 10 i).toInt then 1 <<< (nI i &&& 31) else 0)
theorem c_35 (d : Nat) {N : Nat} {xs : Nat → Int32} {zc zm : Nat → Int32} {e3 e11 e18 : Nat} {A : Nat → Nat → Int32} {g gh : Nat → Option Nat} {dy : pw_H} (Y : Nat) (hY : zc 3 = nI Y) (hYb : Y ≤ 300) (S : Nat) (hS : zc 7 = nI S) (hSb : S ≤ 12) (he11 : e11 ≤ 60) (s y x z : Int32) : pw_M (d + 3) 35 [.inr (some 1), .inl s, .inl y, .inl x, .inl z] (hp_h N xs zc e3 e11 e18 zm A g gh dy) (pw_qi (fun r h' => (¬ ((∃ j : Nat, j < S ∧ s = nI j ∧ pw_bt y (A 9 j) (zc 3)) ∧ pw_pt x z) ∧ r = -2 ∧ h' = (hp_h N xs zc e3 e11 e18 zm A g gh dy)) ∨ (((∃ j : Nat, j < S ∧ s = nI j ∧ pw_bt y (A 9 j) (zc 3)) ∧ pw_pt x z) ∧ e11 = 60 ∧ r = -4 ∧ h' = (hp_h N xs zc e3 e11 e18 zm A g gh dy)) ∨ (((∃ j : Nat, j < S ∧ s = nI j ∧ pw_bt y (A 9 j) (zc 3)) ∧ pw_pt x z) ∧ ¬ e11 = 60 ∧ r = 1 ∧ h' = (hp_h N xs zc e3 (e11 + 1) e18 zm (uA (uA (uA (uA A 12 (upd (A 12) e11 s)) 13 (upd (A 13) e11 y)) 14 (upd (A 14) e11 (zc 3))) 15 (upd (A 15) e11 (100 * x + z))) g gh dy)))) := by
  have z0 := pz_0
  have z1 := pz_1
  have z2 := pz_2
  have z3 := pz_3
  have z4 := pz_4
  have z6 := pz_6
  have z7 := pz_7
  have z10 := pz_10
  have z11 := pz_11
  have z12 := pz_12
  have z20 := pz_20
  have z30 := pz_30
  have z50 := pz_50
  have z60 := pz_60
  have z80 := pz_80
  have z300 := pz_300
  have hYT : (zc 3).toInt = (Y : Int) := by rw [hY]; exact pw_T (by omega)
  have hYP : (zc 3 - 1).toInt = (Y : Int) - 1 := by rw [hY]; exact pw_pred (by omega)
  have hST : (zc 7).toInt = (S : Int) := by rw [hS]; exact pw_T (by omega)
  have hSP : (zc 7 - 1).toInt = (S : Int) - 1 := by rw [hS]; exact pw_pred (by omega)
  refine pr_aload_n rfl rfl ?_
  refine pr_iload_n rfl rfl ?_
  refine pr_iload_n rfl rfl ?_
  refine pr_vi2 rfl (by decide) (Nat.le_of_ble_eq_true rfl) rfl (Nat.le_of_ble_eq_true rfl) (c_62 _ Y hY hYb S hS hSb _ _) (fun r_3 h_3 q_3 => ?_)
  obtain ⟨q, rfl⟩ := q_3
  rcases q with ⟨nb, rfl⟩ | ⟨j, hj, rfl, rfl⟩
  · have nok : ¬ ((∃ j : Nat, j < S ∧ s = nI j ∧ pw_bt y (A 9 j) (zc 3)) ∧ pw_pt x z) := fun hh => by
      obtain ⟨i, hi, e, -⟩ := hh.1
      have e2 := congrArg Int32.toInt e
      rw [pw_T (by omega)] at e2
      omega
    refine pr_step rfl rfl rfl rfl ?_
    refine pr_push (v := (-2)) rfl rfl ?_
    exact pr_reti rfl rfl (Or.inl ⟨nok, rfl, rfl⟩)
  · have hjT := pw_T (n := j) (by omega)
    have jj : ∀ i, i < S → nI j = nI i → i = j := fun i hi e => by
      have e2 := congrArg Int32.toInt e
      rw [hjT, pw_T (by omega)] at e2
      omega
    refine pr_b_eq rfl (fun c_6 => ?_) (fun c_6 => ?_)
    · skip
      refine pr_push (v := (-2)) rfl rfl ?_
      exact pr_reti rfl rfl (Or.inl ⟨fun hh => by
      obtain ⟨i, hi, e, e2⟩ := hh.1
      rw [jj i hi e] at e2
      first | exact absurd e2 (by assumption) | exact absurd hh.2 (by assumption), rfl, rfl⟩)
    · skip
      refine pr_iload_n rfl rfl ?_
      refine pr_iload rfl rfl ?_
      refine pr_si2 rfl (by decide) (Nat.le_of_ble_eq_true rfl) (Nat.le_of_ble_eq_true rfl) (c_49 _ _ _ _) (fun r_12 h_12 q_12 => ?_)
      obtain ⟨rfl, rfl⟩ := q_12
      refine pr_b_ne rfl (fun c_15 => ?_) (fun c_15 => ?_)
      · skip
        refine pr_aload_n rfl rfl ?_
        refine pr_iload_n rfl rfl ?_
        refine pr_iload_n rfl rfl ?_
        refine pr_iload_n rfl rfl ?_
        refine pr_iload rfl rfl ?_
        refine pr_si2 rfl (by decide) (Nat.le_of_ble_eq_true rfl) (Nat.le_of_ble_eq_true rfl) (c_54 _ _ _ _) (fun r_27 h_27 q_27 => ?_)
        obtain ⟨rfl, rfl⟩ := q_27
        refine pr_vi3 rfl (by decide) (Nat.le_of_ble_eq_true rfl) rfl (Nat.le_of_ble_eq_true rfl) (c_63 _ he11 _ _ _) (fun r_30 h_30 q_30 => ?_)
        skip
        exact pr_reti rfl rfl (by
      rcases q_30 with ⟨e1, rfl, rfl⟩ | ⟨e1, rfl, rfl⟩
      · exact Or.inr (Or.inl ⟨⟨⟨j, hj, rfl, by assumption⟩, by assumption⟩, e1, rfl, rfl⟩)
      · exact Or.inr (Or.inr ⟨⟨⟨j, hj, rfl, by assumption⟩, by assumption⟩, e1, rfl, rfl⟩))
      · skip
        refine pr_push (v := (-2)) rfl rfl ?_
        exact pr_reti rfl rfl (Or.inl ⟨fun hh => by
      obtain ⟨i, hi, e, e2⟩ := hh.1
      rw [jj i hi e] at e2
      first | exact absurd e2 (by assumption) | exact absurd hh.2 (by assumption), rfl, rfl⟩)
theorem c_36 (d : Nat) {N : Nat} {xs : Nat → Int32} {zc zm : Nat → Int32} {e3 e11 e18 : Nat} {A : Nat → Nat → Int32} {g gh : Nat → Option Nat} {dy : pw_H} (Y : Nat) (hY : zc 3 = nI Y) (hYb : Y ≤ 300) (S : Nat) (hS : zc 7 = nI S) (hSb : S ≤ 12) (he11 : e11 ≤ 60) (s y : Int32) : pw_M (d + 3) 36 [.inr (some 1), .inl s, .inl y] (hp_h N xs zc e3 e11 e18 zm A g gh dy) (pw_qi (fun r h' => (¬ ((∃ j : Nat, j < S ∧ s = nI j ∧ pw_bt y (A 9 j) (zc 3)) ) ∧ r = -2 ∧ h' = (hp_h N xs zc e3 e11 e18 zm A g gh dy)) ∨ (((∃ j : Nat, j < S ∧ s = nI j ∧ pw_bt y (A 9 j) (zc 3)) ) ∧ e11 = 60 ∧ r = -4 ∧ h' = (hp_h N xs zc e3 e11 e18 zm A g gh dy)) ∨ (((∃ j : Nat, j < S ∧ s = nI j ∧ pw_bt y (A 9 j) (zc 3)) ) ∧ ¬ e11 = 60 ∧ r = 1 ∧ h' = (hp_h N xs zc e3 (e11 + 1) e18 zm (uA (uA (uA (uA A 12 (upd (A 12) e11 s)) 13 (upd (A 13) e11 y)) 14 (upd (A 14) e11 (zc 3))) 15 (upd (A 15) e11 (-1))) g gh dy)))) := by
  have z0 := pz_0
  have z1 := pz_1
  have z2 := pz_2
  have z3 := pz_3
  have z4 := pz_4
  have z6 := pz_6
  have z7 := pz_7
  have z10 := pz_10
  have z11 := pz_11
  have z12 := pz_12
  have z20 := pz_20
  have z30 := pz_30
  have z50 := pz_50
  have z60 := pz_60
  have z80 := pz_80
  have z300 := pz_300
  have hYT : (zc 3).toInt = (Y : Int) := by rw [hY]; exact pw_T (by omega)
  have hYP : (zc 3 - 1).toInt = (Y : Int) - 1 := by rw [hY]; exact pw_pred (by omega)
  have hST : (zc 7).toInt = (S : Int) := by rw [hS]; exact pw_T (by omega)
  have hSP : (zc 7 - 1).toInt = (S : Int) - 1 := by rw [hS]; exact pw_pred (by omega)
  refine pr_aload_n rfl rfl ?_
  refine pr_iload_n rfl rfl ?_
  refine pr_iload_n rfl rfl ?_
  refine pr_vi2 rfl (by decide) (Nat.le_of_ble_eq_true rfl) rfl (Nat.le_of_ble_eq_true rfl) (c_62 _ Y hY hYb S hS hSb _ _) (fun r_3 h_3 q_3 => ?_)
  obtain ⟨q, rfl⟩ := q_3
  rcases q with ⟨nb, rfl⟩ | ⟨j, hj, rfl, rfl⟩
  · have nok : ¬ ((∃ j : Nat, j < S ∧ s = nI j ∧ pw_bt y (A 9 j) (zc 3)) ) := fun hh => by
      obtain ⟨i, hi, e, -⟩ := hh
      have e2 := congrArg Int32.toInt e
      rw [pw_T (by omega)] at e2
      omega
    refine pr_step rfl rfl rfl rfl ?_
    refine pr_push (v := (-2)) rfl rfl ?_
    exact pr_reti rfl rfl (Or.inl ⟨nok, rfl, rfl⟩)
  · have hjT := pw_T (n := j) (by omega)
    have jj : ∀ i, i < S → nI j = nI i → i = j := fun i hi e => by
      have e2 := congrArg Int32.toInt e
      rw [hjT, pw_T (by omega)] at e2
      omega
    refine pr_b_ne rfl (fun c_6 => ?_) (fun c_6 => ?_)
    · skip
      refine pr_aload_n rfl rfl ?_
      refine pr_iload_n rfl rfl ?_
      refine pr_iload_n rfl rfl ?_
      refine pr_push (v := (-1)) rfl rfl ?_
      refine pr_vi3 rfl (by decide) (Nat.le_of_ble_eq_true rfl) rfl (Nat.le_of_ble_eq_true rfl) (c_63 _ he11 _ _ _) (fun r_16 h_16 q_16 => ?_)
      skip
      exact pr_reti rfl rfl (by
      rcases q_16 with ⟨e1, rfl, rfl⟩ | ⟨e1, rfl, rfl⟩
      · exact Or.inr (Or.inl ⟨⟨j, hj, rfl, by assumption⟩, e1, rfl, rfl⟩)
      · exact Or.inr (Or.inr ⟨⟨j, hj, rfl, by assumption⟩, e1, rfl, rfl⟩))
    · skip
      refine pr_push (v := (-2)) rfl rfl ?_
      exact pr_reti rfl rfl (Or.inl ⟨fun hh => by
      obtain ⟨i, hi, e, e2⟩ := hh
      rw [jj i hi e] at e2
      first | exact absurd e2 (by assumption) | exact absurd hh.2 (by assumption), rfl, rfl⟩)
theorem c_37 (d : Nat) {N : Nat} {xs : Nat → Int32} {zc zm : Nat → Int32} {e3 e11 e18 : Nat} {A : Nat → Nat → Int32} {g gh : Nat → Option Nat} {dy : pw_H} (S : Nat) (hS : zc 7 = nI S) (hSb : S ≤ 12) (he11 : e11 ≤ 60) (s y k : Int32) : pw_M (d + 2) 37 [.inr (some 1), .inl s, .inl y, .inl k] (hp_h N xs zc e3 e11 e18 zm A g gh dy) (pw_qi (fun r h' => ((¬ (pw_bt s 0 (zc 7 - 1) ∧ pw_yr y ∧ pw_yr k) ∧ r = -2) ∨ ((pw_yr y ∧ pw_yr k) ∧ ∃ j : Nat, j < S ∧ s = nI j ∧ r = wc_of A e11 j y k)) ∧ h' = (hp_h N xs zc e3 e11 e18 zm A g gh dy))) := by
  have z0 := pz_0
  have z1 := pz_1
  have z2 := pz_2
  have z3 := pz_3
  have z4 := pz_4
  have z6 := pz_6
  have z7 := pz_7
  have z10 := pz_10
  have z11 := pz_11
  have z12 := pz_12
  have z20 := pz_20
  have z30 := pz_30
  have z50 := pz_50
  have z60 := pz_60
  have z80 := pz_80
  have z300 := pz_300
  have hST : (zc 7).toInt = (S : Int) := by rw [hS]; exact pw_T (by omega)
  have hSP : (zc 7 - 1).toInt = (S : Int) - 1 := by rw [hS]; exact pw_pred (by omega)
  refine pr_aload_n rfl rfl ?_
  refine pr_iload_n rfl rfl ?_
  refine pr_vi1 rfl (by decide) (Nat.le_of_ble_eq_true rfl) rfl (Nat.le_of_ble_eq_true rfl) (c_53 _ _ 1 (hp_c zc) (zc 7) _ rfl rfl) (fun r_2 h_2 q_2 => ?_)
  obtain ⟨rfl, rfl⟩ := q_2
  refine pr_b_eq rfl (fun c_5 => ?_) (fun c_5 => ?_)
  · skip
    refine pr_push (v := (-2)) rfl rfl ?_
    exact pr_reti rfl rfl (⟨Or.inl ⟨by omega, rfl⟩, rfl⟩)
  · skip
    obtain ⟨j, rfl, hjT, hjl⟩ := pw_nat (x := s) (by omega)
    refine pr_iload_n rfl rfl ?_
    refine pr_si1 rfl (by decide) (Nat.le_of_ble_eq_true rfl) (Nat.le_of_ble_eq_true rfl) (c_51 _ _ _) (fun r_9 h_9 q_9 => ?_)
    obtain ⟨rfl, rfl⟩ := q_9
    refine pr_b_eq rfl (fun c_12 => ?_) (fun c_12 => ?_)
    · skip
      refine pr_push (v := (-2)) rfl rfl ?_
      exact pr_reti rfl rfl (⟨Or.inl ⟨by omega, rfl⟩, rfl⟩)
    · skip
      refine pr_iload_n rfl rfl ?_
      refine pr_si1 rfl (by decide) (Nat.le_of_ble_eq_true rfl) (Nat.le_of_ble_eq_true rfl) (c_51 _ _ _) (fun r_16 h_16 q_16 => ?_)
      obtain ⟨rfl, rfl⟩ := q_16
      refine pr_b_ne rfl (fun c_19 => ?_) (fun c_19 => ?_)
      · skip
        refine pr_aload_n rfl rfl ?_
        refine pr_getf rfl rfl rfl ?_
        refine pr_iload_n rfl rfl ?_
        refine pr_iald (j) rfl rfl (by decide) (by decide) rfl (by omega) ?_
        refine pr_iload_n rfl rfl ?_
        refine pr_c_gt rfl (fun c_32 => ?_) (fun c_32 => ?_)
        · skip
          refine pr_push (v := (-1)) rfl rfl ?_
          exact pr_reti rfl rfl (⟨Or.inr ⟨⟨by assumption, by assumption⟩, j, by omega, rfl, by unfold wc_of; rw [if_pos (by omega)]⟩, rfl⟩)
        · skip
          refine pr_aload_n rfl rfl ?_
          refine pr_getf rfl rfl rfl ?_
          refine pr_iload_n rfl rfl ?_
          refine pr_iald (j) rfl rfl (by decide) (by decide) rfl (by omega) ?_
          refine pr_iload_n rfl rfl ?_
          refine pr_c_le rfl (fun c_42 => ?_) (fun c_42 => ?_)
          · skip
            refine pr_aload_n rfl rfl ?_
            refine pr_getf rfl rfl rfl ?_
            refine pr_iload_n rfl rfl ?_
            refine pr_iload_n rfl rfl ?_
            refine pr_iload_n rfl rfl ?_
            refine pr_aload_n rfl rfl ?_
            refine pr_getf rfl rfl rfl ?_
            refine pr_iload_n rfl rfl ?_
            refine pr_iald (j) rfl rfl (by decide) (by decide) rfl (by omega) ?_
            refine pr_vi4 rfl (by decide) (Nat.le_of_ble_eq_true rfl) rfl (Nat.le_of_ble_eq_true rfl) (lc_6 _ _ 11 12 13 14 15 60 e11 _ _ _ _ (hl_11 he11) _ _ _ _) (fun r_60 h_60 q_60 => ?_)
            obtain ⟨rfl, rfl⟩ := q_60
            exact pr_reti rfl rfl (⟨Or.inr ⟨⟨by assumption, by assumption⟩, j, by omega, rfl, by unfold wc_of; rw [if_neg (by omega)]⟩, rfl⟩)
          · skip
            refine pr_push (v := (-1)) rfl rfl ?_
            exact pr_reti rfl rfl (⟨Or.inr ⟨⟨by assumption, by assumption⟩, j, by omega, rfl, by unfold wc_of; rw [if_pos (by omega)]⟩, rfl⟩)
      · skip
        refine pr_push (v := (-2)) rfl rfl ?_
        exact pr_reti rfl rfl (⟨Or.inl ⟨by omega, rfl⟩, rfl⟩)
theorem c_39_loop (d : Nat) {N : Nat} {xs : Nat → Int32} {zc zm : Nat → Int32} {e3 e11 e18 : Nat} {A : Nat → Nat → Int32} {g gh : Nat → Option Nat} {dy : pw_H} (W : Nat) (hW : zc 10 = nI W) (hWb : W ≤ 20) (hb : ∀ i, i < W → 0 ≤ (A 16 i).toInt ∧ (A 16 i).toInt ≤ 300) (y k : Int32) (hy : pw_yr y) (hk : pw_yr k) : ∀ (n i : Nat) (v : Int32) (g5 g6 : Option pw_V), i + n = W → v = rm_run (A 16) y k i → pw_W (d + 2) 39 22 [some (.inr (some 1)), some (.inl y), some (.inl k), some (.inl v), some (.inl (nI i)), g5, g6] [] (hp_h N xs zc e3 e11 e18 zm A g gh dy) (pw_qi (fun r h' => r = rm_run (A 16) y k W ∧ h' = (hp_h N xs zc e3 e11 e18 zm A g gh dy))) := by
  have z0 := pz_0
  have z1 := pz_1
  have z2 := pz_2
  have z3 := pz_3
  have z4 := pz_4
  have z6 := pz_6
  have z7 := pz_7
  have z10 := pz_10
  have z11 := pz_11
  have z12 := pz_12
  have z20 := pz_20
  have z30 := pz_30
  have z50 := pz_50
  have z60 := pz_60
  have z80 := pz_80
  have z300 := pz_300
  have hWT : (zc 10).toInt = (W : Int) := by rw [hW]; exact pw_T (by omega)
  have hWP : (zc 10 - 1).toInt = (W : Int) - 1 := by rw [hW]; exact pw_pred (by omega)
  intro n
  induction n with
  | zero =>
    intro i v g5 g6 hi hv
    obtain rfl : i = W := by omega
    have hiT := pw_T (n := i) (by omega)
    refine pr_iload rfl rfl ?_
    refine pr_aload_n rfl rfl ?_
    refine pr_getf rfl rfl rfl ?_
    refine pr_c_ge rfl (fun c_28 => ?_) (fun c_28 => ?_)
    · skip
      refine pr_iload_n rfl rfl ?_
      exact pr_reti rfl rfl (⟨hv, rfl⟩)
    · skip
      exact absurd c_28 (by omega)
  | succ n ih =>
    intro i v g5 g6 hi hv
    have hiT := pw_T (n := i) (by omega)
    have hbi := hb i (by omega)
    have e7 := pw_subT (a := y) (b := A 16 i) (by omega) (by omega)
    have e80 := pw_subT (a := k) (b := A 16 i) (by omega) (by omega)
    refine pr_iload rfl rfl ?_
    refine pr_aload_n rfl rfl ?_
    refine pr_getf rfl rfl rfl ?_
    refine pr_c_ge rfl (fun c_28 => ?_) (fun c_28 => ?_)
    · skip
      exact absurd c_28 (by omega)
    · skip
      refine pr_iload_n rfl rfl ?_
      refine pr_aload_n rfl rfl ?_
      refine pr_getf rfl rfl rfl ?_
      refine pr_iload rfl rfl ?_
      refine pr_iald (i) rfl rfl (by decide) (by decide) rfl (by omega) ?_
      refine pr_step rfl rfl rfl rfl ?_
      refine pr_push (v := 7) rfl rfl ?_
      refine pr_c_lt rfl (fun c_42 => ?_) (fun c_42 => ?_)
      · skip
        refine pr_push (v := 0) rfl rfl ?_
        refine pr_istore rfl (Nat.le_of_ble_eq_true rfl) rfl ?_
        refine pr_iload_n rfl rfl ?_
        refine pr_aload_n rfl rfl ?_
        refine pr_getf rfl rfl rfl ?_
        refine pr_iload rfl rfl ?_
        refine pr_iald (i) rfl rfl (by decide) (by decide) rfl (by omega) ?_
        refine pr_step rfl rfl rfl rfl ?_
        refine pr_push (v := 80) rfl rfl ?_
        refine pr_c_ge rfl (fun c_63 => ?_) (fun c_63 => ?_)
        · skip
          refine pr_push (v := 0) rfl rfl ?_
          refine pr_istore rfl (Nat.le_of_ble_eq_true rfl) rfl ?_
          refine pr_iload rfl rfl ?_
          refine pr_step rfl rfl rfl rfl ?_
          refine pr_iinc rfl rfl (pw_inc i) rfl ?_
          refine pr_step rfl rfl rfl rfl ?_
          exact ih (i + 1) _ _ _ (by omega) (by
            rw [rm_run, ← hv]
            first
            | (rw [if_pos ⟨by omega, by omega, by omega⟩]; rfl)
            | rw [if_neg (by omega), Int32.add_zero])
        · skip
          refine pr_push (v := 1) rfl rfl ?_
          refine pr_step rfl rfl rfl rfl ?_
          refine pr_istore rfl (Nat.le_of_ble_eq_true rfl) rfl ?_
          refine pr_iload rfl rfl ?_
          refine pr_step rfl rfl rfl rfl ?_
          refine pr_iinc rfl rfl (pw_inc i) rfl ?_
          refine pr_step rfl rfl rfl rfl ?_
          exact ih (i + 1) _ _ _ (by omega) (by
            rw [rm_run, ← hv]
            first
            | (rw [if_pos ⟨by omega, by omega, by omega⟩]; rfl)
            | rw [if_neg (by omega), Int32.add_zero])
      · skip
        refine pr_push (v := 1) rfl rfl ?_
        refine pr_step rfl rfl rfl rfl ?_
        refine pr_istore rfl (Nat.le_of_ble_eq_true rfl) rfl ?_
        refine pr_iload_n rfl rfl ?_
        refine pr_aload_n rfl rfl ?_
        refine pr_getf rfl rfl rfl ?_
        refine pr_iload rfl rfl ?_
        refine pr_iald (i) rfl rfl (by decide) (by decide) rfl (by omega) ?_
        refine pr_step rfl rfl rfl rfl ?_
        refine pr_push (v := 80) rfl rfl ?_
        refine pr_c_ge rfl (fun c_63 => ?_) (fun c_63 => ?_)
        · skip
          refine pr_push (v := 0) rfl rfl ?_
          refine pr_istore rfl (Nat.le_of_ble_eq_true rfl) rfl ?_
          refine pr_iload rfl rfl ?_
          refine pr_step rfl rfl rfl rfl ?_
          refine pr_iload rfl rfl ?_
          refine pr_step rfl rfl rfl rfl ?_
          refine pr_iinc rfl rfl (pw_inc i) rfl ?_
          refine pr_step rfl rfl rfl rfl ?_
          exact ih (i + 1) _ _ _ (by omega) (by
            rw [rm_run, ← hv]
            first
            | (rw [if_pos ⟨by omega, by omega, by omega⟩]; rfl)
            | rw [if_neg (by omega), Int32.add_zero])
        · skip
          refine pr_push (v := 1) rfl rfl ?_
          refine pr_step rfl rfl rfl rfl ?_
          refine pr_istore rfl (Nat.le_of_ble_eq_true rfl) rfl ?_
          refine pr_iload rfl rfl ?_
          refine pr_step rfl rfl rfl rfl ?_
          refine pr_iload rfl rfl ?_
          refine pr_step rfl rfl rfl rfl ?_
          refine pr_iload_n rfl rfl ?_
          refine pr_iload_n rfl rfl ?_
          refine pr_c_lt rfl (fun c_85 => ?_) (fun c_85 => ?_)
          · skip
            refine pr_iinc rfl rfl (pw_inc i) rfl ?_
            refine pr_step rfl rfl rfl rfl ?_
            exact ih (i + 1) _ _ _ (by omega) (by
              rw [rm_run, ← hv]
              first
              | (rw [if_pos ⟨by omega, by omega, by omega⟩]; rfl)
              | rw [if_neg (by omega), Int32.add_zero])
          · skip
            refine pr_iinc rfl rfl rfl rfl ?_
            refine pr_iinc rfl rfl (pw_inc i) rfl ?_
            refine pr_step rfl rfl rfl rfl ?_
            exact ih (i + 1) _ _ _ (by omega) (by
              rw [rm_run, ← hv]
              first
              | (rw [if_pos ⟨by omega, by omega, by omega⟩]; rfl)
              | rw [if_neg (by omega), Int32.add_zero])
theorem c_39 (d : Nat) {N : Nat} {xs : Nat → Int32} {zc zm : Nat → Int32} {e3 e11 e18 : Nat} {A : Nat → Nat → Int32} {g gh : Nat → Option Nat} {dy : pw_H} (W : Nat) (hW : zc 10 = nI W) (hWb : W ≤ 20) (hb : ∀ i, i < W → 0 ≤ (A 16 i).toInt ∧ (A 16 i).toInt ≤ 300) (y k : Int32) : pw_M (d + 2) 39 [.inr (some 1), .inl y, .inl k] (hp_h N xs zc e3 e11 e18 zm A g gh dy) (pw_qi (fun r h' => (¬ (pw_yr y ∧ pw_yr k) ∧ r = -2 ∧ h' = (hp_h N xs zc e3 e11 e18 zm A g gh dy)) ∨ ((pw_yr y ∧ pw_yr k) ∧ r = rm_run (A 16) y k W ∧ h' = (hp_h N xs zc e3 e11 e18 zm A g gh dy)))) := by
  have z0 := pz_0
  have z1 := pz_1
  have z2 := pz_2
  have z3 := pz_3
  have z4 := pz_4
  have z6 := pz_6
  have z7 := pz_7
  have z10 := pz_10
  have z11 := pz_11
  have z12 := pz_12
  have z20 := pz_20
  have z30 := pz_30
  have z50 := pz_50
  have z60 := pz_60
  have z80 := pz_80
  have z300 := pz_300
  have hWT : (zc 10).toInt = (W : Int) := by rw [hW]; exact pw_T (by omega)
  have hWP : (zc 10 - 1).toInt = (W : Int) - 1 := by rw [hW]; exact pw_pred (by omega)
  refine pr_iload_n rfl rfl ?_
  refine pr_si1 rfl (by decide) (Nat.le_of_ble_eq_true rfl) (Nat.le_of_ble_eq_true rfl) (c_51 _ _ _) (fun r_1 h_1 q_1 => ?_)
  obtain ⟨rfl, rfl⟩ := q_1
  refine pr_b_eq rfl (fun c_4 => ?_) (fun c_4 => ?_)
  · skip
    refine pr_push (v := (-2)) rfl rfl ?_
    exact pr_reti rfl rfl (Or.inl ⟨by omega, rfl, rfl⟩)
  · skip
    refine pr_iload_n rfl rfl ?_
    refine pr_si1 rfl (by decide) (Nat.le_of_ble_eq_true rfl) (Nat.le_of_ble_eq_true rfl) (c_51 _ _ _) (fun r_8 h_8 q_8 => ?_)
    obtain ⟨rfl, rfl⟩ := q_8
    refine pr_b_ne rfl (fun c_11 => ?_) (fun c_11 => ?_)
    · skip
      refine pr_push (v := 0) rfl rfl ?_
      refine pr_istore_n rfl (Nat.le_of_ble_eq_true rfl) rfl ?_
      refine pr_push (v := 0) rfl rfl ?_
      refine pr_istore rfl (Nat.le_of_ble_eq_true rfl) rfl ?_
      exact pr_post (c_39_loop d W hW hWb hb y k (by omega) (by omega) W 0 0 _ _ (by omega) rfl) (fun r h1 hq => by
        obtain ⟨x, e1, e2, e3⟩ := hq
        exact ⟨x, e1, Or.inr ⟨by omega, e2, e3⟩⟩)
    · skip
      refine pr_push (v := (-2)) rfl rfl ?_
      exact pr_reti rfl rfl (Or.inl ⟨by omega, rfl, rfl⟩)
theorem c_43 (d : Nat) {N : Nat} {xs : Nat → Int32} {zc zm : Nat → Int32} {e3 e11 e18 : Nat} {A : Nat → Nat → Int32} {g gh : Nat → Option Nat} {dy : pw_H} (S : Nat) (hS : zc 7 = nI S) (hSb : S ≤ 12) (he11 : e11 ≤ 60) (s : Int32) : pw_M (d + 2) 43 [.inr (some 1), .inl s] (hp_h N xs zc e3 e11 e18 zm A g gh dy) (pw_qi (fun r h' => (¬ pw_bt s 0 (zc 7 - 1) ∧ r = -2 ∧ h' = (hp_h N xs zc e3 e11 e18 zm A g gh dy)) ∨ ∃ j : Nat, j < S ∧ s = nI j ∧ ((lt_of A e11 j (zc 3) = -1 ∧ r = -3 ∧ h' = (hp_h N xs zc e3 e11 e18 zm A g gh dy)) ∨ (¬ lt_of A e11 j (zc 3) = -1 ∧ r = zc 3 - A 10 j ∧ h' = (hp_h N xs zc e3 e11 e18 zm (uA A 10 (upd (A 10) j (zc 3))) g gh dy))))) := by
  have z0 := pz_0
  have z1 := pz_1
  have z2 := pz_2
  have z3 := pz_3
  have z4 := pz_4
  have z6 := pz_6
  have z7 := pz_7
  have z10 := pz_10
  have z11 := pz_11
  have z12 := pz_12
  have z20 := pz_20
  have z30 := pz_30
  have z50 := pz_50
  have z60 := pz_60
  have z80 := pz_80
  have z300 := pz_300
  have hST : (zc 7).toInt = (S : Int) := by rw [hS]; exact pw_T (by omega)
  have hSP : (zc 7 - 1).toInt = (S : Int) - 1 := by rw [hS]; exact pw_pred (by omega)
  refine pr_aload_n rfl rfl ?_
  refine pr_iload_n rfl rfl ?_
  refine pr_vi1 rfl (by decide) (Nat.le_of_ble_eq_true rfl) rfl (Nat.le_of_ble_eq_true rfl) (c_53 _ _ 1 (hp_c zc) (zc 7) _ rfl rfl) (fun r_2 h_2 q_2 => ?_)
  obtain ⟨rfl, rfl⟩ := q_2
  refine pr_b_ne rfl (fun c_5 => ?_) (fun c_5 => ?_)
  · skip
    obtain ⟨j, rfl, hjT, hjl⟩ := pw_nat (x := s) (by omega)
    refine pr_aload_n rfl rfl ?_
    refine pr_iload_n rfl rfl ?_
    refine pr_vi1 rfl (by decide) (Nat.le_of_ble_eq_true rfl) rfl (Nat.le_of_ble_eq_true rfl) (c_64 _ he11 j (by omega)) (fun r_13 h_13 q_13 => ?_)
    obtain ⟨rfl, rfl⟩ := q_13
    refine pr_b_eq rfl (fun c_16 => ?_) (fun c_16 => ?_)
    · skip
      refine pr_aload_n rfl rfl ?_
      refine pr_getf rfl rfl rfl ?_
      refine pr_aload_n rfl rfl ?_
      refine pr_getf rfl rfl rfl ?_
      refine pr_iload_n rfl rfl ?_
      refine pr_iald (j) rfl rfl (by decide) (by decide) rfl (by omega) ?_
      refine pr_step rfl rfl rfl rfl ?_
      refine pr_istore_n rfl (Nat.le_of_ble_eq_true rfl) rfl ?_
      refine pr_aload_n rfl rfl ?_
      refine pr_getf rfl rfl rfl ?_
      refine pr_iload_n rfl rfl ?_
      refine pr_aload_n rfl rfl ?_
      refine pr_getf rfl rfl rfl ?_
      refine pr_iast (j) rfl rfl (by decide) rfl (by omega) hs_a10 ?_
      refine pr_iload_n rfl rfl ?_
      exact pr_reti rfl rfl (Or.inr ⟨j, by omega, rfl, Or.inr ⟨by assumption, rfl, rfl⟩⟩)
    · skip
      refine pr_push (v := (-3)) rfl rfl ?_
      exact pr_reti rfl rfl (Or.inr ⟨j, by omega, rfl, Or.inl ⟨by assumption, rfl, rfl⟩⟩)
  · skip
    refine pr_push (v := (-2)) rfl rfl ?_
    exact pr_reti rfl rfl (Or.inl ⟨by assumption, rfl, rfl⟩)
theorem c_45_loop (d : Nat) {N : Nat} {xs : Nat → Int32} {zc zm : Nat → Int32} {e3 e11 e18 : Nat} {A : Nat → Nat → Int32} {g gh : Nat → Option Nat} {dy : pw_H} (S : Nat) (hS : zc 7 = nI S) (hSb : S ≤ 12) (he11 : e11 ≤ 60) : ∀ (n i : Nat) (v : Int32), i + n = S → v = dc_run A e11 (zc 3) (zc 14) i → pw_W (d + 2) 45 4 [some (.inr (some 1)), some (.inl v), some (.inl (nI i))] [] (hp_h N xs zc e3 e11 e18 zm A g gh dy) (pw_qi (fun r h' => r = dc_run A e11 (zc 3) (zc 14) S ∧ h' = (hp_h N xs zc e3 e11 e18 zm A g gh dy))) := by
  have z0 := pz_0
  have z1 := pz_1
  have z2 := pz_2
  have z3 := pz_3
  have z4 := pz_4
  have z6 := pz_6
  have z7 := pz_7
  have z10 := pz_10
  have z11 := pz_11
  have z12 := pz_12
  have z20 := pz_20
  have z30 := pz_30
  have z50 := pz_50
  have z60 := pz_60
  have z80 := pz_80
  have z300 := pz_300
  have hST : (zc 7).toInt = (S : Int) := by rw [hS]; exact pw_T (by omega)
  have hSP : (zc 7 - 1).toInt = (S : Int) - 1 := by rw [hS]; exact pw_pred (by omega)
  intro n
  induction n with
  | zero =>
    intro i v hi hv
    obtain rfl : i = S := by omega
    have hiT := pw_T (n := i) (by omega)
    refine pr_iload_n rfl rfl ?_
    refine pr_aload_n rfl rfl ?_
    refine pr_getf rfl rfl rfl ?_
    refine pr_c_ge rfl (fun c_9 => ?_) (fun c_9 => ?_)
    · skip
      refine pr_iload_n rfl rfl ?_
      exact pr_reti rfl rfl (⟨hv, rfl⟩)
    · skip
      exact absurd c_9 (by omega)
  | succ n ih =>
    intro i v hi hv
    have hiT := pw_T (n := i) (by omega)
    refine pr_iload_n rfl rfl ?_
    refine pr_aload_n rfl rfl ?_
    refine pr_getf rfl rfl rfl ?_
    refine pr_c_ge rfl (fun c_9 => ?_) (fun c_9 => ?_)
    · skip
      exact absurd c_9 (by omega)
    · skip
      refine pr_aload_n rfl rfl ?_
      refine pr_getf rfl rfl rfl ?_
      refine pr_aload_n rfl rfl ?_
      refine pr_getf rfl rfl rfl ?_
      refine pr_iload_n rfl rfl ?_
      refine pr_iald (i) rfl rfl (by decide) (by decide) rfl (by omega) ?_
      refine pr_step rfl rfl rfl rfl ?_
      refine pr_aload_n rfl rfl ?_
      refine pr_getf rfl rfl rfl ?_
      refine pr_c_lt rfl (fun c_27 => ?_) (fun c_27 => ?_)
      · skip
        refine pr_iinc rfl rfl (pw_inc i) rfl ?_
        refine pr_step rfl rfl rfl rfl ?_
        exact ih (i + 1) _ (by omega) (by
          rw [dc_run, ← hv]
          first
          | rw [if_pos ⟨by assumption, by omega⟩]
          | rw [if_neg (fun hh => by first | exact absurd (by assumption) hh.1 | exact absurd hh.2 (by omega)), pw_or0])
      · skip
        refine pr_aload_n rfl rfl ?_
        refine pr_iload_n rfl rfl ?_
        refine pr_vi1 rfl (by decide) (Nat.le_of_ble_eq_true rfl) rfl (Nat.le_of_ble_eq_true rfl) (c_64 _ he11 i (by omega)) (fun r_32 h_32 q_32 => ?_)
        obtain ⟨rfl, rfl⟩ := q_32
        refine pr_b_ne rfl (fun c_35 => ?_) (fun c_35 => ?_)
        · skip
          refine pr_iinc rfl rfl (pw_inc i) rfl ?_
          refine pr_step rfl rfl rfl rfl ?_
          exact ih (i + 1) _ (by omega) (by
            rw [dc_run, ← hv]
            first
            | rw [if_pos ⟨by assumption, by omega⟩]
            | rw [if_neg (fun hh => by first | exact absurd (by assumption) hh.1 | exact absurd hh.2 (by omega)), pw_or0])
        · skip
          refine pr_iload_n rfl rfl ?_
          refine pr_push (v := 1) rfl rfl ?_
          refine pr_iload_n rfl rfl ?_
          refine pr_step rfl rfl rfl rfl ?_
          refine pr_step rfl rfl rfl rfl ?_
          refine pr_istore_n rfl (Nat.le_of_ble_eq_true rfl) rfl ?_
          refine pr_iinc rfl rfl (pw_inc i) rfl ?_
          refine pr_step rfl rfl rfl rfl ?_
          exact ih (i + 1) _ (by omega) (by
            rw [dc_run, ← hv]
            first
            | rw [if_pos ⟨by assumption, by omega⟩]
            | rw [if_neg (fun hh => by first | exact absurd (by assumption) hh.1 | exact absurd hh.2 (by omega)), pw_or0])
theorem c_45 (d : Nat) {N : Nat} {xs : Nat → Int32} {zc zm : Nat → Int32} {e3 e11 e18 : Nat} {A : Nat → Nat → Int32} {g gh : Nat → Option Nat} {dy : pw_H} (S : Nat) (hS : zc 7 = nI S) (hSb : S ≤ 12) (he11 : e11 ≤ 60) : pw_M (d + 2) 45 [.inr (some 1)] (hp_h N xs zc e3 e11 e18 zm A g gh dy) (pw_qi (fun r h' => r = dc_run A e11 (zc 3) (zc 14) S ∧ h' = (hp_h N xs zc e3 e11 e18 zm A g gh dy))) := by
  refine pr_push (v := 0) rfl rfl ?_
  refine pr_istore_n rfl (Nat.le_of_ble_eq_true rfl) rfl ?_
  refine pr_push (v := 0) rfl rfl ?_
  refine pr_istore_n rfl (Nat.le_of_ble_eq_true rfl) rfl ?_
  exact c_45_loop d S hS hSb he11 S 0 0 (by omega) rfl
theorem c_60_loop (d : Nat) (h : pw_H) (c : Int32) : ∀ (n i : Nat), i + n = 4 → pw_W d 60 2 [some (.inl c), some (.inl (nI i))] [] h (pw_qi (pw_is h (on_f c n i))) := by
  have z4 := pz_4
  intro n
  induction n with
  | zero =>
    intro i hi
    have hiT := pw_T (n := i) (by omega)
    refine pr_iload_n rfl rfl ?_
    refine pr_push (v := 4) rfl rfl ?_
    refine pr_c_ge rfl (fun c_4 => ?_) (fun c_4 => ?_)
    · skip
      refine pr_push (v := (-1)) rfl rfl ?_
      exact pr_reti rfl rfl (⟨rfl, rfl⟩)
    · skip
      exact absurd c_4 (by omega)
  | succ n ih =>
    intro i hi
    have hiT := pw_T (n := i) (by omega)
    rw [on_f]
    refine pr_iload_n rfl rfl ?_
    refine pr_push (v := 4) rfl rfl ?_
    refine pr_c_ge rfl (fun c_4 => ?_) (fun c_4 => ?_)
    · skip
      exact absurd c_4 (by omega)
    · skip
      refine pr_iload_n rfl rfl ?_
      refine pr_push (v := 1) rfl rfl ?_
      refine pr_iload_n rfl rfl ?_
      refine pr_step rfl rfl rfl rfl ?_
      refine pr_c_ne rfl (fun c_11 => ?_) (fun c_11 => ?_)
      · skip
        rw [if_neg c_11]
        refine pr_iinc rfl rfl (pw_inc i) rfl ?_
        refine pr_step rfl rfl rfl rfl ?_
        exact ih (i + 1) (by omega)
      · skip
        rw [if_pos c_11]
        refine pr_iload_n rfl rfl ?_
        exact pr_reti rfl rfl (⟨rfl, rfl⟩)
theorem c_60 (d : Nat) (h : pw_H) (c : Int32) : pw_M d 60 [.inl c] h (pw_qi (pw_is h (on_f c 4 0))) := by
  refine pr_push (v := 0) rfl rfl ?_
  refine pr_istore_n rfl (Nat.le_of_ble_eq_true rfl) rfl ?_
  exact c_60_loop d h c 4 0 (by omega)
theorem c_56 (d : Nat) {N : Nat} {xs : Nat → Int32} {zc zm : Nat → Int32} {e3 e11 e18 : Nat} {A : Nat → Nat → Int32} {g gh : Nat → Option Nat} {dy : pw_H} (p : Int32) : pw_M (d + 1) 56 [.inr (some 1), .inl p] (hp_h N xs zc e3 e11 e18 zm A g gh dy) (pw_qr (fun r h' => ((¬ pw_bt p 0 3 ∧ r = none) ∨ ∃ j : Nat, j < 4 ∧ p = nI j ∧ r = g j) ∧ h' = (hp_h N xs zc e3 e11 e18 zm A g gh dy))) := by
  have z0 := pz_0
  have z3 := pz_3
  have z5 := pz_5
  refine pr_iload_n rfl rfl ?_
  refine pr_push (v := 0) rfl rfl ?_
  refine pr_push (v := 3) rfl rfl ?_
  refine pr_si3 rfl (by decide) (Nat.le_of_ble_eq_true rfl) (Nat.le_of_ble_eq_true rfl) (c_48 _ _ _ _ _) (fun r_3 h_3 q_3 => ?_)
  obtain ⟨rfl, rfl⟩ := q_3
  refine pr_b_eq rfl (fun c_6 => ?_) (fun c_6 => ?_)
  · skip
    refine pr_step rfl rfl rfl rfl ?_
    exact pr_retr rfl rfl (by
    first
    | exact ⟨Or.inl ⟨by assumption, rfl⟩, rfl⟩
    | exact ⟨Or.inr ⟨j, by omega, rfl, rfl⟩, rfl⟩)
  · skip
    obtain ⟨j, rfl, hjT, hjl⟩ := pw_nat (x := p) (by omega)
    refine pr_aload_n rfl rfl ?_
    refine pr_getf rfl rfl rfl ?_
    refine pr_iload_n rfl rfl ?_
    refine pr_aald (j) rfl rfl (by decide) rfl (by omega) ?_
    refine pr_step rfl rfl rfl rfl ?_
    exact pr_retr rfl rfl (by
    first
    | exact ⟨Or.inl ⟨by assumption, rfl⟩, rfl⟩
    | exact ⟨Or.inr ⟨j, by omega, rfl, rfl⟩, rfl⟩)
theorem c_57 (d : Nat) {N : Nat} {xs : Nat → Int32} {zc zm : Nat → Int32} {e3 e11 e18 : Nat} {A : Nat → Nat → Int32} {g gh : Nat → Option Nat} {dy : pw_H} (p : Int32) : pw_M (d + 1) 57 [.inr (some 1), .inl p] (hp_h N xs zc e3 e11 e18 zm A g gh dy) (pw_qr (fun r h' => ((¬ pw_bt p 0 5 ∧ r = none) ∨ ∃ j : Nat, j < 6 ∧ p = nI j ∧ r = gh j) ∧ h' = (hp_h N xs zc e3 e11 e18 zm A g gh dy))) := by
  have z0 := pz_0
  have z3 := pz_3
  have z5 := pz_5
  refine pr_iload_n rfl rfl ?_
  refine pr_push (v := 0) rfl rfl ?_
  refine pr_push (v := 5) rfl rfl ?_
  refine pr_si3 rfl (by decide) (Nat.le_of_ble_eq_true rfl) (Nat.le_of_ble_eq_true rfl) (c_48 _ _ _ _ _) (fun r_3 h_3 q_3 => ?_)
  obtain ⟨rfl, rfl⟩ := q_3
  refine pr_b_eq rfl (fun c_6 => ?_) (fun c_6 => ?_)
  · skip
    refine pr_step rfl rfl rfl rfl ?_
    exact pr_retr rfl rfl (by
    first
    | exact ⟨Or.inl ⟨by assumption, rfl⟩, rfl⟩
    | exact ⟨Or.inr ⟨j, by omega, rfl, rfl⟩, rfl⟩)
  · skip
    obtain ⟨j, rfl, hjT, hjl⟩ := pw_nat (x := p) (by omega)
    refine pr_aload_n rfl rfl ?_
    refine pr_getf rfl rfl rfl ?_
    refine pr_iload_n rfl rfl ?_
    refine pr_aald (j) rfl rfl (by decide) rfl (by omega) ?_
    refine pr_step rfl rfl rfl rfl ?_
    exact pr_retr rfl rfl (by
    first
    | exact ⟨Or.inl ⟨by assumption, rfl⟩, rfl⟩
    | exact ⟨Or.inr ⟨j, by omega, rfl, rfl⟩, rfl⟩)
