def md_own (A : Nat → Nat → Int32) (ns : Nat → Nat) (E P Y X : Nat) (yr : Int32) : Int32 := (ld_run (nI (12 * Y + X)) yr 0 (on_f (md_bits A ns Y X P) P 0) (A 33) (A 32) (fun _ => 0) (A 34) E).2
theorem md_own_of {A : Nat → Nat → Int32} {ns : Nat → Nat} {E P Y X : Nat} {yr : Int32} {f s q : Nat → Int32} (hq : q (12 * Y + X) = md_bits A ns Y X P) : ow_of (uA (uA (uA A 52 f) 53 s) 54 q) E P (12 * Y + X) yr = md_own A ns E P Y X yr := by
  show (ld_run (nI (12 * Y + X)) yr 0 (on_f (q (12 * Y + X)) P 0) (A 33) (A 32) (fun _ => 0) (A 34) E).2 = _
  rw [hq]
  rfl
theorem c_88 (d : Nat) {N : Nat} {xs : Nat → Int32} {zc zm : Nat → Int32} {e3 e11 e18 : Nat} {A : Nat → Nat → Int32} {g gh : Nat → Option Nat} {dy : pw_H} (P : Nat) (hP : zm 0 = nI P) (hPb : P ≤ 4) (E : Nat) (hE : zm 7 = nI E) (hEb : E ≤ 12) (ns : Nat → Nat) (hpar : ∀ j, j < P → md_par A j (ns j)) (hf : ∀ i, i < E → 0 ≤ (A 32 i).toInt) (x y yr : Int32) : pw_M (d + 5) 88 [.inr (some 25), .inl x, .inl y, .inl yr] (hp_h N xs zc e3 e11 e18 zm A g gh dy) (pw_qi (fun r h' => (¬ (pw_fd x y ∧ pw_yr yr) ∧ r = -2 ∧ h' = (hp_h N xs zc e3 e11 e18 zm A g gh dy)) ∨ ((pw_fd x y ∧ pw_yr yr) ∧ ∃ X Y : Nat, X < 12 ∧ Y < 12 ∧ x = nI X ∧ y = nI Y ∧ r = md_own A ns E P Y X yr ∧ ∃ f s q : Nat → Int32, h' = (hp_h N xs zc e3 e11 e18 zm (uA (uA (uA A 52 f) 53 s) 54 q) g gh dy)))) := by
  have z0 := pz_0
  have z1 := pz_1
  have z2 := pz_2
  have z3 := pz_3
  have z4 := pz_4
  have z6 := pz_6
  have z7 := pz_7
  have z10 := pz_10
  have z11 := pz_11
  have z12 := pz_12
  have z20 := pz_20
  have z30 := pz_30
  have z50 := pz_50
  have z60 := pz_60
  have z80 := pz_80
  have z300 := pz_300
  have hPT : (zm 0).toInt = (P : Int) := by rw [hP]; exact pw_T (by omega)
  have hPP : (zm 0 - 1).toInt = (P : Int) - 1 := by rw [hP]; exact pw_pred (by omega)
  refine pr_iload_n rfl rfl ?_
  refine pr_iload_n rfl rfl ?_
  refine pr_si2 rfl (by decide) (Nat.le_of_ble_eq_true rfl) (Nat.le_of_ble_eq_true rfl) (c_71 _ _ _ _) (fun r_2 h_2 q_2 => ?_)
  obtain ⟨rfl, rfl⟩ := q_2
  refine pr_b_eq rfl (fun c_5 => ?_) (fun c_5 => ?_)
  · skip
    refine pr_push (v := (-2)) rfl rfl ?_
    exact pr_reti rfl rfl (Or.inl ⟨by omega, rfl, rfl⟩)
  · skip
    refine pr_iload_n rfl rfl ?_
    refine pr_si1 rfl (by decide) (Nat.le_of_ble_eq_true rfl) (Nat.le_of_ble_eq_true rfl) (c_72 _ _ _) (fun r_9 h_9 q_9 => ?_)
    obtain ⟨rfl, rfl⟩ := q_9
    refine pr_b_ne rfl (fun c_12 => ?_) (fun c_12 => ?_)
    · skip
      obtain ⟨X, hX, hXT, hXl⟩ := pw_nat (x := x) (by omega)
      obtain ⟨Y, hY, hYT, hYl⟩ := pw_nat (x := y) (by omega)
      refine pr_aload_n rfl rfl ?_
      refine pr_vv0 rfl (by decide) (Nat.le_of_ble_eq_true rfl) rfl (Nat.le_of_ble_eq_true rfl) (c_84 _ P hP hPb ns hpar) (fun h_19 q_19 => ?_)
      obtain ⟨f, s, q, rfl, hq⟩ := q_19
      refine pr_aload_n rfl rfl ?_
      refine pr_push (v := 12) rfl rfl ?_
      refine pr_iload_n rfl rfl ?_
      refine pr_step rfl rfl rfl rfl ?_
      refine pr_iload_n rfl rfl ?_
      refine pr_step rfl rfl rfl rfl ?_
      refine pr_top ((by rw [hX, hY]; exact pw_at Y X : 12 * y + x = nI (12 * Y + X))) ?_
      refine pr_iload_n rfl rfl ?_
      refine pr_vi2 rfl (by decide) (Nat.le_of_ble_eq_true rfl) rfl (Nat.le_of_ble_eq_true rfl) (c_87 (A := (uA (uA (uA A 52 f) 53 s) 54 q)) _ P hP hPb E hE hEb hf (12 * Y + X) (by omega) yr) (fun r_30 h_30 q_30 => ?_)
      obtain ⟨rfl, rfl⟩ := q_30
      exact pr_reti rfl rfl (Or.inr ⟨by omega, X, Y, by omega, by omega, hX, hY, md_own_of (hq Y X (by omega) (by omega)), f, s, q, rfl⟩)
    · skip
      refine pr_push (v := (-2)) rfl rfl ?_
      exact pr_reti rfl rfl (Or.inl ⟨by omega, rfl, rfl⟩)
