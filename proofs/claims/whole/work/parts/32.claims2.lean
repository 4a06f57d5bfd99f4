theorem c_85 (d : Nat) {N : Nat} {xs : Nat → Int32} {zc zm : Nat → Int32} {e3 e11 e18 : Nat} {A : Nat → Nat → Int32} {g gh : Nat → Option Nat} {dy : pw_H} (P : Nat) (hP : zm 0 = nI P) (hPb : P ≤ 4) (ns : Nat → Nat) (hpar : ∀ j, j < P → md_par A j (ns j)) (x y : Int32) : pw_M (d + 5) 85 [.inr (some 25), .inl x, .inl y] (hp_h N xs zc e3 e11 e18 zm A g gh dy) (pw_qi (fun r h' => (¬ pw_fd x y ∧ r = -2 ∧ h' = (hp_h N xs zc e3 e11 e18 zm A g gh dy)) ∨ (pw_fd x y ∧ ∃ X Y : Nat, X < 12 ∧ Y < 12 ∧ x = nI X ∧ y = nI Y ∧ r = md_bits A ns Y X P ∧ ∃ f s q : Nat → Int32, h' = (hp_h N xs zc e3 e11 e18 zm (uA (uA (uA A 52 f) 53 s) 54 q) g gh dy)))) := by
  have z0 := pz_0
  have z1 := pz_1
  have z2 := pz_2
  have z3 := pz_3
  have z4 := pz_4
  have z6 := pz_6
  have z7 := pz_7
  have z10 := pz_10
  have z11 := pz_11
  have z12 := pz_12
  have z20 := pz_20
  have z30 := pz_30
  have z50 := pz_50
  have z60 := pz_60
  have z80 := pz_80
  have z300 := pz_300
  have hPT : (zm 0).toInt = (P : Int) := by rw [hP]; exact pw_T (by omega)
  have hPP : (zm 0 - 1).toInt = (P : Int) - 1 := by rw [hP]; exact pw_pred (by omega)
  refine pr_iload_n rfl rfl ?_
  refine pr_iload_n rfl rfl ?_
  refine pr_si2 rfl (by decide) (Nat.le_of_ble_eq_true rfl) (Nat.le_of_ble_eq_true rfl) (c_71 _ _ _ _) (fun r_2 h_2 q_2 => ?_)
  obtain ⟨rfl, rfl⟩ := q_2
  refine pr_b_ne rfl (fun c_5 => ?_) (fun c_5 => ?_)
  · skip
    obtain ⟨X, hX, hXT, hXl⟩ := pw_nat (x := x) (by omega)
    obtain ⟨Y, hY, hYT, hYl⟩ := pw_nat (x := y) (by omega)
    refine pr_aload_n rfl rfl ?_
    refine pr_vv0 rfl (by decide) (Nat.le_of_ble_eq_true rfl) rfl (Nat.le_of_ble_eq_true rfl) (c_84 _ P hP hPb ns hpar) (fun h_12 q_12 => ?_)
    obtain ⟨f, s, q, rfl, hq⟩ := q_12
    refine pr_aload_n rfl rfl ?_
    refine pr_getf rfl rfl rfl ?_
    refine pr_push (v := 12) rfl rfl ?_
    refine pr_iload_n rfl rfl ?_
    refine pr_step rfl rfl rfl rfl ?_
    refine pr_iload_n rfl rfl ?_
    refine pr_step rfl rfl rfl rfl ?_
    refine pr_top ((by rw [hX, hY]; exact pw_at Y X : 12 * y + x = nI (12 * Y + X))) ?_
    refine pr_iald (12 * Y + X) rfl hw_54 (by decide) (by decide) rfl (by omega) ?_
    exact pr_reti rfl rfl (Or.inr ⟨by assumption, X, Y, by omega, by omega, hX, hY, hq Y X (by omega) (by omega), f, s, q, rfl⟩)
  · skip
    refine pr_push (v := (-2)) rfl rfl ?_
    exact pr_reti rfl rfl (Or.inl ⟨by assumption, rfl, rfl⟩)
def os_run (c : Int32) : Nat → Int32
  | 0 => 0
  | k + 1 => os_run c k + ((c >>> (nI k &&& 31)) &&& 1)
theorem c_89_loop (d : Nat) (h : pw_H) (c : Int32) : ∀ (n k : Nat), k + n = 12 → pw_W d 89 4 [some (.inl c), some (.inl (os_run c k)), some (.inl (nI k))] [] h (pw_qi (pw_is h (os_run c 12))) := by
  have z12 := pz_12
  intro n
  induction n with
  | zero =>
    intro k hk
    obtain rfl : k = 12 := by omega
    have hkT := pw_T (n := 12) (by omega)
    refine pr_iload_n rfl rfl ?_
    refine pr_push (v := 12) rfl rfl ?_
    refine pr_c_ge rfl (fun c_7 => ?_) (fun c_7 => ?_)
    · skip
      refine pr_iload_n rfl rfl ?_
      exact pr_reti rfl rfl (⟨rfl, rfl⟩)
    · skip
      exact absurd c_7 (by omega)
  | succ n ih =>
    intro k hk
    have hkT := pw_T (n := k) (by omega)
    refine pr_iload_n rfl rfl ?_
    refine pr_push (v := 12) rfl rfl ?_
    refine pr_c_ge rfl (fun c_7 => ?_) (fun c_7 => ?_)
    · skip
      exact absurd c_7 (by omega)
    · skip
      refine pr_iload_n rfl rfl ?_
      refine pr_iload_n rfl rfl ?_
      refine pr_iload_n rfl rfl ?_
      refine pr_step rfl rfl rfl rfl ?_
      refine pr_push (v := 1) rfl rfl ?_
      refine pr_step rfl rfl rfl rfl ?_
      refine pr_step rfl rfl rfl rfl ?_
      refine pr_istore_n rfl (Nat.le_of_ble_eq_true rfl) rfl ?_
      refine pr_iinc rfl rfl (pw_inc k) rfl ?_
      refine pr_step rfl rfl rfl rfl ?_
      exact ih (k + 1) (by omega)
theorem c_89 (d : Nat) (h : pw_H) (c : Int32) : pw_M d 89 [.inl c] h (pw_qi (pw_is h (os_run c 12))) := by
  refine pr_push (v := 0) rfl rfl ?_
  refine pr_istore_n rfl (Nat.le_of_ble_eq_true rfl) rfl ?_
  refine pr_push (v := 0) rfl rfl ?_
  refine pr_istore_n rfl (Nat.le_of_ble_eq_true rfl) rfl ?_
  exact c_89_loop d h c 12 0 (by omega)
theorem c_80 (d : Nat) {N : Nat} {xs : Nat → Int32} {zc zm : Nat → Int32} {e3 e11 e18 : Nat} {A : Nat → Nat → Int32} {g gh : Nat → Option Nat} {dy : pw_H} (P : Nat) (hP : zm 0 = nI P) (hPb : P ≤ 4) (ns : Nat → Nat) (hpar : ∀ j, j < P → md_par A j (ns j)) (p i : Int32) : pw_M (d + 3) 80 [.inr (some 25), .inl p, .inl i] (hp_h N xs zc e3 e11 e18 zm A g gh dy) (pw_qi (fun r h' => ((¬ (pw_bt p 0 (zm 0 - 1) ∧ ∀ j : Nat, p = nI j → pw_bt i 0 (A 28 j - 1)) ∧ r = -2 ∧ h' = (hp_h N xs zc e3 e11 e18 zm A g gh dy)) ∨ ∃ j k : Nat, j < P ∧ p = nI j ∧ k < ns j ∧ i = nI k ∧ (∃ f : Nat → Int32, h' = (hp_h N xs zc e3 e11 e18 zm (uA A 52 f) g gh dy)) ∧ ((¬ (wl_feas (md_D A j) (md_L A j) (md_U A j) (ns j) 0 ∧ wl_feas (md_D A j) (md_L A j) (md_U A j) (ns j) 1) ∧ r = -1) ∨ ((wl_feas (md_D A j) (md_L A j) (md_U A j) (ns j) 0 ∧ wl_feas (md_D A j) (md_L A j) (md_U A j) (ns j) 1) ∧ r.toInt = wl_len (md_D A j) (md_L A j) (md_U A j) (ns j) k))))) := by
  have z0 := pz_0
  have z1 := pz_1
  have z2 := pz_2
  have z3 := pz_3
  have z4 := pz_4
  have z6 := pz_6
  have z7 := pz_7
  have z10 := pz_10
  have z11 := pz_11
  have z12 := pz_12
  have z20 := pz_20
  have z30 := pz_30
  have z50 := pz_50
  have z60 := pz_60
  have z80 := pz_80
  have z300 := pz_300
  have hPT : (zm 0).toInt = (P : Int) := by rw [hP]; exact pw_T (by omega)
  have hPP : (zm 0 - 1).toInt = (P : Int) - 1 := by rw [hP]; exact pw_pred (by omega)
  refine pr_aload_n rfl rfl ?_
  refine pr_iload_n rfl rfl ?_
  refine pr_vi1 rfl (by decide) (Nat.le_of_ble_eq_true rfl) rfl (Nat.le_of_ble_eq_true rfl) (c_73 _ _ 25 (hp_m zm) (zm 0) _ rfl rfl) (fun r_2 h_2 q_2 => ?_)
  obtain ⟨rfl, rfl⟩ := q_2
  refine pr_b_eq rfl (fun c_5 => ?_) (fun c_5 => ?_)
  · skip
    refine pr_push (v := (-2)) rfl rfl ?_
    exact pr_reti rfl rfl (Or.inl ⟨by
    first
    | exact fun hh => absurd hh.1 (by assumption)
    | exact fun hh => absurd (hh.2 j rfl) (by assumption), rfl, rfl⟩)
  · skip
    obtain ⟨j, rfl, hjT, hjl⟩ := pw_nat (x := p) (by omega)
    obtain ⟨hn, hw, hx0, hy0⟩ := hpar j (by omega)
    have hn12 := hw.1
    have hnP : (A 28 j - 1).toInt = (ns j : Int) - 1 := by rw [hn]; exact pw_pred (by omega)
    refine pr_iload_n rfl rfl ?_
    refine pr_push (v := 0) rfl rfl ?_
    refine pr_aload_n rfl rfl ?_
    refine pr_getf rfl rfl rfl ?_
    refine pr_iload_n rfl rfl ?_
    refine pr_iald (j) rfl rfl (by decide) (by decide) rfl (by omega) ?_
    refine pr_push (v := 1) rfl rfl ?_
    refine pr_step rfl rfl rfl rfl ?_
    refine pr_si3 rfl (by decide) (Nat.le_of_ble_eq_true rfl) (Nat.le_of_ble_eq_true rfl) (c_69 _ _ _ _ _) (fun r_18 h_18 q_18 => ?_)
    obtain ⟨rfl, rfl⟩ := q_18
    refine pr_b_ne rfl (fun c_21 => ?_) (fun c_21 => ?_)
    · skip
      obtain ⟨k, hk, hkT, hkl⟩ := pw_nat (x := i) (by omega)
      refine pr_aload_n rfl rfl ?_
      refine pr_iload_n rfl rfl ?_
      refine pr_vi1 rfl (by decide) (Nat.le_of_ble_eq_true rfl) rfl (Nat.le_of_ble_eq_true rfl) (c_79 _ j (ns j) (by omega) hn hw) (fun r_29 h_29 q_29 => ?_)
      obtain ⟨e_29, f, eh_29, hfl⟩ := q_29
      subst eh_29
      rw [e_29]
      clear e_29
      refine pr_b_eq rfl (fun c_32 => ?_) (fun c_32 => ?_)
      · skip
        refine pr_push (v := (-1)) rfl rfl ?_
        exact pr_reti rfl rfl (by
    first
    | exact Or.inr ⟨j, k, by omega, rfl, by omega, hk, ⟨f, rfl⟩, Or.inl ⟨c_32, rfl⟩⟩
    | exact Or.inr ⟨j, k, by omega, rfl, by omega, hk, ⟨f, rfl⟩, Or.inr ⟨c_32, hfl c_32 k (by omega)⟩⟩)
      · skip
        refine pr_aload_n rfl rfl ?_
        refine pr_getf rfl rfl rfl ?_
        refine pr_iload_n rfl rfl ?_
        refine pr_iald (f := f) k rfl rfl (by decide) (by decide) hk (by omega) ?_
        refine pr_step rfl rfl rfl rfl ?_
        exact pr_reti rfl rfl (by
    first
    | exact Or.inr ⟨j, k, by omega, rfl, by omega, hk, ⟨f, rfl⟩, Or.inl ⟨c_32, rfl⟩⟩
    | exact Or.inr ⟨j, k, by omega, rfl, by omega, hk, ⟨f, rfl⟩, Or.inr ⟨c_32, hfl c_32 k (by omega)⟩⟩)
    · skip
      refine pr_push (v := (-2)) rfl rfl ?_
      exact pr_reti rfl rfl (Or.inl ⟨by
    first
    | exact fun hh => absurd hh.1 (by assumption)
    | exact fun hh => absurd (hh.2 j rfl) (by assumption), rfl, rfl⟩)
