def qr_run (A : Nat → Nat → Int32) (ns : Nat → Nat) (E P : Nat) (yr : Int32) : Nat → Int32
  | 0 => 0
  | k + 1 => qr_run A ns E P yr k + (if 1 < (os_run (md_bits A ns (k / 12) (k % 12) P) 12).toInt ∧ md_own A ns E P (k / 12) (k % 12) yr = -1 then 1 else 0)
theorem c_90_loop (d : Nat) {N : Nat} {xs : Nat → Int32} {zc zm : Nat → Int32} {e3 e11 e18 : Nat} {A : Nat → Nat → Int32} {g gh : Nat → Option Nat} {dy : pw_H} (P : Nat) (hP : zm 0 = nI P) (hPb : P ≤ 4) (E : Nat) (hE : zm 7 = nI E) (hEb : E ≤ 12) (ns : Nat → Nat) (hpar : ∀ j, j < P → md_par A j (ns j)) (hf : ∀ i, i < E → 0 ≤ (A 32 i).toInt) (yr : Int32) (f s q : Nat → Int32) (hq : ∀ Y X : Nat, Y < 12 → X < 12 → q (12 * Y + X) = md_bits A ns Y X P) : ∀ (n k : Nat), k + n = 144 → pw_W (d + 5) 90 18 [some (.inr (some 25)), some (.inl yr), some (.inl (qr_run A ns E P yr k)), some (.inl (nI k))] [] (hp_h N xs zc e3 e11 e18 zm (uA (uA (uA A 52 f) 53 s) 54 q) g gh dy) (pw_qi (fun r h' => r = qr_run A ns E P yr 144 ∧ h' = (hp_h N xs zc e3 e11 e18 zm (uA (uA (uA A 52 f) 53 s) 54 q) g gh dy))) := by
  have z144 := pz_144b
  have z1 := pz_1
  intro n
  induction n with
  | zero =>
    intro k hk
    obtain rfl : k = 144 := by omega
    have hkT := pw_T (n := 144) (by omega)
    refine pr_iload_n rfl rfl ?_
    refine pr_push (v := 144) rfl rfl ?_
    refine pr_c_ge rfl (fun c_22 => ?_) (fun c_22 => ?_)
    · skip
      refine pr_iload_n rfl rfl ?_
      exact pr_reti rfl rfl (⟨rfl, rfl⟩)
    · skip
      exact absurd c_22 (by omega)
  | succ n ih =>
    intro k hk
    have hkT := pw_T (n := k) (by omega)
    have hk12 : 12 * (k / 12) + k % 12 = k := by omega
    have hqk := hq (k / 12) (k % 12) (by omega) (by omega)
    have hown := md_own_of (A := A) (E := E) (yr := yr) (f := f) (s := s) hqk
    rw [hk12] at hqk hown
    refine pr_iload_n rfl rfl ?_
    refine pr_push (v := 144) rfl rfl ?_
    refine pr_c_ge rfl (fun c_22 => ?_) (fun c_22 => ?_)
    · skip
      exact absurd c_22 (by omega)
    · skip
      refine pr_iload_n rfl rfl ?_
      refine pr_aload_n rfl rfl ?_
      refine pr_getf rfl rfl rfl ?_
      refine pr_iload_n rfl rfl ?_
      refine pr_iald (k) rfl hw_54 (by decide) (by decide) rfl (by omega) ?_
      refine pr_top hqk ?_
      refine pr_si1 rfl (by decide) (Nat.le_of_ble_eq_true rfl) (Nat.le_of_ble_eq_true rfl) (c_89 _ _ _) (fun r_32 h_32 q_32 => ?_)
      obtain ⟨rfl, rfl⟩ := q_32
      refine pr_push (v := 1) rfl rfl ?_
      refine pr_c_le rfl (fun c_36 => ?_) (fun c_36 => ?_)
      · skip
        refine pr_push (v := 0) rfl rfl ?_
        refine pr_step rfl rfl rfl rfl ?_
        refine pr_top (y := qr_run A ns E P yr (k + 1)) (by
          rw [qr_run]
          first | rw [if_pos ⟨by omega, by assumption⟩] | rw [if_neg (fun hh => by first | exact absurd hh.2 (by assumption) | exact absurd hh.1 (by omega))]) ?_
        refine pr_istore_n rfl (Nat.le_of_ble_eq_true rfl) rfl ?_
        refine pr_iinc rfl rfl (pw_inc k) rfl ?_
        refine pr_step rfl rfl rfl rfl ?_
        exact ih (k + 1) (by omega)
      · skip
        refine pr_aload_n rfl rfl ?_
        refine pr_iload_n rfl rfl ?_
        refine pr_iload_n rfl rfl ?_
        refine pr_vi2 rfl (by decide) (Nat.le_of_ble_eq_true rfl) rfl (Nat.le_of_ble_eq_true rfl) (c_87 (A := (uA (uA (uA A 52 f) 53 s) 54 q)) _ P hP hPb E hE hEb hf k (by omega) yr) (fun r_42 h_42 q_42 => ?_)
        obtain ⟨e_42, rfl⟩ := q_42
        rw [hown] at e_42
        subst e_42
        refine pr_push (v := (-1)) rfl rfl ?_
        refine pr_c_ne rfl (fun c_46 => ?_) (fun c_46 => ?_)
        · skip
          refine pr_push (v := 0) rfl rfl ?_
          refine pr_step rfl rfl rfl rfl ?_
          refine pr_top (y := qr_run A ns E P yr (k + 1)) (by
            rw [qr_run]
            first | rw [if_pos ⟨by omega, by assumption⟩] | rw [if_neg (fun hh => by first | exact absurd hh.2 (by assumption) | exact absurd hh.1 (by omega))]) ?_
          refine pr_istore_n rfl (Nat.le_of_ble_eq_true rfl) rfl ?_
          refine pr_iinc rfl rfl (pw_inc k) rfl ?_
          refine pr_step rfl rfl rfl rfl ?_
          exact ih (k + 1) (by omega)
        · skip
          refine pr_push (v := 1) rfl rfl ?_
          refine pr_step rfl rfl rfl rfl ?_
          refine pr_step rfl rfl rfl rfl ?_
          refine pr_top (y := qr_run A ns E P yr (k + 1)) (by
            rw [qr_run]
            first | rw [if_pos ⟨by omega, by assumption⟩] | rw [if_neg (fun hh => by first | exact absurd hh.2 (by assumption) | exact absurd hh.1 (by omega))]) ?_
          refine pr_istore_n rfl (Nat.le_of_ble_eq_true rfl) rfl ?_
          refine pr_iinc rfl rfl (pw_inc k) rfl ?_
          refine pr_step rfl rfl rfl rfl ?_
          exact ih (k + 1) (by omega)
theorem c_90 (d : Nat) {N : Nat} {xs : Nat → Int32} {zc zm : Nat → Int32} {e3 e11 e18 : Nat} {A : Nat → Nat → Int32} {g gh : Nat → Option Nat} {dy : pw_H} (P : Nat) (hP : zm 0 = nI P) (hPb : P ≤ 4) (E : Nat) (hE : zm 7 = nI E) (hEb : E ≤ 12) (ns : Nat → Nat) (hpar : ∀ j, j < P → md_par A j (ns j)) (hf : ∀ i, i < E → 0 ≤ (A 32 i).toInt) (yr : Int32) : pw_M (d + 5) 90 [.inr (some 25), .inl yr] (hp_h N xs zc e3 e11 e18 zm A g gh dy) (pw_qi (fun r h' => (¬ pw_yr yr ∧ r = -2 ∧ h' = (hp_h N xs zc e3 e11 e18 zm A g gh dy)) ∨ (pw_yr yr ∧ r = qr_run A ns E P yr 144 ∧ ∃ f s q : Nat → Int32, h' = (hp_h N xs zc e3 e11 e18 zm (uA (uA (uA A 52 f) 53 s) 54 q) g gh dy)))) := by
  refine pr_iload_n rfl rfl ?_
  refine pr_si1 rfl (by decide) (Nat.le_of_ble_eq_true rfl) (Nat.le_of_ble_eq_true rfl) (c_72 _ _ _) (fun r_1 h_1 q_1 => ?_)
  obtain ⟨rfl, rfl⟩ := q_1
  refine pr_b_ne rfl (fun c_4 => ?_) (fun c_4 => ?_)
  · skip
    refine pr_aload_n rfl rfl ?_
    refine pr_vv0 rfl (by decide) (Nat.le_of_ble_eq_true rfl) rfl (Nat.le_of_ble_eq_true rfl) (c_84 _ P hP hPb ns hpar) (fun h_11 q_11 => ?_)
    obtain ⟨f, s, q, rfl, hq⟩ := q_11
    refine pr_push (v := 0) rfl rfl ?_
    refine pr_istore_n rfl (Nat.le_of_ble_eq_true rfl) rfl ?_
    refine pr_push (v := 0) rfl rfl ?_
    refine pr_istore_n rfl (Nat.le_of_ble_eq_true rfl) rfl ?_
    refine pr_post (c_90_loop d P hP hPb E hE hEb ns hpar hf yr f s q hq 144 0 (by omega)) (fun r h1 hh => ?_)
    obtain ⟨x, e1, e2, e3⟩ := hh
    exact ⟨x, e1, Or.inr ⟨by assumption, e2, f, s, q, e3⟩⟩
  · skip
    refine pr_push (v := (-2)) rfl rfl ?_
    exact pr_reti rfl rfl (Or.inl ⟨by assumption, rfl, rfl⟩)
