def rm_run (b : Nat → Int32) (y k : Int32) : Nat → Int32
  | 0 => 0
  | i + 1 => rm_run b y k i + (if (b i).toInt + 7 ≤ y.toInt ∧ y.toInt ≤ k.toInt ∧ k.toInt < (b i).toInt + 80 then 1 else 0)
def du_run (A : Nat → Nat → Int32) (T : Nat) (now gap : Int32) : Nat → Int32
  | 0 => 0
  | i + 1 => du_run A T now gap i ||| (if ¬ wh_of A T i now now = -1 ∧ gap.toInt ≤ (now - A 37 i).toInt then 1 <<< (nI i &&& 31) else 0)
theorem pw_or0 (x : Int32) : x ||| 0 = x := Int32.or_zero
theorem c_101_loop (d : Nat) {N : Nat} {xs : Nat → Int32} {zc zm : Nat → Int32} {e3 e11 e18 : Nat} {A : Nat → Nat → Int32} {g gh : Nat → Option Nat} {dy : pw_H} (W : Nat) (hW : zm 21 = nI W) (hWb : W ≤ 20) (hb : ∀ i, i < W → 0 ≤ (A 42 i).toInt ∧ (A 42 i).toInt ≤ 300) (y k : Int32) : ∀ (n i : Nat), i + n = W → pw_W (d + 2) 101 22 [some (.inr (some 25)), some (.inl y), some (.inl k), some (.inl (rm_run (A 42) y k i)), some (.inl (nI i))] [] (hp_h N xs zc e3 e11 e18 zm A g gh dy) (pw_qi (fun r h' => r = rm_run (A 42) y k W ∧ h' = (hp_h N xs zc e3 e11 e18 zm A g gh dy))) := by
  have z0 := pz_0
  have z1 := pz_1
  have z2 := pz_2
  have z3 := pz_3
  have z4 := pz_4
  have z6 := pz_6
  have z7 := pz_7
  have z10 := pz_10
  have z11 := pz_11
  have z12 := pz_12
  have z20 := pz_20
  have z30 := pz_30
  have z50 := pz_50
  have z60 := pz_60
  have z80 := pz_80
  have z300 := pz_300
  have hWT : (zm 21).toInt = (W : Int) := by rw [hW]; exact pw_T (by omega)
  have hWP : (zm 21 - 1).toInt = (W : Int) - 1 := by rw [hW]; exact pw_pred (by omega)
  intro n
  induction n with
  | zero =>
    intro i hi
    obtain rfl : i = W := by omega
    have hiT := pw_T (n := i) (by omega)
    refine pr_iload rfl rfl ?_
    refine pr_aload_n rfl rfl ?_
    refine pr_getf rfl rfl rfl ?_
    refine pr_c_ge rfl (fun c_28 => ?_) (fun c_28 => ?_)
    · skip
      refine pr_iload_n rfl rfl ?_
      exact pr_reti rfl rfl (⟨rfl, rfl⟩)
    · skip
      exact absurd c_28 (by omega)
  | succ n ih =>
    intro i hi
    have hiT := pw_T (n := i) (by omega)
    have hbi := hb i (by omega)
    have e7 := pw_addT (a := A 42 i) (b := 7) (by omega) (by omega)
    have e80 := pw_addT (a := A 42 i) (b := 80) (by omega) (by omega)
    refine pr_iload rfl rfl ?_
    refine pr_aload_n rfl rfl ?_
    refine pr_getf rfl rfl rfl ?_
    refine pr_c_ge rfl (fun c_28 => ?_) (fun c_28 => ?_)
    · skip
      exact absurd c_28 (by omega)
    · skip
      refine pr_iload_n rfl rfl ?_
      refine pr_iload_n rfl rfl ?_
      refine pr_aload_n rfl rfl ?_
      refine pr_getf rfl rfl rfl ?_
      refine pr_iload rfl rfl ?_
      refine pr_iald (i) rfl rfl (by decide) (by decide) rfl (by omega) ?_
      refine pr_push (v := 7) rfl rfl ?_
      refine pr_step rfl rfl rfl rfl ?_
      refine pr_c_lt rfl (fun c_43 => ?_) (fun c_43 => ?_)
      · skip
        refine pr_push (v := 0) rfl rfl ?_
        refine pr_step rfl rfl rfl rfl ?_
        refine pr_top (y := rm_run (A 42) y k (i + 1)) (by
          rw [rm_run]
          first | rw [if_pos ⟨by omega, by omega, by omega⟩] | rw [if_neg (by omega)]) ?_
        refine pr_istore_n rfl (Nat.le_of_ble_eq_true rfl) rfl ?_
        refine pr_iinc rfl rfl (pw_inc i) rfl ?_
        refine pr_step rfl rfl rfl rfl ?_
        exact ih (i + 1) (by omega)
      · skip
        refine pr_iload_n rfl rfl ?_
        refine pr_iload_n rfl rfl ?_
        refine pr_c_lt rfl (fun c_48 => ?_) (fun c_48 => ?_)
        · skip
          refine pr_push (v := 0) rfl rfl ?_
          refine pr_step rfl rfl rfl rfl ?_
          refine pr_top (y := rm_run (A 42) y k (i + 1)) (by
            rw [rm_run]
            first | rw [if_pos ⟨by omega, by omega, by omega⟩] | rw [if_neg (by omega)]) ?_
          refine pr_istore_n rfl (Nat.le_of_ble_eq_true rfl) rfl ?_
          refine pr_iinc rfl rfl (pw_inc i) rfl ?_
          refine pr_step rfl rfl rfl rfl ?_
          exact ih (i + 1) (by omega)
        · skip
          refine pr_iload_n rfl rfl ?_
          refine pr_aload_n rfl rfl ?_
          refine pr_getf rfl rfl rfl ?_
          refine pr_iload rfl rfl ?_
          refine pr_iald (i) rfl rfl (by decide) (by decide) rfl (by omega) ?_
          refine pr_push (v := 80) rfl rfl ?_
          refine pr_step rfl rfl rfl rfl ?_
          refine pr_c_ge rfl (fun c_62 => ?_) (fun c_62 => ?_)
          · skip
            refine pr_push (v := 0) rfl rfl ?_
            refine pr_step rfl rfl rfl rfl ?_
            refine pr_top (y := rm_run (A 42) y k (i + 1)) (by
              rw [rm_run]
              first | rw [if_pos ⟨by omega, by omega, by omega⟩] | rw [if_neg (by omega)]) ?_
            refine pr_istore_n rfl (Nat.le_of_ble_eq_true rfl) rfl ?_
            refine pr_iinc rfl rfl (pw_inc i) rfl ?_
            refine pr_step rfl rfl rfl rfl ?_
            exact ih (i + 1) (by omega)
          · skip
            refine pr_push (v := 1) rfl rfl ?_
            refine pr_step rfl rfl rfl rfl ?_
            refine pr_step rfl rfl rfl rfl ?_
            refine pr_top (y := rm_run (A 42) y k (i + 1)) (by
              rw [rm_run]
              first | rw [if_pos ⟨by omega, by omega, by omega⟩] | rw [if_neg (by omega)]) ?_
            refine pr_istore_n rfl (Nat.le_of_ble_eq_true rfl) rfl ?_
            refine pr_iinc rfl rfl (pw_inc i) rfl ?_
            refine pr_step rfl rfl rfl rfl ?_
            exact ih (i + 1) (by omega)
theorem c_101 (d : Nat) {N : Nat} {xs : Nat → Int32} {zc zm : Nat → Int32} {e3 e11 e18 : Nat} {A : Nat → Nat → Int32} {g gh : Nat → Option Nat} {dy : pw_H} (W : Nat) (hW : zm 21 = nI W) (hWb : W ≤ 20) (hb : ∀ i, i < W → 0 ≤ (A 42 i).toInt ∧ (A 42 i).toInt ≤ 300) (y k : Int32) : pw_M (d + 2) 101 [.inr (some 25), .inl y, .inl k] (hp_h N xs zc e3 e11 e18 zm A g gh dy) (pw_qi (fun r h' => (¬ (pw_yr y ∧ pw_yr k) ∧ r = -2 ∧ h' = (hp_h N xs zc e3 e11 e18 zm A g gh dy)) ∨ ((pw_yr y ∧ pw_yr k) ∧ r = rm_run (A 42) y k W ∧ h' = (hp_h N xs zc e3 e11 e18 zm A g gh dy)))) := by
  have z0 := pz_0
  have z1 := pz_1
  have z2 := pz_2
  have z3 := pz_3
  have z4 := pz_4
  have z6 := pz_6
  have z7 := pz_7
  have z10 := pz_10
  have z11 := pz_11
  have z12 := pz_12
  have z20 := pz_20
  have z30 := pz_30
  have z50 := pz_50
  have z60 := pz_60
  have z80 := pz_80
  have z300 := pz_300
  have hWT : (zm 21).toInt = (W : Int) := by rw [hW]; exact pw_T (by omega)
  have hWP : (zm 21 - 1).toInt = (W : Int) - 1 := by rw [hW]; exact pw_pred (by omega)
  refine pr_iload_n rfl rfl ?_
  refine pr_si1 rfl (by decide) (Nat.le_of_ble_eq_true rfl) (Nat.le_of_ble_eq_true rfl) (c_72 _ _ _) (fun r_1 h_1 q_1 => ?_)
  obtain ⟨rfl, rfl⟩ := q_1
  refine pr_b_eq rfl (fun c_4 => ?_) (fun c_4 => ?_)
  · skip
    refine pr_push (v := (-2)) rfl rfl ?_
    exact pr_reti rfl rfl (Or.inl ⟨by omega, rfl, rfl⟩)
  · skip
    refine pr_iload_n rfl rfl ?_
    refine pr_si1 rfl (by decide) (Nat.le_of_ble_eq_true rfl) (Nat.le_of_ble_eq_true rfl) (c_72 _ _ _) (fun r_8 h_8 q_8 => ?_)
    obtain ⟨rfl, rfl⟩ := q_8
    refine pr_b_ne rfl (fun c_11 => ?_) (fun c_11 => ?_)
    · skip
      refine pr_push (v := 0) rfl rfl ?_
      refine pr_istore_n rfl (Nat.le_of_ble_eq_true rfl) rfl ?_
      refine pr_push (v := 0) rfl rfl ?_
      refine pr_istore rfl (Nat.le_of_ble_eq_true rfl) rfl ?_
      exact pr_post (c_101_loop d W hW hWb hb y k W 0 (by omega)) (fun r h1 hq => by
        obtain ⟨x, e1, e2, e3⟩ := hq
        exact ⟨x, e1, Or.inr ⟨by omega, e2, e3⟩⟩)
    · skip
      refine pr_push (v := (-2)) rfl rfl ?_
      exact pr_reti rfl rfl (Or.inl ⟨by omega, rfl, rfl⟩)
theorem c_110_loop (d : Nat) {N : Nat} {xs : Nat → Int32} {zc zm : Nat → Int32} {e3 e11 e18 : Nat} {A : Nat → Nat → Int32} {g gh : Nat → Option Nat} {dy : pw_H} (S : Nat) (hS : zm 12 = nI S) (hSb : S ≤ 12) (T : Nat) (hT : zm 16 = nI T) (hTb : T ≤ 60) (hf : ∀ i, i < T → 0 ≤ (A 39 i).toInt) : ∀ (n i : Nat), i + n = S → pw_W (d + 2) 110 4 [some (.inr (some 25)), some (.inl (du_run A T (zm 11) (zm 34) i)), some (.inl (nI i))] [] (hp_h N xs zc e3 e11 e18 zm A g gh dy) (pw_qi (fun r h' => r = du_run A T (zm 11) (zm 34) S ∧ h' = (hp_h N xs zc e3 e11 e18 zm A g gh dy))) := by
  have z0 := pz_0
  have z1 := pz_1
  have z2 := pz_2
  have z3 := pz_3
  have z4 := pz_4
  have z6 := pz_6
  have z7 := pz_7
  have z10 := pz_10
  have z11 := pz_11
  have z12 := pz_12
  have z20 := pz_20
  have z30 := pz_30
  have z50 := pz_50
  have z60 := pz_60
  have z80 := pz_80
  have z300 := pz_300
  have hST : (zm 12).toInt = (S : Int) := by rw [hS]; exact pw_T (by omega)
  have hSP : (zm 12 - 1).toInt = (S : Int) - 1 := by rw [hS]; exact pw_pred (by omega)
  have hTT : (zm 16).toInt = (T : Int) := by rw [hT]; exact pw_T (by omega)
  have hTP : (zm 16 - 1).toInt = (T : Int) - 1 := by rw [hT]; exact pw_pred (by omega)
  intro n
  induction n with
  | zero =>
    intro i hi
    obtain rfl : i = S := by omega
    have hiT := pw_T (n := i) (by omega)
    refine pr_iload_n rfl rfl ?_
    refine pr_aload_n rfl rfl ?_
    refine pr_getf rfl rfl rfl ?_
    refine pr_c_ge rfl (fun c_9 => ?_) (fun c_9 => ?_)
    · skip
      refine pr_iload_n rfl rfl ?_
      exact pr_reti rfl rfl (⟨rfl, rfl⟩)
    · skip
      exact absurd c_9 (by omega)
  | succ n ih =>
    intro i hi
    have hiT := pw_T (n := i) (by omega)
    refine pr_iload_n rfl rfl ?_
    refine pr_aload_n rfl rfl ?_
    refine pr_getf rfl rfl rfl ?_
    refine pr_c_ge rfl (fun c_9 => ?_) (fun c_9 => ?_)
    · skip
      exact absurd c_9 (by omega)
    · skip
      refine pr_iload_n rfl rfl ?_
      refine pr_aload_n rfl rfl ?_
      refine pr_iload_n rfl rfl ?_
      refine pr_vi1 rfl (by decide) (Nat.le_of_ble_eq_true rfl) rfl (Nat.le_of_ble_eq_true rfl) (c_107 _ T hT hTb hf i (by omega)) (fun r_15 h_15 q_15 => ?_)
      obtain ⟨rfl, rfl⟩ := q_15
      refine pr_b_ne rfl (fun c_18 => ?_) (fun c_18 => ?_)
      · skip
        refine pr_push (v := 0) rfl rfl ?_
        refine pr_step rfl rfl rfl rfl ?_
        refine pr_top (y := du_run A T (zm 11) (zm 34) (i + 1)) (by
          rw [du_run]
          first | rw [if_pos ⟨by assumption, by omega⟩] | rw [if_neg (fun hh => by first | exact absurd (by assumption) hh.1 | exact absurd hh.2 (by omega))]) ?_
        refine pr_istore_n rfl (Nat.le_of_ble_eq_true rfl) rfl ?_
        refine pr_iinc rfl rfl (pw_inc i) rfl ?_
        refine pr_step rfl rfl rfl rfl ?_
        exact ih (i + 1) (by omega)
      · skip
        refine pr_aload_n rfl rfl ?_
        refine pr_getf rfl rfl rfl ?_
        refine pr_aload_n rfl rfl ?_
        refine pr_getf rfl rfl rfl ?_
        refine pr_iload_n rfl rfl ?_
        refine pr_iald (i) rfl rfl (by decide) (by decide) rfl (by omega) ?_
        refine pr_step rfl rfl rfl rfl ?_
        refine pr_aload_n rfl rfl ?_
        refine pr_getf rfl rfl rfl ?_
        refine pr_c_lt rfl (fun c_36 => ?_) (fun c_36 => ?_)
        · skip
          refine pr_push (v := 0) rfl rfl ?_
          refine pr_step rfl rfl rfl rfl ?_
          refine pr_top (y := du_run A T (zm 11) (zm 34) (i + 1)) (by
            rw [du_run]
            first | rw [if_pos ⟨by assumption, by omega⟩] | rw [if_neg (fun hh => by first | exact absurd (by assumption) hh.1 | exact absurd hh.2 (by omega))]) ?_
          refine pr_istore_n rfl (Nat.le_of_ble_eq_true rfl) rfl ?_
          refine pr_iinc rfl rfl (pw_inc i) rfl ?_
          refine pr_step rfl rfl rfl rfl ?_
          exact ih (i + 1) (by omega)
        · skip
          refine pr_push (v := 1) rfl rfl ?_
          refine pr_iload_n rfl rfl ?_
          refine pr_step rfl rfl rfl rfl ?_
          refine pr_step rfl rfl rfl rfl ?_
          refine pr_step rfl rfl rfl rfl ?_
          refine pr_top (y := du_run A T (zm 11) (zm 34) (i + 1)) (by
            rw [du_run]
            first | rw [if_pos ⟨by assumption, by omega⟩] | rw [if_neg (fun hh => by first | exact absurd (by assumption) hh.1 | exact absurd hh.2 (by omega))]) ?_
          refine pr_istore_n rfl (Nat.le_of_ble_eq_true rfl) rfl ?_
          refine pr_iinc rfl rfl (pw_inc i) rfl ?_
          refine pr_step rfl rfl rfl rfl ?_
          exact ih (i + 1) (by omega)
theorem c_110 (d : Nat) {N : Nat} {xs : Nat → Int32} {zc zm : Nat → Int32} {e3 e11 e18 : Nat} {A : Nat → Nat → Int32} {g gh : Nat → Option Nat} {dy : pw_H} (S : Nat) (hS : zm 12 = nI S) (hSb : S ≤ 12) (T : Nat) (hT : zm 16 = nI T) (hTb : T ≤ 60) (hf : ∀ i, i < T → 0 ≤ (A 39 i).toInt) : pw_M (d + 2) 110 [.inr (some 25)] (hp_h N xs zc e3 e11 e18 zm A g gh dy) (pw_qi (fun r h' => r = du_run A T (zm 11) (zm 34) S ∧ h' = (hp_h N xs zc e3 e11 e18 zm A g gh dy))) := by
  refine pr_push (v := 0) rfl rfl ?_
  refine pr_istore_n rfl (Nat.le_of_ble_eq_true rfl) rfl ?_
  refine pr_push (v := 0) rfl rfl ?_
  refine pr_istore_n rfl (Nat.le_of_ble_eq_true rfl) rfl ?_
  exact c_110_loop d S hS hSb T hT hTb hf S 0 (by omega)
def ct_of (z : Nat → Int32) (x : Int32) : Int32 :=
  if x.toInt = 0 then z 0 else if x.toInt = 1 then z 1 else if x.toInt = 2 then z 2 else if x.toInt = 3 then z 3 else if x.toInt = 4 then z 4 else if x.toInt = 5 then z 5 else if x.toInt = 6 then z 6 else if x.toInt = 7 then z 7 else -2
theorem c_113 (d : Nat) {N : Nat} {xs : Nat → Int32} {zc zm : Nat → Int32} {e3 e11 e18 : Nat} {A : Nat → Nat → Int32} {g gh : Nat → Option Nat} {dy : pw_H} (x : Int32) : pw_M d 113 [.inr (some 25), .inl x] (hp_h N xs zc e3 e11 e18 zm A g gh dy) (pw_qi (fun r h' => r = ct_of (fun k => match k with | 0 => zm 0 | 1 => zm 11 | 2 => zm 12 | 3 => zm 16 | 4 => zm 21 | 5 => zm 23 | 6 => zm 7 | _ => zm 30) x ∧ h' = (hp_h N xs zc e3 e11 e18 zm A g gh dy))) := by
  refine pr_iload_n rfl rfl ?_
  refine pr_switch rfl (fun hx => ?_) (fun j u hj hu hx => ?_) (by decide)
  · refine pr_push (v := (-2)) rfl rfl ?_
    exact pr_reti rfl rfl ⟨by unfold ct_of; simp only [show ¬ x.toInt = 0 by omega, show ¬ x.toInt = 1 by omega, show ¬ x.toInt = 2 by omega, show ¬ x.toInt = 3 by omega, show ¬ x.toInt = 4 by omega, show ¬ x.toInt = 5 by omega, show ¬ x.toInt = 6 by omega, show ¬ x.toInt = 7 by omega, if_false], rfl⟩
  · match j, hj, hu with
    | 0, hj, hu =>
      obtain rfl := Option.some.inj hu
      refine pr_aload_n rfl rfl ?_
      refine pr_getf rfl rfl rfl ?_
      exact pr_reti rfl rfl (⟨by unfold ct_of; rw [hj]; rfl, rfl⟩)
    | 1, hj, hu =>
      obtain rfl := Option.some.inj hu
      refine pr_aload_n rfl rfl ?_
      refine pr_getf rfl rfl rfl ?_
      exact pr_reti rfl rfl (⟨by unfold ct_of; rw [hj]; rfl, rfl⟩)
    | 2, hj, hu =>
      obtain rfl := Option.some.inj hu
      refine pr_aload_n rfl rfl ?_
      refine pr_getf rfl rfl rfl ?_
      exact pr_reti rfl rfl (⟨by unfold ct_of; rw [hj]; rfl, rfl⟩)
    | 3, hj, hu =>
      obtain rfl := Option.some.inj hu
      refine pr_aload_n rfl rfl ?_
      refine pr_getf rfl rfl rfl ?_
      exact pr_reti rfl rfl (⟨by unfold ct_of; rw [hj]; rfl, rfl⟩)
    | 4, hj, hu =>
      obtain rfl := Option.some.inj hu
      refine pr_aload_n rfl rfl ?_
      refine pr_getf rfl rfl rfl ?_
      exact pr_reti rfl rfl (⟨by unfold ct_of; rw [hj]; rfl, rfl⟩)
    | 5, hj, hu =>
      obtain rfl := Option.some.inj hu
      refine pr_aload_n rfl rfl ?_
      refine pr_getf rfl rfl rfl ?_
      exact pr_reti rfl rfl (⟨by unfold ct_of; rw [hj]; rfl, rfl⟩)
    | 6, hj, hu =>
      obtain rfl := Option.some.inj hu
      refine pr_aload_n rfl rfl ?_
      refine pr_getf rfl rfl rfl ?_
      exact pr_reti rfl rfl (⟨by unfold ct_of; rw [hj]; rfl, rfl⟩)
    | 7, hj, hu =>
      obtain rfl := Option.some.inj hu
      refine pr_aload_n rfl rfl ?_
      refine pr_getf rfl rfl rfl ?_
      exact pr_reti rfl rfl (⟨by unfold ct_of; rw [hj]; rfl, rfl⟩)
    | j + 8, hj, hu => exact absurd hx (by omega)
def on_f (c : Int32) : Nat → Nat → Int32
  | 0, _ => -1
  | k + 1, p => if c = 1 <<< (nI p &&& 31) then nI p else on_f c k (p + 1)
def ow_of (A : Nat → Nat → Int32) (E P f : Nat) (yr : Int32) : Int32 := (ld_run (nI f) yr 0 (on_f (A 54 f) P 0) (A 33) (A 32) (fun _ => 0) (A 34) E).2
theorem c_87_two (d : Nat) {N : Nat} {xs : Nat → Int32} {zc zm : Nat → Int32} {e3 e11 e18 : Nat} {A : Nat → Nat → Int32} {g gh : Nat → Option Nat} {dy : pw_H} (P : Nat) (hP : zm 0 = nI P) (hPb : P ≤ 4) (f : Nat) (hf : f < 144) (yr : Int32) (g3 : Option pw_V) : ∀ (n i : Nat), i + n = P → pw_W (d + 0) 87 85 [some (.inr (some 25)), some (.inl (nI f)), some (.inl yr), g3, some (.inl (nI i))] [] (hp_h N xs zc e3 e11 e18 zm A g gh dy) (pw_qi (fun r h' => r = on_f (A 54 f) n i ∧ h' = (hp_h N xs zc e3 e11 e18 zm A g gh dy))) := by
  have z0 := pz_0
  have z1 := pz_1
  have z2 := pz_2
  have z3 := pz_3
  have z4 := pz_4
  have z6 := pz_6
  have z7 := pz_7
  have z10 := pz_10
  have z11 := pz_11
  have z12 := pz_12
  have z20 := pz_20
  have z30 := pz_30
  have z50 := pz_50
  have z60 := pz_60
  have z80 := pz_80
  have z300 := pz_300
  have hPT : (zm 0).toInt = (P : Int) := by rw [hP]; exact pw_T (by omega)
  have hPP : (zm 0 - 1).toInt = (P : Int) - 1 := by rw [hP]; exact pw_pred (by omega)
  intro n
  induction n with
  | zero =>
    intro i hi
    obtain rfl : i = P := by omega
    have hiT := pw_T (n := i) (by omega)
    refine pr_iload rfl rfl ?_
    refine pr_aload_n rfl rfl ?_
    refine pr_getf rfl rfl rfl ?_
    refine pr_c_ge rfl (fun c_91 => ?_) (fun c_91 => ?_)
    · skip
      refine pr_push (v := (-1)) rfl rfl ?_
      exact pr_reti rfl rfl (⟨rfl, rfl⟩)
    · skip
      exact absurd c_91 (by omega)
  | succ n ih =>
    intro i hi
    have hiT := pw_T (n := i) (by omega)
    refine pr_iload rfl rfl ?_
    refine pr_aload_n rfl rfl ?_
    refine pr_getf rfl rfl rfl ?_
    refine pr_c_ge rfl (fun c_91 => ?_) (fun c_91 => ?_)
    · skip
      exact absurd c_91 (by omega)
    · skip
      refine pr_aload_n rfl rfl ?_
      refine pr_getf rfl rfl rfl ?_
      refine pr_iload_n rfl rfl ?_
      refine pr_iald (f) rfl rfl (by decide) (by decide) rfl (by omega) ?_
      refine pr_push (v := 1) rfl rfl ?_
      refine pr_iload rfl rfl ?_
      refine pr_step rfl rfl rfl rfl ?_
      refine pr_c_ne rfl (fun c_104 => ?_) (fun c_104 => ?_)
      · skip
        refine pr_iinc rfl rfl (pw_inc i) rfl ?_
        refine pr_step rfl rfl rfl rfl ?_
        rw [on_f, if_neg (by assumption)]
        exact ih (i + 1) (by omega)
      · skip
        refine pr_iload rfl rfl ?_
        exact pr_reti rfl rfl (⟨by rw [on_f, if_pos (by assumption)], rfl⟩)
theorem c_87_loop (d : Nat) {N : Nat} {xs : Nat → Int32} {zc zm : Nat → Int32} {e3 e11 e18 : Nat} {A : Nat → Nat → Int32} {g gh : Nat → Option Nat} {dy : pw_H} (P : Nat) (hP : zm 0 = nI P) (hPb : P ≤ 4) (E : Nat) (hE : zm 7 = nI E) (hEb : E ≤ 12) (hf : ∀ i, i < E → 0 ≤ (A 32 i).toInt) (f : Nat) (hff : f < 144) (yr : Int32) : ∀ (k i : Nat) (bi : Int32), i + k = E → md_inv bi (ld_run (nI f) yr 0 (on_f (A 54 f) P 0) (A 33) (A 32) (fun _ => 0) (A 34) i) (on_f (A 54 f) P 0) (A 32) (A 34) i → pw_W (d + 0) 87 5 [some (.inr (some 25)), some (.inl (nI f)), some (.inl yr), some (.inl bi), some (.inl (nI i))] [] (hp_h N xs zc e3 e11 e18 zm A g gh dy) (pw_qi (fun r h' => r = ow_of A E P f yr ∧ h' = (hp_h N xs zc e3 e11 e18 zm A g gh dy))) := by
  have z0 := pz_0
  have z1 := pz_1
  have z2 := pz_2
  have z3 := pz_3
  have z4 := pz_4
  have z6 := pz_6
  have z7 := pz_7
  have z10 := pz_10
  have z11 := pz_11
  have z12 := pz_12
  have z20 := pz_20
  have z30 := pz_30
  have z50 := pz_50
  have z60 := pz_60
  have z80 := pz_80
  have z300 := pz_300
  have zm1 := pz_m1
  have hPT : (zm 0).toInt = (P : Int) := by rw [hP]; exact pw_T (by omega)
  have hPP : (zm 0 - 1).toInt = (P : Int) - 1 := by rw [hP]; exact pw_pred (by omega)
  have hET : (zm 7).toInt = (E : Int) := by rw [hE]; exact pw_T (by omega)
  have hEP : (zm 7 - 1).toInt = (E : Int) - 1 := by rw [hE]; exact pw_pred (by omega)
  intro k
  induction k with
  | zero =>
    intro i bi hi hv
    obtain rfl : i = E := by omega
    have hiT := pw_T (n := i) (by omega)
    unfold ow_of
    rcases hv with ⟨rfl, hs⟩ | ⟨b, hb, rfl, hs⟩
    · rw [hs]
      refine pr_iload rfl rfl ?_
      refine pr_aload_n rfl rfl ?_
      refine pr_getf rfl rfl rfl ?_
      refine pr_c_ge rfl (fun c_11 => ?_) (fun c_11 => ?_)
      · skip
        refine pr_iload_n rfl rfl ?_
        refine pr_push (v := (-1)) rfl rfl ?_
        refine pr_step rfl rfl rfl rfl ?_
        refine pr_push (v := 0) rfl rfl ?_
        refine pr_istore rfl (Nat.le_of_ble_eq_true rfl) rfl ?_
        exact c_87_two d P hP hPb f hff yr _ P 0 (by omega)
      · skip
        exact absurd c_11 (by omega)
    · have hbT := pw_T (n := b) (by omega)
      rw [hs]
      refine pr_iload rfl rfl ?_
      refine pr_aload_n rfl rfl ?_
      refine pr_getf rfl rfl rfl ?_
      refine pr_c_ge rfl (fun c_11 => ?_) (fun c_11 => ?_)
      · skip
        refine pr_iload_n rfl rfl ?_
        refine pr_push (v := (-1)) rfl rfl ?_
        refine pr_u_eq rfl (fun c_72 => ?_) (fun c_72 => ?_)
        · skip
          exact absurd c_72 (by omega)
        · skip
          refine pr_aload_n rfl rfl ?_
          refine pr_getf rfl rfl rfl ?_
          refine pr_iload_n rfl rfl ?_
          refine pr_iald (b) rfl rfl (by decide) (by decide) rfl (by omega) ?_
          exact pr_reti rfl rfl (⟨rfl, rfl⟩)
      · skip
        exact absurd c_11 (by omega)
  | succ k ih =>
    intro i bi hi hv
    have hiT := pw_T (n := i) (by omega)
    have hfi := hf i (by omega)
    have hv0 := hv
    rcases hv with ⟨rfl, hs⟩ | ⟨b, hb, rfl, hs⟩
    · skip
      refine pr_iload rfl rfl ?_
      refine pr_aload_n rfl rfl ?_
      refine pr_getf rfl rfl rfl ?_
      refine pr_c_ge rfl (fun c_11 => ?_) (fun c_11 => ?_)
      · skip
        exact absurd c_11 (by omega)
      · skip
        refine pr_aload_n rfl rfl ?_
        refine pr_getf rfl rfl rfl ?_
        refine pr_iload rfl rfl ?_
        refine pr_iald (i) rfl rfl (by decide) (by decide) rfl (by omega) ?_
        refine pr_iload_n rfl rfl ?_
        refine pr_c_ne rfl (fun c_22 => ?_) (fun c_22 => ?_)
        · skip
          refine pr_iinc rfl rfl (pw_inc i) rfl ?_
          refine pr_step rfl rfl rfl rfl ?_
          first
            | exact ih (i + 1) _ (by omega) (md_no hv0 (by rintro ⟨q1, q2, q3⟩; first | (exact absurd q1 (by assumption)) | omega))
            | exact ih (i + 1) _ (by omega) (md_yes ⟨by assumption, by omega, by first | omega | decide⟩ (by rw [hs]; dsimp only; omega))
        · skip
          refine pr_aload_n rfl rfl ?_
          refine pr_getf rfl rfl rfl ?_
          refine pr_iload rfl rfl ?_
          refine pr_iald (i) rfl rfl (by decide) (by decide) rfl (by omega) ?_
          refine pr_iload_n rfl rfl ?_
          refine pr_c_gt rfl (fun c_33 => ?_) (fun c_33 => ?_)
          · skip
            refine pr_iinc rfl rfl (pw_inc i) rfl ?_
            refine pr_step rfl rfl rfl rfl ?_
            first
              | exact ih (i + 1) _ (by omega) (md_no hv0 (by rintro ⟨q1, q2, q3⟩; first | (exact absurd q1 (by assumption)) | omega))
              | exact ih (i + 1) _ (by omega) (md_yes ⟨by assumption, by omega, by first | omega | decide⟩ (by rw [hs]; dsimp only; omega))
          · skip
            refine pr_iload_n rfl rfl ?_
            refine pr_push (v := (-1)) rfl rfl ?_
            refine pr_step rfl rfl rfl rfl ?_
            refine pr_iload rfl rfl ?_
            refine pr_step rfl rfl rfl rfl ?_
            refine pr_istore_n rfl (Nat.le_of_ble_eq_true rfl) rfl ?_
            refine pr_iinc rfl rfl (pw_inc i) rfl ?_
            refine pr_step rfl rfl rfl rfl ?_
            first
              | exact ih (i + 1) _ (by omega) (md_no hv0 (by rintro ⟨q1, q2, q3⟩; first | (exact absurd q1 (by assumption)) | omega))
              | exact ih (i + 1) _ (by omega) (md_yes ⟨by assumption, by omega, by first | omega | decide⟩ (by rw [hs]; dsimp only; omega))
    · have hbT := pw_T (n := b) (by omega)
      have hfb := hf b (by omega)
      refine pr_iload rfl rfl ?_
      refine pr_aload_n rfl rfl ?_
      refine pr_getf rfl rfl rfl ?_
      refine pr_c_ge rfl (fun c_11 => ?_) (fun c_11 => ?_)
      · skip
        exact absurd c_11 (by omega)
      · skip
        refine pr_aload_n rfl rfl ?_
        refine pr_getf rfl rfl rfl ?_
        refine pr_iload rfl rfl ?_
        refine pr_iald (i) rfl rfl (by decide) (by decide) rfl (by omega) ?_
        refine pr_iload_n rfl rfl ?_
        refine pr_c_ne rfl (fun c_22 => ?_) (fun c_22 => ?_)
        · skip
          refine pr_iinc rfl rfl (pw_inc i) rfl ?_
          refine pr_step rfl rfl rfl rfl ?_
          first
            | exact ih (i + 1) _ (by omega) (md_no hv0 (by rintro ⟨q1, q2, q3⟩; first | (exact absurd q1 (by assumption)) | omega))
            | exact ih (i + 1) _ (by omega) (md_lt hv0 (by rw [hs]; dsimp only; omega))
            | exact ih (i + 1) _ (by omega) (md_yes ⟨by assumption, by omega, by first | omega | decide⟩ (by rw [hs]; dsimp only; omega))
        · skip
          refine pr_aload_n rfl rfl ?_
          refine pr_getf rfl rfl rfl ?_
          refine pr_iload rfl rfl ?_
          refine pr_iald (i) rfl rfl (by decide) (by decide) rfl (by omega) ?_
          refine pr_iload_n rfl rfl ?_
          refine pr_c_gt rfl (fun c_33 => ?_) (fun c_33 => ?_)
          · skip
            refine pr_iinc rfl rfl (pw_inc i) rfl ?_
            refine pr_step rfl rfl rfl rfl ?_
            first
              | exact ih (i + 1) _ (by omega) (md_no hv0 (by rintro ⟨q1, q2, q3⟩; first | (exact absurd q1 (by assumption)) | omega))
              | exact ih (i + 1) _ (by omega) (md_lt hv0 (by rw [hs]; dsimp only; omega))
              | exact ih (i + 1) _ (by omega) (md_yes ⟨by assumption, by omega, by first | omega | decide⟩ (by rw [hs]; dsimp only; omega))
          · skip
            refine pr_iload_n rfl rfl ?_
            refine pr_push (v := (-1)) rfl rfl ?_
            refine pr_u_eq rfl (fun c_38 => ?_) (fun c_38 => ?_)
            · skip
              exact absurd c_38 (by omega)
            · skip
              refine pr_aload_n rfl rfl ?_
              refine pr_getf rfl rfl rfl ?_
              refine pr_iload rfl rfl ?_
              refine pr_iald (i) rfl rfl (by decide) (by decide) rfl (by omega) ?_
              refine pr_aload_n rfl rfl ?_
              refine pr_getf rfl rfl rfl ?_
              refine pr_iload_n rfl rfl ?_
              refine pr_iald (b) rfl rfl (by decide) (by decide) rfl (by omega) ?_
              refine pr_c_lt rfl (fun c_54 => ?_) (fun c_54 => ?_)
              · skip
                refine pr_iload_n rfl rfl ?_
                refine pr_istore_n rfl (Nat.le_of_ble_eq_true rfl) rfl ?_
                refine pr_iinc rfl rfl (pw_inc i) rfl ?_
                refine pr_step rfl rfl rfl rfl ?_
                first
                  | exact ih (i + 1) _ (by omega) (md_no hv0 (by rintro ⟨q1, q2, q3⟩; first | (exact absurd q1 (by assumption)) | omega))
                  | exact ih (i + 1) _ (by omega) (md_lt hv0 (by rw [hs]; dsimp only; omega))
                  | exact ih (i + 1) _ (by omega) (md_yes ⟨by assumption, by omega, by first | omega | decide⟩ (by rw [hs]; dsimp only; omega))
              · skip
                refine pr_iload rfl rfl ?_
                refine pr_step rfl rfl rfl rfl ?_
                refine pr_istore_n rfl (Nat.le_of_ble_eq_true rfl) rfl ?_
                refine pr_iinc rfl rfl (pw_inc i) rfl ?_
                refine pr_step rfl rfl rfl rfl ?_
                first
                  | exact ih (i + 1) _ (by omega) (md_no hv0 (by rintro ⟨q1, q2, q3⟩; first | (exact absurd q1 (by assumption)) | omega))
                  | exact ih (i + 1) _ (by omega) (md_lt hv0 (by rw [hs]; dsimp only; omega))
                  | exact ih (i + 1) _ (by omega) (md_yes ⟨by assumption, by omega, by first | omega | decide⟩ (by rw [hs]; dsimp only; omega))
theorem c_87 (d : Nat) {N : Nat} {xs : Nat → Int32} {zc zm : Nat → Int32} {e3 e11 e18 : Nat} {A : Nat → Nat → Int32} {g gh : Nat → Option Nat} {dy : pw_H} (P : Nat) (hP : zm 0 = nI P) (hPb : P ≤ 4) (E : Nat) (hE : zm 7 = nI E) (hEb : E ≤ 12) (hf : ∀ i, i < E → 0 ≤ (A 32 i).toInt) (f : Nat) (hff : f < 144) (yr : Int32) : pw_M (d + 0) 87 [.inr (some 25), .inl (nI f), .inl yr] (hp_h N xs zc e3 e11 e18 zm A g gh dy) (pw_qi (fun r h' => r = ow_of A E P f yr ∧ h' = (hp_h N xs zc e3 e11 e18 zm A g gh dy))) := by
  refine pr_push (v := (-1)) rfl rfl ?_
  refine pr_istore_n rfl (Nat.le_of_ble_eq_true rfl) rfl ?_
  refine pr_push (v := 0) rfl rfl ?_
  refine pr_istore rfl (Nat.le_of_ble_eq_true rfl) rfl ?_
  exact c_87_loop d P hP hPb E hE hEb hf f hff yr E 0 (-1) (by omega) (Or.inl ⟨rfl, rfl⟩)
