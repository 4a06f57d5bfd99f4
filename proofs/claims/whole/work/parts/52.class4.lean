theorem dv_12 : ∀ f, f < 144 → nI f / 12 = nI (f / 12) ∧ nI f - nI f / 12 * 12 = nI (f % 12) := by decide +kernel
/-- whom a field lies in, as numbers of bits -/
def cl_run (b : Nat → Bool) : Nat → Int32
  | 0 => 0
  | p + 1 => cl_run b p ||| (if b p = true then 1 <<< (nI p &&& 31) else 0)
/-- which walks surround which fields -/
def sr_ok (g : Nat → Option Nat) (dy : pw_H) (b : Nat → Nat → Nat → Bool) : Prop := ∀ p, p < 4 → (g p = none ∧ ∀ Y X, b p Y X = false) ∨ ∃ (k : Nat) (x0 y0 : Int32) (D L U C R : Nat → Int32) (n : Nat) (hl hr : Int32), g p = some (57 + k) ∧ wk_at dy k x0 y0 D L U C R n hl hr ∧ ∀ Y X, Y < 12 → X < 12 → (((R Y >>> (nI X &&& 31)) &&& 1 = 1) ↔ b p Y X = true)
def co_of (A : Nat → Nat → Int32) (e : Nat) (b : Nat → Nat → Nat → Bool) (yr : Int32) (f : Nat) : Int32 := (ld_run (nI f) yr 300 (on_f (cl_run (fun p => b p (f / 12) (f % 12)) 4) 4 0) (A 4) (A 5) (A 6) (A 7) e).2
def qc_run (A : Nat → Nat → Int32) (e : Nat) (b : Nat → Nat → Nat → Bool) (yr : Int32) : Nat → Int32
  | 0 => 0
  | k + 1 => qc_run A e b yr k + (if 2 ≤ (bc_of (cl_run (fun p => b p (k / 12) (k % 12)) 4)).toInt ∧ co_of A e b yr k = -1 then 1 else 0)
theorem c_58_loop (d : Nat) {N : Nat} {xs : Nat → Int32} {zc zm : Nat → Int32} {e3 e11 e18 : Nat} {A : Nat → Nat → Int32} {g gh : Nat → Option Nat} {dy : pw_H} (b : Nat → Nat → Nat → Bool) (hsr : sr_ok g dy b) (f : Nat) (hf : f < 144) : ∀ (n p : Nat) (v : Int32) (g4 : Option pw_V), p + n = 4 → v = (cl_run (fun p => b p (f / 12) (f % 12)) p) → pw_W (d + 3) 58 4 [some (.inr (some 1)), some (.inl (nI f)), some (.inl v), some (.inl (nI p)), g4] [] (hp_h N xs zc e3 e11 e18 zm A g gh dy) (pw_qi (pw_is (hp_h N xs zc e3 e11 e18 zm A g gh dy) (cl_run (fun p => b p (f / 12) (f % 12)) 4))) := by
  have z4 := pz_4
  intro n
  induction n with
  | zero =>
    intro p v g4 hp hv
    obtain rfl : p = 4 := by omega
    have hpT := pw_T (n := 4) (by omega)
    subst hv
    refine pr_iload_n rfl rfl ?_
    refine pr_push (v := 4) rfl rfl ?_
    refine pr_c_ge rfl (fun c_6 => ?_) (fun c_6 => ?_)
    · skip
      refine pr_iload_n rfl rfl ?_
      exact pr_reti rfl rfl (⟨rfl, rfl⟩)
    · skip
      exact absurd c_6 (by omega)
  | succ n ih =>
    intro p v g4 hp hv
    have hpT := pw_T (n := p) (by omega)
    refine pr_iload_n rfl rfl ?_
    refine pr_push (v := 4) rfl rfl ?_
    refine pr_c_ge rfl (fun c_6 => ?_) (fun c_6 => ?_)
    · skip
      exact absurd c_6 (by omega)
    · skip
      refine pr_aload_n rfl rfl ?_
      refine pr_getf rfl rfl rfl ?_
      refine pr_iload_n rfl rfl ?_
      refine pr_aald (p) rfl rfl (by decide) rfl (by omega) ?_
      refine pr_astore rfl (Nat.le_of_ble_eq_true rfl) rfl ?_
      refine pr_aload rfl rfl ?_
      rcases hsr p (by omega) with ⟨hg, hb⟩ | ⟨k, x0, y0, D, L, U, C, R, n2, hl, hr, hg, hat, hb⟩
      · skip
        rw [hg]
        refine pr_step rfl rfl rfl rfl ?_
        refine pr_iinc rfl rfl (pw_inc p) rfl ?_
        refine pr_step rfl rfl rfl rfl ?_
        exact ih (p + 1) _ _ (by omega) (by
          rw [cl_run, ← hv]
          first
          | rw [hb, if_neg Bool.false_ne_true, pw_or0]
          | rw [if_pos ((hb (f / 12) (f % 12) (by omega) (by omega)).mp c_35)]
          | rw [if_neg (fun hh => c_35 ((hb (f / 12) (f % 12) (by omega) (by omega)).mpr hh)), pw_or0])
      · skip
        rw [hg]
        refine pr_step rfl rfl rfl rfl ?_
        refine pr_aload rfl rfl ?_
        refine pr_iload_n rfl rfl ?_
        refine pr_push (v := 12) rfl rfl ?_
        refine pr_rem rfl (by decide) ?_
        refine pr_top ((dv_12 f hf).2) ?_
        refine pr_iload_n rfl rfl ?_
        refine pr_push (v := 12) rfl rfl ?_
        refine pr_div rfl (by decide) ?_
        refine pr_top ((dv_12 f hf).1) ?_
        refine pr_vi2 rfl (by decide) (Nat.le_of_ble_eq_true rfl) (hp_dy.trans hat.1) (Nat.le_of_ble_eq_true rfl) (k_12 _ hat (f % 12) (f / 12) (by omega) (by omega)) (fun r_32 h_32 q_32 => ?_)
        obtain ⟨rfl, rfl⟩ := q_32
        refine pr_b_eq rfl (fun c_35 => ?_) (fun c_35 => ?_)
        · skip
          refine pr_iinc rfl rfl (pw_inc p) rfl ?_
          refine pr_step rfl rfl rfl rfl ?_
          exact ih (p + 1) _ _ (by omega) (by
            rw [cl_run, ← hv]
            first
            | rw [hb, if_neg Bool.false_ne_true, pw_or0]
            | rw [if_pos ((hb (f / 12) (f % 12) (by omega) (by omega)).mp c_35)]
            | rw [if_neg (fun hh => c_35 ((hb (f / 12) (f % 12) (by omega) (by omega)).mpr hh)), pw_or0])
        · skip
          refine pr_iload_n rfl rfl ?_
          refine pr_push (v := 1) rfl rfl ?_
          refine pr_iload_n rfl rfl ?_
          refine pr_step rfl rfl rfl rfl ?_
          refine pr_step rfl rfl rfl rfl ?_
          refine pr_istore_n rfl (Nat.le_of_ble_eq_true rfl) rfl ?_
          refine pr_iinc rfl rfl (pw_inc p) rfl ?_
          refine pr_step rfl rfl rfl rfl ?_
          exact ih (p + 1) _ _ (by omega) (by
            rw [cl_run, ← hv]
            first
            | rw [hb, if_neg Bool.false_ne_true, pw_or0]
            | rw [if_pos ((hb (f / 12) (f % 12) (by omega) (by omega)).mp c_35)]
            | rw [if_neg (fun hh => c_35 ((hb (f / 12) (f % 12) (by omega) (by omega)).mpr hh)), pw_or0])
theorem c_58 (d : Nat) {N : Nat} {xs : Nat → Int32} {zc zm : Nat → Int32} {e3 e11 e18 : Nat} {A : Nat → Nat → Int32} {g gh : Nat → Option Nat} {dy : pw_H} (b : Nat → Nat → Nat → Bool) (hsr : sr_ok g dy b) (f : Nat) (hf : f < 144) : pw_M (d + 3) 58 [.inr (some 1), .inl (nI f)] (hp_h N xs zc e3 e11 e18 zm A g gh dy) (pw_qi (pw_is (hp_h N xs zc e3 e11 e18 zm A g gh dy) (cl_run (fun p => b p (f / 12) (f % 12)) 4))) := by
  refine pr_push (v := 0) rfl rfl ?_
  refine pr_istore_n rfl (Nat.le_of_ble_eq_true rfl) rfl ?_
  refine pr_push (v := 0) rfl rfl ?_
  refine pr_istore_n rfl (Nat.le_of_ble_eq_true rfl) rfl ?_
  exact c_58_loop d b hsr f hf 4 0 0 _ (by omega) rfl
theorem c_59 (d : Nat) {N : Nat} {xs : Nat → Int32} {zc zm : Nat → Int32} {e3 e11 e18 : Nat} {A : Nat → Nat → Int32} {g gh : Nat → Option Nat} {dy : pw_H} (b : Nat → Nat → Nat → Bool) (hsr : sr_ok g dy b) (he3 : e3 ≤ 12) (f : Nat) (hf : f < 144) (yr : Int32) : pw_M (d + 4) 59 [.inr (some 1), .inl (nI f), .inl yr] (hp_h N xs zc e3 e11 e18 zm A g gh dy) (pw_qi (pw_is (hp_h N xs zc e3 e11 e18 zm A g gh dy) (co_of A e3 b yr f))) := by
  refine pr_aload_n rfl rfl ?_
  refine pr_getf rfl rfl rfl ?_
  refine pr_iload_n rfl rfl ?_
  refine pr_iload_n rfl rfl ?_
  refine pr_push (v := 300) rfl rfl ?_
  refine pr_aload_n rfl rfl ?_
  refine pr_iload_n rfl rfl ?_
  refine pr_vi1 rfl (by decide) (Nat.le_of_ble_eq_true rfl) rfl (Nat.le_of_ble_eq_true rfl) (c_58 _ b hsr f hf) (fun r_11 h_11 q_11 => ?_)
  obtain ⟨rfl, rfl⟩ := q_11
  refine pr_si1 rfl (by decide) (Nat.le_of_ble_eq_true rfl) (Nat.le_of_ble_eq_true rfl) (c_60 _ _ _) (fun r_14 h_14 q_14 => ?_)
  obtain ⟨rfl, rfl⟩ := q_14
  refine pr_vi4 rfl (by decide) (Nat.le_of_ble_eq_true rfl) rfl (Nat.le_of_ble_eq_true rfl) (lc_6 _ _ 3 4 5 6 7 12 e3 _ _ _ _ (hl_3 he3) _ _ _ _) (fun r_17 h_17 q_17 => ?_)
  obtain ⟨rfl, rfl⟩ := q_17
  exact pr_reti rfl rfl (⟨rfl, rfl⟩)
theorem c_29 (d : Nat) {N : Nat} {xs : Nat → Int32} {zc zm : Nat → Int32} {e3 e11 e18 : Nat} {A : Nat → Nat → Int32} {g gh : Nat → Option Nat} {dy : pw_H} (b : Nat → Nat → Nat → Bool) (hsr : sr_ok g dy b) (x y : Int32) : pw_M (d + 4) 29 [.inr (some 1), .inl x, .inl y] (hp_h N xs zc e3 e11 e18 zm A g gh dy) (pw_qi (fun r h' => ((¬ pw_fd x y ∧ r = -2) ∨ (pw_fd x y ∧ ∃ X Y : Nat, X < 12 ∧ Y < 12 ∧ x = nI X ∧ y = nI Y ∧ r = cl_run (fun p => b p Y X) 4)) ∧ h' = (hp_h N xs zc e3 e11 e18 zm A g gh dy))) := by
  have z0 := pz_0
  have z1 := pz_1
  have z2 := pz_2
  have z3 := pz_3
  have z4 := pz_4
  have z6 := pz_6
  have z7 := pz_7
  have z10 := pz_10
  have z11 := pz_11
  have z12 := pz_12
  have z20 := pz_20
  have z30 := pz_30
  have z50 := pz_50
  have z60 := pz_60
  have z80 := pz_80
  have z300 := pz_300
  refine pr_iload_n rfl rfl ?_
  refine pr_iload_n rfl rfl ?_
  refine pr_si2 rfl (by decide) (Nat.le_of_ble_eq_true rfl) (Nat.le_of_ble_eq_true rfl) (c_50 _ _ _ _) (fun r_2 h_2 q_2 => ?_)
  obtain ⟨rfl, rfl⟩ := q_2
  refine pr_b_ne rfl (fun c_5 => ?_) (fun c_5 => ?_)
  · skip
    obtain ⟨X, hX, hXT, hXl⟩ := pw_nat (x := x) (by omega)
    obtain ⟨Y, hY, hYT, hYl⟩ := pw_nat (x := y) (by omega)
    have hd1 : (12 * Y + X) / 12 = Y := by omega
    have hd2 : (12 * Y + X) % 12 = X := by omega
    refine pr_aload_n rfl rfl ?_
    refine pr_iload_n rfl rfl ?_
    refine pr_iload_n rfl rfl ?_
    refine pr_si2 rfl (by decide) (Nat.le_of_ble_eq_true rfl) (Nat.le_of_ble_eq_true rfl) (c_55 _ _ _ _) (fun r_14 h_14 q_14 => ?_)
    obtain ⟨rfl, rfl⟩ := q_14
    refine pr_top (show 12 * y + x = nI (12 * Y + X) from by rw [hX, hY]; exact pw_at Y X) ?_
    refine pr_vi1 rfl (by decide) (Nat.le_of_ble_eq_true rfl) rfl (Nat.le_of_ble_eq_true rfl) (c_58 _ b hsr (12 * Y + X) (by omega)) (fun r_17 h_17 q_17 => ?_)
    obtain ⟨e_17, rfl⟩ := q_17
    rw [hd1, hd2] at e_17
    exact pr_reti rfl rfl (⟨Or.inr ⟨by assumption, X, Y, by omega, by omega, hX, hY, e_17⟩, rfl⟩)
  · skip
    refine pr_push (v := (-2)) rfl rfl ?_
    exact pr_reti rfl rfl (⟨Or.inl ⟨by assumption, rfl⟩, rfl⟩)
theorem c_31 (d : Nat) {N : Nat} {xs : Nat → Int32} {zc zm : Nat → Int32} {e3 e11 e18 : Nat} {A : Nat → Nat → Int32} {g gh : Nat → Option Nat} {dy : pw_H} (b : Nat → Nat → Nat → Bool) (hsr : sr_ok g dy b) (he3 : e3 ≤ 12) (x y yr : Int32) : pw_M (d + 5) 31 [.inr (some 1), .inl x, .inl y, .inl yr] (hp_h N xs zc e3 e11 e18 zm A g gh dy) (pw_qi (fun r h' => ((¬ (pw_fd x y ∧ pw_yr yr) ∧ r = -2) ∨ ((pw_fd x y ∧ pw_yr yr) ∧ ∃ X Y : Nat, X < 12 ∧ Y < 12 ∧ x = nI X ∧ y = nI Y ∧ r = co_of A e3 b yr (12 * Y + X))) ∧ h' = (hp_h N xs zc e3 e11 e18 zm A g gh dy))) := by
  have z0 := pz_0
  have z1 := pz_1
  have z2 := pz_2
  have z3 := pz_3
  have z4 := pz_4
  have z6 := pz_6
  have z7 := pz_7
  have z10 := pz_10
  have z11 := pz_11
  have z12 := pz_12
  have z20 := pz_20
  have z30 := pz_30
  have z50 := pz_50
  have z60 := pz_60
  have z80 := pz_80
  have z300 := pz_300
  refine pr_iload_n rfl rfl ?_
  refine pr_iload_n rfl rfl ?_
  refine pr_si2 rfl (by decide) (Nat.le_of_ble_eq_true rfl) (Nat.le_of_ble_eq_true rfl) (c_50 _ _ _ _) (fun r_2 h_2 q_2 => ?_)
  obtain ⟨rfl, rfl⟩ := q_2
  refine pr_b_eq rfl (fun c_5 => ?_) (fun c_5 => ?_)
  · skip
    refine pr_push (v := (-2)) rfl rfl ?_
    exact pr_reti rfl rfl (⟨Or.inl ⟨by omega, rfl⟩, rfl⟩)
  · skip
    refine pr_iload_n rfl rfl ?_
    refine pr_si1 rfl (by decide) (Nat.le_of_ble_eq_true rfl) (Nat.le_of_ble_eq_true rfl) (c_51 _ _ _) (fun r_9 h_9 q_9 => ?_)
    obtain ⟨rfl, rfl⟩ := q_9
    refine pr_b_ne rfl (fun c_12 => ?_) (fun c_12 => ?_)
    · skip
      obtain ⟨X, hX, hXT, hXl⟩ := pw_nat (x := x) (by omega)
      obtain ⟨Y, hY, hYT, hYl⟩ := pw_nat (x := y) (by omega)
      refine pr_aload_n rfl rfl ?_
      refine pr_iload_n rfl rfl ?_
      refine pr_iload_n rfl rfl ?_
      refine pr_si2 rfl (by decide) (Nat.le_of_ble_eq_true rfl) (Nat.le_of_ble_eq_true rfl) (c_55 _ _ _ _) (fun r_21 h_21 q_21 => ?_)
      obtain ⟨rfl, rfl⟩ := q_21
      refine pr_top (show 12 * y + x = nI (12 * Y + X) from by rw [hX, hY]; exact pw_at Y X) ?_
      refine pr_iload_n rfl rfl ?_
      refine pr_vi2 rfl (by decide) (Nat.le_of_ble_eq_true rfl) rfl (Nat.le_of_ble_eq_true rfl) (c_59 _ b hsr he3 (12 * Y + X) (by omega) yr) (fun r_25 h_25 q_25 => ?_)
      obtain ⟨rfl, rfl⟩ := q_25
      exact pr_reti rfl rfl (⟨Or.inr ⟨by omega, X, Y, by omega, by omega, hX, hY, rfl⟩, rfl⟩)
    · skip
      refine pr_push (v := (-2)) rfl rfl ?_
      exact pr_reti rfl rfl (⟨Or.inl ⟨by omega, rfl⟩, rfl⟩)
theorem c_32_loop (d : Nat) {N : Nat} {xs : Nat → Int32} {zc zm : Nat → Int32} {e3 e11 e18 : Nat} {A : Nat → Nat → Int32} {g gh : Nat → Option Nat} {dy : pw_H} (b : Nat → Nat → Nat → Bool) (hsr : sr_ok g dy b) (he3 : e3 ≤ 12) (yr : Int32) : ∀ (n k : Nat) (v : Int32), k + n = 144 → v = qc_run A e3 b yr k → pw_W (d + 5) 32 14 [some (.inr (some 1)), some (.inl yr), some (.inl v), some (.inl (nI k))] [] (hp_h N xs zc e3 e11 e18 zm A g gh dy) (pw_qi (pw_is (hp_h N xs zc e3 e11 e18 zm A g gh dy) (qc_run A e3 b yr 144))) := by
  have z144 := pz_144
  have z2 := pz_2
  intro n
  induction n with
  | zero =>
    intro k v hk hv
    obtain rfl : k = 144 := by omega
    have hkT := pw_T (n := 144) (by omega)
    subst hv
    refine pr_iload_n rfl rfl ?_
    refine pr_push (v := 144) rfl rfl ?_
    refine pr_c_ge rfl (fun c_18 => ?_) (fun c_18 => ?_)
    · skip
      refine pr_iload_n rfl rfl ?_
      exact pr_reti rfl rfl (⟨rfl, rfl⟩)
    · skip
      exact absurd c_18 (by omega)
  | succ n ih =>
    intro k v hk hv
    have hkT := pw_T (n := k) (by omega)
    refine pr_iload_n rfl rfl ?_
    refine pr_push (v := 144) rfl rfl ?_
    refine pr_c_ge rfl (fun c_18 => ?_) (fun c_18 => ?_)
    · skip
      exact absurd c_18 (by omega)
    · skip
      refine pr_aload_n rfl rfl ?_
      refine pr_iload_n rfl rfl ?_
      refine pr_vi1 rfl (by decide) (Nat.le_of_ble_eq_true rfl) rfl (Nat.le_of_ble_eq_true rfl) (c_58 _ b hsr k (by omega)) (fun r_23 h_23 q_23 => ?_)
      obtain ⟨rfl, rfl⟩ := q_23
      refine pr_si1 rfl (by decide) (Nat.le_of_ble_eq_true rfl) (Nat.le_of_ble_eq_true rfl) (c_114 _ _ _) (fun r_26 h_26 q_26 => ?_)
      obtain ⟨rfl, rfl⟩ := q_26
      refine pr_push (v := 2) rfl rfl ?_
      refine pr_c_lt rfl (fun c_30 => ?_) (fun c_30 => ?_)
      · skip
        refine pr_iinc rfl rfl (pw_inc k) rfl ?_
        refine pr_step rfl rfl rfl rfl ?_
        exact ih (k + 1) _ (by omega) (by
          rw [qc_run, ← hv]
          first
          | (rw [if_pos ⟨by omega, c_40⟩]; rfl)
          | rw [if_neg (fun hh => by first | exact absurd hh.1 (by omega) | exact c_40 hh.2), Int32.add_zero])
      · skip
        refine pr_aload_n rfl rfl ?_
        refine pr_iload_n rfl rfl ?_
        refine pr_iload_n rfl rfl ?_
        refine pr_vi2 rfl (by decide) (Nat.le_of_ble_eq_true rfl) rfl (Nat.le_of_ble_eq_true rfl) (c_59 _ b hsr he3 k (by omega) yr) (fun r_36 h_36 q_36 => ?_)
        obtain ⟨rfl, rfl⟩ := q_36
        refine pr_push (v := (-1)) rfl rfl ?_
        refine pr_c_ne rfl (fun c_40 => ?_) (fun c_40 => ?_)
        · skip
          refine pr_iinc rfl rfl (pw_inc k) rfl ?_
          refine pr_step rfl rfl rfl rfl ?_
          exact ih (k + 1) _ (by omega) (by
            rw [qc_run, ← hv]
            first
            | (rw [if_pos ⟨by omega, c_40⟩]; rfl)
            | rw [if_neg (fun hh => by first | exact absurd hh.1 (by omega) | exact c_40 hh.2), Int32.add_zero])
        · skip
          refine pr_iinc rfl rfl rfl rfl ?_
          refine pr_iinc rfl rfl (pw_inc k) rfl ?_
          refine pr_step rfl rfl rfl rfl ?_
          exact ih (k + 1) _ (by omega) (by
            rw [qc_run, ← hv]
            first
            | (rw [if_pos ⟨by omega, c_40⟩]; rfl)
            | rw [if_neg (fun hh => by first | exact absurd hh.1 (by omega) | exact c_40 hh.2), Int32.add_zero])
theorem c_32 (d : Nat) {N : Nat} {xs : Nat → Int32} {zc zm : Nat → Int32} {e3 e11 e18 : Nat} {A : Nat → Nat → Int32} {g gh : Nat → Option Nat} {dy : pw_H} (b : Nat → Nat → Nat → Bool) (hsr : sr_ok g dy b) (he3 : e3 ≤ 12) (yr : Int32) : pw_M (d + 5) 32 [.inr (some 1), .inl yr] (hp_h N xs zc e3 e11 e18 zm A g gh dy) (pw_qi (fun r h' => ((¬ pw_yr yr ∧ r = -2) ∨ (pw_yr yr ∧ r = qc_run A e3 b yr 144)) ∧ h' = (hp_h N xs zc e3 e11 e18 zm A g gh dy))) := by
  refine pr_iload_n rfl rfl ?_
  refine pr_si1 rfl (by decide) (Nat.le_of_ble_eq_true rfl) (Nat.le_of_ble_eq_true rfl) (c_51 _ _ _) (fun r_1 h_1 q_1 => ?_)
  obtain ⟨rfl, rfl⟩ := q_1
  refine pr_b_ne rfl (fun c_4 => ?_) (fun c_4 => ?_)
  · skip
    refine pr_push (v := 0) rfl rfl ?_
    refine pr_istore_n rfl (Nat.le_of_ble_eq_true rfl) rfl ?_
    refine pr_push (v := 0) rfl rfl ?_
    refine pr_istore_n rfl (Nat.le_of_ble_eq_true rfl) rfl ?_
    refine pr_post (c_32_loop d b hsr he3 yr 144 0 0 (by omega) rfl) (fun r h1 hh => ?_)
    obtain ⟨x, e1, e2, e3⟩ := hh
    exact ⟨x, e1, Or.inr ⟨by assumption, e2⟩, e3⟩
  · skip
    refine pr_push (v := (-2)) rfl rfl ?_
    exact pr_reti rfl rfl (⟨Or.inl ⟨by assumption, rfl⟩, rfl⟩)
