/-- the stone whose last seeing is longest ago, before a year, among the first i -/
def la_run (A : Nat → Nat → Int32) (T : Nat) (now yr : Int32) : Nat → Option Nat
  | 0 => none
  | i + 1 => match la_run A T now yr i with
    | none => if ¬ wh_of A T i now now = -1 ∧ (A 56 i).toInt < yr.toInt then some i else none
    | some b => if ¬ wh_of A T i now now = -1 ∧ (A 56 i).toInt < yr.toInt ∧ (A 56 i).toInt < (A 56 b).toInt then some i else some b
theorem la_lt (A : Nat → Nat → Int32) (T : Nat) (now yr : Int32) : ∀ i b, la_run A T now yr i = some b → b < i
  | 0, b, h => by cases h
  | i + 1, b, h => by
    unfold la_run at h
    cases hr : la_run A T now yr i with
    | none =>
      rw [hr] at h
      dsimp only at h
      split at h
      · cases h; omega
      · cases h
    | some b2 =>
      have h2 := la_lt A T now yr i b2 hr
      rw [hr] at h
      dsimp only at h
      split at h
      · cases h; omega
      · cases h; omega
def la_i (o : Option Nat) : Int32 := match o with
  | none => -1
  | some b => nI b
theorem c_111_loop (d : Nat) {N : Nat} {xs : Nat → Int32} {zc zm : Nat → Int32} {e3 e11 e18 : Nat} {A : Nat → Nat → Int32} {g gh : Nat → Option Nat} {dy : pw_H} (S : Nat) (hS : zm 12 = nI S) (hSb : S ≤ 12) (T : Nat) (hT : zm 16 = nI T) (hTb : T ≤ 60) (hf : ∀ i, i < T → 0 ≤ (A 39 i).toInt) (yr : Int32) : ∀ (k i : Nat), i + k = S → pw_W (d + 2) 111 4 [some (.inr (some 25)), some (.inl yr), some (.inl (la_i (la_run A T (zm 11) yr i))), some (.inl (nI i))] [] (hp_h N xs zc e3 e11 e18 zm A g gh dy) (pw_qi (fun r h' => r = la_i (la_run A T (zm 11) yr S) ∧ h' = (hp_h N xs zc e3 e11 e18 zm A g gh dy))) := by
  have hST : (zm 12).toInt = (S : Int) := by rw [hS]; exact pw_T (by omega)
  have hSP : (zm 12 - 1).toInt = (S : Int) - 1 := by rw [hS]; exact pw_pred (by omega)
  have hTT : (zm 16).toInt = (T : Int) := by rw [hT]; exact pw_T (by omega)
  have hTP : (zm 16 - 1).toInt = (T : Int) - 1 := by rw [hT]; exact pw_pred (by omega)
  have zm1 := pz_m1
  intro k
  induction k with
  | zero =>
    intro i hi
    obtain rfl : i = S := by omega
    have hiT := pw_T (n := i) (by omega)
    refine pr_iload_n rfl rfl ?_
    refine pr_aload_n rfl rfl ?_
    refine pr_getf rfl rfl rfl ?_
    refine pr_c_ge rfl (fun c_9 => ?_) (fun c_9 => ?_)
    · skip
      refine pr_iload_n rfl rfl ?_
      exact pr_reti rfl rfl (⟨rfl, rfl⟩)
    · skip
      exact absurd c_9 (by omega)
  | succ k ih =>
    intro i hi
    have hiT := pw_T (n := i) (by omega)
    have hih := ih (i + 1) (by omega)
    cases hr : la_run A T (zm 11) yr i with
    | none =>
      show pw_W (d + 2) 111 4 [some (.inr (some 25)), some (.inl yr), some (.inl (-1)), some (.inl (nI i))] [] _ _
      refine pr_iload_n rfl rfl ?_
      refine pr_aload_n rfl rfl ?_
      refine pr_getf rfl rfl rfl ?_
      refine pr_c_ge rfl (fun c_9 => ?_) (fun c_9 => ?_)
      · skip
        exact absurd c_9 (by omega)
      · skip
        refine pr_aload_n rfl rfl ?_
        refine pr_iload_n rfl rfl ?_
        refine pr_vi1 rfl (by decide) (Nat.le_of_ble_eq_true rfl) rfl (Nat.le_of_ble_eq_true rfl) (c_107 _ T hT hTb hf i (by omega)) (fun r_14 h_14 q_14 => ?_)
        obtain ⟨rfl, rfl⟩ := q_14
        refine pr_b_ne rfl (fun c_17 => ?_) (fun c_17 => ?_)
        · skip
          refine pr_iload_n rfl rfl ?_
          refine pr_istore_n rfl (Nat.le_of_ble_eq_true rfl) rfl ?_
          refine pr_iinc rfl rfl (pw_inc i) rfl ?_
          refine pr_step rfl rfl rfl rfl ?_
          first
            | exact pr_L (show _ = [some (.inr (some 25)), some (.inl yr), some (.inl (la_i (la_run A T (zm 11) yr (i + 1)))), some (.inl (nI (i + 1)))] from by
                rw [show la_run A T (zm 11) yr (i + 1) = none from by rw [la_run, hr]; dsimp only; rw [if_neg (fun hh => by first | exact absurd (by assumption) hh.1 | exact absurd hh.2 (by omega))]]; rfl) hih
            | exact pr_L (show _ = [some (.inr (some 25)), some (.inl yr), some (.inl (la_i (la_run A T (zm 11) yr (i + 1)))), some (.inl (nI (i + 1)))] from by
                rw [show la_run A T (zm 11) yr (i + 1) = some i from by rw [la_run, hr]; dsimp only; rw [if_pos (by first | exact ⟨by assumption, by omega⟩ | exact ⟨by assumption, by omega, by omega⟩)]]; rfl) hih
        · skip
          refine pr_aload_n rfl rfl ?_
          refine pr_getf rfl rfl rfl ?_
          refine pr_iload_n rfl rfl ?_
          refine pr_iald (i) rfl rfl (by decide) (by decide) rfl (by omega) ?_
          refine pr_iload_n rfl rfl ?_
          refine pr_c_ge rfl (fun c_27 => ?_) (fun c_27 => ?_)
          · skip
            refine pr_iload_n rfl rfl ?_
            refine pr_istore_n rfl (Nat.le_of_ble_eq_true rfl) rfl ?_
            refine pr_iinc rfl rfl (pw_inc i) rfl ?_
            refine pr_step rfl rfl rfl rfl ?_
            first
              | exact pr_L (show _ = [some (.inr (some 25)), some (.inl yr), some (.inl (la_i (la_run A T (zm 11) yr (i + 1)))), some (.inl (nI (i + 1)))] from by
                  rw [show la_run A T (zm 11) yr (i + 1) = none from by rw [la_run, hr]; dsimp only; rw [if_neg (fun hh => by first | exact absurd (by assumption) hh.1 | exact absurd hh.2 (by omega))]]; rfl) hih
              | exact pr_L (show _ = [some (.inr (some 25)), some (.inl yr), some (.inl (la_i (la_run A T (zm 11) yr (i + 1)))), some (.inl (nI (i + 1)))] from by
                  rw [show la_run A T (zm 11) yr (i + 1) = some i from by rw [la_run, hr]; dsimp only; rw [if_pos (by first | exact ⟨by assumption, by omega⟩ | exact ⟨by assumption, by omega, by omega⟩)]]; rfl) hih
          · skip
            refine pr_iload_n rfl rfl ?_
            refine pr_push (v := (-1)) rfl rfl ?_
            refine pr_step rfl rfl rfl rfl ?_
            refine pr_iload_n rfl rfl ?_
            refine pr_step rfl rfl rfl rfl ?_
            refine pr_istore_n rfl (Nat.le_of_ble_eq_true rfl) rfl ?_
            refine pr_iinc rfl rfl (pw_inc i) rfl ?_
            refine pr_step rfl rfl rfl rfl ?_
            first
              | exact pr_L (show _ = [some (.inr (some 25)), some (.inl yr), some (.inl (la_i (la_run A T (zm 11) yr (i + 1)))), some (.inl (nI (i + 1)))] from by
                  rw [show la_run A T (zm 11) yr (i + 1) = none from by rw [la_run, hr]; dsimp only; rw [if_neg (fun hh => by first | exact absurd (by assumption) hh.1 | exact absurd hh.2 (by omega))]]; rfl) hih
              | exact pr_L (show _ = [some (.inr (some 25)), some (.inl yr), some (.inl (la_i (la_run A T (zm 11) yr (i + 1)))), some (.inl (nI (i + 1)))] from by
                  rw [show la_run A T (zm 11) yr (i + 1) = some i from by rw [la_run, hr]; dsimp only; rw [if_pos (by first | exact ⟨by assumption, by omega⟩ | exact ⟨by assumption, by omega, by omega⟩)]]; rfl) hih
    | some b =>
      have hb := la_lt A T (zm 11) yr i b hr
      have hbT := pw_T (n := b) (by omega)
      show pw_W (d + 2) 111 4 [some (.inr (some 25)), some (.inl yr), some (.inl (nI b)), some (.inl (nI i))] [] _ _
      refine pr_iload_n rfl rfl ?_
      refine pr_aload_n rfl rfl ?_
      refine pr_getf rfl rfl rfl ?_
      refine pr_c_ge rfl (fun c_9 => ?_) (fun c_9 => ?_)
      · skip
        exact absurd c_9 (by omega)
      · skip
        refine pr_aload_n rfl rfl ?_
        refine pr_iload_n rfl rfl ?_
        refine pr_vi1 rfl (by decide) (Nat.le_of_ble_eq_true rfl) rfl (Nat.le_of_ble_eq_true rfl) (c_107 _ T hT hTb hf i (by omega)) (fun r_14 h_14 q_14 => ?_)
        obtain ⟨rfl, rfl⟩ := q_14
        refine pr_b_ne rfl (fun c_17 => ?_) (fun c_17 => ?_)
        · skip
          refine pr_iload_n rfl rfl ?_
          refine pr_istore_n rfl (Nat.le_of_ble_eq_true rfl) rfl ?_
          refine pr_iinc rfl rfl (pw_inc i) rfl ?_
          refine pr_step rfl rfl rfl rfl ?_
          first
            | exact pr_L (show _ = [some (.inr (some 25)), some (.inl yr), some (.inl (la_i (la_run A T (zm 11) yr (i + 1)))), some (.inl (nI (i + 1)))] from by
                rw [show la_run A T (zm 11) yr (i + 1) = some b from by rw [la_run, hr]; dsimp only; rw [if_neg (fun hh => by first | exact absurd (by assumption) hh.1 | exact absurd hh.2 (by omega))]]; rfl) hih
            | exact pr_L (show _ = [some (.inr (some 25)), some (.inl yr), some (.inl (la_i (la_run A T (zm 11) yr (i + 1)))), some (.inl (nI (i + 1)))] from by
                rw [show la_run A T (zm 11) yr (i + 1) = some i from by rw [la_run, hr]; dsimp only; rw [if_pos (by first | exact ⟨by assumption, by omega⟩ | exact ⟨by assumption, by omega, by omega⟩)]]; rfl) hih
        · skip
          refine pr_aload_n rfl rfl ?_
          refine pr_getf rfl rfl rfl ?_
          refine pr_iload_n rfl rfl ?_
          refine pr_iald (i) rfl rfl (by decide) (by decide) rfl (by omega) ?_
          refine pr_iload_n rfl rfl ?_
          refine pr_c_ge rfl (fun c_27 => ?_) (fun c_27 => ?_)
          · skip
            refine pr_iload_n rfl rfl ?_
            refine pr_istore_n rfl (Nat.le_of_ble_eq_true rfl) rfl ?_
            refine pr_iinc rfl rfl (pw_inc i) rfl ?_
            refine pr_step rfl rfl rfl rfl ?_
            first
              | exact pr_L (show _ = [some (.inr (some 25)), some (.inl yr), some (.inl (la_i (la_run A T (zm 11) yr (i + 1)))), some (.inl (nI (i + 1)))] from by
                  rw [show la_run A T (zm 11) yr (i + 1) = some b from by rw [la_run, hr]; dsimp only; rw [if_neg (fun hh => by first | exact absurd (by assumption) hh.1 | exact absurd hh.2 (by omega))]]; rfl) hih
              | exact pr_L (show _ = [some (.inr (some 25)), some (.inl yr), some (.inl (la_i (la_run A T (zm 11) yr (i + 1)))), some (.inl (nI (i + 1)))] from by
                  rw [show la_run A T (zm 11) yr (i + 1) = some i from by rw [la_run, hr]; dsimp only; rw [if_pos (by first | exact ⟨by assumption, by omega⟩ | exact ⟨by assumption, by omega, by omega⟩)]]; rfl) hih
          · skip
            refine pr_iload_n rfl rfl ?_
            refine pr_push (v := (-1)) rfl rfl ?_
            refine pr_u_eq rfl (fun c_32 => ?_) (fun c_32 => ?_)
            · skip
              exact absurd c_32 (by omega)
            · skip
              refine pr_aload_n rfl rfl ?_
              refine pr_getf rfl rfl rfl ?_
              refine pr_iload_n rfl rfl ?_
              refine pr_iald (i) rfl rfl (by decide) (by decide) rfl (by omega) ?_
              refine pr_aload_n rfl rfl ?_
              refine pr_getf rfl rfl rfl ?_
              refine pr_iload_n rfl rfl ?_
              refine pr_iald (b) rfl rfl (by decide) (by decide) rfl (by omega) ?_
              refine pr_c_ge rfl (fun c_47 => ?_) (fun c_47 => ?_)
              · skip
                refine pr_iload_n rfl rfl ?_
                refine pr_istore_n rfl (Nat.le_of_ble_eq_true rfl) rfl ?_
                refine pr_iinc rfl rfl (pw_inc i) rfl ?_
                refine pr_step rfl rfl rfl rfl ?_
                first
                  | exact pr_L (show _ = [some (.inr (some 25)), some (.inl yr), some (.inl (la_i (la_run A T (zm 11) yr (i + 1)))), some (.inl (nI (i + 1)))] from by
                      rw [show la_run A T (zm 11) yr (i + 1) = some b from by rw [la_run, hr]; dsimp only; rw [if_neg (fun hh => by first | exact absurd (by assumption) hh.1 | exact absurd hh.2 (by omega))]]; rfl) hih
                  | exact pr_L (show _ = [some (.inr (some 25)), some (.inl yr), some (.inl (la_i (la_run A T (zm 11) yr (i + 1)))), some (.inl (nI (i + 1)))] from by
                      rw [show la_run A T (zm 11) yr (i + 1) = some i from by rw [la_run, hr]; dsimp only; rw [if_pos (by first | exact ⟨by assumption, by omega⟩ | exact ⟨by assumption, by omega, by omega⟩)]]; rfl) hih
              · skip
                refine pr_iload_n rfl rfl ?_
                refine pr_step rfl rfl rfl rfl ?_
                refine pr_istore_n rfl (Nat.le_of_ble_eq_true rfl) rfl ?_
                refine pr_iinc rfl rfl (pw_inc i) rfl ?_
                refine pr_step rfl rfl rfl rfl ?_
                first
                  | exact pr_L (show _ = [some (.inr (some 25)), some (.inl yr), some (.inl (la_i (la_run A T (zm 11) yr (i + 1)))), some (.inl (nI (i + 1)))] from by
                      rw [show la_run A T (zm 11) yr (i + 1) = some b from by rw [la_run, hr]; dsimp only; rw [if_neg (fun hh => by first | exact absurd (by assumption) hh.1 | exact absurd hh.2 (by omega))]]; rfl) hih
                  | exact pr_L (show _ = [some (.inr (some 25)), some (.inl yr), some (.inl (la_i (la_run A T (zm 11) yr (i + 1)))), some (.inl (nI (i + 1)))] from by
                      rw [show la_run A T (zm 11) yr (i + 1) = some i from by rw [la_run, hr]; dsimp only; rw [if_pos (by first | exact ⟨by assumption, by omega⟩ | exact ⟨by assumption, by omega, by omega⟩)]]; rfl) hih
theorem c_111 (d : Nat) {N : Nat} {xs : Nat → Int32} {zc zm : Nat → Int32} {e3 e11 e18 : Nat} {A : Nat → Nat → Int32} {g gh : Nat → Option Nat} {dy : pw_H} (S : Nat) (hS : zm 12 = nI S) (hSb : S ≤ 12) (T : Nat) (hT : zm 16 = nI T) (hTb : T ≤ 60) (hf : ∀ i, i < T → 0 ≤ (A 39 i).toInt) (yr : Int32) : pw_M (d + 2) 111 [.inr (some 25), .inl yr] (hp_h N xs zc e3 e11 e18 zm A g gh dy) (pw_qi (fun r h' => r = la_i (la_run A T (zm 11) yr S) ∧ h' = (hp_h N xs zc e3 e11 e18 zm A g gh dy))) := by
  refine pr_push (v := (-1)) rfl rfl ?_
  refine pr_istore_n rfl (Nat.le_of_ble_eq_true rfl) rfl ?_
  refine pr_push (v := 0) rfl rfl ?_
  refine pr_istore_n rfl (Nat.le_of_ble_eq_true rfl) rfl ?_
  exact c_111_loop d S hS hSb T hT hTb hf yr S 0 (by omega)
