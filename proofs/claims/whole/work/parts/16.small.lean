/-- between two bounds, as numbers -/
abbrev pw_bt (v lo hi : Int32) : Prop := lo.toInt ≤ v.toInt ∧ v.toInt ≤ hi.toInt
abbrev pw_is (h : pw_H) (x : Int32) : Int32 → pw_H → Prop := fun x' h' => x' = x ∧ h' = h
theorem pw_b1 {P : Prop} [Decidable P] (h : P) : pw_b P = 1 := if_pos h
theorem pw_b0 {P : Prop} [Decidable P] (h : ¬ P) : pw_b P = 0 := if_neg h
theorem pw_bb {P : Prop} [Decidable P] : pw_bit (pw_b P) = true := by
  by_cases h : P
  · rw [pw_b1 h]; rfl
  · rw [pw_b0 h]; rfl
theorem pz_0 : (0 : Int32).toInt = 0 := rfl
theorem pz_m1 : (-1 : Int32).toInt = -1 := rfl
theorem pz_m2 : (-2 : Int32).toInt = -2 := rfl
theorem pz_m3 : (-3 : Int32).toInt = -3 := rfl
theorem pz_m4 : (-4 : Int32).toInt = -4 := rfl
theorem pz_1 : (1 : Int32).toInt = 1 := rfl
theorem pz_2 : (2 : Int32).toInt = 2 := rfl
theorem pz_3 : (3 : Int32).toInt = 3 := rfl
theorem pz_4 : (4 : Int32).toInt = 4 := rfl
theorem pz_5 : (5 : Int32).toInt = 5 := rfl
theorem pz_6 : (6 : Int32).toInt = 6 := rfl
theorem pz_7 : (7 : Int32).toInt = 7 := rfl
theorem pz_10 : (10 : Int32).toInt = 10 := rfl
theorem pz_11 : (11 : Int32).toInt = 11 := rfl
theorem pz_12 : (12 : Int32).toInt = 12 := rfl
theorem pz_20 : (20 : Int32).toInt = 20 := rfl
theorem pz_30 : (30 : Int32).toInt = 30 := rfl
theorem pz_50 : (50 : Int32).toInt = 50 := rfl
theorem pz_60 : (60 : Int32).toInt = 60 := rfl
theorem pz_80 : (80 : Int32).toInt = 80 := rfl
theorem pz_100 : (100 : Int32).toInt = 100 := rfl
theorem pz_144 : (144 : Int32).toInt = 144 := rfl
theorem pz_300 : (300 : Int32).toInt = 300 := rfl
theorem c_48 (d : Nat) (h : pw_H) (v lo hi : Int32) : pw_M d 48 [.inl v, .inl lo, .inl hi] h (pw_qi (pw_is h (pw_b (pw_bt v lo hi)))) := by
  refine pr_iload_n rfl rfl ?_
  refine pr_iload_n rfl rfl ?_
  refine pr_c_gt rfl (fun c_2 => ?_) (fun c_2 => ?_)
  · skip
    refine pr_push (v := 0) rfl rfl ?_
    exact pr_retb rfl rfl rfl (⟨by first | rw [pw_b1 ⟨by omega, by omega⟩] | rw [pw_b0 (by omega)], rfl⟩)
  · skip
    refine pr_iload_n rfl rfl ?_
    refine pr_iload_n rfl rfl ?_
    refine pr_c_gt rfl (fun c_7 => ?_) (fun c_7 => ?_)
    · skip
      refine pr_push (v := 0) rfl rfl ?_
      exact pr_retb rfl rfl rfl (⟨by first | rw [pw_b1 ⟨by omega, by omega⟩] | rw [pw_b0 (by omega)], rfl⟩)
    · skip
      refine pr_push (v := 1) rfl rfl ?_
      refine pr_step rfl rfl rfl rfl ?_
      exact pr_retb rfl rfl rfl (⟨by first | rw [pw_b1 ⟨by omega, by omega⟩] | rw [pw_b0 (by omega)], rfl⟩)
theorem c_69 (d : Nat) (h : pw_H) (v lo hi : Int32) : pw_M d 69 [.inl v, .inl lo, .inl hi] h (pw_qi (pw_is h (pw_b (pw_bt v lo hi)))) := by
  refine pr_iload_n rfl rfl ?_
  refine pr_iload_n rfl rfl ?_
  refine pr_c_lt rfl (fun c_2 => ?_) (fun c_2 => ?_)
  · skip
    refine pr_push (v := 0) rfl rfl ?_
    exact pr_retb rfl rfl rfl (⟨by first | rw [pw_b1 ⟨by omega, by omega⟩] | rw [pw_b0 (by omega)], rfl⟩)
  · skip
    refine pr_iload_n rfl rfl ?_
    refine pr_iload_n rfl rfl ?_
    refine pr_c_gt rfl (fun c_7 => ?_) (fun c_7 => ?_)
    · skip
      refine pr_push (v := 0) rfl rfl ?_
      exact pr_retb rfl rfl rfl (⟨by first | rw [pw_b1 ⟨by omega, by omega⟩] | rw [pw_b0 (by omega)], rfl⟩)
    · skip
      refine pr_push (v := 1) rfl rfl ?_
      refine pr_step rfl rfl rfl rfl ?_
      exact pr_retb rfl rfl rfl (⟨by first | rw [pw_b1 ⟨by omega, by omega⟩] | rw [pw_b0 (by omega)], rfl⟩)
abbrev pw_pt (x y : Int32) : Prop := pw_bt x 0 12 ∧ pw_bt y 0 12
abbrev pw_fd (x y : Int32) : Prop := pw_bt x 0 11 ∧ pw_bt y 0 11
abbrev pw_yr (y : Int32) : Prop := pw_bt y 0 300
theorem c_49 (d : Nat) (h : pw_H) (x y : Int32) : pw_M (d + 1) 49 [.inl x, .inl y] h (pw_qi (pw_is h (pw_b (pw_pt x y)))) := by
  refine pr_iload_n rfl rfl ?_
  refine pr_push (v := 0) rfl rfl ?_
  refine pr_push (v := 12) rfl rfl ?_
  refine pr_si3 rfl (by decide) (Nat.le_of_ble_eq_true rfl) (Nat.le_of_ble_eq_true rfl) (c_48 _ _ _ _ _) (fun r_4 h_4 q_4 => ?_)
  obtain ⟨rfl, rfl⟩ := q_4
  refine pr_b_eq rfl (fun c_7 => ?_) (fun c_7 => ?_)
  · skip
    refine pr_push (v := 0) rfl rfl ?_
    exact pr_retb rfl rfl rfl (⟨by first | rw [pw_b1 ⟨‹_›, ‹_›⟩] | rw [pw_b0 (fun h => absurd h.1 ‹_›)] | rw [pw_b0 (fun h => absurd h.2 ‹_›)], rfl⟩)
  · skip
    refine pr_iload_n rfl rfl ?_
    refine pr_push (v := 0) rfl rfl ?_
    refine pr_push (v := 12) rfl rfl ?_
    refine pr_si3 rfl (by decide) (Nat.le_of_ble_eq_true rfl) (Nat.le_of_ble_eq_true rfl) (c_48 _ _ _ _ _) (fun r_14 h_14 q_14 => ?_)
    obtain ⟨rfl, rfl⟩ := q_14
    refine pr_b_eq rfl (fun c_17 => ?_) (fun c_17 => ?_)
    · skip
      refine pr_push (v := 0) rfl rfl ?_
      exact pr_retb rfl rfl rfl (⟨by first | rw [pw_b1 ⟨‹_›, ‹_›⟩] | rw [pw_b0 (fun h => absurd h.1 ‹_›)] | rw [pw_b0 (fun h => absurd h.2 ‹_›)], rfl⟩)
    · skip
      refine pr_push (v := 1) rfl rfl ?_
      refine pr_step rfl rfl rfl rfl ?_
      exact pr_retb rfl rfl rfl (⟨by first | rw [pw_b1 ⟨‹_›, ‹_›⟩] | rw [pw_b0 (fun h => absurd h.1 ‹_›)] | rw [pw_b0 (fun h => absurd h.2 ‹_›)], rfl⟩)
theorem c_50 (d : Nat) (h : pw_H) (x y : Int32) : pw_M (d + 1) 50 [.inl x, .inl y] h (pw_qi (pw_is h (pw_b (pw_fd x y)))) := by
  refine pr_iload_n rfl rfl ?_
  refine pr_push (v := 0) rfl rfl ?_
  refine pr_push (v := 11) rfl rfl ?_
  refine pr_si3 rfl (by decide) (Nat.le_of_ble_eq_true rfl) (Nat.le_of_ble_eq_true rfl) (c_48 _ _ _ _ _) (fun r_4 h_4 q_4 => ?_)
  obtain ⟨rfl, rfl⟩ := q_4
  refine pr_b_eq rfl (fun c_7 => ?_) (fun c_7 => ?_)
  · skip
    refine pr_push (v := 0) rfl rfl ?_
    exact pr_retb rfl rfl rfl (⟨by first | rw [pw_b1 ⟨‹_›, ‹_›⟩] | rw [pw_b0 (fun h => absurd h.1 ‹_›)] | rw [pw_b0 (fun h => absurd h.2 ‹_›)], rfl⟩)
  · skip
    refine pr_iload_n rfl rfl ?_
    refine pr_push (v := 0) rfl rfl ?_
    refine pr_push (v := 11) rfl rfl ?_
    refine pr_si3 rfl (by decide) (Nat.le_of_ble_eq_true rfl) (Nat.le_of_ble_eq_true rfl) (c_48 _ _ _ _ _) (fun r_14 h_14 q_14 => ?_)
    obtain ⟨rfl, rfl⟩ := q_14
    refine pr_b_eq rfl (fun c_17 => ?_) (fun c_17 => ?_)
    · skip
      refine pr_push (v := 0) rfl rfl ?_
      exact pr_retb rfl rfl rfl (⟨by first | rw [pw_b1 ⟨‹_›, ‹_›⟩] | rw [pw_b0 (fun h => absurd h.1 ‹_›)] | rw [pw_b0 (fun h => absurd h.2 ‹_›)], rfl⟩)
    · skip
      refine pr_push (v := 1) rfl rfl ?_
      refine pr_step rfl rfl rfl rfl ?_
      exact pr_retb rfl rfl rfl (⟨by first | rw [pw_b1 ⟨‹_›, ‹_›⟩] | rw [pw_b0 (fun h => absurd h.1 ‹_›)] | rw [pw_b0 (fun h => absurd h.2 ‹_›)], rfl⟩)
theorem c_51 (d : Nat) (h : pw_H) (y : Int32) : pw_M (d + 1) 51 [.inl y] h (pw_qi (pw_is h (pw_b (pw_yr y)))) := by
  refine pr_iload_n rfl rfl ?_
  refine pr_push (v := 0) rfl rfl ?_
  refine pr_push (v := 300) rfl rfl ?_
  refine pr_si3 rfl (by decide) (Nat.le_of_ble_eq_true rfl) (Nat.le_of_ble_eq_true rfl) (c_48 _ _ _ _ _) (fun r_5 h_5 q_5 => ?_)
  obtain ⟨rfl, rfl⟩ := q_5
  exact pr_retb rfl rfl pw_bb (⟨rfl, rfl⟩)
theorem c_70 (d : Nat) (h : pw_H) (x y : Int32) : pw_M (d + 1) 70 [.inl x, .inl y] h (pw_qi (pw_is h (pw_b (pw_pt x y)))) := by
  refine pr_iload_n rfl rfl ?_
  refine pr_push (v := 0) rfl rfl ?_
  refine pr_push (v := 12) rfl rfl ?_
  refine pr_si3 rfl (by decide) (Nat.le_of_ble_eq_true rfl) (Nat.le_of_ble_eq_true rfl) (c_69 _ _ _ _ _) (fun r_4 h_4 q_4 => ?_)
  obtain ⟨rfl, rfl⟩ := q_4
  refine pr_b_eq rfl (fun c_7 => ?_) (fun c_7 => ?_)
  · skip
    refine pr_push (v := 0) rfl rfl ?_
    exact pr_retb rfl rfl rfl (⟨by first | rw [pw_b1 ⟨‹_›, ‹_›⟩] | rw [pw_b0 (fun h => absurd h.1 ‹_›)] | rw [pw_b0 (fun h => absurd h.2 ‹_›)], rfl⟩)
  · skip
    refine pr_iload_n rfl rfl ?_
    refine pr_push (v := 0) rfl rfl ?_
    refine pr_push (v := 12) rfl rfl ?_
    refine pr_si3 rfl (by decide) (Nat.le_of_ble_eq_true rfl) (Nat.le_of_ble_eq_true rfl) (c_69 _ _ _ _ _) (fun r_14 h_14 q_14 => ?_)
    obtain ⟨rfl, rfl⟩ := q_14
    refine pr_b_eq rfl (fun c_17 => ?_) (fun c_17 => ?_)
    · skip
      refine pr_push (v := 0) rfl rfl ?_
      exact pr_retb rfl rfl rfl (⟨by first | rw [pw_b1 ⟨‹_›, ‹_›⟩] | rw [pw_b0 (fun h => absurd h.1 ‹_›)] | rw [pw_b0 (fun h => absurd h.2 ‹_›)], rfl⟩)
    · skip
      refine pr_push (v := 1) rfl rfl ?_
      refine pr_step rfl rfl rfl rfl ?_
      exact pr_retb rfl rfl rfl (⟨by first | rw [pw_b1 ⟨‹_›, ‹_›⟩] | rw [pw_b0 (fun h => absurd h.1 ‹_›)] | rw [pw_b0 (fun h => absurd h.2 ‹_›)], rfl⟩)
theorem c_71 (d : Nat) (h : pw_H) (x y : Int32) : pw_M (d + 1) 71 [.inl x, .inl y] h (pw_qi (pw_is h (pw_b (pw_fd x y)))) := by
  refine pr_iload_n rfl rfl ?_
  refine pr_push (v := 0) rfl rfl ?_
  refine pr_push (v := 11) rfl rfl ?_
  refine pr_si3 rfl (by decide) (Nat.le_of_ble_eq_true rfl) (Nat.le_of_ble_eq_true rfl) (c_69 _ _ _ _ _) (fun r_4 h_4 q_4 => ?_)
  obtain ⟨rfl, rfl⟩ := q_4
  refine pr_b_eq rfl (fun c_7 => ?_) (fun c_7 => ?_)
  · skip
    refine pr_push (v := 0) rfl rfl ?_
    exact pr_retb rfl rfl rfl (⟨by first | rw [pw_b1 ⟨‹_›, ‹_›⟩] | rw [pw_b0 (fun h => absurd h.1 ‹_›)] | rw [pw_b0 (fun h => absurd h.2 ‹_›)], rfl⟩)
  · skip
    refine pr_iload_n rfl rfl ?_
    refine pr_push (v := 0) rfl rfl ?_
    refine pr_push (v := 11) rfl rfl ?_
    refine pr_si3 rfl (by decide) (Nat.le_of_ble_eq_true rfl) (Nat.le_of_ble_eq_true rfl) (c_69 _ _ _ _ _) (fun r_14 h_14 q_14 => ?_)
    obtain ⟨rfl, rfl⟩ := q_14
    refine pr_b_eq rfl (fun c_17 => ?_) (fun c_17 => ?_)
    · skip
      refine pr_push (v := 0) rfl rfl ?_
      exact pr_retb rfl rfl rfl (⟨by first | rw [pw_b1 ⟨‹_›, ‹_›⟩] | rw [pw_b0 (fun h => absurd h.1 ‹_›)] | rw [pw_b0 (fun h => absurd h.2 ‹_›)], rfl⟩)
    · skip
      refine pr_push (v := 1) rfl rfl ?_
      refine pr_step rfl rfl rfl rfl ?_
      exact pr_retb rfl rfl rfl (⟨by first | rw [pw_b1 ⟨‹_›, ‹_›⟩] | rw [pw_b0 (fun h => absurd h.1 ‹_›)] | rw [pw_b0 (fun h => absurd h.2 ‹_›)], rfl⟩)
theorem c_72 (d : Nat) (h : pw_H) (y : Int32) : pw_M (d + 1) 72 [.inl y] h (pw_qi (pw_is h (pw_b (pw_yr y)))) := by
  refine pr_iload_n rfl rfl ?_
  refine pr_push (v := 0) rfl rfl ?_
  refine pr_push (v := 300) rfl rfl ?_
  refine pr_si3 rfl (by decide) (Nat.le_of_ble_eq_true rfl) (Nat.le_of_ble_eq_true rfl) (c_69 _ _ _ _ _) (fun r_5 h_5 q_5 => ?_)
  obtain ⟨rfl, rfl⟩ := q_5
  exact pr_retb rfl rfl pw_bb (⟨rfl, rfl⟩)
theorem c_52 (d : Nat) (h : pw_H) (a : Nat) (fs : List pw_V) (n x : Int32) (ha : h[a]? = some (.inr (.inr (3, fs)))) (hv : fs[1]? = some (.inl n)) : pw_M (d + 1) 52 [.inr (some a), .inl x] h (pw_qi (pw_is h (pw_b (pw_bt x 0 (n - 1))))) := by
  refine pr_iload_n rfl rfl ?_
  refine pr_push (v := 0) rfl rfl ?_
  refine pr_aload_n rfl rfl ?_
  refine pr_getf rfl ha hv ?_
  refine pr_push (v := 1) rfl rfl ?_
  refine pr_step rfl rfl rfl rfl ?_
  refine pr_si3 rfl (by decide) (Nat.le_of_ble_eq_true rfl) (Nat.le_of_ble_eq_true rfl) (c_48 _ _ _ _ _) (fun r_8 h_8 q_8 => ?_)
  obtain ⟨rfl, rfl⟩ := q_8
  exact pr_retb rfl rfl pw_bb (⟨rfl, rfl⟩)
theorem c_53 (d : Nat) (h : pw_H) (a : Nat) (fs : List pw_V) (n x : Int32) (ha : h[a]? = some (.inr (.inr (3, fs)))) (hv : fs[7]? = some (.inl n)) : pw_M (d + 1) 53 [.inr (some a), .inl x] h (pw_qi (pw_is h (pw_b (pw_bt x 0 (n - 1))))) := by
  refine pr_iload_n rfl rfl ?_
  refine pr_push (v := 0) rfl rfl ?_
  refine pr_aload_n rfl rfl ?_
  refine pr_getf rfl ha hv ?_
  refine pr_push (v := 1) rfl rfl ?_
  refine pr_step rfl rfl rfl rfl ?_
  refine pr_si3 rfl (by decide) (Nat.le_of_ble_eq_true rfl) (Nat.le_of_ble_eq_true rfl) (c_48 _ _ _ _ _) (fun r_8 h_8 q_8 => ?_)
  obtain ⟨rfl, rfl⟩ := q_8
  exact pr_retb rfl rfl pw_bb (⟨rfl, rfl⟩)
theorem c_73 (d : Nat) (h : pw_H) (a : Nat) (fs : List pw_V) (n x : Int32) (ha : h[a]? = some (.inr (.inr (4, fs)))) (hv : fs[0]? = some (.inl n)) : pw_M (d + 1) 73 [.inr (some a), .inl x] h (pw_qi (pw_is h (pw_b (pw_bt x 0 (n - 1))))) := by
  refine pr_iload_n rfl rfl ?_
  refine pr_push (v := 0) rfl rfl ?_
  refine pr_aload_n rfl rfl ?_
  refine pr_getf rfl ha hv ?_
  refine pr_push (v := 1) rfl rfl ?_
  refine pr_step rfl rfl rfl rfl ?_
  refine pr_si3 rfl (by decide) (Nat.le_of_ble_eq_true rfl) (Nat.le_of_ble_eq_true rfl) (c_69 _ _ _ _ _) (fun r_8 h_8 q_8 => ?_)
  obtain ⟨rfl, rfl⟩ := q_8
  exact pr_retb rfl rfl pw_bb (⟨rfl, rfl⟩)
theorem c_92 (d : Nat) (h : pw_H) (a : Nat) (fs : List pw_V) (n x : Int32) (ha : h[a]? = some (.inr (.inr (4, fs)))) (hv : fs[12]? = some (.inl n)) : pw_M (d + 1) 92 [.inr (some a), .inl x] h (pw_qi (pw_is h (pw_b (pw_bt x 0 (n - 1))))) := by
  refine pr_iload_n rfl rfl ?_
  refine pr_push (v := 0) rfl rfl ?_
  refine pr_aload_n rfl rfl ?_
  refine pr_getf rfl ha hv ?_
  refine pr_push (v := 1) rfl rfl ?_
  refine pr_step rfl rfl rfl rfl ?_
  refine pr_si3 rfl (by decide) (Nat.le_of_ble_eq_true rfl) (Nat.le_of_ble_eq_true rfl) (c_69 _ _ _ _ _) (fun r_8 h_8 q_8 => ?_)
  obtain ⟨rfl, rfl⟩ := q_8
  exact pr_retb rfl rfl pw_bb (⟨rfl, rfl⟩)
theorem c_54 (d : Nat) (h : pw_H) (x y : Int32) : pw_M d 54 [.inl x, .inl y] h (pw_qi (pw_is h (100 * x + y))) := by
  refine pr_push (v := 100) rfl rfl ?_
  refine pr_iload_n rfl rfl ?_
  refine pr_step rfl rfl rfl rfl ?_
  refine pr_iload_n rfl rfl ?_
  refine pr_step rfl rfl rfl rfl ?_
  exact pr_reti rfl rfl (⟨rfl, rfl⟩)
theorem c_55 (d : Nat) (h : pw_H) (x y : Int32) : pw_M d 55 [.inl x, .inl y] h (pw_qi (pw_is h (12 * y + x))) := by
  refine pr_push (v := 12) rfl rfl ?_
  refine pr_iload_n rfl rfl ?_
  refine pr_step rfl rfl rfl rfl ?_
  refine pr_iload_n rfl rfl ?_
  refine pr_step rfl rfl rfl rfl ?_
  exact pr_reti rfl rfl (⟨rfl, rfl⟩)
theorem c_3 (d : Nat) (h : pw_H) (a : Nat) (fs : List pw_V) (n : Int32) (ha : h[a]? = some (.inr (.inr (1, fs)))) (hv : fs[4]? = some (.inl n)) : pw_M d 3 [.inr (some a)] h (pw_qi (pw_is h n)) := by
  refine pr_aload_n rfl rfl ?_
  refine pr_getf rfl ha hv ?_
  exact pr_reti rfl rfl (⟨rfl, rfl⟩)
theorem c_8 (d : Nat) (h : pw_H) (a : Nat) (fs : List pw_V) (n : Int32) (ha : h[a]? = some (.inr (.inr (2, fs)))) (hv : fs[7]? = some (.inl n)) : pw_M d 8 [.inr (some a)] h (pw_qi (pw_is h n)) := by
  refine pr_aload_n rfl rfl ?_
  refine pr_getf rfl ha hv ?_
  exact pr_reti rfl rfl (⟨rfl, rfl⟩)
