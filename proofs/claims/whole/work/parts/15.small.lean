abbrev pw_i (x : Int32) : pw_V := .inl x
abbrev pw_r (k : Nat) : pw_V := .inr (some k)
/-- between two bounds, as numbers -/
abbrev pw_bt (v lo hi : Int32) : Prop := lo.toInt ≤ v.toInt ∧ v.toInt ≤ hi.toInt
abbrev pw_same (h : pw_H) (r : Option pw_V) : Option pw_V → pw_H → Prop := fun r' h' => r' = r ∧ h' = h
theorem pw_b1 {P : Prop} [Decidable P] (h : P) : pw_b P = 1 := if_pos h
theorem pw_b0 {P : Prop} [Decidable P] (h : ¬ P) : pw_b P = 0 := if_neg h
theorem pw_bb {P : Prop} [Decidable P] : pw_bit (pw_b P) = true := by
  by_cases h : P
  · rw [pw_b1 h]; rfl
  · rw [pw_b0 h]; rfl
theorem c_48 (d : Nat) (h : pw_H) (v lo hi : Int32) : pw_M d 48 [.inl v, .inl lo, .inl hi] h (pw_same h (some (.inl (pw_b (pw_bt v lo hi))))) := by
  refine pr_iload_n rfl rfl ?_
  refine pr_iload_n rfl rfl ?_
  refine pr_c_gt rfl (fun c_2 => ?_) (fun c_2 => ?_)
  · skip
    refine pr_push (v := 0) rfl rfl ?_
    exact pr_ret rfl rfl rfl (⟨by first | rw [pw_b1 ⟨by omega, by omega⟩] | rw [pw_b0 (by omega)], rfl⟩)
  · skip
    refine pr_iload_n rfl rfl ?_
    refine pr_iload_n rfl rfl ?_
    refine pr_c_gt rfl (fun c_7 => ?_) (fun c_7 => ?_)
    · skip
      refine pr_push (v := 0) rfl rfl ?_
      exact pr_ret rfl rfl rfl (⟨by first | rw [pw_b1 ⟨by omega, by omega⟩] | rw [pw_b0 (by omega)], rfl⟩)
    · skip
      refine pr_push (v := 1) rfl rfl ?_
      refine pr_step rfl rfl rfl rfl ?_
      exact pr_ret rfl rfl rfl (⟨by first | rw [pw_b1 ⟨by omega, by omega⟩] | rw [pw_b0 (by omega)], rfl⟩)
theorem c_69 (d : Nat) (h : pw_H) (v lo hi : Int32) : pw_M d 69 [.inl v, .inl lo, .inl hi] h (pw_same h (some (.inl (pw_b (pw_bt v lo hi))))) := by
  refine pr_iload_n rfl rfl ?_
  refine pr_iload_n rfl rfl ?_
  refine pr_c_lt rfl (fun c_2 => ?_) (fun c_2 => ?_)
  · skip
    refine pr_push (v := 0) rfl rfl ?_
    exact pr_ret rfl rfl rfl (⟨by first | rw [pw_b1 ⟨by omega, by omega⟩] | rw [pw_b0 (by omega)], rfl⟩)
  · skip
    refine pr_iload_n rfl rfl ?_
    refine pr_iload_n rfl rfl ?_
    refine pr_c_gt rfl (fun c_7 => ?_) (fun c_7 => ?_)
    · skip
      refine pr_push (v := 0) rfl rfl ?_
      exact pr_ret rfl rfl rfl (⟨by first | rw [pw_b1 ⟨by omega, by omega⟩] | rw [pw_b0 (by omega)], rfl⟩)
    · skip
      refine pr_push (v := 1) rfl rfl ?_
      refine pr_step rfl rfl rfl rfl ?_
      exact pr_ret rfl rfl rfl (⟨by first | rw [pw_b1 ⟨by omega, by omega⟩] | rw [pw_b0 (by omega)], rfl⟩)
