theorem c_17_loop (d : Nat) {H pst : pw_H} {x0 y0 : Int32} {D L U C R : Nat → Int32} {n : Nat} {hl hr : Int32} (hw : wl_ok (iT D) (iT L) (iT U) n) (hfe : (wl_feas (iT D) (iT L) (iT U) n 0 ∧ wl_feas (iT D) (iT L) (iT U) n 1)) (hC : ∀ k, k < n → (C k).toInt = wl_len (iT D) (iT L) (iT U) n k) (hx0 : 0 ≤ x0.toInt ∧ x0.toInt ≤ 12) (hy0 : 0 ≤ y0.toInt ∧ y0.toInt ≤ 12) : ∀ (c i : Nat) (x y : Int32), i + c = n → x.toInt = wl_px (iT D) (wl_len (iT D) (iT L) (iT U) n) x0.toInt i → y.toInt = wl_py (iT D) (wl_len (iT D) (iT L) (iT U) n) y0.toInt i → (0 ≤ x.toInt ∧ x.toInt ≤ 12) → (0 ≤ y.toInt ∧ y.toInt ≤ 12) → (∀ k, k < i → (0 ≤ wl_px (iT D) (wl_len (iT D) (iT L) (iT U) n) x0.toInt (k + 1) ∧ wl_px (iT D) (wl_len (iT D) (iT L) (iT U) n) x0.toInt (k + 1) ≤ 12) ∧ 0 ≤ wl_py (iT D) (wl_len (iT D) (iT L) (iT U) n) y0.toInt (k + 1) ∧ wl_py (iT D) (wl_len (iT D) (iT L) (iT U) n) y0.toInt (k + 1) ≤ 12) → pw_W (d + 2) 17 12 [some (.inr (some H.length)), some (.inl x), some (.inl y), some (.inl (nI i))] [] (wk_h H pst x0 y0 D L U C R n hl hr) (pw_qi (fun r h' => r = pw_b (wl_land (iT D) (wl_len (iT D) (iT L) (iT U) n) x0.toInt y0.toInt n) ∧ h' = (wk_h H pst x0 y0 D L U C R n hl hr))) := by
  have hn12 := hw.1
  have z0 := pz_0
  have z12 := pz_12
  have hnT := pw_T (n := n) (by omega)
  intro c
  induction c with
  | zero =>
    intro i x y hi hx hy hxb hyb hl
    obtain rfl : i = n := by omega
    refine pr_iload_n rfl rfl ?_
    refine pr_aload_n rfl rfl ?_
    refine pr_getf rfl wr_100 rfl ?_
    refine pr_c_ge rfl (fun c_17 => ?_) (fun c_17 => ?_)
    · skip
      refine pr_push (v := 1) rfl rfl ?_
      exact pr_retb rfl rfl rfl (⟨(pw_b1 hl).symm, rfl⟩)
    · skip
      exact absurd c_17 (by omega)
  | succ c ih =>
    intro i x y hi hx hy hxb hyb hl
    have hiT := pw_T (n := i) (by omega)
    have hin : i < n := by omega
    have hi2 := hw.2 i hin
    dsimp only [iT] at hi2
    have hci := hC i hin
    have hlb := wl_len_b hw hfe hin
    refine pr_iload_n rfl rfl ?_
    refine pr_aload_n rfl rfl ?_
    refine pr_getf rfl wr_100 rfl ?_
    refine pr_c_ge rfl (fun c_17 => ?_) (fun c_17 => ?_)
    · skip
      exact absurd c_17 (by omega)
    · skip
      refine pr_iload_n rfl rfl ?_
      refine pr_aload_n rfl rfl ?_
      refine pr_iload_n rfl rfl ?_
      refine pr_vi1 rfl (by decide) (Nat.le_of_ble_eq_true rfl) wr_100 (Nat.le_of_ble_eq_true rfl) (c_21 _ i (by omega) (by omega) (by omega)) (fun r_23 h_23 q_23 => ?_)
      obtain ⟨qx, rfl⟩ := q_23
      rw [hci] at qx
      have hbx : -12 ≤ r_23.toInt ∧ r_23.toInt ≤ 12 := by rw [qx]; split <;> (try split) <;> omega
      refine pr_step rfl rfl rfl rfl ?_
      refine pr_gen (fun w => w.toInt = wl_px (iT D) (wl_len (iT D) (iT L) (iT U) n) x0.toInt (i + 1) ∧ -12 ≤ w.toInt ∧ w.toInt ≤ 24) (by
        rw [pw_addT (by omega) (by omega)]
        refine ⟨?_, by omega, by omega⟩
        rw [hx, qx]
        rfl) (fun x2 hx2 => ?_)
      refine pr_istore_n rfl (Nat.le_of_ble_eq_true rfl) rfl ?_
      refine pr_iload_n rfl rfl ?_
      refine pr_aload_n rfl rfl ?_
      refine pr_iload_n rfl rfl ?_
      refine pr_vi1 rfl (by decide) (Nat.le_of_ble_eq_true rfl) wr_100 (Nat.le_of_ble_eq_true rfl) (c_22 _ i (by omega) (by omega) (by omega)) (fun r_31 h_31 q_31 => ?_)
      obtain ⟨qy, rfl⟩ := q_31
      rw [hci] at qy
      have hby : -12 ≤ r_31.toInt ∧ r_31.toInt ≤ 12 := by rw [qy]; split <;> (try split) <;> omega
      refine pr_step rfl rfl rfl rfl ?_
      refine pr_gen (fun w => w.toInt = wl_py (iT D) (wl_len (iT D) (iT L) (iT U) n) y0.toInt (i + 1) ∧ -12 ≤ w.toInt ∧ w.toInt ≤ 24) (by
        rw [pw_addT (by omega) (by omega)]
        refine ⟨?_, by omega, by omega⟩
        rw [hy, qy]
        rfl) (fun y2 hy2 => ?_)
      refine pr_istore_n rfl (Nat.le_of_ble_eq_true rfl) rfl ?_
      refine pr_iload_n rfl rfl ?_
      refine pr_iload_n rfl rfl ?_
      refine pr_si2 rfl (by decide) (Nat.le_of_ble_eq_true rfl) (Nat.le_of_ble_eq_true rfl) (c_49 _ _ _ _) (fun r_38 h_38 q_38 => ?_)
      obtain ⟨rfl, rfl⟩ := q_38
      refine pr_b_ne rfl (fun c_41 => ?_) (fun c_41 => ?_)
      · skip
        refine pr_iinc rfl rfl (pw_inc i) rfl ?_
        refine pr_step rfl rfl rfl rfl ?_
        exact ih (i + 1) x2 y2 (by omega) hx2.1 hy2.1 (by omega) (by omega) (fun k hk => by
          by_cases e : k = i
          · rw [e, ← hx2.1, ← hy2.1]
            omega
          · exact hl k (by omega))
      · skip
        refine pr_push (v := 0) rfl rfl ?_
        exact pr_retb rfl rfl rfl (⟨(pw_b0 (fun hh => c_41 (by have h9 := hh i hin; rw [← hx2.1, ← hy2.1] at h9; omega))).symm, rfl⟩)
theorem c_17 (d : Nat) {H pst : pw_H} {x0 y0 : Int32} {D L U C R : Nat → Int32} {n : Nat} {hl hr : Int32} (hw : wl_ok (iT D) (iT L) (iT U) n) (hfe : (wl_feas (iT D) (iT L) (iT U) n 0 ∧ wl_feas (iT D) (iT L) (iT U) n 1)) (hC : ∀ k, k < n → (C k).toInt = wl_len (iT D) (iT L) (iT U) n k) (hx0 : 0 ≤ x0.toInt ∧ x0.toInt ≤ 12) (hy0 : 0 ≤ y0.toInt ∧ y0.toInt ≤ 12) : pw_M (d + 2) 17 [.inr (some H.length)] (wk_h H pst x0 y0 D L U C R n hl hr) (pw_qi (fun r h' => r = pw_b (wl_land (iT D) (wl_len (iT D) (iT L) (iT U) n) x0.toInt y0.toInt n) ∧ h' = (wk_h H pst x0 y0 D L U C R n hl hr))) := by
  refine pr_aload_n rfl rfl ?_
  refine pr_getf rfl wr_100 rfl ?_
  refine pr_istore_n rfl (Nat.le_of_ble_eq_true rfl) rfl ?_
  refine pr_aload_n rfl rfl ?_
  refine pr_getf rfl wr_100 rfl ?_
  refine pr_istore_n rfl (Nat.le_of_ble_eq_true rfl) rfl ?_
  refine pr_push (v := 0) rfl rfl ?_
  refine pr_istore_n rfl (Nat.le_of_ble_eq_true rfl) rfl ?_
  exact c_17_loop d hw hfe hC hx0 hy0 n 0 x0 y0 (by omega) rfl rfl hx0 hy0 (fun k hk => absurd hk (Nat.not_lt_zero k))
