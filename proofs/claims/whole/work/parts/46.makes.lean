theorem wg0 {H L : pw_H} {x : pw_C} (h : L[0]? = some x) : (H ++ L)[H.length]? = some x := by
  have e := wk_get H L 0
  rw [h] at e
  exact e
def ld_c (a n : Nat) : pw_H := [.inr (.inr (1, [.inr (some (a + 1)), .inr (some (a + 2)), .inr (some (a + 3)), .inr (some (a + 4)), .inl 0])), .inl (0, n, fun _ => 0), .inl (0, n, fun _ => 0), .inl (0, n, fun _ => 0), .inl (0, n, fun _ => 0)]
theorem mx_z {m : Nat} (hm : m = 0) (n : Nat) (hn : n ≤ 100) : (if m = 0 then (if nI n < 0 then 0 else nI n) else (if 0 < nI n then 0 else nI n)) = nI n := by
  have h1 := pw_T (n := n) (by omega)
  rw [if_pos hm, if_neg (fun h4 => by have h5 := Int32.lt_iff_toInt_lt.mp h4; rw [h1, pz_0] at h5; omega)]
theorem c_2 (d : Nat) (H : pw_H) (n : Nat) (hn : n ≤ 100) : pw_M (d + 1) 2 [.inr (some H.length), .inl (nI n)] (H ++ [.inr (.inr (1, pw_def 1))]) (pw_qv (fun h' => h' = H ++ ld_c H.length n)) := by
  refine pr_aload_n rfl rfl ?_
  refine pr_obj rfl rfl rfl (by decide) ?_
  refine pr_iload_n rfl rfl ?_
  refine pr_push (v := 0) rfl rfl ?_
  refine pr_math rfl rfl rfl (by decide) ?_
  refine pr_top (mx_z rfl n hn) ?_
  refine pr_istore_n rfl (Nat.le_of_ble_eq_true rfl) rfl ?_
  refine pr_aload_n rfl rfl ?_
  refine pr_iload_n rfl rfl ?_
  refine pr_newi n (H.length + 1) rfl rfl (by omega) (List.length_append ..) (List.append_assoc H _ _) ?_
  refine pr_putf rfl (wg0 rfl) (Nat.le_of_ble_eq_true rfl) rfl (wk_set H _ 0 _) ?_
  refine pr_aload_n rfl rfl ?_
  refine pr_iload_n rfl rfl ?_
  refine pr_newi n (H.length + 2) rfl rfl (by omega) (List.length_append ..) (List.append_assoc H _ _) ?_
  refine pr_putf rfl (wg0 rfl) (Nat.le_of_ble_eq_true rfl) rfl (wk_set H _ 0 _) ?_
  refine pr_aload_n rfl rfl ?_
  refine pr_iload_n rfl rfl ?_
  refine pr_newi n (H.length + 3) rfl rfl (by omega) (List.length_append ..) (List.append_assoc H _ _) ?_
  refine pr_putf rfl (wg0 rfl) (Nat.le_of_ble_eq_true rfl) rfl (wk_set H _ 0 _) ?_
  refine pr_aload_n rfl rfl ?_
  refine pr_iload_n rfl rfl ?_
  refine pr_newi n (H.length + 4) rfl rfl (by omega) (List.length_append ..) (List.append_assoc H _ _) ?_
  refine pr_putf rfl (wg0 rfl) (Nat.le_of_ble_eq_true rfl) rfl (wk_set H _ 0 _) ?_
  exact pr_retv rfl rfl (rfl)
theorem c_7 (d : Nat) (H : pw_H) (x y : Int32) : pw_M (d + 1) 7 [.inr (some H.length), .inl x, .inl y] (H ++ [.inr (.inr (2, pw_def 2))]) (pw_qv (fun h' => h' = wk_h H [] x y (fun _ => 0) (fun _ => 0) (fun _ => 0) (fun _ => 0) (fun _ => 0) 0 1 1)) := by
  refine pr_aload_n rfl rfl ?_
  refine pr_obj rfl rfl rfl (by decide) ?_
  refine pr_aload_n rfl rfl ?_
  refine pr_push (v := 12) rfl rfl ?_
  refine pr_newi 12 (H.length + 1) rfl rfl (by decide) (List.length_append ..) (List.append_assoc H _ _) ?_
  refine pr_putf rfl (wg0 rfl) (Nat.le_of_ble_eq_true rfl) rfl (wk_set H _ 0 _) ?_
  refine pr_aload_n rfl rfl ?_
  refine pr_push (v := 12) rfl rfl ?_
  refine pr_newi 12 (H.length + 2) rfl rfl (by decide) (List.length_append ..) (List.append_assoc H _ _) ?_
  refine pr_putf rfl (wg0 rfl) (Nat.le_of_ble_eq_true rfl) rfl (wk_set H _ 0 _) ?_
  refine pr_aload_n rfl rfl ?_
  refine pr_push (v := 12) rfl rfl ?_
  refine pr_newi 12 (H.length + 3) rfl rfl (by decide) (List.length_append ..) (List.append_assoc H _ _) ?_
  refine pr_putf rfl (wg0 rfl) (Nat.le_of_ble_eq_true rfl) rfl (wk_set H _ 0 _) ?_
  refine pr_aload_n rfl rfl ?_
  refine pr_push (v := 12) rfl rfl ?_
  refine pr_newi 12 (H.length + 4) rfl rfl (by decide) (List.length_append ..) (List.append_assoc H _ _) ?_
  refine pr_putf rfl (wg0 rfl) (Nat.le_of_ble_eq_true rfl) rfl (wk_set H _ 0 _) ?_
  refine pr_aload_n rfl rfl ?_
  refine pr_push (v := 12) rfl rfl ?_
  refine pr_newi 12 (H.length + 5) rfl rfl (by decide) (List.length_append ..) (List.append_assoc H _ _) ?_
  refine pr_putf rfl (wg0 rfl) (Nat.le_of_ble_eq_true rfl) rfl (wk_set H _ 0 _) ?_
  refine pr_aload_n rfl rfl ?_
  refine pr_push (v := 1) rfl rfl ?_
  refine pr_putf rfl (wg0 rfl) (Nat.le_of_ble_eq_true rfl) rfl (wk_set H _ 0 _) ?_
  refine pr_aload_n rfl rfl ?_
  refine pr_push (v := 1) rfl rfl ?_
  refine pr_putf rfl (wg0 rfl) (Nat.le_of_ble_eq_true rfl) rfl (wk_set H _ 0 _) ?_
  refine pr_aload_n rfl rfl ?_
  refine pr_iload_n rfl rfl ?_
  refine pr_putf rfl (wg0 rfl) (Nat.le_of_ble_eq_true rfl) rfl (wk_set H _ 0 _) ?_
  refine pr_aload_n rfl rfl ?_
  refine pr_iload_n rfl rfl ?_
  refine pr_putf rfl (wg0 rfl) (Nat.le_of_ble_eq_true rfl) rfl (wk_set H _ 0 _) ?_
  exact pr_retv rfl rfl (rfl)
theorem c_1 (d : Nat) (H : pw_H) (x y w h dr he : Int32) : pw_M (d + 1) 1 [.inr (some H.length), .inl x, .inl y, .inl w, .inl h, .inl dr, .inl he] (H ++ [.inr (.inr (0, pw_def 0))]) (pw_qv (fun h' => h' = H ++ [.inr (.inr (0, [.inl x, .inl y, .inl w, .inl h, .inl dr, .inl he]))])) := by
  refine pr_aload_n rfl rfl ?_
  refine pr_obj rfl rfl rfl (by decide) ?_
  refine pr_aload_n rfl rfl ?_
  refine pr_iload_n rfl rfl ?_
  refine pr_putf rfl (wg0 rfl) (Nat.le_of_ble_eq_true rfl) rfl (wk_set H _ 0 _) ?_
  refine pr_aload_n rfl rfl ?_
  refine pr_iload_n rfl rfl ?_
  refine pr_putf rfl (wg0 rfl) (Nat.le_of_ble_eq_true rfl) rfl (wk_set H _ 0 _) ?_
  refine pr_aload_n rfl rfl ?_
  refine pr_iload_n rfl rfl ?_
  refine pr_putf rfl (wg0 rfl) (Nat.le_of_ble_eq_true rfl) rfl (wk_set H _ 0 _) ?_
  refine pr_aload_n rfl rfl ?_
  refine pr_iload rfl rfl ?_
  refine pr_putf rfl (wg0 rfl) (Nat.le_of_ble_eq_true rfl) rfl (wk_set H _ 0 _) ?_
  refine pr_aload_n rfl rfl ?_
  refine pr_iload rfl rfl ?_
  refine pr_putf rfl (wg0 rfl) (Nat.le_of_ble_eq_true rfl) rfl (wk_set H _ 0 _) ?_
  refine pr_aload_n rfl rfl ?_
  refine pr_iload rfl rfl ?_
  refine pr_putf rfl (wg0 rfl) (Nat.le_of_ble_eq_true rfl) rfl (wk_set H _ 0 _) ?_
  exact pr_retv rfl rfl (rfl)
