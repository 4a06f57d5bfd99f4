theorem c_68b (d : Nat) (H : pw_H) (a : Nat) (ha : H.length = a) : pw_M (d + 1) 68 [.inr (some a)] (H ++ [.inr (.inr (4, pw_def 4))]) (pw_qv (fun h' => h' = H ++ md_c a)) := by
  subst ha
  exact c_68 d H
theorem sz_dy : ∀ (l : pw_H), (∀ c, c ∈ l → pw_sz c ≤ 12) → (l.map pw_sz).sum ≤ 12 * l.length
  | [], _ => Nat.le_refl 0
  | a :: l, h => by
    have h1 := sz_dy l (fun c hc => h c (List.mem_cons_of_mem a hc))
    have h2 := h a List.mem_cons_self
    show pw_sz a + (l.map pw_sz).sum ≤ 12 * (l.length + 1)
    omega
theorem bw_room {N : Nat} {xs : Nat → Int32} {h : pw_H} (hs : bw_st N xs h) : h.length ≤ 600001 ∧ pw_size h ≤ 7302250 + N := by
  obtain ⟨zc, e3, e11, e18, zm, A, g, gh, dy, P, Y, S, W, K, ns, vs, rfl, hi⟩ := hs
  have h1 := hi.hdl
  have h2 := sz_dy dy hi.hdz
  have h3 := hi.hPb
  have h4 := hi.hKb
  constructor
  · rw [hp_len]
    omega
  · have e0 : (hp_h N xs zc e3 e11 e18 zm A g gh []).map pw_sz = N :: [17, 4, 5, 12, 12, 12, 12, 12, 12, 12, 5, 60, 60, 60, 60, 20, 6, 5, 10, 10, 10, 10, 4, 12, 40, 4, 4, 4, 48, 48, 48, 12, 12, 12, 12, 12, 12, 60, 60, 60, 60, 20, 6, 6, 6, 6, 6, 6, 10, 10, 10, 12, 156, 144, 4, 12] := rfl
    have e9 : [17, 4, 5, 12, 12, 12, 12, 12, 12, 12, 5, 60, 60, 60, 60, 20, 6, 5, 10, 10, 10, 10, 4, 12, 40, 4, 4, 4, 48, 48, 48, 12, 12, 12, 12, 12, 12, 60, 60, 60, 60, 20, 6, 6, 6, 6, 6, 6, 10, 10, 10, 12, 156, 144, 4, 12].sum = 1364 := by decide
    have e1 : pw_size (hp_h N xs zc e3 e11 e18 zm A g gh []) = N + 1364 := by
      rw [pw_size, e0, List.sum_cons, e9]
    have e2 : pw_size (hp_h N xs zc e3 e11 e18 zm A g gh dy) = pw_size (hp_h N xs zc e3 e11 e18 zm A g gh []) + (dy.map pw_sz).sum := by
      rw [show hp_h N xs zc e3 e11 e18 zm A g gh dy = hp_h N xs zc e3 e11 e18 zm A g gh [] ++ dy from rfl, pw_size, List.map_append, List.sum_append]
      rfl
    rw [e2, e1]
    omega
theorem lw_all (N : Nat) (xs : Nat → Int32) (hN : N ≤ 4608) : ∃ (n : Nat) (h' : pw_H), pw_run n 8 0 0 (pw_ent 0 [.inr (some 0)]) [] [.inl (2, N, xs)] = some (some (.inl 1), h') ∧ h'.length ≤ 600001 ∧ pw_size h' ≤ 7302250 + N := by
  have key : pw_W (7 + 1) 0 0 (pw_ent 0 [.inr (some 0)]) [] [.inl (2, N, xs)] (pw_qi (fun r h' => r = 1 ∧ bw_st N xs h')) := by
    refine pr_new 1 rfl rfl rfl ?_
    refine pr_step rfl rfl rfl rfl ?_
    refine pr_xv0 rfl (by decide) (Nat.le_of_ble_eq_true rfl) rfl (Nat.le_of_ble_eq_true rfl) (c_23 5 [.inl (2, N, xs)]) (fun h_4 q_4 => ?_)
    subst q_4
    refine pr_astore_n rfl (Nat.le_of_ble_eq_true rfl) rfl ?_
    refine pr_new 25 rfl rfl rfl ?_
    refine pr_step rfl rfl rfl rfl ?_
    refine pr_xv0 rfl (by decide) (Nat.le_of_ble_eq_true rfl) rfl (Nat.le_of_ble_eq_true rfl) (c_68b 6 _ 25 (by rfl)) (fun h_12 q_12 => ?_)
    subst q_12
    refine pr_heap (hp_0_eq N xs) ?_
    refine pr_astore_n rfl (Nat.le_of_ble_eq_true rfl) rfl ?_
    refine pr_push (v := 0) rfl rfl ?_
    refine pr_istore_n rfl (Nat.le_of_ble_eq_true rfl) rfl ?_
    exact lw_loop hN N 0 _ (by omega) (by omega) (bw_0 N xs)
  obtain ⟨n, r, h1, h2, x, h3, h4, h5⟩ := key
  rw [h3, h4] at h2
  exact ⟨n, h1, h2, bw_room h5⟩
