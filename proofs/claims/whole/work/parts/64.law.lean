theorem bw_0 (N : Nat) (xs : Nat → Int32) : bw_st N xs (hp_0 N xs) := bw_mk (show (bw_inv (fun k => if k = 14 then 7 else 0) 0 0 0 (fun k => if k = 34 then 7 else 0) (fun _ _ => 0) (fun _ => none) (fun _ => none) [] 0 0 0 0 0 (fun _ => 0) (fun _ _ => 0)) from ⟨
  rfl,
  (by decide),
  rfl,
  rfl,
  (by decide),
  rfl,
  rfl,
  (by decide),
  rfl,
  rfl,
  (by decide),
  rfl,
  (by decide),
  rfl,
  rfl,
  (by decide),
  rfl,
  rfl,
  (by decide),
  rfl,
  (by decide),
  rfl,
  rfl,
  rfl,
  rfl,
  rfl,
  rfl,
  rfl,
  rfl,
  rfl,
  rfl,
  rfl,
  rfl,
  rfl,
  rfl,
  rfl,
  (fun i h => absurd h (Nat.not_lt_zero i)),
  (fun i h => absurd h (Nat.not_lt_zero i)),
  (fun i h => absurd h (Nat.not_lt_zero i)),
  (fun i h => absurd h (Nat.not_lt_zero i)),
  (fun i h => absurd h (Nat.not_lt_zero i)),
  (fun i h => absurd h (Nat.not_lt_zero i)),
  (fun i h => absurd h (Nat.not_lt_zero i)),
  (fun i h => absurd h (Nat.not_lt_zero i)),
  (fun i h => absurd h (Nat.not_lt_zero i)),
  (fun i h => absurd h (Nat.not_lt_zero i)),
  (fun i h => absurd h (Nat.not_lt_zero i)),
  (fun _ _ _ => rfl),
  (fun i _ h _ _ => absurd h (Nat.not_lt_zero i)),
  (fun _ _ _ => rfl),
  (fun j h => absurd h (Nat.not_lt_zero j)),
  (fun i h => absurd h (Nat.not_lt_zero i)),
  (fun _ _ _ => rfl),
  (by decide),
  (fun c h => absurd h (List.not_mem_nil))⟩)
theorem bw_see {N : Nat} {xs : Nat → Int32} {h : pw_H} (hs : bw_st N xs h) : h[0]? = some (.inl (2, N, xs)) ∧ ∃ fs, h[1]? = some (.inr (.inr (3, fs))) := by
  obtain ⟨zc, e3, e11, e18, zm, A, g, gh, dy, P, Y, S, W, K, ns, vs, rfl, hi⟩ := hs
  exact ⟨rfl, _, rfl⟩
set_option maxRecDepth 20000 in
set_option maxHeartbeats 4000000 in
theorem lw_loop {N : Nat} {xs : Nat → Int32} (hN : N ≤ 4608) : ∀ (c k : Nat) (h : pw_H), N ≤ 9 * k + c → 9 * k ≤ N → bw_st N xs h → pw_W (7 + 1) 0 18 [some (.inr (some 0)), some (.inr (some 1)), some (.inr (some 25)), some (.inl (nI (9 * k)))] [] h (pw_qi (fun r h' => r = 1 ∧ bw_st N xs h')) := by
  have hNT := pw_T (n := N) (by omega)
  have z9 : (9 : Int32).toInt = 9 := rfl
  have hN9 : (nI N - 9).toInt = (N : Int) - 9 := by rw [pw_subT (by omega) (by omega), hNT, z9]
  intro c
  induction c with
  | zero =>
    intro k h hc hk hs
    have hkT := pw_T (n := 9 * k) (by omega)
    obtain ⟨h0, fs, hfs⟩ := bw_see hs
    refine pr_iload_n rfl rfl ?_
    refine pr_aload_n rfl rfl ?_
    refine pr_alen rfl h0 ?_
    refine pr_push (v := 9) rfl rfl ?_
    refine pr_step rfl rfl rfl rfl ?_
    refine pr_c_gt rfl (fun c_24 => ?_) (fun c_24 => ?_)
    · skip
      refine pr_push (v := 1) rfl rfl ?_
      exact pr_retb rfl rfl rfl (⟨rfl, hs⟩)
    · skip
      exact absurd c_24 (by omega)
  | succ c ih =>
    intro k h hc hk hs
    have hkT := pw_T (n := 9 * k) (by omega)
    obtain ⟨h0, fs, hfs⟩ := bw_see hs
    refine pr_iload_n rfl rfl ?_
    refine pr_aload_n rfl rfl ?_
    refine pr_alen rfl h0 ?_
    refine pr_push (v := 9) rfl rfl ?_
    refine pr_step rfl rfl rfl rfl ?_
    refine pr_c_gt rfl (fun c_24 => ?_) (fun c_24 => ?_)
    · skip
      refine pr_push (v := 1) rfl rfl ?_
      exact pr_retb rfl rfl rfl (⟨rfl, hs⟩)
    · skip
      refine pr_aload_n rfl rfl ?_
      refine pr_iload_n rfl rfl ?_
      refine pr_iald (9 * k) rfl h0 (by decide) (by omega) rfl (by omega) ?_
      refine pr_push (v := 31) rfl rfl ?_
      refine pr_step rfl rfl rfl rfl ?_
      refine pr_switch rfl (fun hx => ?_) (fun j u hj hu hx => ?_) (by decide)
      · skip
        refine pr_iinc rfl rfl (show nI (9 * k) + Int32.ofInt 9 = nI (9 * (k + 1)) from nI_add (9 * k) 9) rfl ?_
        refine pr_step rfl rfl rfl rfl ?_
        exact ih (k + 1) _ (by omega) (by omega) hs
      · match j, hj, hu with
        | 0, hj, hu =>
          obtain rfl := Option.some.inj hu
          refine pr_aload_n rfl rfl ?_
          refine pr_aload_n rfl rfl ?_
          refine pr_iload_n rfl rfl ?_
          refine pr_push (v := 1) rfl rfl ?_
          refine pr_step rfl rfl rfl rfl ?_
          refine pr_top ((show nI (9 * k) + 1 = nI (9 * k + 1) from nI_add (9 * k) 1)) ?_
          refine pr_iald (9 * k + 1) rfl h0 (by decide) (by omega) rfl (by omega) ?_
          refine pr_aload_n rfl rfl ?_
          refine pr_iload_n rfl rfl ?_
          refine pr_push (v := 2) rfl rfl ?_
          refine pr_step rfl rfl rfl rfl ?_
          refine pr_top ((show nI (9 * k) + 2 = nI (9 * k + 2) from nI_add (9 * k) 2)) ?_
          refine pr_iald (9 * k + 2) rfl h0 (by decide) (by omega) rfl (by omega) ?_
          refine pr_vi2 rfl (by decide) (Nat.le_of_ble_eq_true rfl) hfs (Nat.le_of_ble_eq_true rfl) (op_parish hs _ _) (fun r_155 h_155 q_155 => ?_)
          obtain ⟨k0, ⟨fs2, k25⟩, hm⟩ := q_155
          refine pr_aload_n rfl rfl ?_
          refine pr_aload_n rfl rfl ?_
          refine pr_iload_n rfl rfl ?_
          refine pr_push (v := 1) rfl rfl ?_
          refine pr_step rfl rfl rfl rfl ?_
          refine pr_top ((show nI (9 * k) + 1 = nI (9 * k + 1) from nI_add (9 * k) 1)) ?_
          refine pr_iald (9 * k + 1) rfl k0 (by decide) (by omega) rfl (by omega) ?_
          refine pr_aload_n rfl rfl ?_
          refine pr_iload_n rfl rfl ?_
          refine pr_push (v := 2) rfl rfl ?_
          refine pr_step rfl rfl rfl rfl ?_
          refine pr_top ((show nI (9 * k) + 2 = nI (9 * k + 2) from nI_add (9 * k) 2)) ?_
          refine pr_iald (9 * k + 2) rfl k0 (by decide) (by omega) rfl (by omega) ?_
          refine pr_vi2 rfl (by decide) (Nat.le_of_ble_eq_true rfl) k25 (Nat.le_of_ble_eq_true rfl) hm (fun r_169 h_169 q_169 => ?_)
          obtain ⟨rfl, hs2⟩ := q_169
          refine pr_u_eq rfl (fun c_172 => ?_) (fun c_172 => ?_)
          · skip
            refine pr_iinc rfl rfl (show nI (9 * k) + Int32.ofInt 9 = nI (9 * (k + 1)) from nI_add (9 * k) 9) rfl ?_
            refine pr_step rfl rfl rfl rfl ?_
            exact ih (k + 1) _ (by omega) (by omega) hs2
          · skip
            exact absurd rfl c_172
        | 1, hj, hu =>
          obtain rfl := Option.some.inj hu
          refine pr_aload_n rfl rfl ?_
          refine pr_aload_n rfl rfl ?_
          refine pr_iload_n rfl rfl ?_
          refine pr_push (v := 1) rfl rfl ?_
          refine pr_step rfl rfl rfl rfl ?_
          refine pr_top ((show nI (9 * k) + 1 = nI (9 * k + 1) from nI_add (9 * k) 1)) ?_
          refine pr_iald (9 * k + 1) rfl h0 (by decide) (by omega) rfl (by omega) ?_
          refine pr_aload_n rfl rfl ?_
          refine pr_iload_n rfl rfl ?_
          refine pr_push (v := 2) rfl rfl ?_
          refine pr_step rfl rfl rfl rfl ?_
          refine pr_top ((show nI (9 * k) + 2 = nI (9 * k + 2) from nI_add (9 * k) 2)) ?_
          refine pr_iald (9 * k + 2) rfl h0 (by decide) (by omega) rfl (by omega) ?_
          refine pr_aload_n rfl rfl ?_
          refine pr_iload_n rfl rfl ?_
          refine pr_push (v := 3) rfl rfl ?_
          refine pr_step rfl rfl rfl rfl ?_
          refine pr_top ((show nI (9 * k) + 3 = nI (9 * k + 3) from nI_add (9 * k) 3)) ?_
          refine pr_iald (9 * k + 3) rfl h0 (by decide) (by omega) rfl (by omega) ?_
          refine pr_aload_n rfl rfl ?_
          refine pr_iload_n rfl rfl ?_
          refine pr_push (v := 4) rfl rfl ?_
          refine pr_step rfl rfl rfl rfl ?_
          refine pr_top ((show nI (9 * k) + 4 = nI (9 * k + 4) from nI_add (9 * k) 4)) ?_
          refine pr_iald (9 * k + 4) rfl h0 (by decide) (by omega) rfl (by omega) ?_
          refine pr_vi4 rfl (by decide) (Nat.le_of_ble_eq_true rfl) hfs (Nat.le_of_ble_eq_true rfl) (op_leg hs _ _ _ _) (fun r_198 h_198 q_198 => ?_)
          obtain ⟨k0, ⟨fs2, k25⟩, hm⟩ := q_198
          refine pr_aload_n rfl rfl ?_
          refine pr_aload_n rfl rfl ?_
          refine pr_iload_n rfl rfl ?_
          refine pr_push (v := 1) rfl rfl ?_
          refine pr_step rfl rfl rfl rfl ?_
          refine pr_top ((show nI (9 * k) + 1 = nI (9 * k + 1) from nI_add (9 * k) 1)) ?_
          refine pr_iald (9 * k + 1) rfl k0 (by decide) (by omega) rfl (by omega) ?_
          refine pr_aload_n rfl rfl ?_
          refine pr_iload_n rfl rfl ?_
          refine pr_push (v := 2) rfl rfl ?_
          refine pr_step rfl rfl rfl rfl ?_
          refine pr_top ((show nI (9 * k) + 2 = nI (9 * k + 2) from nI_add (9 * k) 2)) ?_
          refine pr_iald (9 * k + 2) rfl k0 (by decide) (by omega) rfl (by omega) ?_
          refine pr_aload_n rfl rfl ?_
          refine pr_iload_n rfl rfl ?_
          refine pr_push (v := 3) rfl rfl ?_
          refine pr_step rfl rfl rfl rfl ?_
          refine pr_top ((show nI (9 * k) + 3 = nI (9 * k + 3) from nI_add (9 * k) 3)) ?_
          refine pr_iald (9 * k + 3) rfl k0 (by decide) (by omega) rfl (by omega) ?_
          refine pr_aload_n rfl rfl ?_
          refine pr_iload_n rfl rfl ?_
          refine pr_push (v := 4) rfl rfl ?_
          refine pr_step rfl rfl rfl rfl ?_
          refine pr_top ((show nI (9 * k) + 4 = nI (9 * k + 4) from nI_add (9 * k) 4)) ?_
          refine pr_iald (9 * k + 4) rfl k0 (by decide) (by omega) rfl (by omega) ?_
          refine pr_vi4 rfl (by decide) (Nat.le_of_ble_eq_true rfl) k25 (Nat.le_of_ble_eq_true rfl) hm (fun r_222 h_222 q_222 => ?_)
          obtain ⟨rfl, hs2⟩ := q_222
          refine pr_u_eq rfl (fun c_225 => ?_) (fun c_225 => ?_)
          · skip
            refine pr_iinc rfl rfl (show nI (9 * k) + Int32.ofInt 9 = nI (9 * (k + 1)) from nI_add (9 * k) 9) rfl ?_
            refine pr_step rfl rfl rfl rfl ?_
            exact ih (k + 1) _ (by omega) (by omega) hs2
          · skip
            exact absurd rfl c_225
        | 2, hj, hu =>
          obtain rfl := Option.some.inj hu
          refine pr_aload_n rfl rfl ?_
          refine pr_aload_n rfl rfl ?_
          refine pr_iload_n rfl rfl ?_
          refine pr_push (v := 1) rfl rfl ?_
          refine pr_step rfl rfl rfl rfl ?_
          refine pr_top ((show nI (9 * k) + 1 = nI (9 * k + 1) from nI_add (9 * k) 1)) ?_
          refine pr_iald (9 * k + 1) rfl h0 (by decide) (by omega) rfl (by omega) ?_
          refine pr_vi1 rfl (by decide) (Nat.le_of_ble_eq_true rfl) hfs (Nat.le_of_ble_eq_true rfl) (op_unleg hs _) (fun r_236 h_236 q_236 => ?_)
          obtain ⟨k0, ⟨fs2, k25⟩, hm⟩ := q_236
          refine pr_aload_n rfl rfl ?_
          refine pr_aload_n rfl rfl ?_
          refine pr_iload_n rfl rfl ?_
          refine pr_push (v := 1) rfl rfl ?_
          refine pr_step rfl rfl rfl rfl ?_
          refine pr_top ((show nI (9 * k) + 1 = nI (9 * k + 1) from nI_add (9 * k) 1)) ?_
          refine pr_iald (9 * k + 1) rfl k0 (by decide) (by omega) rfl (by omega) ?_
          refine pr_vi1 rfl (by decide) (Nat.le_of_ble_eq_true rfl) k25 (Nat.le_of_ble_eq_true rfl) hm (fun r_245 h_245 q_245 => ?_)
          obtain ⟨rfl, hs2⟩ := q_245
          refine pr_u_eq rfl (fun c_248 => ?_) (fun c_248 => ?_)
          · skip
            refine pr_iinc rfl rfl (show nI (9 * k) + Int32.ofInt 9 = nI (9 * (k + 1)) from nI_add (9 * k) 9) rfl ?_
            refine pr_step rfl rfl rfl rfl ?_
            exact ih (k + 1) _ (by omega) (by omega) hs2
          · skip
            exact absurd rfl c_248
        | 3, hj, hu =>
          obtain rfl := Option.some.inj hu
          refine pr_aload_n rfl rfl ?_
          refine pr_aload_n rfl rfl ?_
          refine pr_iload_n rfl rfl ?_
          refine pr_push (v := 1) rfl rfl ?_
          refine pr_step rfl rfl rfl rfl ?_
          refine pr_top ((show nI (9 * k) + 1 = nI (9 * k + 1) from nI_add (9 * k) 1)) ?_
          refine pr_iald (9 * k + 1) rfl h0 (by decide) (by omega) rfl (by omega) ?_
          refine pr_aload_n rfl rfl ?_
          refine pr_iload_n rfl rfl ?_
          refine pr_push (v := 2) rfl rfl ?_
          refine pr_step rfl rfl rfl rfl ?_
          refine pr_top ((show nI (9 * k) + 2 = nI (9 * k + 2) from nI_add (9 * k) 2)) ?_
          refine pr_iald (9 * k + 2) rfl h0 (by decide) (by omega) rfl (by omega) ?_
          refine pr_vi2 rfl (by decide) (Nat.le_of_ble_eq_true rfl) hfs (Nat.le_of_ble_eq_true rfl) (op_length hs _ _) (fun r_264 h_264 q_264 => ?_)
          obtain ⟨k0, ⟨fs2, k25⟩, hm⟩ := q_264
          refine pr_aload_n rfl rfl ?_
          refine pr_aload_n rfl rfl ?_
          refine pr_iload_n rfl rfl ?_
          refine pr_push (v := 1) rfl rfl ?_
          refine pr_step rfl rfl rfl rfl ?_
          refine pr_top ((show nI (9 * k) + 1 = nI (9 * k + 1) from nI_add (9 * k) 1)) ?_
          refine pr_iald (9 * k + 1) rfl k0 (by decide) (by omega) rfl (by omega) ?_
          refine pr_aload_n rfl rfl ?_
          refine pr_iload_n rfl rfl ?_
          refine pr_push (v := 2) rfl rfl ?_
          refine pr_step rfl rfl rfl rfl ?_
          refine pr_top ((show nI (9 * k) + 2 = nI (9 * k + 2) from nI_add (9 * k) 2)) ?_
          refine pr_iald (9 * k + 2) rfl k0 (by decide) (by omega) rfl (by omega) ?_
          refine pr_vi2 rfl (by decide) (Nat.le_of_ble_eq_true rfl) k25 (Nat.le_of_ble_eq_true rfl) hm (fun r_278 h_278 q_278 => ?_)
          obtain ⟨rfl, hs2⟩ := q_278
          refine pr_u_eq rfl (fun c_281 => ?_) (fun c_281 => ?_)
          · skip
            refine pr_iinc rfl rfl (show nI (9 * k) + Int32.ofInt 9 = nI (9 * (k + 1)) from nI_add (9 * k) 9) rfl ?_
            refine pr_step rfl rfl rfl rfl ?_
            exact ih (k + 1) _ (by omega) (by omega) hs2
          · skip
            exact absurd rfl c_281
        | 4, hj, hu =>
          obtain rfl := Option.some.inj hu
          refine pr_aload_n rfl rfl ?_
          refine pr_aload_n rfl rfl ?_
          refine pr_iload_n rfl rfl ?_
          refine pr_push (v := 1) rfl rfl ?_
          refine pr_step rfl rfl rfl rfl ?_
          refine pr_top ((show nI (9 * k) + 1 = nI (9 * k + 1) from nI_add (9 * k) 1)) ?_
          refine pr_iald (9 * k + 1) rfl h0 (by decide) (by omega) rfl (by omega) ?_
          refine pr_vi1 rfl (by decide) (Nat.le_of_ble_eq_true rfl) hfs (Nat.le_of_ble_eq_true rfl) (op_area hs _) (fun r_292 h_292 q_292 => ?_)
          obtain ⟨k0, ⟨fs2, k25⟩, hm⟩ := q_292
          refine pr_aload_n rfl rfl ?_
          refine pr_aload_n rfl rfl ?_
          refine pr_iload_n rfl rfl ?_
          refine pr_push (v := 1) rfl rfl ?_
          refine pr_step rfl rfl rfl rfl ?_
          refine pr_top ((show nI (9 * k) + 1 = nI (9 * k + 1) from nI_add (9 * k) 1)) ?_
          refine pr_iald (9 * k + 1) rfl k0 (by decide) (by omega) rfl (by omega) ?_
          refine pr_vi1 rfl (by decide) (Nat.le_of_ble_eq_true rfl) k25 (Nat.le_of_ble_eq_true rfl) hm (fun r_301 h_301 q_301 => ?_)
          obtain ⟨rfl, hs2⟩ := q_301
          refine pr_u_eq rfl (fun c_304 => ?_) (fun c_304 => ?_)
          · skip
            refine pr_iinc rfl rfl (show nI (9 * k) + Int32.ofInt 9 = nI (9 * (k + 1)) from nI_add (9 * k) 9) rfl ?_
            refine pr_step rfl rfl rfl rfl ?_
            exact ih (k + 1) _ (by omega) (by omega) hs2
          · skip
            exact absurd rfl c_304
        | 5, hj, hu =>
          obtain rfl := Option.some.inj hu
          refine pr_aload_n rfl rfl ?_
          refine pr_aload_n rfl rfl ?_
          refine pr_iload_n rfl rfl ?_
          refine pr_push (v := 1) rfl rfl ?_
          refine pr_step rfl rfl rfl rfl ?_
          refine pr_top ((show nI (9 * k) + 1 = nI (9 * k + 1) from nI_add (9 * k) 1)) ?_
          refine pr_iald (9 * k + 1) rfl h0 (by decide) (by omega) rfl (by omega) ?_
          refine pr_aload_n rfl rfl ?_
          refine pr_iload_n rfl rfl ?_
          refine pr_push (v := 2) rfl rfl ?_
          refine pr_step rfl rfl rfl rfl ?_
          refine pr_top ((show nI (9 * k) + 2 = nI (9 * k + 2) from nI_add (9 * k) 2)) ?_
          refine pr_iald (9 * k + 2) rfl h0 (by decide) (by omega) rfl (by omega) ?_
          refine pr_vi2 rfl (by decide) (Nat.le_of_ble_eq_true rfl) hfs (Nat.le_of_ble_eq_true rfl) (op_claims hs _ _) (fun r_320 h_320 q_320 => ?_)
          obtain ⟨k0, ⟨fs2, k25⟩, hm⟩ := q_320
          refine pr_aload_n rfl rfl ?_
          refine pr_aload_n rfl rfl ?_
          refine pr_iload_n rfl rfl ?_
          refine pr_push (v := 1) rfl rfl ?_
          refine pr_step rfl rfl rfl rfl ?_
          refine pr_top ((show nI (9 * k) + 1 = nI (9 * k + 1) from nI_add (9 * k) 1)) ?_
          refine pr_iald (9 * k + 1) rfl k0 (by decide) (by omega) rfl (by omega) ?_
          refine pr_aload_n rfl rfl ?_
          refine pr_iload_n rfl rfl ?_
          refine pr_push (v := 2) rfl rfl ?_
          refine pr_step rfl rfl rfl rfl ?_
          refine pr_top ((show nI (9 * k) + 2 = nI (9 * k + 2) from nI_add (9 * k) 2)) ?_
          refine pr_iald (9 * k + 2) rfl k0 (by decide) (by omega) rfl (by omega) ?_
          refine pr_vi2 rfl (by decide) (Nat.le_of_ble_eq_true rfl) k25 (Nat.le_of_ble_eq_true rfl) hm (fun r_334 h_334 q_334 => ?_)
          obtain ⟨rfl, hs2⟩ := q_334
          refine pr_u_eq rfl (fun c_337 => ?_) (fun c_337 => ?_)
          · skip
            refine pr_iinc rfl rfl (show nI (9 * k) + Int32.ofInt 9 = nI (9 * (k + 1)) from nI_add (9 * k) 9) rfl ?_
            refine pr_step rfl rfl rfl rfl ?_
            exact ih (k + 1) _ (by omega) (by omega) hs2
          · skip
            exact absurd rfl c_337
        | 6, hj, hu =>
          obtain rfl := Option.some.inj hu
          refine pr_aload_n rfl rfl ?_
          refine pr_aload_n rfl rfl ?_
          refine pr_iload_n rfl rfl ?_
          refine pr_push (v := 1) rfl rfl ?_
          refine pr_step rfl rfl rfl rfl ?_
          refine pr_top ((show nI (9 * k) + 1 = nI (9 * k + 1) from nI_add (9 * k) 1)) ?_
          refine pr_iald (9 * k + 1) rfl h0 (by decide) (by omega) rfl (by omega) ?_
          refine pr_aload_n rfl rfl ?_
          refine pr_iload_n rfl rfl ?_
          refine pr_push (v := 2) rfl rfl ?_
          refine pr_step rfl rfl rfl rfl ?_
          refine pr_top ((show nI (9 * k) + 2 = nI (9 * k + 2) from nI_add (9 * k) 2)) ?_
          refine pr_iald (9 * k + 2) rfl h0 (by decide) (by omega) rfl (by omega) ?_
          refine pr_aload_n rfl rfl ?_
          refine pr_iload_n rfl rfl ?_
          refine pr_push (v := 3) rfl rfl ?_
          refine pr_step rfl rfl rfl rfl ?_
          refine pr_top ((show nI (9 * k) + 3 = nI (9 * k + 3) from nI_add (9 * k) 3)) ?_
          refine pr_iald (9 * k + 3) rfl h0 (by decide) (by omega) rfl (by omega) ?_
          refine pr_aload_n rfl rfl ?_
          refine pr_iload_n rfl rfl ?_
          refine pr_push (v := 4) rfl rfl ?_
          refine pr_step rfl rfl rfl rfl ?_
          refine pr_top ((show nI (9 * k) + 4 = nI (9 * k + 4) from nI_add (9 * k) 4)) ?_
          refine pr_iald (9 * k + 4) rfl h0 (by decide) (by omega) rfl (by omega) ?_
          refine pr_aload_n rfl rfl ?_
          refine pr_iload_n rfl rfl ?_
          refine pr_push (v := 5) rfl rfl ?_
          refine pr_step rfl rfl rfl rfl ?_
          refine pr_top ((show nI (9 * k) + 5 = nI (9 * k + 5) from nI_add (9 * k) 5)) ?_
          refine pr_iald (9 * k + 5) rfl h0 (by decide) (by omega) rfl (by omega) ?_
          refine pr_aload_n rfl rfl ?_
          refine pr_iload_n rfl rfl ?_
          refine pr_push (v := 6) rfl rfl ?_
          refine pr_step rfl rfl rfl rfl ?_
          refine pr_top ((show nI (9 * k) + 6 = nI (9 * k + 6) from nI_add (9 * k) 6)) ?_
          refine pr_iald (9 * k + 6) rfl h0 (by decide) (by omega) rfl (by omega) ?_
          refine pr_vi6 rfl (by decide) (Nat.le_of_ble_eq_true rfl) hfs (Nat.le_of_ble_eq_true rfl) (op_agree hs _ _ _ _ _ _) (fun r_374 h_374 q_374 => ?_)
          obtain ⟨k0, ⟨fs2, k25⟩, hm⟩ := q_374
          refine pr_aload_n rfl rfl ?_
          refine pr_aload_n rfl rfl ?_
          refine pr_iload_n rfl rfl ?_
          refine pr_push (v := 1) rfl rfl ?_
          refine pr_step rfl rfl rfl rfl ?_
          refine pr_top ((show nI (9 * k) + 1 = nI (9 * k + 1) from nI_add (9 * k) 1)) ?_
          refine pr_iald (9 * k + 1) rfl k0 (by decide) (by omega) rfl (by omega) ?_
          refine pr_aload_n rfl rfl ?_
          refine pr_iload_n rfl rfl ?_
          refine pr_push (v := 2) rfl rfl ?_
          refine pr_step rfl rfl rfl rfl ?_
          refine pr_top ((show nI (9 * k) + 2 = nI (9 * k + 2) from nI_add (9 * k) 2)) ?_
          refine pr_iald (9 * k + 2) rfl k0 (by decide) (by omega) rfl (by omega) ?_
          refine pr_aload_n rfl rfl ?_
          refine pr_iload_n rfl rfl ?_
          refine pr_push (v := 3) rfl rfl ?_
          refine pr_step rfl rfl rfl rfl ?_
          refine pr_top ((show nI (9 * k) + 3 = nI (9 * k + 3) from nI_add (9 * k) 3)) ?_
          refine pr_iald (9 * k + 3) rfl k0 (by decide) (by omega) rfl (by omega) ?_
          refine pr_aload_n rfl rfl ?_
          refine pr_iload_n rfl rfl ?_
          refine pr_push (v := 4) rfl rfl ?_
          refine pr_step rfl rfl rfl rfl ?_
          refine pr_top ((show nI (9 * k) + 4 = nI (9 * k + 4) from nI_add (9 * k) 4)) ?_
          refine pr_iald (9 * k + 4) rfl k0 (by decide) (by omega) rfl (by omega) ?_
          refine pr_aload_n rfl rfl ?_
          refine pr_iload_n rfl rfl ?_
          refine pr_push (v := 5) rfl rfl ?_
          refine pr_step rfl rfl rfl rfl ?_
          refine pr_top ((show nI (9 * k) + 5 = nI (9 * k + 5) from nI_add (9 * k) 5)) ?_
          refine pr_iald (9 * k + 5) rfl k0 (by decide) (by omega) rfl (by omega) ?_
          refine pr_aload_n rfl rfl ?_
          refine pr_iload_n rfl rfl ?_
          refine pr_push (v := 6) rfl rfl ?_
          refine pr_step rfl rfl rfl rfl ?_
          refine pr_top ((show nI (9 * k) + 6 = nI (9 * k + 6) from nI_add (9 * k) 6)) ?_
          refine pr_iald (9 * k + 6) rfl k0 (by decide) (by omega) rfl (by omega) ?_
          refine pr_vi6 rfl (by decide) (Nat.le_of_ble_eq_true rfl) k25 (Nat.le_of_ble_eq_true rfl) hm (fun r_409 h_409 q_409 => ?_)
          obtain ⟨rfl, hs2⟩ := q_409
          refine pr_u_eq rfl (fun c_412 => ?_) (fun c_412 => ?_)
          · skip
            refine pr_iinc rfl rfl (show nI (9 * k) + Int32.ofInt 9 = nI (9 * (k + 1)) from nI_add (9 * k) 9) rfl ?_
            refine pr_step rfl rfl rfl rfl ?_
            exact ih (k + 1) _ (by omega) (by omega) hs2
          · skip
            exact absurd rfl c_412
        | 7, hj, hu =>
          obtain rfl := Option.some.inj hu
          refine pr_aload_n rfl rfl ?_
          refine pr_aload_n rfl rfl ?_
          refine pr_iload_n rfl rfl ?_
          refine pr_push (v := 1) rfl rfl ?_
          refine pr_step rfl rfl rfl rfl ?_
          refine pr_top ((show nI (9 * k) + 1 = nI (9 * k + 1) from nI_add (9 * k) 1)) ?_
          refine pr_iald (9 * k + 1) rfl h0 (by decide) (by omega) rfl (by omega) ?_
          refine pr_aload_n rfl rfl ?_
          refine pr_iload_n rfl rfl ?_
          refine pr_push (v := 2) rfl rfl ?_
          refine pr_step rfl rfl rfl rfl ?_
          refine pr_top ((show nI (9 * k) + 2 = nI (9 * k + 2) from nI_add (9 * k) 2)) ?_
          refine pr_iald (9 * k + 2) rfl h0 (by decide) (by omega) rfl (by omega) ?_
          refine pr_aload_n rfl rfl ?_
          refine pr_iload_n rfl rfl ?_
          refine pr_push (v := 3) rfl rfl ?_
          refine pr_step rfl rfl rfl rfl ?_
          refine pr_top ((show nI (9 * k) + 3 = nI (9 * k + 3) from nI_add (9 * k) 3)) ?_
          refine pr_iald (9 * k + 3) rfl h0 (by decide) (by omega) rfl (by omega) ?_
          refine pr_vi3 rfl (by decide) (Nat.le_of_ble_eq_true rfl) hfs (Nat.le_of_ble_eq_true rfl) (op_owner hs _ _ _) (fun r_433 h_433 q_433 => ?_)
          obtain ⟨k0, ⟨fs2, k25⟩, hm⟩ := q_433
          refine pr_aload_n rfl rfl ?_
          refine pr_aload_n rfl rfl ?_
          refine pr_iload_n rfl rfl ?_
          refine pr_push (v := 1) rfl rfl ?_
          refine pr_step rfl rfl rfl rfl ?_
          refine pr_top ((show nI (9 * k) + 1 = nI (9 * k + 1) from nI_add (9 * k) 1)) ?_
          refine pr_iald (9 * k + 1) rfl k0 (by decide) (by omega) rfl (by omega) ?_
          refine pr_aload_n rfl rfl ?_
          refine pr_iload_n rfl rfl ?_
          refine pr_push (v := 2) rfl rfl ?_
          refine pr_step rfl rfl rfl rfl ?_
          refine pr_top ((show nI (9 * k) + 2 = nI (9 * k + 2) from nI_add (9 * k) 2)) ?_
          refine pr_iald (9 * k + 2) rfl k0 (by decide) (by omega) rfl (by omega) ?_
          refine pr_aload_n rfl rfl ?_
          refine pr_iload_n rfl rfl ?_
          refine pr_push (v := 3) rfl rfl ?_
          refine pr_step rfl rfl rfl rfl ?_
          refine pr_top ((show nI (9 * k) + 3 = nI (9 * k + 3) from nI_add (9 * k) 3)) ?_
          refine pr_iald (9 * k + 3) rfl k0 (by decide) (by omega) rfl (by omega) ?_
          refine pr_vi3 rfl (by decide) (Nat.le_of_ble_eq_true rfl) k25 (Nat.le_of_ble_eq_true rfl) hm (fun r_452 h_452 q_452 => ?_)
          obtain ⟨rfl, hs2⟩ := q_452
          refine pr_u_eq rfl (fun c_455 => ?_) (fun c_455 => ?_)
          · skip
            refine pr_iinc rfl rfl (show nI (9 * k) + Int32.ofInt 9 = nI (9 * (k + 1)) from nI_add (9 * k) 9) rfl ?_
            refine pr_step rfl rfl rfl rfl ?_
            exact ih (k + 1) _ (by omega) (by omega) hs2
          · skip
            exact absurd rfl c_455
        | 8, hj, hu =>
          obtain rfl := Option.some.inj hu
          refine pr_aload_n rfl rfl ?_
          refine pr_aload_n rfl rfl ?_
          refine pr_iload_n rfl rfl ?_
          refine pr_push (v := 1) rfl rfl ?_
          refine pr_step rfl rfl rfl rfl ?_
          refine pr_top ((show nI (9 * k) + 1 = nI (9 * k + 1) from nI_add (9 * k) 1)) ?_
          refine pr_iald (9 * k + 1) rfl h0 (by decide) (by omega) rfl (by omega) ?_
          refine pr_vi1 rfl (by decide) (Nat.le_of_ble_eq_true rfl) hfs (Nat.le_of_ble_eq_true rfl) (op_quarrel hs _) (fun r_466 h_466 q_466 => ?_)
          obtain ⟨k0, ⟨fs2, k25⟩, hm⟩ := q_466
          refine pr_aload_n rfl rfl ?_
          refine pr_aload_n rfl rfl ?_
          refine pr_iload_n rfl rfl ?_
          refine pr_push (v := 1) rfl rfl ?_
          refine pr_step rfl rfl rfl rfl ?_
          refine pr_top ((show nI (9 * k) + 1 = nI (9 * k + 1) from nI_add (9 * k) 1)) ?_
          refine pr_iald (9 * k + 1) rfl k0 (by decide) (by omega) rfl (by omega) ?_
          refine pr_vi1 rfl (by decide) (Nat.le_of_ble_eq_true rfl) k25 (Nat.le_of_ble_eq_true rfl) hm (fun r_475 h_475 q_475 => ?_)
          obtain ⟨rfl, hs2⟩ := q_475
          refine pr_u_eq rfl (fun c_478 => ?_) (fun c_478 => ?_)
          · skip
            refine pr_iinc rfl rfl (show nI (9 * k) + Int32.ofInt 9 = nI (9 * (k + 1)) from nI_add (9 * k) 9) rfl ?_
            refine pr_step rfl rfl rfl rfl ?_
            exact ih (k + 1) _ (by omega) (by omega) hs2
          · skip
            exact absurd rfl c_478
        | 9, hj, hu =>
          obtain rfl := Option.some.inj hu
          refine pr_aload_n rfl rfl ?_
          refine pr_aload_n rfl rfl ?_
          refine pr_iload_n rfl rfl ?_
          refine pr_push (v := 1) rfl rfl ?_
          refine pr_step rfl rfl rfl rfl ?_
          refine pr_top ((show nI (9 * k) + 1 = nI (9 * k + 1) from nI_add (9 * k) 1)) ?_
          refine pr_iald (9 * k + 1) rfl h0 (by decide) (by omega) rfl (by omega) ?_
          refine pr_vi1 rfl (by decide) (Nat.le_of_ble_eq_true rfl) hfs (Nat.le_of_ble_eq_true rfl) (op_years hs _) (fun r_489 h_489 q_489 => ?_)
          obtain ⟨k0, ⟨fs2, k25⟩, hm⟩ := q_489
          refine pr_aload_n rfl rfl ?_
          refine pr_aload_n rfl rfl ?_
          refine pr_iload_n rfl rfl ?_
          refine pr_push (v := 1) rfl rfl ?_
          refine pr_step rfl rfl rfl rfl ?_
          refine pr_top ((show nI (9 * k) + 1 = nI (9 * k + 1) from nI_add (9 * k) 1)) ?_
          refine pr_iald (9 * k + 1) rfl k0 (by decide) (by omega) rfl (by omega) ?_
          refine pr_vi1 rfl (by decide) (Nat.le_of_ble_eq_true rfl) k25 (Nat.le_of_ble_eq_true rfl) hm (fun r_498 h_498 q_498 => ?_)
          obtain ⟨rfl, hs2⟩ := q_498
          refine pr_u_eq rfl (fun c_501 => ?_) (fun c_501 => ?_)
          · skip
            refine pr_iinc rfl rfl (show nI (9 * k) + Int32.ofInt 9 = nI (9 * (k + 1)) from nI_add (9 * k) 9) rfl ?_
            refine pr_step rfl rfl rfl rfl ?_
            exact ih (k + 1) _ (by omega) (by omega) hs2
          · skip
            exact absurd rfl c_501
        | 10, hj, hu =>
          obtain rfl := Option.some.inj hu
          refine pr_aload_n rfl rfl ?_
          refine pr_aload_n rfl rfl ?_
          refine pr_iload_n rfl rfl ?_
          refine pr_push (v := 1) rfl rfl ?_
          refine pr_step rfl rfl rfl rfl ?_
          refine pr_top ((show nI (9 * k) + 1 = nI (9 * k + 1) from nI_add (9 * k) 1)) ?_
          refine pr_iald (9 * k + 1) rfl h0 (by decide) (by omega) rfl (by omega) ?_
          refine pr_aload_n rfl rfl ?_
          refine pr_iload_n rfl rfl ?_
          refine pr_push (v := 2) rfl rfl ?_
          refine pr_step rfl rfl rfl rfl ?_
          refine pr_top ((show nI (9 * k) + 2 = nI (9 * k + 2) from nI_add (9 * k) 2)) ?_
          refine pr_iald (9 * k + 2) rfl h0 (by decide) (by omega) rfl (by omega) ?_
          refine pr_vi2 rfl (by decide) (Nat.le_of_ble_eq_true rfl) hfs (Nat.le_of_ble_eq_true rfl) (op_stone hs _ _) (fun r_517 h_517 q_517 => ?_)
          obtain ⟨k0, ⟨fs2, k25⟩, hm⟩ := q_517
          refine pr_aload_n rfl rfl ?_
          refine pr_aload_n rfl rfl ?_
          refine pr_iload_n rfl rfl ?_
          refine pr_push (v := 1) rfl rfl ?_
          refine pr_step rfl rfl rfl rfl ?_
          refine pr_top ((show nI (9 * k) + 1 = nI (9 * k + 1) from nI_add (9 * k) 1)) ?_
          refine pr_iald (9 * k + 1) rfl k0 (by decide) (by omega) rfl (by omega) ?_
          refine pr_aload_n rfl rfl ?_
          refine pr_iload_n rfl rfl ?_
          refine pr_push (v := 2) rfl rfl ?_
          refine pr_step rfl rfl rfl rfl ?_
          refine pr_top ((show nI (9 * k) + 2 = nI (9 * k + 2) from nI_add (9 * k) 2)) ?_
          refine pr_iald (9 * k + 2) rfl k0 (by decide) (by omega) rfl (by omega) ?_
          refine pr_vi2 rfl (by decide) (Nat.le_of_ble_eq_true rfl) k25 (Nat.le_of_ble_eq_true rfl) hm (fun r_531 h_531 q_531 => ?_)
          obtain ⟨rfl, hs2⟩ := q_531
          refine pr_u_eq rfl (fun c_534 => ?_) (fun c_534 => ?_)
          · skip
            refine pr_iinc rfl rfl (show nI (9 * k) + Int32.ofInt 9 = nI (9 * (k + 1)) from nI_add (9 * k) 9) rfl ?_
            refine pr_step rfl rfl rfl rfl ?_
            exact ih (k + 1) _ (by omega) (by omega) hs2
          · skip
            exact absurd rfl c_534
        | 11, hj, hu =>
          obtain rfl := Option.some.inj hu
          refine pr_aload_n rfl rfl ?_
          refine pr_aload_n rfl rfl ?_
          refine pr_iload_n rfl rfl ?_
          refine pr_push (v := 1) rfl rfl ?_
          refine pr_step rfl rfl rfl rfl ?_
          refine pr_top ((show nI (9 * k) + 1 = nI (9 * k + 1) from nI_add (9 * k) 1)) ?_
          refine pr_iald (9 * k + 1) rfl h0 (by decide) (by omega) rfl (by omega) ?_
          refine pr_aload_n rfl rfl ?_
          refine pr_iload_n rfl rfl ?_
          refine pr_push (v := 2) rfl rfl ?_
          refine pr_step rfl rfl rfl rfl ?_
          refine pr_top ((show nI (9 * k) + 2 = nI (9 * k + 2) from nI_add (9 * k) 2)) ?_
          refine pr_iald (9 * k + 2) rfl h0 (by decide) (by omega) rfl (by omega) ?_
          refine pr_aload_n rfl rfl ?_
          refine pr_iload_n rfl rfl ?_
          refine pr_push (v := 3) rfl rfl ?_
          refine pr_step rfl rfl rfl rfl ?_
          refine pr_top ((show nI (9 * k) + 3 = nI (9 * k + 3) from nI_add (9 * k) 3)) ?_
          refine pr_iald (9 * k + 3) rfl h0 (by decide) (by omega) rfl (by omega) ?_
          refine pr_aload_n rfl rfl ?_
          refine pr_iload_n rfl rfl ?_
          refine pr_push (v := 4) rfl rfl ?_
          refine pr_step rfl rfl rfl rfl ?_
          refine pr_top ((show nI (9 * k) + 4 = nI (9 * k + 4) from nI_add (9 * k) 4)) ?_
          refine pr_iald (9 * k + 4) rfl h0 (by decide) (by omega) rfl (by omega) ?_
          refine pr_vi4 rfl (by decide) (Nat.le_of_ble_eq_true rfl) hfs (Nat.le_of_ble_eq_true rfl) (op_moved hs _ _ _ _) (fun r_560 h_560 q_560 => ?_)
          obtain ⟨k0, ⟨fs2, k25⟩, hm⟩ := q_560
          refine pr_aload_n rfl rfl ?_
          refine pr_aload_n rfl rfl ?_
          refine pr_iload_n rfl rfl ?_
          refine pr_push (v := 1) rfl rfl ?_
          refine pr_step rfl rfl rfl rfl ?_
          refine pr_top ((show nI (9 * k) + 1 = nI (9 * k + 1) from nI_add (9 * k) 1)) ?_
          refine pr_iald (9 * k + 1) rfl k0 (by decide) (by omega) rfl (by omega) ?_
          refine pr_aload_n rfl rfl ?_
          refine pr_iload_n rfl rfl ?_
          refine pr_push (v := 2) rfl rfl ?_
          refine pr_step rfl rfl rfl rfl ?_
          refine pr_top ((show nI (9 * k) + 2 = nI (9 * k + 2) from nI_add (9 * k) 2)) ?_
          refine pr_iald (9 * k + 2) rfl k0 (by decide) (by omega) rfl (by omega) ?_
          refine pr_aload_n rfl rfl ?_
          refine pr_iload_n rfl rfl ?_
          refine pr_push (v := 3) rfl rfl ?_
          refine pr_step rfl rfl rfl rfl ?_
          refine pr_top ((show nI (9 * k) + 3 = nI (9 * k + 3) from nI_add (9 * k) 3)) ?_
          refine pr_iald (9 * k + 3) rfl k0 (by decide) (by omega) rfl (by omega) ?_
          refine pr_aload_n rfl rfl ?_
          refine pr_iload_n rfl rfl ?_
          refine pr_push (v := 4) rfl rfl ?_
          refine pr_step rfl rfl rfl rfl ?_
          refine pr_top ((show nI (9 * k) + 4 = nI (9 * k + 4) from nI_add (9 * k) 4)) ?_
          refine pr_iald (9 * k + 4) rfl k0 (by decide) (by omega) rfl (by omega) ?_
          refine pr_vi4 rfl (by decide) (Nat.le_of_ble_eq_true rfl) k25 (Nat.le_of_ble_eq_true rfl) hm (fun r_584 h_584 q_584 => ?_)
          obtain ⟨rfl, hs2⟩ := q_584
          refine pr_u_eq rfl (fun c_587 => ?_) (fun c_587 => ?_)
          · skip
            refine pr_iinc rfl rfl (show nI (9 * k) + Int32.ofInt 9 = nI (9 * (k + 1)) from nI_add (9 * k) 9) rfl ?_
            refine pr_step rfl rfl rfl rfl ?_
            exact ih (k + 1) _ (by omega) (by omega) hs2
          · skip
            exact absurd rfl c_587
        | 12, hj, hu =>
          obtain rfl := Option.some.inj hu
          refine pr_aload_n rfl rfl ?_
          refine pr_aload_n rfl rfl ?_
          refine pr_iload_n rfl rfl ?_
          refine pr_push (v := 1) rfl rfl ?_
          refine pr_step rfl rfl rfl rfl ?_
          refine pr_top ((show nI (9 * k) + 1 = nI (9 * k + 1) from nI_add (9 * k) 1)) ?_
          refine pr_iald (9 * k + 1) rfl h0 (by decide) (by omega) rfl (by omega) ?_
          refine pr_aload_n rfl rfl ?_
          refine pr_iload_n rfl rfl ?_
          refine pr_push (v := 2) rfl rfl ?_
          refine pr_step rfl rfl rfl rfl ?_
          refine pr_top ((show nI (9 * k) + 2 = nI (9 * k + 2) from nI_add (9 * k) 2)) ?_
          refine pr_iald (9 * k + 2) rfl h0 (by decide) (by omega) rfl (by omega) ?_
          refine pr_vi2 rfl (by decide) (Nat.le_of_ble_eq_true rfl) hfs (Nat.le_of_ble_eq_true rfl) (op_lost hs _ _) (fun r_603 h_603 q_603 => ?_)
          obtain ⟨k0, ⟨fs2, k25⟩, hm⟩ := q_603
          refine pr_aload_n rfl rfl ?_
          refine pr_aload_n rfl rfl ?_
          refine pr_iload_n rfl rfl ?_
          refine pr_push (v := 1) rfl rfl ?_
          refine pr_step rfl rfl rfl rfl ?_
          refine pr_top ((show nI (9 * k) + 1 = nI (9 * k + 1) from nI_add (9 * k) 1)) ?_
          refine pr_iald (9 * k + 1) rfl k0 (by decide) (by omega) rfl (by omega) ?_
          refine pr_aload_n rfl rfl ?_
          refine pr_iload_n rfl rfl ?_
          refine pr_push (v := 2) rfl rfl ?_
          refine pr_step rfl rfl rfl rfl ?_
          refine pr_top ((show nI (9 * k) + 2 = nI (9 * k + 2) from nI_add (9 * k) 2)) ?_
          refine pr_iald (9 * k + 2) rfl k0 (by decide) (by omega) rfl (by omega) ?_
          refine pr_vi2 rfl (by decide) (Nat.le_of_ble_eq_true rfl) k25 (Nat.le_of_ble_eq_true rfl) hm (fun r_617 h_617 q_617 => ?_)
          obtain ⟨rfl, hs2⟩ := q_617
          refine pr_u_eq rfl (fun c_620 => ?_) (fun c_620 => ?_)
          · skip
            refine pr_iinc rfl rfl (show nI (9 * k) + Int32.ofInt 9 = nI (9 * (k + 1)) from nI_add (9 * k) 9) rfl ?_
            refine pr_step rfl rfl rfl rfl ?_
            exact ih (k + 1) _ (by omega) (by omega) hs2
          · skip
            exact absurd rfl c_620
        | 13, hj, hu =>
          obtain rfl := Option.some.inj hu
          refine pr_aload_n rfl rfl ?_
          refine pr_aload_n rfl rfl ?_
          refine pr_iload_n rfl rfl ?_
          refine pr_push (v := 1) rfl rfl ?_
          refine pr_step rfl rfl rfl rfl ?_
          refine pr_top ((show nI (9 * k) + 1 = nI (9 * k + 1) from nI_add (9 * k) 1)) ?_
          refine pr_iald (9 * k + 1) rfl h0 (by decide) (by omega) rfl (by omega) ?_
          refine pr_aload_n rfl rfl ?_
          refine pr_iload_n rfl rfl ?_
          refine pr_push (v := 2) rfl rfl ?_
          refine pr_step rfl rfl rfl rfl ?_
          refine pr_top ((show nI (9 * k) + 2 = nI (9 * k + 2) from nI_add (9 * k) 2)) ?_
          refine pr_iald (9 * k + 2) rfl h0 (by decide) (by omega) rfl (by omega) ?_
          refine pr_aload_n rfl rfl ?_
          refine pr_iload_n rfl rfl ?_
          refine pr_push (v := 3) rfl rfl ?_
          refine pr_step rfl rfl rfl rfl ?_
          refine pr_top ((show nI (9 * k) + 3 = nI (9 * k + 3) from nI_add (9 * k) 3)) ?_
          refine pr_iald (9 * k + 3) rfl h0 (by decide) (by omega) rfl (by omega) ?_
          refine pr_vi3 rfl (by decide) (Nat.le_of_ble_eq_true rfl) hfs (Nat.le_of_ble_eq_true rfl) (op_where hs _ _ _) (fun r_641 h_641 q_641 => ?_)
          obtain ⟨k0, ⟨fs2, k25⟩, hm⟩ := q_641
          refine pr_aload_n rfl rfl ?_
          refine pr_aload_n rfl rfl ?_
          refine pr_iload_n rfl rfl ?_
          refine pr_push (v := 1) rfl rfl ?_
          refine pr_step rfl rfl rfl rfl ?_
          refine pr_top ((show nI (9 * k) + 1 = nI (9 * k + 1) from nI_add (9 * k) 1)) ?_
          refine pr_iald (9 * k + 1) rfl k0 (by decide) (by omega) rfl (by omega) ?_
          refine pr_aload_n rfl rfl ?_
          refine pr_iload_n rfl rfl ?_
          refine pr_push (v := 2) rfl rfl ?_
          refine pr_step rfl rfl rfl rfl ?_
          refine pr_top ((show nI (9 * k) + 2 = nI (9 * k + 2) from nI_add (9 * k) 2)) ?_
          refine pr_iald (9 * k + 2) rfl k0 (by decide) (by omega) rfl (by omega) ?_
          refine pr_aload_n rfl rfl ?_
          refine pr_iload_n rfl rfl ?_
          refine pr_push (v := 3) rfl rfl ?_
          refine pr_step rfl rfl rfl rfl ?_
          refine pr_top ((show nI (9 * k) + 3 = nI (9 * k + 3) from nI_add (9 * k) 3)) ?_
          refine pr_iald (9 * k + 3) rfl k0 (by decide) (by omega) rfl (by omega) ?_
          refine pr_vi3 rfl (by decide) (Nat.le_of_ble_eq_true rfl) k25 (Nat.le_of_ble_eq_true rfl) hm (fun r_660 h_660 q_660 => ?_)
          obtain ⟨rfl, hs2⟩ := q_660
          refine pr_u_eq rfl (fun c_663 => ?_) (fun c_663 => ?_)
          · skip
            refine pr_iinc rfl rfl (show nI (9 * k) + Int32.ofInt 9 = nI (9 * (k + 1)) from nI_add (9 * k) 9) rfl ?_
            refine pr_step rfl rfl rfl rfl ?_
            exact ih (k + 1) _ (by omega) (by omega) hs2
          · skip
            exact absurd rfl c_663
        | 14, hj, hu =>
          obtain rfl := Option.some.inj hu
          refine pr_aload_n rfl rfl ?_
          refine pr_aload_n rfl rfl ?_
          refine pr_iload_n rfl rfl ?_
          refine pr_push (v := 1) rfl rfl ?_
          refine pr_step rfl rfl rfl rfl ?_
          refine pr_top ((show nI (9 * k) + 1 = nI (9 * k + 1) from nI_add (9 * k) 1)) ?_
          refine pr_iald (9 * k + 1) rfl h0 (by decide) (by omega) rfl (by omega) ?_
          refine pr_vi1 rfl (by decide) (Nat.le_of_ble_eq_true rfl) hfs (Nat.le_of_ble_eq_true rfl) (op_witness hs _) (fun r_674 h_674 q_674 => ?_)
          obtain ⟨k0, ⟨fs2, k25⟩, hm⟩ := q_674
          refine pr_aload_n rfl rfl ?_
          refine pr_aload_n rfl rfl ?_
          refine pr_iload_n rfl rfl ?_
          refine pr_push (v := 1) rfl rfl ?_
          refine pr_step rfl rfl rfl rfl ?_
          refine pr_top ((show nI (9 * k) + 1 = nI (9 * k + 1) from nI_add (9 * k) 1)) ?_
          refine pr_iald (9 * k + 1) rfl k0 (by decide) (by omega) rfl (by omega) ?_
          refine pr_vi1 rfl (by decide) (Nat.le_of_ble_eq_true rfl) k25 (Nat.le_of_ble_eq_true rfl) hm (fun r_683 h_683 q_683 => ?_)
          obtain ⟨rfl, hs2⟩ := q_683
          refine pr_u_eq rfl (fun c_686 => ?_) (fun c_686 => ?_)
          · skip
            refine pr_iinc rfl rfl (show nI (9 * k) + Int32.ofInt 9 = nI (9 * (k + 1)) from nI_add (9 * k) 9) rfl ?_
            refine pr_step rfl rfl rfl rfl ?_
            exact ih (k + 1) _ (by omega) (by omega) hs2
          · skip
            exact absurd rfl c_686
        | 15, hj, hu =>
          obtain rfl := Option.some.inj hu
          refine pr_aload_n rfl rfl ?_
          refine pr_aload_n rfl rfl ?_
          refine pr_iload_n rfl rfl ?_
          refine pr_push (v := 1) rfl rfl ?_
          refine pr_step rfl rfl rfl rfl ?_
          refine pr_top ((show nI (9 * k) + 1 = nI (9 * k + 1) from nI_add (9 * k) 1)) ?_
          refine pr_iald (9 * k + 1) rfl h0 (by decide) (by omega) rfl (by omega) ?_
          refine pr_aload_n rfl rfl ?_
          refine pr_iload_n rfl rfl ?_
          refine pr_push (v := 2) rfl rfl ?_
          refine pr_step rfl rfl rfl rfl ?_
          refine pr_top ((show nI (9 * k) + 2 = nI (9 * k + 2) from nI_add (9 * k) 2)) ?_
          refine pr_iald (9 * k + 2) rfl h0 (by decide) (by omega) rfl (by omega) ?_
          refine pr_vi2 rfl (by decide) (Nat.le_of_ble_eq_true rfl) hfs (Nat.le_of_ble_eq_true rfl) (op_remember hs _ _) (fun r_702 h_702 q_702 => ?_)
          obtain ⟨k0, ⟨fs2, k25⟩, hm⟩ := q_702
          refine pr_aload_n rfl rfl ?_
          refine pr_aload_n rfl rfl ?_
          refine pr_iload_n rfl rfl ?_
          refine pr_push (v := 1) rfl rfl ?_
          refine pr_step rfl rfl rfl rfl ?_
          refine pr_top ((show nI (9 * k) + 1 = nI (9 * k + 1) from nI_add (9 * k) 1)) ?_
          refine pr_iald (9 * k + 1) rfl k0 (by decide) (by omega) rfl (by omega) ?_
          refine pr_aload_n rfl rfl ?_
          refine pr_iload_n rfl rfl ?_
          refine pr_push (v := 2) rfl rfl ?_
          refine pr_step rfl rfl rfl rfl ?_
          refine pr_top ((show nI (9 * k) + 2 = nI (9 * k + 2) from nI_add (9 * k) 2)) ?_
          refine pr_iald (9 * k + 2) rfl k0 (by decide) (by omega) rfl (by omega) ?_
          refine pr_vi2 rfl (by decide) (Nat.le_of_ble_eq_true rfl) k25 (Nat.le_of_ble_eq_true rfl) hm (fun r_716 h_716 q_716 => ?_)
          obtain ⟨rfl, hs2⟩ := q_716
          refine pr_u_eq rfl (fun c_719 => ?_) (fun c_719 => ?_)
          · skip
            refine pr_iinc rfl rfl (show nI (9 * k) + Int32.ofInt 9 = nI (9 * (k + 1)) from nI_add (9 * k) 9) rfl ?_
            refine pr_step rfl rfl rfl rfl ?_
            exact ih (k + 1) _ (by omega) (by omega) hs2
          · skip
            exact absurd rfl c_719
        | 16, hj, hu =>
          obtain rfl := Option.some.inj hu
          refine pr_aload_n rfl rfl ?_
          refine pr_aload_n rfl rfl ?_
          refine pr_iload_n rfl rfl ?_
          refine pr_push (v := 1) rfl rfl ?_
          refine pr_step rfl rfl rfl rfl ?_
          refine pr_top ((show nI (9 * k) + 1 = nI (9 * k + 1) from nI_add (9 * k) 1)) ?_
          refine pr_iald (9 * k + 1) rfl h0 (by decide) (by omega) rfl (by omega) ?_
          refine pr_aload_n rfl rfl ?_
          refine pr_iload_n rfl rfl ?_
          refine pr_push (v := 2) rfl rfl ?_
          refine pr_step rfl rfl rfl rfl ?_
          refine pr_top ((show nI (9 * k) + 2 = nI (9 * k + 2) from nI_add (9 * k) 2)) ?_
          refine pr_iald (9 * k + 2) rfl h0 (by decide) (by omega) rfl (by omega) ?_
          refine pr_aload_n rfl rfl ?_
          refine pr_iload_n rfl rfl ?_
          refine pr_push (v := 3) rfl rfl ?_
          refine pr_step rfl rfl rfl rfl ?_
          refine pr_top ((show nI (9 * k) + 3 = nI (9 * k + 3) from nI_add (9 * k) 3)) ?_
          refine pr_iald (9 * k + 3) rfl h0 (by decide) (by omega) rfl (by omega) ?_
          refine pr_aload_n rfl rfl ?_
          refine pr_iload_n rfl rfl ?_
          refine pr_push (v := 4) rfl rfl ?_
          refine pr_step rfl rfl rfl rfl ?_
          refine pr_top ((show nI (9 * k) + 4 = nI (9 * k + 4) from nI_add (9 * k) 4)) ?_
          refine pr_iald (9 * k + 4) rfl h0 (by decide) (by omega) rfl (by omega) ?_
          refine pr_aload_n rfl rfl ?_
          refine pr_iload_n rfl rfl ?_
          refine pr_push (v := 5) rfl rfl ?_
          refine pr_step rfl rfl rfl rfl ?_
          refine pr_top ((show nI (9 * k) + 5 = nI (9 * k + 5) from nI_add (9 * k) 5)) ?_
          refine pr_iald (9 * k + 5) rfl h0 (by decide) (by omega) rfl (by omega) ?_
          refine pr_aload_n rfl rfl ?_
          refine pr_iload_n rfl rfl ?_
          refine pr_push (v := 6) rfl rfl ?_
          refine pr_step rfl rfl rfl rfl ?_
          refine pr_top ((show nI (9 * k) + 6 = nI (9 * k + 6) from nI_add (9 * k) 6)) ?_
          refine pr_iald (9 * k + 6) rfl h0 (by decide) (by omega) rfl (by omega) ?_
          refine pr_aload_n rfl rfl ?_
          refine pr_iload_n rfl rfl ?_
          refine pr_push (v := 7) rfl rfl ?_
          refine pr_step rfl rfl rfl rfl ?_
          refine pr_top ((show nI (9 * k) + 7 = nI (9 * k + 7) from nI_add (9 * k) 7)) ?_
          refine pr_iald (9 * k + 7) rfl h0 (by decide) (by omega) rfl (by omega) ?_
          refine pr_aload_n rfl rfl ?_
          refine pr_iload_n rfl rfl ?_
          refine pr_push (v := 8) rfl rfl ?_
          refine pr_step rfl rfl rfl rfl ?_
          refine pr_top ((show nI (9 * k) + 8 = nI (9 * k + 8) from nI_add (9 * k) 8)) ?_
          refine pr_iald (9 * k + 8) rfl h0 (by decide) (by omega) rfl (by omega) ?_
          refine pr_vi8 rfl (by decide) (Nat.le_of_ble_eq_true rfl) hfs (Nat.le_of_ble_eq_true rfl) (op_house hs _ _ _ _ _ _ _ _) (fun r_768 h_768 q_768 => ?_)
          obtain ⟨k0, ⟨fs2, k25⟩, hm⟩ := q_768
          refine pr_aload_n rfl rfl ?_
          refine pr_aload_n rfl rfl ?_
          refine pr_iload_n rfl rfl ?_
          refine pr_push (v := 1) rfl rfl ?_
          refine pr_step rfl rfl rfl rfl ?_
          refine pr_top ((show nI (9 * k) + 1 = nI (9 * k + 1) from nI_add (9 * k) 1)) ?_
          refine pr_iald (9 * k + 1) rfl k0 (by decide) (by omega) rfl (by omega) ?_
          refine pr_aload_n rfl rfl ?_
          refine pr_iload_n rfl rfl ?_
          refine pr_push (v := 2) rfl rfl ?_
          refine pr_step rfl rfl rfl rfl ?_
          refine pr_top ((show nI (9 * k) + 2 = nI (9 * k + 2) from nI_add (9 * k) 2)) ?_
          refine pr_iald (9 * k + 2) rfl k0 (by decide) (by omega) rfl (by omega) ?_
          refine pr_aload_n rfl rfl ?_
          refine pr_iload_n rfl rfl ?_
          refine pr_push (v := 3) rfl rfl ?_
          refine pr_step rfl rfl rfl rfl ?_
          refine pr_top ((show nI (9 * k) + 3 = nI (9 * k + 3) from nI_add (9 * k) 3)) ?_
          refine pr_iald (9 * k + 3) rfl k0 (by decide) (by omega) rfl (by omega) ?_
          refine pr_aload_n rfl rfl ?_
          refine pr_iload_n rfl rfl ?_
          refine pr_push (v := 4) rfl rfl ?_
          refine pr_step rfl rfl rfl rfl ?_
          refine pr_top ((show nI (9 * k) + 4 = nI (9 * k + 4) from nI_add (9 * k) 4)) ?_
          refine pr_iald (9 * k + 4) rfl k0 (by decide) (by omega) rfl (by omega) ?_
          refine pr_aload_n rfl rfl ?_
          refine pr_iload_n rfl rfl ?_
          refine pr_push (v := 5) rfl rfl ?_
          refine pr_step rfl rfl rfl rfl ?_
          refine pr_top ((show nI (9 * k) + 5 = nI (9 * k + 5) from nI_add (9 * k) 5)) ?_
          refine pr_iald (9 * k + 5) rfl k0 (by decide) (by omega) rfl (by omega) ?_
          refine pr_aload_n rfl rfl ?_
          refine pr_iload_n rfl rfl ?_
          refine pr_push (v := 6) rfl rfl ?_
          refine pr_step rfl rfl rfl rfl ?_
          refine pr_top ((show nI (9 * k) + 6 = nI (9 * k + 6) from nI_add (9 * k) 6)) ?_
          refine pr_iald (9 * k + 6) rfl k0 (by decide) (by omega) rfl (by omega) ?_
          refine pr_aload_n rfl rfl ?_
          refine pr_iload_n rfl rfl ?_
          refine pr_push (v := 7) rfl rfl ?_
          refine pr_step rfl rfl rfl rfl ?_
          refine pr_top ((show nI (9 * k) + 7 = nI (9 * k + 7) from nI_add (9 * k) 7)) ?_
          refine pr_iald (9 * k + 7) rfl k0 (by decide) (by omega) rfl (by omega) ?_
          refine pr_aload_n rfl rfl ?_
          refine pr_iload_n rfl rfl ?_
          refine pr_push (v := 8) rfl rfl ?_
          refine pr_step rfl rfl rfl rfl ?_
          refine pr_top ((show nI (9 * k) + 8 = nI (9 * k + 8) from nI_add (9 * k) 8)) ?_
          refine pr_iald (9 * k + 8) rfl k0 (by decide) (by omega) rfl (by omega) ?_
          refine pr_vi8 rfl (by decide) (Nat.le_of_ble_eq_true rfl) k25 (Nat.le_of_ble_eq_true rfl) hm (fun r_815 h_815 q_815 => ?_)
          obtain ⟨rfl, hs2⟩ := q_815
          refine pr_u_eq rfl (fun c_818 => ?_) (fun c_818 => ?_)
          · skip
            refine pr_iinc rfl rfl (show nI (9 * k) + Int32.ofInt 9 = nI (9 * (k + 1)) from nI_add (9 * k) 9) rfl ?_
            refine pr_step rfl rfl rfl rfl ?_
            exact ih (k + 1) _ (by omega) (by omega) hs2
          · skip
            exact absurd rfl c_818
        | 17, hj, hu =>
          obtain rfl := Option.some.inj hu
          refine pr_aload_n rfl rfl ?_
          refine pr_aload_n rfl rfl ?_
          refine pr_iload_n rfl rfl ?_
          refine pr_push (v := 1) rfl rfl ?_
          refine pr_step rfl rfl rfl rfl ?_
          refine pr_top ((show nI (9 * k) + 1 = nI (9 * k + 1) from nI_add (9 * k) 1)) ?_
          refine pr_iald (9 * k + 1) rfl h0 (by decide) (by omega) rfl (by omega) ?_
          refine pr_aload_n rfl rfl ?_
          refine pr_iload_n rfl rfl ?_
          refine pr_push (v := 2) rfl rfl ?_
          refine pr_step rfl rfl rfl rfl ?_
          refine pr_top ((show nI (9 * k) + 2 = nI (9 * k + 2) from nI_add (9 * k) 2)) ?_
          refine pr_iald (9 * k + 2) rfl h0 (by decide) (by omega) rfl (by omega) ?_
          refine pr_aload_n rfl rfl ?_
          refine pr_iload_n rfl rfl ?_
          refine pr_push (v := 3) rfl rfl ?_
          refine pr_step rfl rfl rfl rfl ?_
          refine pr_top ((show nI (9 * k) + 3 = nI (9 * k + 3) from nI_add (9 * k) 3)) ?_
          refine pr_iald (9 * k + 3) rfl h0 (by decide) (by omega) rfl (by omega) ?_
          refine pr_vi3 rfl (by decide) (Nat.le_of_ble_eq_true rfl) hfs (Nat.le_of_ble_eq_true rfl) (op_law hs _ _ _) (fun r_839 h_839 q_839 => ?_)
          obtain ⟨k0, ⟨fs2, k25⟩, hm⟩ := q_839
          refine pr_aload_n rfl rfl ?_
          refine pr_aload_n rfl rfl ?_
          refine pr_iload_n rfl rfl ?_
          refine pr_push (v := 1) rfl rfl ?_
          refine pr_step rfl rfl rfl rfl ?_
          refine pr_top ((show nI (9 * k) + 1 = nI (9 * k + 1) from nI_add (9 * k) 1)) ?_
          refine pr_iald (9 * k + 1) rfl k0 (by decide) (by omega) rfl (by omega) ?_
          refine pr_aload_n rfl rfl ?_
          refine pr_iload_n rfl rfl ?_
          refine pr_push (v := 2) rfl rfl ?_
          refine pr_step rfl rfl rfl rfl ?_
          refine pr_top ((show nI (9 * k) + 2 = nI (9 * k + 2) from nI_add (9 * k) 2)) ?_
          refine pr_iald (9 * k + 2) rfl k0 (by decide) (by omega) rfl (by omega) ?_
          refine pr_aload_n rfl rfl ?_
          refine pr_iload_n rfl rfl ?_
          refine pr_push (v := 3) rfl rfl ?_
          refine pr_step rfl rfl rfl rfl ?_
          refine pr_top ((show nI (9 * k) + 3 = nI (9 * k + 3) from nI_add (9 * k) 3)) ?_
          refine pr_iald (9 * k + 3) rfl k0 (by decide) (by omega) rfl (by omega) ?_
          refine pr_vi3 rfl (by decide) (Nat.le_of_ble_eq_true rfl) k25 (Nat.le_of_ble_eq_true rfl) hm (fun r_858 h_858 q_858 => ?_)
          obtain ⟨rfl, hs2⟩ := q_858
          refine pr_u_eq rfl (fun c_861 => ?_) (fun c_861 => ?_)
          · skip
            refine pr_iinc rfl rfl (show nI (9 * k) + Int32.ofInt 9 = nI (9 * (k + 1)) from nI_add (9 * k) 9) rfl ?_
            refine pr_step rfl rfl rfl rfl ?_
            exact ih (k + 1) _ (by omega) (by omega) hs2
          · skip
            exact absurd rfl c_861
        | 18, hj, hu =>
          obtain rfl := Option.some.inj hu
          refine pr_aload_n rfl rfl ?_
          refine pr_aload_n rfl rfl ?_
          refine pr_iload_n rfl rfl ?_
          refine pr_push (v := 1) rfl rfl ?_
          refine pr_step rfl rfl rfl rfl ?_
          refine pr_top ((show nI (9 * k) + 1 = nI (9 * k + 1) from nI_add (9 * k) 1)) ?_
          refine pr_iald (9 * k + 1) rfl h0 (by decide) (by omega) rfl (by omega) ?_
          refine pr_aload_n rfl rfl ?_
          refine pr_iload_n rfl rfl ?_
          refine pr_push (v := 2) rfl rfl ?_
          refine pr_step rfl rfl rfl rfl ?_
          refine pr_top ((show nI (9 * k) + 2 = nI (9 * k + 2) from nI_add (9 * k) 2)) ?_
          refine pr_iald (9 * k + 2) rfl h0 (by decide) (by omega) rfl (by omega) ?_
          refine pr_aload_n rfl rfl ?_
          refine pr_iload_n rfl rfl ?_
          refine pr_push (v := 3) rfl rfl ?_
          refine pr_step rfl rfl rfl rfl ?_
          refine pr_top ((show nI (9 * k) + 3 = nI (9 * k + 3) from nI_add (9 * k) 3)) ?_
          refine pr_iald (9 * k + 3) rfl h0 (by decide) (by omega) rfl (by omega) ?_
          refine pr_vi3 rfl (by decide) (Nat.le_of_ble_eq_true rfl) hfs (Nat.le_of_ble_eq_true rfl) (op_whose hs _ _ _) (fun r_882 h_882 q_882 => ?_)
          obtain ⟨k0, ⟨fs2, k25⟩, hm⟩ := q_882
          refine pr_aload_n rfl rfl ?_
          refine pr_aload_n rfl rfl ?_
          refine pr_iload_n rfl rfl ?_
          refine pr_push (v := 1) rfl rfl ?_
          refine pr_step rfl rfl rfl rfl ?_
          refine pr_top ((show nI (9 * k) + 1 = nI (9 * k + 1) from nI_add (9 * k) 1)) ?_
          refine pr_iald (9 * k + 1) rfl k0 (by decide) (by omega) rfl (by omega) ?_
          refine pr_aload_n rfl rfl ?_
          refine pr_iload_n rfl rfl ?_
          refine pr_push (v := 2) rfl rfl ?_
          refine pr_step rfl rfl rfl rfl ?_
          refine pr_top ((show nI (9 * k) + 2 = nI (9 * k + 2) from nI_add (9 * k) 2)) ?_
          refine pr_iald (9 * k + 2) rfl k0 (by decide) (by omega) rfl (by omega) ?_
          refine pr_aload_n rfl rfl ?_
          refine pr_iload_n rfl rfl ?_
          refine pr_push (v := 3) rfl rfl ?_
          refine pr_step rfl rfl rfl rfl ?_
          refine pr_top ((show nI (9 * k) + 3 = nI (9 * k + 3) from nI_add (9 * k) 3)) ?_
          refine pr_iald (9 * k + 3) rfl k0 (by decide) (by omega) rfl (by omega) ?_
          refine pr_vi3 rfl (by decide) (Nat.le_of_ble_eq_true rfl) k25 (Nat.le_of_ble_eq_true rfl) hm (fun r_901 h_901 q_901 => ?_)
          obtain ⟨rfl, hs2⟩ := q_901
          refine pr_u_eq rfl (fun c_904 => ?_) (fun c_904 => ?_)
          · skip
            refine pr_iinc rfl rfl (show nI (9 * k) + Int32.ofInt 9 = nI (9 * (k + 1)) from nI_add (9 * k) 9) rfl ?_
            refine pr_step rfl rfl rfl rfl ?_
            exact ih (k + 1) _ (by omega) (by omega) hs2
          · skip
            exact absurd rfl c_904
        | 19, hj, hu =>
          obtain rfl := Option.some.inj hu
          refine pr_aload_n rfl rfl ?_
          refine pr_aload_n rfl rfl ?_
          refine pr_iload_n rfl rfl ?_
          refine pr_push (v := 1) rfl rfl ?_
          refine pr_step rfl rfl rfl rfl ?_
          refine pr_top ((show nI (9 * k) + 1 = nI (9 * k + 1) from nI_add (9 * k) 1)) ?_
          refine pr_iald (9 * k + 1) rfl h0 (by decide) (by omega) rfl (by omega) ?_
          refine pr_vi1 rfl (by decide) (Nat.le_of_ble_eq_true rfl) hfs (Nat.le_of_ble_eq_true rfl) (op_see hs _) (fun r_915 h_915 q_915 => ?_)
          obtain ⟨k0, ⟨fs2, k25⟩, hm⟩ := q_915
          refine pr_aload_n rfl rfl ?_
          refine pr_aload_n rfl rfl ?_
          refine pr_iload_n rfl rfl ?_
          refine pr_push (v := 1) rfl rfl ?_
          refine pr_step rfl rfl rfl rfl ?_
          refine pr_top ((show nI (9 * k) + 1 = nI (9 * k + 1) from nI_add (9 * k) 1)) ?_
          refine pr_iald (9 * k + 1) rfl k0 (by decide) (by omega) rfl (by omega) ?_
          refine pr_vi1 rfl (by decide) (Nat.le_of_ble_eq_true rfl) k25 (Nat.le_of_ble_eq_true rfl) hm (fun r_924 h_924 q_924 => ?_)
          obtain ⟨rfl, hs2⟩ := q_924
          refine pr_u_eq rfl (fun c_927 => ?_) (fun c_927 => ?_)
          · skip
            refine pr_iinc rfl rfl (show nI (9 * k) + Int32.ofInt 9 = nI (9 * (k + 1)) from nI_add (9 * k) 9) rfl ?_
            refine pr_step rfl rfl rfl rfl ?_
            exact ih (k + 1) _ (by omega) (by omega) hs2
          · skip
            exact absurd rfl c_927
        | 20, hj, hu =>
          obtain rfl := Option.some.inj hu
          refine pr_aload_n rfl rfl ?_
          refine pr_aload_n rfl rfl ?_
          refine pr_iload_n rfl rfl ?_
          refine pr_push (v := 1) rfl rfl ?_
          refine pr_step rfl rfl rfl rfl ?_
          refine pr_top ((show nI (9 * k) + 1 = nI (9 * k + 1) from nI_add (9 * k) 1)) ?_
          refine pr_iald (9 * k + 1) rfl h0 (by decide) (by omega) rfl (by omega) ?_
          refine pr_vi1 rfl (by decide) (Nat.le_of_ble_eq_true rfl) hfs (Nat.le_of_ble_eq_true rfl) (op_gap hs _) (fun r_938 h_938 q_938 => ?_)
          obtain ⟨k0, ⟨fs2, k25⟩, hm⟩ := q_938
          refine pr_aload_n rfl rfl ?_
          refine pr_aload_n rfl rfl ?_
          refine pr_iload_n rfl rfl ?_
          refine pr_push (v := 1) rfl rfl ?_
          refine pr_step rfl rfl rfl rfl ?_
          refine pr_top ((show nI (9 * k) + 1 = nI (9 * k + 1) from nI_add (9 * k) 1)) ?_
          refine pr_iald (9 * k + 1) rfl k0 (by decide) (by omega) rfl (by omega) ?_
          refine pr_vi1 rfl (by decide) (Nat.le_of_ble_eq_true rfl) k25 (Nat.le_of_ble_eq_true rfl) hm (fun r_947 h_947 q_947 => ?_)
          obtain ⟨rfl, hs2⟩ := q_947
          refine pr_u_eq rfl (fun c_950 => ?_) (fun c_950 => ?_)
          · skip
            refine pr_iinc rfl rfl (show nI (9 * k) + Int32.ofInt 9 = nI (9 * (k + 1)) from nI_add (9 * k) 9) rfl ?_
            refine pr_step rfl rfl rfl rfl ?_
            exact ih (k + 1) _ (by omega) (by omega) hs2
          · skip
            exact absurd rfl c_950
        | 21, hj, hu =>
          obtain rfl := Option.some.inj hu
          refine pr_aload_n rfl rfl ?_
          refine pr_vi0 rfl (by decide) (Nat.le_of_ble_eq_true rfl) hfs (Nat.le_of_ble_eq_true rfl) (op_due hs) (fun r_956 h_956 q_956 => ?_)
          obtain ⟨k0, ⟨fs2, k25⟩, hm⟩ := q_956
          refine pr_aload_n rfl rfl ?_
          refine pr_vi0 rfl (by decide) (Nat.le_of_ble_eq_true rfl) k25 (Nat.le_of_ble_eq_true rfl) hm (fun r_960 h_960 q_960 => ?_)
          obtain ⟨rfl, hs2⟩ := q_960
          refine pr_u_eq rfl (fun c_963 => ?_) (fun c_963 => ?_)
          · skip
            refine pr_iinc rfl rfl (show nI (9 * k) + Int32.ofInt 9 = nI (9 * (k + 1)) from nI_add (9 * k) 9) rfl ?_
            refine pr_step rfl rfl rfl rfl ?_
            exact ih (k + 1) _ (by omega) (by omega) hs2
          · skip
            exact absurd rfl c_963
        | 22, hj, hu =>
          obtain rfl := Option.some.inj hu
          refine pr_aload_n rfl rfl ?_
          refine pr_aload_n rfl rfl ?_
          refine pr_iload_n rfl rfl ?_
          refine pr_push (v := 1) rfl rfl ?_
          refine pr_step rfl rfl rfl rfl ?_
          refine pr_top ((show nI (9 * k) + 1 = nI (9 * k + 1) from nI_add (9 * k) 1)) ?_
          refine pr_iald (9 * k + 1) rfl h0 (by decide) (by omega) rfl (by omega) ?_
          refine pr_aload_n rfl rfl ?_
          refine pr_iload_n rfl rfl ?_
          refine pr_push (v := 2) rfl rfl ?_
          refine pr_step rfl rfl rfl rfl ?_
          refine pr_top ((show nI (9 * k) + 2 = nI (9 * k + 2) from nI_add (9 * k) 2)) ?_
          refine pr_iald (9 * k + 2) rfl h0 (by decide) (by omega) rfl (by omega) ?_
          refine pr_vi2 rfl (by decide) (Nat.le_of_ble_eq_true rfl) hfs (Nat.le_of_ble_eq_true rfl) (op_round hs _ _) (fun r_979 h_979 q_979 => ?_)
          obtain ⟨k0, ⟨fs2, k25⟩, hm⟩ := q_979
          refine pr_aload_n rfl rfl ?_
          refine pr_aload_n rfl rfl ?_
          refine pr_iload_n rfl rfl ?_
          refine pr_push (v := 1) rfl rfl ?_
          refine pr_step rfl rfl rfl rfl ?_
          refine pr_top ((show nI (9 * k) + 1 = nI (9 * k + 1) from nI_add (9 * k) 1)) ?_
          refine pr_iald (9 * k + 1) rfl k0 (by decide) (by omega) rfl (by omega) ?_
          refine pr_aload_n rfl rfl ?_
          refine pr_iload_n rfl rfl ?_
          refine pr_push (v := 2) rfl rfl ?_
          refine pr_step rfl rfl rfl rfl ?_
          refine pr_top ((show nI (9 * k) + 2 = nI (9 * k + 2) from nI_add (9 * k) 2)) ?_
          refine pr_iald (9 * k + 2) rfl k0 (by decide) (by omega) rfl (by omega) ?_
          refine pr_vi2 rfl (by decide) (Nat.le_of_ble_eq_true rfl) k25 (Nat.le_of_ble_eq_true rfl) hm (fun r_993 h_993 q_993 => ?_)
          obtain ⟨rfl, hs2⟩ := q_993
          refine pr_u_eq rfl (fun c_996 => ?_) (fun c_996 => ?_)
          · skip
            refine pr_iinc rfl rfl (show nI (9 * k) + Int32.ofInt 9 = nI (9 * (k + 1)) from nI_add (9 * k) 9) rfl ?_
            refine pr_step rfl rfl rfl rfl ?_
            exact ih (k + 1) _ (by omega) (by omega) hs2
          · skip
            exact absurd rfl c_996
        | 23, hj, hu =>
          obtain rfl := Option.some.inj hu
          refine pr_aload_n rfl rfl ?_
          refine pr_aload_n rfl rfl ?_
          refine pr_iload_n rfl rfl ?_
          refine pr_push (v := 1) rfl rfl ?_
          refine pr_step rfl rfl rfl rfl ?_
          refine pr_top ((show nI (9 * k) + 1 = nI (9 * k + 1) from nI_add (9 * k) 1)) ?_
          refine pr_iald (9 * k + 1) rfl h0 (by decide) (by omega) rfl (by omega) ?_
          refine pr_vi1 rfl (by decide) (Nat.le_of_ble_eq_true rfl) hfs (Nat.le_of_ble_eq_true rfl) (op_count hs _) (fun r_1007 h_1007 q_1007 => ?_)
          obtain ⟨k0, ⟨fs2, k25⟩, hm⟩ := q_1007
          refine pr_aload_n rfl rfl ?_
          refine pr_aload_n rfl rfl ?_
          refine pr_iload_n rfl rfl ?_
          refine pr_push (v := 1) rfl rfl ?_
          refine pr_step rfl rfl rfl rfl ?_
          refine pr_top ((show nI (9 * k) + 1 = nI (9 * k + 1) from nI_add (9 * k) 1)) ?_
          refine pr_iald (9 * k + 1) rfl k0 (by decide) (by omega) rfl (by omega) ?_
          refine pr_vi1 rfl (by decide) (Nat.le_of_ble_eq_true rfl) k25 (Nat.le_of_ble_eq_true rfl) hm (fun r_1016 h_1016 q_1016 => ?_)
          obtain ⟨rfl, hs2⟩ := q_1016
          refine pr_u_eq rfl (fun c_1019 => ?_) (fun c_1019 => ?_)
          · skip
            refine pr_iinc rfl rfl (show nI (9 * k) + Int32.ofInt 9 = nI (9 * (k + 1)) from nI_add (9 * k) 9) rfl ?_
            refine pr_step rfl rfl rfl rfl ?_
            exact ih (k + 1) _ (by omega) (by omega) hs2
          · skip
            exact absurd rfl c_1019
        | j + 24, hj, hu => exact absurd hx (by omega)
