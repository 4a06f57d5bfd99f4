theorem c_82_y (d : Nat) {N : Nat} {xs : Nat → Int32} {zc zm : Nat → Int32} {e3 e11 e18 : Nat} {A : Nat → Nat → Int32} {g gh : Nat → Option Nat} {dy : pw_H} (V : Int → Int → Bool) (hV : wl_sd V (A 53)) (p : Int32) (q0 : Nat → Int32) : ∀ (k y : Nat) (q : Nat → Int32) (g4 g5 : Option pw_V), y + k = 12 → wl_cl V p q0 q y 0 → pw_W (d + 3) 82 14 [some (.inr (some 25)), some (.inl p), some (.inl (nI (wl_ct V y))), some (.inl (nI y)), g4, g5] [] (hp_h N xs zc e3 e11 e18 zm (uA A 54 q) g gh dy) (pw_qi (fun r h' => r = nI (wl_ct V 12) ∧ ∃ q, h' = (hp_h N xs zc e3 e11 e18 zm (uA A 54 q) g gh dy) ∧ wl_cl V p q0 q 12 0)) := by
  have z12 := pz_12
  intro k
  induction k with
  | zero =>
    intro y q g4 g5 hy hq
    obtain rfl : y = 12 := by omega
    have hyT := pw_T (n := 12) (by omega)
    refine pr_iload_n rfl rfl ?_
    refine pr_push (v := 12) rfl rfl ?_
    refine pr_c_ge rfl (fun c_17 => ?_) (fun c_17 => ?_)
    · skip
      refine pr_iload_n rfl rfl ?_
      exact pr_reti rfl rfl (⟨rfl, q, rfl, hq⟩)
    · skip
      exact absurd c_17 (by omega)
  | succ k ih =>
    intro y q g4 g5 hy hq
    have hyT := pw_T (n := y) (by omega)
    refine pr_iload_n rfl rfl ?_
    refine pr_push (v := 12) rfl rfl ?_
    refine pr_c_ge rfl (fun c_17 => ?_) (fun c_17 => ?_)
    · skip
      exact absurd c_17 (by omega)
    · skip
      refine pr_push (v := 0) rfl rfl ?_
      refine pr_istore rfl (Nat.le_of_ble_eq_true rfl) rfl ?_
      refine pr_push (v := 0) rfl rfl ?_
      refine pr_istore rfl (Nat.le_of_ble_eq_true rfl) rfl ?_
      refine c_82_x d V hV p q0 y (by omega) _ (fun q2 g24 g25 hq2 => ?_) 12 0 q (by omega) hq
      refine pr_iinc rfl rfl (pw_inc y) rfl ?_
      refine pr_step rfl rfl rfl rfl ?_
      exact ih (y + 1) q2 _ _ (by omega) hq2
theorem c_82 (d : Nat) {N : Nat} {xs : Nat → Int32} {zc zm : Nat → Int32} {e3 e11 e18 : Nat} {A : Nat → Nat → Int32} {g gh : Nat → Option Nat} {dy : pw_H} (j n : Nat) (hj : j < 4) (hn : A 28 j = nI n) (hw : wl_ok (md_D A j) (md_L A j) (md_U A j) n) (hx0 : 0 ≤ (A 26 j).toInt ∧ (A 26 j).toInt ≤ 12) (hy0 : 0 ≤ (A 27 j).toInt ∧ (A 27 j).toInt ≤ 12) : pw_M (d + 3) 82 [.inr (some 25), .inl (nI j)] (hp_h N xs zc e3 e11 e18 zm A g gh dy) (pw_qi (fun r h' => (¬ ((wl_feas (md_D A j) (md_L A j) (md_U A j) n 0 ∧ wl_feas (md_D A j) (md_L A j) (md_U A j) n 1) ∧ wl_land (md_D A j) (wl_len (md_D A j) (md_L A j) (md_U A j) n) (A 26 j).toInt (A 27 j).toInt n) ∧ r = -1 ∧ ∃ f s : Nat → Int32, h' = (hp_h N xs zc e3 e11 e18 zm (uA (uA A 52 f) 53 s) g gh dy)) ∨ (((wl_feas (md_D A j) (md_L A j) (md_U A j) n 0 ∧ wl_feas (md_D A j) (md_L A j) (md_U A j) n 1) ∧ wl_land (md_D A j) (wl_len (md_D A j) (md_L A j) (md_U A j) n) (A 26 j).toInt (A 27 j).toInt n) ∧ r = nI (wl_ct (wl_V (md_D A j) (wl_len (md_D A j) (md_L A j) (md_U A j) n) (A 26 j).toInt (A 27 j).toInt n) 12) ∧ ∃ f s q : Nat → Int32, h' = (hp_h N xs zc e3 e11 e18 zm (uA (uA (uA A 52 f) 53 s) 54 q) g gh dy) ∧ wl_cl (wl_V (md_D A j) (wl_len (md_D A j) (md_L A j) (md_U A j) n) (A 26 j).toInt (A 27 j).toInt n) (nI j) (A 54) q 12 0))) := by
  refine pr_aload_n rfl rfl ?_
  refine pr_iload_n rfl rfl ?_
  refine pr_vi1 rfl (by decide) (Nat.le_of_ble_eq_true rfl) rfl (Nat.le_of_ble_eq_true rfl) (c_81 _ j n hj hn hw hx0 hy0) (fun r_2 h_2 q_2 => ?_)
  obtain ⟨f, s, e1_2, e2_2, hsd⟩ := q_2
  subst e1_2
  subst e2_2
  refine pr_b_ne rfl (fun c_5 => ?_) (fun c_5 => ?_)
  · skip
    refine pr_push (v := 0) rfl rfl ?_
    refine pr_istore_n rfl (Nat.le_of_ble_eq_true rfl) rfl ?_
    refine pr_push (v := 0) rfl rfl ?_
    refine pr_istore_n rfl (Nat.le_of_ble_eq_true rfl) rfl ?_
    refine pr_heap (show (hp_h N xs zc e3 e11 e18 zm (uA (uA A 52 f) 53 s) g gh dy) = (hp_h N xs zc e3 e11 e18 zm (uA (uA (uA A 52 f) 53 s) 54 (A 54)) g gh dy) by rw [← uA_self (uA (uA A 52 f) 53 s) 54]; rfl) ?_
    refine pr_post (c_82_y (A := uA (uA A 52 f) 53 s) d (wl_V (md_D A j) (wl_len (md_D A j) (md_L A j) (md_U A j) n) (A 26 j).toInt (A 27 j).toInt n) (hsd c_5) (nI j) (A 54) 12 0 (A 54) _ _ (by omega) (fun Y X hY hX => (if_neg (by omega)).symm)) (fun r h1 hq => ?_)
    obtain ⟨x, e1, e2, q, e3, e4⟩ := hq
    exact ⟨x, e1, Or.inr ⟨c_5, e2, f, s, q, e3, e4⟩⟩
  · skip
    refine pr_push (v := (-1)) rfl rfl ?_
    exact pr_reti rfl rfl (Or.inl ⟨c_5, rfl, f, s, rfl⟩)
