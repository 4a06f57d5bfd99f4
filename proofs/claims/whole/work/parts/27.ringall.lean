section HR2
variable {N : Nat} {xs : Nat → Int32} {zc zm : Nat → Int32} {e3 e11 e18 : Nat} {A : Nat → Nat → Int32} {g gh : Nat → Option Nat} {dy : pw_H} {f s : Nat → Int32}
theorem hq_53 : (hp_h N xs zc e3 e11 e18 zm (uA A 53 s) g gh dy)[53]? = some (.inl (1, 156, s)) := rfl
end HR2
theorem pz_156 : (156 : Int32).toInt = 156 := rfl
theorem c_81_clr (d : Nat) {N : Nat} {xs : Nat → Int32} {zc zm : Nat → Int32} {e3 e11 e18 : Nat} {A : Nat → Nat → Int32} {g gh : Nat → Option Nat} {dy : pw_H} (j : Nat) (Q : Option pw_V → pw_H → Prop) (K : ∀ (s : Nat → Int32) (x : Int32) (g3 g4 g5 g6 g7 g8 g9 : Option pw_V), (∀ k, k < 156 → s k = 0) → pw_W (d + 2) 81 22 [some (.inr (some 25)), some (.inl (nI j)), some (.inl x), g3, g4, g5, g6, g7, g8, g9] [] (hp_h N xs zc e3 e11 e18 zm (uA A 53 s) g gh dy) Q) (g3 g4 g5 g6 g7 g8 g9 : Option pw_V) : ∀ (c k : Nat) (s : Nat → Int32), k + c = 156 → (∀ q, q < k → s q = 0) → pw_W (d + 2) 81 2 [some (.inr (some 25)), some (.inl (nI j)), some (.inl (nI k)), g3, g4, g5, g6, g7, g8, g9] [] (hp_h N xs zc e3 e11 e18 zm (uA A 53 s) g gh dy) Q := by
  have z156 := pz_156
  intro c
  induction c with
  | zero =>
    intro k s hk hs
    obtain rfl : k = 156 := by omega
    have hkT := pw_T (n := 156) (by omega)
    refine pr_iload_n rfl rfl ?_
    refine pr_push (v := 156) rfl rfl ?_
    refine pr_c_ge rfl (fun c_6 => ?_) (fun c_6 => ?_)
    · skip
      exact K s _ g3 g4 g5 g6 g7 g8 g9 hs
    · skip
      exact absurd c_6 (by omega)
  | succ c ih =>
    intro k s hk hs
    have hkT := pw_T (n := k) (by omega)
    refine pr_iload_n rfl rfl ?_
    refine pr_push (v := 156) rfl rfl ?_
    refine pr_c_ge rfl (fun c_6 => ?_) (fun c_6 => ?_)
    · skip
      exact absurd c_6 (by omega)
    · skip
      refine pr_aload_n rfl rfl ?_
      refine pr_getf rfl rfl rfl ?_
      refine pr_iload_n rfl rfl ?_
      refine pr_push (v := 0) rfl rfl ?_
      refine pr_zast (k) rfl hq_53 (by decide) rfl (by omega) rfl ht_a53 ?_
      refine pr_iinc rfl rfl (pw_inc k) rfl ?_
      refine pr_step rfl rfl rfl rfl ?_
      exact ih (k + 1) _ (by omega) (fun q hq => by
        by_cases hqk : q = k
        · rw [hqk, pk_us]
        · rw [pk_un hqk]; exact hs q (by omega))
theorem c_81 (d : Nat) {N : Nat} {xs : Nat → Int32} {zc zm : Nat → Int32} {e3 e11 e18 : Nat} {A : Nat → Nat → Int32} {g gh : Nat → Option Nat} {dy : pw_H} (j n : Nat) (hj : j < 4) (hn : A 28 j = nI n) (hw : wl_ok (md_D A j) (md_L A j) (md_U A j) n) (hx0 : 0 ≤ (A 26 j).toInt ∧ (A 26 j).toInt ≤ 12) (hy0 : 0 ≤ (A 27 j).toInt ∧ (A 27 j).toInt ≤ 12) : pw_M (d + 2) 81 [.inr (some 25), .inl (nI j)] (hp_h N xs zc e3 e11 e18 zm A g gh dy) (pw_qi (fun r h' => ∃ f s : Nat → Int32, h' = (hp_h N xs zc e3 e11 e18 zm (uA (uA A 52 f) 53 s) g gh dy) ∧ r = pw_b ((wl_feas (md_D A j) (md_L A j) (md_U A j) n 0 ∧ wl_feas (md_D A j) (md_L A j) (md_U A j) n 1) ∧ wl_land (md_D A j) (wl_len (md_D A j) (md_L A j) (md_U A j) n) (A 26 j).toInt (A 27 j).toInt n) ∧ (((wl_feas (md_D A j) (md_L A j) (md_U A j) n 0 ∧ wl_feas (md_D A j) (md_L A j) (md_U A j) n 1) ∧ wl_land (md_D A j) (wl_len (md_D A j) (md_L A j) (md_U A j) n) (A 26 j).toInt (A 27 j).toInt n) → wl_sd (wl_V (md_D A j) (wl_len (md_D A j) (md_L A j) (md_U A j) n) (A 26 j).toInt (A 27 j).toInt n) s))) := by
  refine pr_push (v := 0) rfl rfl ?_
  refine pr_istore_n rfl (Nat.le_of_ble_eq_true rfl) rfl ?_
  refine pr_heap (show (hp_h N xs zc e3 e11 e18 zm A g gh dy) = (hp_h N xs zc e3 e11 e18 zm (uA A 53 (A 53)) g gh dy) by rw [uA_self]) ?_
  refine c_81_clr d j _ (fun s x g3 g4 g5 g6 g7 g8 g9 hs0 => ?_) _ _ _ _ _ _ _ 156 0 (A 53) (by omega) (fun q hq => absurd hq (Nat.not_lt_zero q))
  refine pr_aload_n rfl rfl ?_
  refine pr_iload_n rfl rfl ?_
  refine pr_vi1 rfl (by decide) (Nat.le_of_ble_eq_true rfl) rfl (Nat.le_of_ble_eq_true rfl) (c_79 (A := uA A 53 s) _ j n hj hn hw) (fun r_24 h_24 q_24 => ?_)
  obtain ⟨e_24, f, eh_24, hfl⟩ := q_24
  subst eh_24
  refine pr_heap (show (hp_h N xs zc e3 e11 e18 zm (uA (uA A 53 s) 52 f) g gh dy) = (hp_h N xs zc e3 e11 e18 zm (uA (uA A 52 f) 53 s) g gh dy) by rw [uA_comm A (by decide)]) ?_
  rw [show r_24 = pw_b (wl_feas (md_D A j) (md_L A j) (md_U A j) n 0 ∧ wl_feas (md_D A j) (md_L A j) (md_U A j) n 1) from e_24]
  clear e_24
  refine pr_b_ne rfl (fun c_27 => ?_) (fun c_27 => ?_)
  · skip
    have hfk : ∀ k, k < n → (f k).toInt = (wl_len (md_D A j) (md_L A j) (md_U A j) n) k := hfl c_27
    refine pr_aload_n rfl rfl ?_
    refine pr_getf rfl rfl rfl ?_
    refine pr_iload_n rfl rfl ?_
    refine pr_iald (j) rfl hr_26 (by decide) (by decide) rfl (by omega) ?_
    refine pr_istore_n rfl (Nat.le_of_ble_eq_true rfl) rfl ?_
    refine pr_aload_n rfl rfl ?_
    refine pr_getf rfl rfl rfl ?_
    refine pr_iload_n rfl rfl ?_
    refine pr_iald (j) rfl hr_27 (by decide) (by decide) rfl (by omega) ?_
    refine pr_istore_n rfl (Nat.le_of_ble_eq_true rfl) rfl ?_
    refine pr_push (v := 0) rfl rfl ?_
    refine pr_istore rfl (Nat.le_of_ble_eq_true rfl) rfl ?_
    exact c_81_legs d j n hj hn hw hx0 hy0 c_27 f hfk n 0 _ _ s _ _ _ _ _ (by omega) rfl rfl ⟨hx0, hy0⟩ (fun k hk => absurd hk (Nat.not_lt_zero k)) (fun X Y hX hY => by rw [hs0 _ (by omega)]; rfl)
  · skip
    refine pr_push (v := 0) rfl rfl ?_
    exact pr_retb rfl rfl rfl (⟨f, s, rfl, by rw [pw_b0 (fun hh => c_27 hh.1)], fun hh => absurd hh.1 c_27⟩)
