theorem c_40 (d : Nat) {N : Nat} {xs : Nat → Int32} {zc zm : Nat → Int32} {e3 e11 e18 : Nat} {A : Nat → Nat → Int32} {g gh : Nat → Option Nat} {dy : pw_H} (K : Nat) (hK : zc 12 = nI K) (hKb : K ≤ 6)  (x y w h dx dz ex ez : Int32) : pw_M (d + 3) 40 [.inr (some 1), .inl x, .inl y, .inl w, .inl h, .inl dx, .inl dz, .inl ex, .inl ez] (hp_h N xs zc e3 e11 e18 zm A g gh dy) (pw_qi (fun r h' => (¬ (pw_bt w 1 4 ∧ pw_bt h 1 4 ∧ (0 ≤ x.toInt ∧ x.toInt + w.toInt ≤ 12) ∧ (0 ≤ y.toInt ∧ y.toInt + h.toInt ≤ 12) ∧ (x.toInt ≤ dx.toInt ∧ dx.toInt < x.toInt + w.toInt) ∧ (y.toInt ≤ dz.toInt ∧ dz.toInt < y.toInt + h.toInt) ∧ (x.toInt ≤ ex.toInt ∧ ex.toInt < x.toInt + w.toInt) ∧ (y.toInt ≤ ez.toInt ∧ ez.toInt < y.toInt + h.toInt)) ∧ r = -2 ∧ h' = (hp_h N xs zc e3 e11 e18 zm A g gh dy)) ∨ (¬ (¬ (pw_bt w 1 4 ∧ pw_bt h 1 4 ∧ (0 ≤ x.toInt ∧ x.toInt + w.toInt ≤ 12) ∧ (0 ≤ y.toInt ∧ y.toInt + h.toInt ≤ 12) ∧ (x.toInt ≤ dx.toInt ∧ dx.toInt < x.toInt + w.toInt) ∧ (y.toInt ≤ dz.toInt ∧ dz.toInt < y.toInt + h.toInt) ∧ (x.toInt ≤ ex.toInt ∧ ex.toInt < x.toInt + w.toInt) ∧ (y.toInt ≤ ez.toInt ∧ ez.toInt < y.toInt + h.toInt))) ∧ K = 6 ∧ r = -4 ∧ h' = (hp_h N xs zc e3 e11 e18 zm A g gh dy)) ∨ (¬ (¬ (pw_bt w 1 4 ∧ pw_bt h 1 4 ∧ (0 ≤ x.toInt ∧ x.toInt + w.toInt ≤ 12) ∧ (0 ≤ y.toInt ∧ y.toInt + h.toInt ≤ 12) ∧ (x.toInt ≤ dx.toInt ∧ dx.toInt < x.toInt + w.toInt) ∧ (y.toInt ≤ dz.toInt ∧ dz.toInt < y.toInt + h.toInt) ∧ (x.toInt ≤ ex.toInt ∧ ex.toInt < x.toInt + w.toInt) ∧ (y.toInt ≤ ez.toInt ∧ ez.toInt < y.toInt + h.toInt))) ∧ ¬ (K = 6) ∧ r = nI K ∧ h' = (hp_h N xs (upd zc 12 (nI (K + 1))) e3 e11 e18 zm A g (va_up gh K (some (57 + dy.length))) (dy ++ [.inr (.inr (0, [.inl x, .inl y, .inl w, .inl h, .inl (12 * dz + dx), .inl (12 * ez + ex)]))]))))) := by
  have z0 := pz_0
  have z1 := pz_1
  have z2 := pz_2
  have z3 := pz_3
  have z4 := pz_4
  have z6 := pz_6
  have z7 := pz_7
  have z10 := pz_10
  have z11 := pz_11
  have z12 := pz_12
  have z20 := pz_20
  have z30 := pz_30
  have z50 := pz_50
  have z60 := pz_60
  have z80 := pz_80
  have z300 := pz_300
  have hKT : (zc 12).toInt = (K : Int) := by rw [hK]; exact pw_T (by omega)
  have hKP : (zc 12 - 1).toInt = (K : Int) - 1 := by rw [hK]; exact pw_pred (by omega)
  refine pr_iload_n rfl rfl ?_
  refine pr_iload_n rfl rfl ?_
  refine pr_si2 rfl (by decide) (Nat.le_of_ble_eq_true rfl) (Nat.le_of_ble_eq_true rfl) (c_50 _ _ _ _) (fun r_2 h_2 q_2 => ?_)
  obtain ⟨rfl, rfl⟩ := q_2
  refine pr_b_eq rfl (fun c_5 => ?_) (fun c_5 => ?_)
  · skip
    refine pr_push (v := (-2)) rfl rfl ?_
    exact pr_reti rfl rfl (Or.inl ⟨by omega, rfl, rfl⟩)
  · skip
    refine pr_iload_n rfl rfl ?_
    refine pr_push (v := 1) rfl rfl ?_
    refine pr_push (v := 4) rfl rfl ?_
    refine pr_si3 rfl (by decide) (Nat.le_of_ble_eq_true rfl) (Nat.le_of_ble_eq_true rfl) (c_48 _ _ _ _ _) (fun r_11 h_11 q_11 => ?_)
    obtain ⟨rfl, rfl⟩ := q_11
    refine pr_b_eq rfl (fun c_14 => ?_) (fun c_14 => ?_)
    · skip
      refine pr_push (v := (-2)) rfl rfl ?_
      exact pr_reti rfl rfl (Or.inl ⟨by omega, rfl, rfl⟩)
    · skip
      refine pr_iload rfl rfl ?_
      refine pr_push (v := 1) rfl rfl ?_
      refine pr_push (v := 4) rfl rfl ?_
      refine pr_si3 rfl (by decide) (Nat.le_of_ble_eq_true rfl) (Nat.le_of_ble_eq_true rfl) (c_48 _ _ _ _ _) (fun r_21 h_21 q_21 => ?_)
      obtain ⟨rfl, rfl⟩ := q_21
      refine pr_b_eq rfl (fun c_24 => ?_) (fun c_24 => ?_)
      · skip
        refine pr_push (v := (-2)) rfl rfl ?_
        exact pr_reti rfl rfl (Or.inl ⟨by omega, rfl, rfl⟩)
      · skip
        refine pr_iload_n rfl rfl ?_
        refine pr_iload_n rfl rfl ?_
        refine pr_step rfl rfl rfl rfl ?_
        refine pr_push (v := 1) rfl rfl ?_
        refine pr_step rfl rfl rfl rfl ?_
        refine pr_iload_n rfl rfl ?_
        refine pr_iload rfl rfl ?_
        refine pr_step rfl rfl rfl rfl ?_
        refine pr_push (v := 1) rfl rfl ?_
        refine pr_step rfl rfl rfl rfl ?_
        have s1 : (x + w - 1).toInt = x.toInt + w.toInt - 1 := by
          have e := pw_addT (a := x) (b := w) (by omega) (by omega)
          rw [pw_subT (by omega) (by omega)]
          omega
        have s2 : (y + h - 1).toInt = y.toInt + h.toInt - 1 := by
          have e := pw_addT (a := y) (b := h) (by omega) (by omega)
          rw [pw_subT (by omega) (by omega)]
          omega
        refine pr_si2 rfl (by decide) (Nat.le_of_ble_eq_true rfl) (Nat.le_of_ble_eq_true rfl) (c_50 _ _ _ _) (fun r_38 h_38 q_38 => ?_)
        obtain ⟨rfl, rfl⟩ := q_38
        refine pr_b_ne rfl (fun c_41 => ?_) (fun c_41 => ?_)
        · skip
          refine pr_iload rfl rfl ?_
          refine pr_iload_n rfl rfl ?_
          refine pr_iload_n rfl rfl ?_
          refine pr_iload_n rfl rfl ?_
          refine pr_step rfl rfl rfl rfl ?_
          refine pr_push (v := 1) rfl rfl ?_
          refine pr_step rfl rfl rfl rfl ?_
          refine pr_si3 rfl (by decide) (Nat.le_of_ble_eq_true rfl) (Nat.le_of_ble_eq_true rfl) (c_48 _ _ _ _ _) (fun r_55 h_55 q_55 => ?_)
          obtain ⟨rfl, rfl⟩ := q_55
          refine pr_b_eq rfl (fun c_58 => ?_) (fun c_58 => ?_)
          · skip
            refine pr_push (v := 0) rfl rfl ?_
            refine pr_istore rfl (Nat.le_of_ble_eq_true rfl) rfl ?_
            refine pr_iload rfl rfl ?_
            refine pr_iload_n rfl rfl ?_
            refine pr_iload_n rfl rfl ?_
            refine pr_iload_n rfl rfl ?_
            refine pr_step rfl rfl rfl rfl ?_
            refine pr_push (v := 1) rfl rfl ?_
            refine pr_step rfl rfl rfl rfl ?_
            refine pr_si3 rfl (by decide) (Nat.le_of_ble_eq_true rfl) (Nat.le_of_ble_eq_true rfl) (c_48 _ _ _ _ _) (fun r_91 h_91 q_91 => ?_)
            obtain ⟨rfl, rfl⟩ := q_91
            refine pr_b_eq rfl (fun c_94 => ?_) (fun c_94 => ?_)
            · skip
              refine pr_push (v := 0) rfl rfl ?_
              refine pr_istore rfl (Nat.le_of_ble_eq_true rfl) rfl ?_
              refine pr_iload rfl rfl ?_
              refine pr_step rfl rfl rfl rfl ?_
              refine pr_push (v := (-2)) rfl rfl ?_
              exact pr_reti rfl rfl (Or.inl ⟨by omega, rfl, rfl⟩)
            · skip
              refine pr_iload rfl rfl ?_
              refine pr_iload_n rfl rfl ?_
              refine pr_iload_n rfl rfl ?_
              refine pr_iload rfl rfl ?_
              refine pr_step rfl rfl rfl rfl ?_
              refine pr_push (v := 1) rfl rfl ?_
              refine pr_step rfl rfl rfl rfl ?_
              refine pr_si3 rfl (by decide) (Nat.le_of_ble_eq_true rfl) (Nat.le_of_ble_eq_true rfl) (c_48 _ _ _ _ _) (fun r_106 h_106 q_106 => ?_)
              obtain ⟨rfl, rfl⟩ := q_106
              refine pr_b_eq rfl (fun c_109 => ?_) (fun c_109 => ?_)
              · skip
                refine pr_push (v := 0) rfl rfl ?_
                refine pr_istore rfl (Nat.le_of_ble_eq_true rfl) rfl ?_
                refine pr_iload rfl rfl ?_
                refine pr_step rfl rfl rfl rfl ?_
                refine pr_push (v := (-2)) rfl rfl ?_
                exact pr_reti rfl rfl (Or.inl ⟨by omega, rfl, rfl⟩)
              · skip
                refine pr_push (v := 1) rfl rfl ?_
                refine pr_step rfl rfl rfl rfl ?_
                refine pr_istore rfl (Nat.le_of_ble_eq_true rfl) rfl ?_
                refine pr_iload rfl rfl ?_
                refine pr_step rfl rfl rfl rfl ?_
                refine pr_push (v := (-2)) rfl rfl ?_
                exact pr_reti rfl rfl (Or.inl ⟨by omega, rfl, rfl⟩)
          · skip
            refine pr_iload rfl rfl ?_
            refine pr_iload_n rfl rfl ?_
            refine pr_iload_n rfl rfl ?_
            refine pr_iload rfl rfl ?_
            refine pr_step rfl rfl rfl rfl ?_
            refine pr_push (v := 1) rfl rfl ?_
            refine pr_step rfl rfl rfl rfl ?_
            refine pr_si3 rfl (by decide) (Nat.le_of_ble_eq_true rfl) (Nat.le_of_ble_eq_true rfl) (c_48 _ _ _ _ _) (fun r_70 h_70 q_70 => ?_)
            obtain ⟨rfl, rfl⟩ := q_70
            refine pr_b_eq rfl (fun c_73 => ?_) (fun c_73 => ?_)
            · skip
              refine pr_push (v := 0) rfl rfl ?_
              refine pr_istore rfl (Nat.le_of_ble_eq_true rfl) rfl ?_
              refine pr_iload rfl rfl ?_
              refine pr_iload_n rfl rfl ?_
              refine pr_iload_n rfl rfl ?_
              refine pr_iload_n rfl rfl ?_
              refine pr_step rfl rfl rfl rfl ?_
              refine pr_push (v := 1) rfl rfl ?_
              refine pr_step rfl rfl rfl rfl ?_
              refine pr_si3 rfl (by decide) (Nat.le_of_ble_eq_true rfl) (Nat.le_of_ble_eq_true rfl) (c_48 _ _ _ _ _) (fun r_91 h_91 q_91 => ?_)
              obtain ⟨rfl, rfl⟩ := q_91
              refine pr_b_eq rfl (fun c_94 => ?_) (fun c_94 => ?_)
              · skip
                refine pr_push (v := 0) rfl rfl ?_
                refine pr_istore rfl (Nat.le_of_ble_eq_true rfl) rfl ?_
                refine pr_iload rfl rfl ?_
                refine pr_step rfl rfl rfl rfl ?_
                refine pr_push (v := (-2)) rfl rfl ?_
                exact pr_reti rfl rfl (Or.inl ⟨by omega, rfl, rfl⟩)
              · skip
                refine pr_iload rfl rfl ?_
                refine pr_iload_n rfl rfl ?_
                refine pr_iload_n rfl rfl ?_
                refine pr_iload rfl rfl ?_
                refine pr_step rfl rfl rfl rfl ?_
                refine pr_push (v := 1) rfl rfl ?_
                refine pr_step rfl rfl rfl rfl ?_
                refine pr_si3 rfl (by decide) (Nat.le_of_ble_eq_true rfl) (Nat.le_of_ble_eq_true rfl) (c_48 _ _ _ _ _) (fun r_106 h_106 q_106 => ?_)
                obtain ⟨rfl, rfl⟩ := q_106
                refine pr_b_eq rfl (fun c_109 => ?_) (fun c_109 => ?_)
                · skip
                  refine pr_push (v := 0) rfl rfl ?_
                  refine pr_istore rfl (Nat.le_of_ble_eq_true rfl) rfl ?_
                  refine pr_iload rfl rfl ?_
                  refine pr_step rfl rfl rfl rfl ?_
                  refine pr_push (v := (-2)) rfl rfl ?_
                  exact pr_reti rfl rfl (Or.inl ⟨by omega, rfl, rfl⟩)
                · skip
                  refine pr_push (v := 1) rfl rfl ?_
                  refine pr_step rfl rfl rfl rfl ?_
                  refine pr_istore rfl (Nat.le_of_ble_eq_true rfl) rfl ?_
                  refine pr_iload rfl rfl ?_
                  refine pr_step rfl rfl rfl rfl ?_
                  refine pr_push (v := (-2)) rfl rfl ?_
                  exact pr_reti rfl rfl (Or.inl ⟨by omega, rfl, rfl⟩)
            · skip
              refine pr_push (v := 1) rfl rfl ?_
              refine pr_step rfl rfl rfl rfl ?_
              refine pr_istore rfl (Nat.le_of_ble_eq_true rfl) rfl ?_
              refine pr_iload rfl rfl ?_
              refine pr_iload_n rfl rfl ?_
              refine pr_iload_n rfl rfl ?_
              refine pr_iload_n rfl rfl ?_
              refine pr_step rfl rfl rfl rfl ?_
              refine pr_push (v := 1) rfl rfl ?_
              refine pr_step rfl rfl rfl rfl ?_
              refine pr_si3 rfl (by decide) (Nat.le_of_ble_eq_true rfl) (Nat.le_of_ble_eq_true rfl) (c_48 _ _ _ _ _) (fun r_91 h_91 q_91 => ?_)
              obtain ⟨rfl, rfl⟩ := q_91
              refine pr_b_eq rfl (fun c_94 => ?_) (fun c_94 => ?_)
              · skip
                refine pr_push (v := 0) rfl rfl ?_
                refine pr_istore rfl (Nat.le_of_ble_eq_true rfl) rfl ?_
                refine pr_iload rfl rfl ?_
                refine pr_step rfl rfl rfl rfl ?_
                refine pr_iload rfl rfl ?_
                refine pr_step rfl rfl rfl rfl ?_
                refine pr_push (v := (-2)) rfl rfl ?_
                exact pr_reti rfl rfl (Or.inl ⟨by omega, rfl, rfl⟩)
              · skip
                refine pr_iload rfl rfl ?_
                refine pr_iload_n rfl rfl ?_
                refine pr_iload_n rfl rfl ?_
                refine pr_iload rfl rfl ?_
                refine pr_step rfl rfl rfl rfl ?_
                refine pr_push (v := 1) rfl rfl ?_
                refine pr_step rfl rfl rfl rfl ?_
                refine pr_si3 rfl (by decide) (Nat.le_of_ble_eq_true rfl) (Nat.le_of_ble_eq_true rfl) (c_48 _ _ _ _ _) (fun r_106 h_106 q_106 => ?_)
                obtain ⟨rfl, rfl⟩ := q_106
                refine pr_b_eq rfl (fun c_109 => ?_) (fun c_109 => ?_)
                · skip
                  refine pr_push (v := 0) rfl rfl ?_
                  refine pr_istore rfl (Nat.le_of_ble_eq_true rfl) rfl ?_
                  refine pr_iload rfl rfl ?_
                  refine pr_step rfl rfl rfl rfl ?_
                  refine pr_iload rfl rfl ?_
                  refine pr_step rfl rfl rfl rfl ?_
                  refine pr_push (v := (-2)) rfl rfl ?_
                  exact pr_reti rfl rfl (Or.inl ⟨by omega, rfl, rfl⟩)
                · skip
                  refine pr_push (v := 1) rfl rfl ?_
                  refine pr_step rfl rfl rfl rfl ?_
                  refine pr_istore rfl (Nat.le_of_ble_eq_true rfl) rfl ?_
                  refine pr_iload rfl rfl ?_
                  refine pr_step rfl rfl rfl rfl ?_
                  refine pr_iload rfl rfl ?_
                  refine pr_step rfl rfl rfl rfl ?_
                  refine pr_aload_n rfl rfl ?_
                  refine pr_getf rfl rfl rfl ?_
                  refine pr_push (v := 6) rfl rfl ?_
                  refine pr_c_lt rfl (fun c_138 => ?_) (fun c_138 => ?_)
                  · skip
                    refine pr_aload_n rfl rfl ?_
                    refine pr_getf rfl rfl rfl ?_
                    refine pr_aload_n rfl rfl ?_
                    refine pr_getf rfl rfl rfl ?_
                    refine pr_new (57 + dy.length) rfl hp_len rfl ?_
                    refine pr_step rfl rfl rfl rfl ?_
                    refine pr_iload_n rfl rfl ?_
                    refine pr_iload_n rfl rfl ?_
                    refine pr_iload_n rfl rfl ?_
                    refine pr_iload rfl rfl ?_
                    refine pr_iload rfl rfl ?_
                    refine pr_iload rfl rfl ?_
                    refine pr_si2 rfl (by decide) (Nat.le_of_ble_eq_true rfl) (Nat.le_of_ble_eq_true rfl) (c_55 _ _ _ _) (fun r_165 h_165 q_165 => ?_)
                    obtain ⟨rfl, rfl⟩ := q_165
                    refine pr_iload rfl rfl ?_
                    refine pr_iload rfl rfl ?_
                    refine pr_si2 rfl (by decide) (Nat.le_of_ble_eq_true rfl) (Nat.le_of_ble_eq_true rfl) (c_55 _ _ _ _) (fun r_172 h_172 q_172 => ?_)
                    obtain ⟨rfl, rfl⟩ := q_172
                    refine pr_xv6 rfl (by decide) (Nat.le_of_ble_eq_true rfl) (wg0b hp_len rfl) (Nat.le_of_ble_eq_true rfl) (c_1b _ _ _ hp_len _ _ _ _ _ _) (fun h_175 q_175 => ?_)
                    subst q_175
                    refine pr_heap hp_app ?_
                    refine pr_aast K rfl rfl (hp_dy.trans (wg0b rfl rfl)) (by decide) hK (by omega) hs_gh ?_
                    refine pr_aload_n rfl rfl ?_
                    refine pr_step rfl rfl rfl rfl ?_
                    refine pr_getf rfl rfl rfl ?_
                    refine pr_step rfl rfl rfl rfl ?_
                    refine pr_push (v := 1) rfl rfl ?_
                    refine pr_step rfl rfl rfl rfl ?_
                    refine pr_top (pw_s hK) ?_
                    refine pr_putf rfl rfl (Nat.le_of_ble_eq_true rfl) rfl hs_c12 ?_
                    exact pr_reti rfl rfl (Or.inr (Or.inr ⟨by omega, by omega, hK, rfl⟩))
                  · skip
                    refine pr_push (v := (-4)) rfl rfl ?_
                    exact pr_reti rfl rfl (Or.inr (Or.inl ⟨by omega, by omega, rfl, rfl⟩))
        · skip
          refine pr_push (v := (-2)) rfl rfl ?_
          exact pr_reti rfl rfl (Or.inl ⟨by omega, rfl, rfl⟩)
/-- the houses as the class has them -/
def ho_ok (gh : Nat → Option Nat) (dy : pw_H) (K : Nat) (vs : Nat → Nat → Nat) : Prop := ∀ j, j < K → ∃ k, gh j = some (57 + k) ∧ dy[k]? = some (.inr (.inr (0, [.inl (nI (vs j 0)), .inl (nI (vs j 1)), .inl (nI (vs j 2)), .inl (nI (vs j 3)), .inl (nI (vs j 4)), .inl (nI (vs j 5))]))) ∧ vs j 0 + vs j 2 ≤ 12 ∧ vs j 1 + vs j 3 ≤ 12 ∧ vs j 4 < 144 ∧ vs j 5 < 144
theorem ho_case {gh : Nat → Option Nat} {K : Nat} {z p : Int32} {r : Option Nat} (hz : z.toInt = (K : Int) - 1) (hKb : K ≤ 6) (hgn : ∀ j, K ≤ j → j < 6 → gh j = none) (q : (¬ pw_bt p 0 5 ∧ r = none) ∨ ∃ j : Nat, j < 6 ∧ p = nI j ∧ r = gh j) : (¬ pw_bt p 0 z ∧ r = none) ∨ ∃ j : Nat, j < K ∧ p = nI j ∧ r = gh j := by
  have z0 := pz_0
  have z5 := pz_5
  rcases q with ⟨h1, h2⟩ | ⟨j, h1, h2, h3⟩
  · exact Or.inl ⟨by omega, h2⟩
  · have hjT := pw_T (n := j) (by omega)
    by_cases hj : j < K
    · exact Or.inr ⟨j, hj, h2, h3⟩
    · refine Or.inl ⟨?_, h3.trans (hgn j (by omega) h1)⟩
      rw [h2]
      omega
theorem c_42 (d : Nat) {N : Nat} {xs : Nat → Int32} {zc zm : Nat → Int32} {e3 e11 e18 : Nat} {A : Nat → Nat → Int32} {g gh : Nat → Option Nat} {dy : pw_H} (K : Nat) (hK : zc 12 = nI K) (hKb : K ≤ 6) (b : Nat → Nat → Nat → Bool) (hsr : sr_ok g dy b) (he3 : e3 ≤ 12) (he18 : e18 ≤ 10) (vs : Nat → Nat → Nat) (hhs : ho_ok gh dy K vs) (hgh : ∀ j, K ≤ j → j < 6 → gh j = none) (h u yr : Int32) (ho : gp_ok (co_of A e3 b yr)) : pw_M (d + 6) 42 [.inr (some 1), .inl h, .inl u, .inl yr] (hp_h N xs zc e3 e11 e18 zm A g gh dy) (pw_qi (fun r h' => (¬ (pw_bt h 0 (zc 12 - 1) ∧ pw_bt u 0 3 ∧ pw_yr yr) ∧ r = -2 ∧ h' = (hp_h N xs zc e3 e11 e18 zm A g gh dy)) ∨ ((pw_bt h 0 (zc 12 - 1) ∧ pw_bt u 0 3 ∧ pw_yr yr) ∧ ∃ j : Nat, j < K ∧ h = nI j ∧ r = ws_of (ld_run u yr 300 0 (A 19) (A 20) (A 21) (A 22) e18).2 (gc_st (gp_all (co_of A e3 b yr) (vs j 0) (vs j 1) (vs j 2) (vs j 3)) 4).2 ((co_of A e3 b yr) (vs j 4)) ((co_of A e3 b yr) (vs j 5)) ∧ ∃ c : Nat → Int32, h' = (hp_h N xs zc e3 e11 e18 zm (uA A 23 c) g gh dy)))) := by
  have z0 := pz_0
  have z1 := pz_1
  have z2 := pz_2
  have z3 := pz_3
  have z4 := pz_4
  have z6 := pz_6
  have z7 := pz_7
  have z10 := pz_10
  have z11 := pz_11
  have z12 := pz_12
  have z20 := pz_20
  have z30 := pz_30
  have z50 := pz_50
  have z60 := pz_60
  have z80 := pz_80
  have z300 := pz_300
  have hKT : (zc 12).toInt = (K : Int) := by rw [hK]; exact pw_T (by omega)
  have hKP : (zc 12 - 1).toInt = (K : Int) - 1 := by rw [hK]; exact pw_pred (by omega)
  refine pr_aload_n rfl rfl ?_
  refine pr_iload_n rfl rfl ?_
  refine pr_vr1 rfl (by decide) (Nat.le_of_ble_eq_true rfl) rfl (Nat.le_of_ble_eq_true rfl) (c_57 _ _) (fun r_2 h_2 q_2 => ?_)
  obtain ⟨q, rfl⟩ := q_2
  refine pr_astore rfl (Nat.le_of_ble_eq_true rfl) rfl ?_
  refine pr_aload rfl rfl ?_
  rcases ho_case hKP hKb hgh q with ⟨hnb, hrn⟩ | ⟨j, hjK, hjp, hrg⟩
  · skip
    rw [hrn]
    refine pr_step rfl rfl rfl rfl ?_
    refine pr_push (v := (-2)) rfl rfl ?_
    exact pr_reti rfl rfl (Or.inl ⟨by omega, rfl, rfl⟩)
  · skip
    obtain ⟨k, hgk, hho, hd6, hd7, hd8, hd9⟩ := hhs j hjK
    have hjT := pw_T (n := j) (by omega)
    have hpT : h.toInt = (j : Int) := by rw [hjp]; exact hjT
    rw [hrg, hgk]
    refine pr_step rfl rfl rfl rfl ?_
    refine pr_iload_n rfl rfl ?_
    refine pr_push (v := 0) rfl rfl ?_
    refine pr_push (v := 3) rfl rfl ?_
    refine pr_si3 rfl (by decide) (Nat.le_of_ble_eq_true rfl) (Nat.le_of_ble_eq_true rfl) (c_48 _ _ _ _ _) (fun r_15 h_15 q_15 => ?_)
    obtain ⟨rfl, rfl⟩ := q_15
    refine pr_b_eq rfl (fun c_18 => ?_) (fun c_18 => ?_)
    · skip
      refine pr_push (v := (-2)) rfl rfl ?_
      exact pr_reti rfl rfl (Or.inl ⟨by omega, rfl, rfl⟩)
    · skip
      refine pr_iload_n rfl rfl ?_
      refine pr_si1 rfl (by decide) (Nat.le_of_ble_eq_true rfl) (Nat.le_of_ble_eq_true rfl) (c_51 _ _ _) (fun r_22 h_22 q_22 => ?_)
      obtain ⟨rfl, rfl⟩ := q_22
      refine pr_b_ne rfl (fun c_25 => ?_) (fun c_25 => ?_)
      · skip
        refine pr_aload_n rfl rfl ?_
        refine pr_getf rfl rfl rfl ?_
        refine pr_iload_n rfl rfl ?_
        refine pr_iload_n rfl rfl ?_
        refine pr_push (v := 300) rfl rfl ?_
        refine pr_push (v := 0) rfl rfl ?_
        refine pr_vi4 rfl (by decide) (Nat.le_of_ble_eq_true rfl) rfl (Nat.le_of_ble_eq_true rfl) (lc_6 _ _ 18 19 20 21 22 10 e18 _ _ _ _ (hl_18 he18) _ _ _ _) (fun r_41 h_41 q_41 => ?_)
        obtain ⟨rfl, rfl⟩ := q_41
        refine pr_istore rfl (Nat.le_of_ble_eq_true rfl) rfl ?_
        refine pr_iload rfl rfl ?_
        refine pr_push (v := 1) rfl rfl ?_
        refine pr_c_ne rfl (fun c_49 => ?_) (fun c_49 => ?_)
        · skip
          refine pr_iload rfl rfl ?_
          refine pr_push (v := 2) rfl rfl ?_
          refine pr_c_ne rfl (fun c_66 => ?_) (fun c_66 => ?_)
          · skip
            refine pr_push (v := (-1)) rfl rfl ?_
            refine pr_istore rfl (Nat.le_of_ble_eq_true rfl) rfl ?_
            refine pr_iload rfl rfl ?_
            refine pr_push (v := (-1)) rfl rfl ?_
            refine pr_step rfl rfl rfl rfl ?_
            refine pr_aload_n rfl rfl ?_
            refine pr_aload rfl rfl ?_
            refine pr_getf rfl (hp_dy.trans hho) rfl ?_
            refine pr_iload_n rfl rfl ?_
            refine pr_vi2 rfl (by decide) (Nat.le_of_ble_eq_true rfl) rfl (Nat.le_of_ble_eq_true rfl) (c_59 _ b hsr he3 _ (by omega) yr) (fun r_95 h_95 q_95 => ?_)
            obtain ⟨rfl, rfl⟩ := q_95
            refine pr_step rfl rfl rfl rfl ?_
            exact pr_reti rfl rfl (by
                refine Or.inr ⟨by omega, j, hjK, hjp, ?_, A 23, by rw [uA_self]⟩
                unfold ws_of
                rw [if_neg (fun z => c_66 z.1), if_neg c_49])
          · skip
            refine pr_aload_n rfl rfl ?_
            refine pr_aload rfl rfl ?_
            refine pr_iload_n rfl rfl ?_
            refine pr_vi2 rfl (by decide) (Nat.le_of_ble_eq_true rfl) rfl (Nat.le_of_ble_eq_true rfl) (c_61 _ b hsr he3 (vs j 0) (vs j 1) (vs j 2) (vs j 3) hho hd6 hd7 yr ho) (fun r_73 h_73 q_73 => ?_)
            obtain ⟨e73, c, rfl⟩ := q_73
            refine pr_step rfl rfl rfl rfl ?_
            refine pr_istore rfl (Nat.le_of_ble_eq_true rfl) rfl ?_
            refine pr_iload rfl rfl ?_
            refine pr_push (v := (-1)) rfl rfl ?_
            refine pr_c_ne rfl (fun c_85 => ?_) (fun c_85 => ?_)
            · skip
              refine pr_iload rfl rfl ?_
              exact pr_reti rfl rfl (by
    refine Or.inr ⟨by omega, j, hjK, hjp, ?_, c, rfl⟩
    unfold ws_of
    first
    | (have h9 := e95; rw [if_neg (fun z => z.2 (e73.symm.trans c_85)), if_neg c_49]; exact h9)
    | (rw [if_pos ⟨c_66, fun z => c_85 (e73.trans z)⟩]; exact e73))
            · skip
              refine pr_aload_n rfl rfl ?_
              refine pr_aload rfl rfl ?_
              refine pr_getf rfl (hp_dy.trans hho) rfl ?_
              refine pr_iload_n rfl rfl ?_
              refine pr_vi2 rfl (by decide) (Nat.le_of_ble_eq_true rfl) rfl (Nat.le_of_ble_eq_true rfl) (c_59 (A := (uA A 23 c)) _ b hsr he3 _ (by omega) yr) (fun r_95 h_95 q_95 => ?_)
              obtain ⟨e_95, rfl⟩ := q_95
              have e95 : r_95 = co_of A e3 b yr (vs j 4) := e_95
              refine pr_step rfl rfl rfl rfl ?_
              exact pr_reti rfl rfl (by
    refine Or.inr ⟨by omega, j, hjK, hjp, ?_, c, rfl⟩
    unfold ws_of
    first
    | (have h9 := e95; rw [if_neg (fun z => z.2 (e73.symm.trans c_85)), if_neg c_49]; exact h9)
    | (rw [if_pos ⟨c_66, fun z => c_85 (e73.trans z)⟩]; exact e73))
        · skip
          refine pr_aload_n rfl rfl ?_
          refine pr_aload rfl rfl ?_
          refine pr_getf rfl (hp_dy.trans hho) rfl ?_
          refine pr_iload_n rfl rfl ?_
          refine pr_vi2 rfl (by decide) (Nat.le_of_ble_eq_true rfl) rfl (Nat.le_of_ble_eq_true rfl) (c_59 _ b hsr he3 _ (by omega) yr) (fun r_59 h_59 q_59 => ?_)
          obtain ⟨rfl, rfl⟩ := q_59
          exact pr_reti rfl rfl (by
    refine Or.inr ⟨by omega, j, hjK, hjp, ?_, A 23, by rw [uA_self]⟩
    unfold ws_of
    rw [c_49, if_neg (fun z => absurd z.1 (by decide)), if_pos rfl])
      · skip
        refine pr_push (v := (-2)) rfl rfl ?_
        exact pr_reti rfl rfl (Or.inl ⟨by omega, rfl, rfl⟩)
