theorem c_1b (d : Nat) (H : pw_H) (a : Nat) (ha : H.length = a) (x y w h dr he : Int32) : pw_M (d + 1) 1 [.inr (some a), .inl x, .inl y, .inl w, .inl h, .inl dr, .inl he] (H ++ [.inr (.inr (0, pw_def 0))]) (pw_qv (fun h' => h' = H ++ [.inr (.inr (0, [.inl x, .inl y, .inl w, .inl h, .inl dr, .inl he]))])) := by
  subst ha
  exact c_1 d H x y w h dr he
abbrev wk_z (a : Nat) (x y : Int32) : pw_H := wk_c a x y (fun _ => 0) (fun _ => 0) (fun _ => 0) (fun _ => 0) (fun _ => 0) 0 1 1 []
theorem c_7b (d : Nat) (H : pw_H) (a : Nat) (ha : H.length = a) (x y : Int32) : pw_M (d + 1) 7 [.inr (some a), .inl x, .inl y] (H ++ [.inr (.inr (2, pw_def 2))]) (pw_qv (fun h' => h' = H ++ wk_z a x y)) := by
  subst ha
  exact c_7 d H x y
/-- a parish's walk as the class has it -/
def pa_ok (g : Nat → Option Nat) (dy : pw_H) (A : Nat → Nat → Int32) (ns : Nat → Nat) (j : Nat) : Prop := ∃ (k : Nat) (D L U C R : Nat → Int32), g j = some (57 + k) ∧ wk_at dy k (A 26 j) (A 27 j) D L U C R (ns j) (pw_b (wk_fe D L U (ns j))) (pw_b (wk_rg D L U (ns j) (A 26 j) (A 27 j))) ∧ wk_res D L U C R (ns j) (A 26 j) (A 27 j) ∧ ∀ i, i < ns j → D i = A 29 (12 * j + i) ∧ L i = A 30 (12 * j + i) ∧ U i = A 31 (12 * j + i)
theorem pa_case {g : Nat → Option Nat} {P : Nat} {z p : Int32} {r : Option Nat} (hz : z.toInt = (P : Int) - 1) (hPb : P ≤ 4) (hgn : ∀ j, P ≤ j → j < 4 → g j = none) (q : (¬ pw_bt p 0 3 ∧ r = none) ∨ ∃ j : Nat, j < 4 ∧ p = nI j ∧ r = g j) : (¬ pw_bt p 0 z ∧ r = none) ∨ ∃ j : Nat, j < P ∧ p = nI j ∧ r = g j := by
  have z0 := pz_0
  have z3 := pz_3
  rcases q with ⟨h1, h2⟩ | ⟨j, h1, h2, h3⟩
  · exact Or.inl ⟨by omega, h2⟩
  · have hjT := pw_T (n := j) (by omega)
    by_cases hj : j < P
    · exact Or.inr ⟨j, hj, h2, h3⟩
    · refine Or.inl ⟨?_, h3.trans (hgn j (by omega) h1)⟩
      rw [h2]
      omega
theorem ok_new {D L U : Nat → Int32} {D2 L2 U2 : Nat → Int} {n : Nat} {e l u : Int32} (hw : wl_ok D2 L2 U2 n) (hag : ∀ i, i < n → (D i).toInt = D2 i ∧ (L i).toInt = L2 i ∧ (U i).toInt = U2 i) (hn : n < 12) (he : 0 ≤ e.toInt ∧ e.toInt ≤ 3) (hl : 1 ≤ l.toInt ∧ l.toInt ≤ u.toInt ∧ u.toInt ≤ 12) : wl_ok (iT (upd D n e)) (iT (upd L n l)) (iT (upd U n u)) (n + 1) := by
  refine ⟨by omega, fun k hk => ?_⟩
  dsimp only [iT]
  unfold upd
  by_cases h : k = n
  · rw [if_pos h, if_pos h, if_pos h]
    omega
  · rw [if_neg h, if_neg h, if_neg h]
    have h1 := hw.2 k (by omega)
    have h2 := hag k (by omega)
    rw [h2.1, h2.2.1, h2.2.2]
    exact h1
theorem ok_old {D L U : Nat → Int32} {D2 L2 U2 : Nat → Int} {n m : Nat} (hw : wl_ok D2 L2 U2 n) (hm : m ≤ n) (hag : ∀ i, i < n → (D i).toInt = D2 i ∧ (L i).toInt = L2 i ∧ (U i).toInt = U2 i) : wl_ok (iT D) (iT L) (iT U) m := by
  have h0 := hw.1
  refine ⟨by omega, fun k hk => ?_⟩
  dsimp only [iT]
  have h1 := hw.2 k (by omega)
  have h2 := hag k (by omega)
  rw [h2.1, h2.2.1, h2.2.2]
  exact h1
theorem c_24 (d : Nat) {N : Nat} {xs : Nat → Int32} {zc zm : Nat → Int32} {e3 e11 e18 : Nat} {A : Nat → Nat → Int32} {g gh : Nat → Option Nat} {dy : pw_H} (P : Nat) (hP : zc 1 = nI P) (hPb : P ≤ 4)  (x y : Int32) : pw_M (d + 3) 24 [.inr (some 1), .inl x, .inl y] (hp_h N xs zc e3 e11 e18 zm A g gh dy) (pw_qi (fun r h' => (¬ pw_pt x y ∧ r = -2 ∧ h' = (hp_h N xs zc e3 e11 e18 zm A g gh dy)) ∨ (¬ (¬ pw_pt x y) ∧ P = 4 ∧ r = -4 ∧ h' = (hp_h N xs zc e3 e11 e18 zm A g gh dy)) ∨ (¬ (¬ pw_pt x y) ∧ ¬ (P = 4) ∧ r = nI P ∧ h' = (hp_h N xs (upd zc 1 (nI (P + 1))) e3 e11 e18 zm A (va_up g P (some (57 + dy.length))) gh (dy ++ wk_z (57 + dy.length) x y))))) := by
  have z0 := pz_0
  have z1 := pz_1
  have z2 := pz_2
  have z3 := pz_3
  have z4 := pz_4
  have z6 := pz_6
  have z7 := pz_7
  have z10 := pz_10
  have z11 := pz_11
  have z12 := pz_12
  have z20 := pz_20
  have z30 := pz_30
  have z50 := pz_50
  have z60 := pz_60
  have z80 := pz_80
  have z300 := pz_300
  have hPT : (zc 1).toInt = (P : Int) := by rw [hP]; exact pw_T (by omega)
  have hPP : (zc 1 - 1).toInt = (P : Int) - 1 := by rw [hP]; exact pw_pred (by omega)
  refine pr_iload_n rfl rfl ?_
  refine pr_iload_n rfl rfl ?_
  refine pr_si2 rfl (by decide) (Nat.le_of_ble_eq_true rfl) (Nat.le_of_ble_eq_true rfl) (c_49 _ _ _ _) (fun r_2 h_2 q_2 => ?_)
  obtain ⟨rfl, rfl⟩ := q_2
  refine pr_b_ne rfl (fun c_5 => ?_) (fun c_5 => ?_)
  · skip
    refine pr_aload_n rfl rfl ?_
    refine pr_getf rfl rfl rfl ?_
    refine pr_push (v := 4) rfl rfl ?_
    refine pr_c_lt rfl (fun c_16 => ?_) (fun c_16 => ?_)
    · skip
      refine pr_aload_n rfl rfl ?_
      refine pr_getf rfl rfl rfl ?_
      refine pr_aload_n rfl rfl ?_
      refine pr_getf rfl rfl rfl ?_
      refine pr_new (57 + dy.length) rfl hp_len rfl ?_
      refine pr_step rfl rfl rfl rfl ?_
      refine pr_iload_n rfl rfl ?_
      refine pr_iload_n rfl rfl ?_
      refine pr_xv2 rfl (by decide) (Nat.le_of_ble_eq_true rfl) (wg0b hp_len rfl) (Nat.le_of_ble_eq_true rfl) (c_7b _ _ _ hp_len _ _) (fun h_36 q_36 => ?_)
      subst q_36
      refine pr_heap hp_app ?_
      refine pr_aast P rfl rfl (hp_dy.trans (wg0b rfl rfl)) (by decide) hP (by omega) hs_g ?_
      refine pr_aload_n rfl rfl ?_
      refine pr_step rfl rfl rfl rfl ?_
      refine pr_getf rfl rfl rfl ?_
      refine pr_step rfl rfl rfl rfl ?_
      refine pr_push (v := 1) rfl rfl ?_
      refine pr_step rfl rfl rfl rfl ?_
      refine pr_top (pw_s hP) ?_
      refine pr_putf rfl rfl (Nat.le_of_ble_eq_true rfl) rfl hs_c1 ?_
      exact pr_reti rfl rfl (Or.inr (Or.inr ⟨by omega, by omega, hP, rfl⟩))
    · skip
      refine pr_push (v := (-4)) rfl rfl ?_
      exact pr_reti rfl rfl (Or.inr (Or.inl ⟨by omega, by omega, rfl, rfl⟩))
  · skip
    refine pr_push (v := (-2)) rfl rfl ?_
    exact pr_reti rfl rfl (Or.inl ⟨by omega, rfl, rfl⟩)
theorem c_25 (d : Nat) {N : Nat} {xs : Nat → Int32} {zc zm : Nat → Int32} {e3 e11 e18 : Nat} {A : Nat → Nat → Int32} {g gh : Nat → Option Nat} {dy : pw_H} (P : Nat) (hP : zc 1 = nI P) (hPb : P ≤ 4) (hgn : ∀ j, P ≤ j → j < 4 → g j = none) (ns : Nat → Nat) (hwk : ∀ j, j < P → pa_ok g dy A ns j) (hpar : ∀ j, j < P → md_par A j (ns j)) (p e l u : Int32) : pw_M (d + 6) 25 [.inr (some 1), .inl p, .inl e, .inl l, .inl u] (hp_h N xs zc e3 e11 e18 zm A g gh dy) (pw_qi (fun r h' => (¬ (pw_bt p 0 (zc 1 - 1) ∧ pw_bt e 0 3 ∧ pw_bt l 1 12 ∧ pw_bt u l 12) ∧ r = -2 ∧ h' = (hp_h N xs zc e3 e11 e18 zm A g gh dy)) ∨ ((pw_bt p 0 (zc 1 - 1) ∧ pw_bt e 0 3 ∧ pw_bt l 1 12 ∧ pw_bt u l 12) ∧ ∃ j : Nat, j < P ∧ p = nI j ∧ ((ns j = 12 ∧ r = -4 ∧ h' = (hp_h N xs zc e3 e11 e18 zm A g gh dy)) ∨ (ns j < 12 ∧ r = nI (ns j + 1) ∧ ∃ (dy2 : pw_H) (k : Nat) (D L U C2 R2 : Nat → Int32), h' = (hp_h N xs zc e3 e11 e18 zm A g gh dy2) ∧ g j = some (57 + k) ∧ wk_at dy2 k (A 26 j) (A 27 j) (upd D (ns j) e) (upd L (ns j) l) (upd U (ns j) u) C2 R2 (ns j + 1) (pw_b (wk_fe (upd D (ns j) e) (upd L (ns j) l) (upd U (ns j) u) (ns j + 1))) (pw_b (wk_rg (upd D (ns j) e) (upd L (ns j) l) (upd U (ns j) u) (ns j + 1) (A 26 j) (A 27 j))) ∧ wk_res (upd D (ns j) e) (upd L (ns j) l) (upd U (ns j) u) C2 R2 (ns j + 1) (A 26 j) (A 27 j) ∧ (∀ i, i < ns j → D i = A 29 (12 * j + i) ∧ L i = A 30 (12 * j + i) ∧ U i = A 31 (12 * j + i)) ∧ dy2.length = dy.length ∧ (∀ b, (b < k ∨ k + 5 < b) → dy2[b]? = dy[b]?)))))) := by
  have z0 := pz_0
  have z1 := pz_1
  have z2 := pz_2
  have z3 := pz_3
  have z4 := pz_4
  have z6 := pz_6
  have z7 := pz_7
  have z10 := pz_10
  have z11 := pz_11
  have z12 := pz_12
  have z20 := pz_20
  have z30 := pz_30
  have z50 := pz_50
  have z60 := pz_60
  have z80 := pz_80
  have z300 := pz_300
  have hPT : (zc 1).toInt = (P : Int) := by rw [hP]; exact pw_T (by omega)
  have hPP : (zc 1 - 1).toInt = (P : Int) - 1 := by rw [hP]; exact pw_pred (by omega)
  refine pr_aload_n rfl rfl ?_
  refine pr_iload_n rfl rfl ?_
  refine pr_vr1 rfl (by decide) (Nat.le_of_ble_eq_true rfl) rfl (Nat.le_of_ble_eq_true rfl) (c_56 _ _) (fun r_2 h_2 q_2 => ?_)
  obtain ⟨q, rfl⟩ := q_2
  refine pr_astore rfl (Nat.le_of_ble_eq_true rfl) rfl ?_
  refine pr_aload rfl rfl ?_
  rcases pa_case hPP hPb hgn q with ⟨hnb, hrn⟩ | ⟨j, hjP, hjp, hrg⟩
  · skip
    rw [hrn]
    refine pr_step rfl rfl rfl rfl ?_
    refine pr_push (v := (-2)) rfl rfl ?_
    exact pr_reti rfl rfl (Or.inl ⟨by omega, rfl, rfl⟩)
  · skip
    obtain ⟨k, D, L, U, C, R, hgk, hat, hres, hag⟩ := hwk j hjP
    obtain ⟨hn0, hw, hx0, hy0⟩ := hpar j hjP
    have hn12 := hw.1
    have hjT := pw_T (n := j) (by omega)
    have hpT : p.toInt = (j : Int) := by rw [hjp]; exact hjT
    have hnT := pw_T (n := ns j) (by omega)
    have hag2 : ∀ i, i < ns j → (D i).toInt = md_D A j i ∧ (L i).toInt = md_L A j i ∧ (U i).toInt = md_U A j i := fun i hi => by
      obtain ⟨a1, a2, a3⟩ := hag i hi
      rw [a1, a2, a3]
      exact ⟨rfl, rfl, rfl⟩
    rw [hrg, hgk]
    refine pr_step rfl rfl rfl rfl ?_
    refine pr_iload_n rfl rfl ?_
    refine pr_push (v := 0) rfl rfl ?_
    refine pr_push (v := 3) rfl rfl ?_
    refine pr_si3 rfl (by decide) (Nat.le_of_ble_eq_true rfl) (Nat.le_of_ble_eq_true rfl) (c_48 _ _ _ _ _) (fun r_15 h_15 q_15 => ?_)
    obtain ⟨rfl, rfl⟩ := q_15
    refine pr_b_eq rfl (fun c_18 => ?_) (fun c_18 => ?_)
    · skip
      refine pr_push (v := (-2)) rfl rfl ?_
      exact pr_reti rfl rfl (Or.inl ⟨by omega, rfl, rfl⟩)
    · skip
      refine pr_iload_n rfl rfl ?_
      refine pr_push (v := 1) rfl rfl ?_
      refine pr_push (v := 12) rfl rfl ?_
      refine pr_si3 rfl (by decide) (Nat.le_of_ble_eq_true rfl) (Nat.le_of_ble_eq_true rfl) (c_48 _ _ _ _ _) (fun r_25 h_25 q_25 => ?_)
      obtain ⟨rfl, rfl⟩ := q_25
      refine pr_b_eq rfl (fun c_28 => ?_) (fun c_28 => ?_)
      · skip
        refine pr_push (v := (-2)) rfl rfl ?_
        exact pr_reti rfl rfl (Or.inl ⟨by omega, rfl, rfl⟩)
      · skip
        refine pr_iload rfl rfl ?_
        refine pr_iload_n rfl rfl ?_
        refine pr_push (v := 12) rfl rfl ?_
        refine pr_si3 rfl (by decide) (Nat.le_of_ble_eq_true rfl) (Nat.le_of_ble_eq_true rfl) (c_48 _ _ _ _ _) (fun r_36 h_36 q_36 => ?_)
        obtain ⟨rfl, rfl⟩ := q_36
        refine pr_b_ne rfl (fun c_39 => ?_) (fun c_39 => ?_)
        · skip
          refine pr_aload rfl rfl ?_
          refine pr_vi0 rfl (by decide) (Nat.le_of_ble_eq_true rfl) (hp_dy.trans hat.1) (Nat.le_of_ble_eq_true rfl) (lc_8 _ _ _ _ _ (hp_dy.trans hat.1) rfl) (fun r_47 h_47 q_47 => ?_)
          obtain ⟨rfl, rfl⟩ := q_47
          refine pr_push (v := 12) rfl rfl ?_
          refine pr_c_lt rfl (fun c_52 => ?_) (fun c_52 => ?_)
          · skip
            refine pr_aload rfl rfl ?_
            refine pr_iload_n rfl rfl ?_
            refine pr_iload_n rfl rfl ?_
            refine pr_iload rfl rfl ?_
            refine pr_vv3 rfl (by decide) (Nat.le_of_ble_eq_true rfl) (hp_dy.trans hat.1) (Nat.le_of_ble_eq_true rfl) (k_9 _ hat e l u (by omega) (ok_new hw hag2 (by omega) (by omega) (by omega)) hx0 hy0) (fun h_64 q_64 => ?_)
            obtain ⟨dy2, C2, R2, rfl, hat2, hres2, hlen2, hfr2⟩ := q_64
            refine pr_aload rfl rfl ?_
            refine pr_vi0 rfl (by decide) (Nat.le_of_ble_eq_true rfl) (hp_dy.trans hat2.1) (Nat.le_of_ble_eq_true rfl) (lc_8 _ _ _ _ _ (hp_dy.trans hat2.1) rfl) (fun r_69 h_69 q_69 => ?_)
            obtain ⟨rfl, rfl⟩ := q_69
            exact pr_reti rfl rfl (Or.inr ⟨by omega, j, hjP, hjp, Or.inr ⟨by omega, rfl, dy2, k, D, L, U, C2, R2, rfl, hgk, hat2, hres2, hag, hlen2, hfr2⟩⟩)
          · skip
            refine pr_push (v := (-4)) rfl rfl ?_
            exact pr_reti rfl rfl (Or.inr ⟨by omega, j, hjP, hjp, Or.inl ⟨by omega, rfl, rfl⟩⟩)
        · skip
          refine pr_push (v := (-2)) rfl rfl ?_
          exact pr_reti rfl rfl (Or.inl ⟨by omega, rfl, rfl⟩)
theorem c_26 (d : Nat) {N : Nat} {xs : Nat → Int32} {zc zm : Nat → Int32} {e3 e11 e18 : Nat} {A : Nat → Nat → Int32} {g gh : Nat → Option Nat} {dy : pw_H} (P : Nat) (hP : zc 1 = nI P) (hPb : P ≤ 4) (hgn : ∀ j, P ≤ j → j < 4 → g j = none) (ns : Nat → Nat) (hwk : ∀ j, j < P → pa_ok g dy A ns j) (hpar : ∀ j, j < P → md_par A j (ns j)) (p : Int32) : pw_M (d + 6) 26 [.inr (some 1), .inl p] (hp_h N xs zc e3 e11 e18 zm A g gh dy) (pw_qi (fun r h' => (¬ pw_bt p 0 (zc 1 - 1) ∧ r = -2 ∧ h' = (hp_h N xs zc e3 e11 e18 zm A g gh dy)) ∨ (pw_bt p 0 (zc 1 - 1) ∧ ∃ j : Nat, j < P ∧ p = nI j ∧ ((ns j = 0 ∧ r = -3 ∧ h' = (hp_h N xs zc e3 e11 e18 zm A g gh dy)) ∨ (0 < ns j ∧ r = nI (ns j - 1) ∧ ∃ (dy2 : pw_H) (k : Nat) (D L U C2 R2 : Nat → Int32), h' = (hp_h N xs zc e3 e11 e18 zm A g gh dy2) ∧ g j = some (57 + k) ∧ wk_at dy2 k (A 26 j) (A 27 j) D L U C2 R2 (ns j - 1) (pw_b (wk_fe D L U (ns j - 1))) (pw_b (wk_rg D L U (ns j - 1) (A 26 j) (A 27 j))) ∧ wk_res D L U C2 R2 (ns j - 1) (A 26 j) (A 27 j) ∧ (∀ i, i < ns j → D i = A 29 (12 * j + i) ∧ L i = A 30 (12 * j + i) ∧ U i = A 31 (12 * j + i)) ∧ dy2.length = dy.length ∧ (∀ b, (b < k ∨ k + 5 < b) → dy2[b]? = dy[b]?)))))) := by
  have z0 := pz_0
  have z1 := pz_1
  have z2 := pz_2
  have z3 := pz_3
  have z4 := pz_4
  have z6 := pz_6
  have z7 := pz_7
  have z10 := pz_10
  have z11 := pz_11
  have z12 := pz_12
  have z20 := pz_20
  have z30 := pz_30
  have z50 := pz_50
  have z60 := pz_60
  have z80 := pz_80
  have z300 := pz_300
  have hPT : (zc 1).toInt = (P : Int) := by rw [hP]; exact pw_T (by omega)
  have hPP : (zc 1 - 1).toInt = (P : Int) - 1 := by rw [hP]; exact pw_pred (by omega)
  refine pr_aload_n rfl rfl ?_
  refine pr_iload_n rfl rfl ?_
  refine pr_vr1 rfl (by decide) (Nat.le_of_ble_eq_true rfl) rfl (Nat.le_of_ble_eq_true rfl) (c_56 _ _) (fun r_2 h_2 q_2 => ?_)
  obtain ⟨q, rfl⟩ := q_2
  refine pr_astore_n rfl (Nat.le_of_ble_eq_true rfl) rfl ?_
  refine pr_aload_n rfl rfl ?_
  rcases pa_case hPP hPb hgn q with ⟨hnb, hrn⟩ | ⟨j, hjP, hjp, hrg⟩
  · skip
    rw [hrn]
    refine pr_step rfl rfl rfl rfl ?_
    refine pr_push (v := (-2)) rfl rfl ?_
    exact pr_reti rfl rfl (Or.inl ⟨by omega, rfl, rfl⟩)
  · skip
    obtain ⟨k, D, L, U, C, R, hgk, hat, hres, hag⟩ := hwk j hjP
    obtain ⟨hn0, hw, hx0, hy0⟩ := hpar j hjP
    have hn12 := hw.1
    have hjT := pw_T (n := j) (by omega)
    have hpT : p.toInt = (j : Int) := by rw [hjp]; exact hjT
    have hnT := pw_T (n := ns j) (by omega)
    have hag2 : ∀ i, i < ns j → (D i).toInt = md_D A j i ∧ (L i).toInt = md_L A j i ∧ (U i).toInt = md_U A j i := fun i hi => by
      obtain ⟨a1, a2, a3⟩ := hag i hi
      rw [a1, a2, a3]
      exact ⟨rfl, rfl, rfl⟩
    rw [hrg, hgk]
    refine pr_step rfl rfl rfl rfl ?_
    refine pr_aload_n rfl rfl ?_
    refine pr_vi0 rfl (by decide) (Nat.le_of_ble_eq_true rfl) (hp_dy.trans hat.1) (Nat.le_of_ble_eq_true rfl) (lc_8 _ _ _ _ _ (hp_dy.trans hat.1) rfl) (fun r_14 h_14 q_14 => ?_)
    obtain ⟨rfl, rfl⟩ := q_14
    refine pr_t_ne rfl (fun c_17 => ?_) (fun c_17 => ?_)
    · skip
      refine pr_aload_n rfl rfl ?_
      refine pr_vv0 rfl (by decide) (Nat.le_of_ble_eq_true rfl) (hp_dy.trans hat.1) (Nat.le_of_ble_eq_true rfl) (k_10 _ hat (by omega) (by omega) (ok_old hw (Nat.sub_le ..) hag2) hx0 hy0) (fun h_24 q_24 => ?_)
      obtain ⟨dy2, C2, R2, rfl, hat2, hres2, hlen2, hfr2⟩ := q_24
      refine pr_aload_n rfl rfl ?_
      refine pr_vi0 rfl (by decide) (Nat.le_of_ble_eq_true rfl) (hp_dy.trans hat2.1) (Nat.le_of_ble_eq_true rfl) (lc_8 _ _ _ _ _ (hp_dy.trans hat2.1) rfl) (fun r_28 h_28 q_28 => ?_)
      obtain ⟨rfl, rfl⟩ := q_28
      exact pr_reti rfl rfl (Or.inr ⟨by omega, j, hjP, hjp, Or.inr ⟨by omega, rfl, dy2, k, D, L, U, C2, R2, rfl, hgk, hat2, hres2, hag, hlen2, hfr2⟩⟩)
    · skip
      refine pr_push (v := (-3)) rfl rfl ?_
      exact pr_reti rfl rfl (Or.inr ⟨by omega, j, hjP, hjp, Or.inl ⟨by omega, rfl, rfl⟩⟩)
theorem c_27 (d : Nat) {N : Nat} {xs : Nat → Int32} {zc zm : Nat → Int32} {e3 e11 e18 : Nat} {A : Nat → Nat → Int32} {g gh : Nat → Option Nat} {dy : pw_H} (P : Nat) (hP : zc 1 = nI P) (hPb : P ≤ 4) (hgn : ∀ j, P ≤ j → j < 4 → g j = none) (ns : Nat → Nat) (hwk : ∀ j, j < P → pa_ok g dy A ns j) (hpar : ∀ j, j < P → md_par A j (ns j)) (p i : Int32) : pw_M (d + 4) 27 [.inr (some 1), .inl p, .inl i] (hp_h N xs zc e3 e11 e18 zm A g gh dy) (pw_qi (fun r h' => ((¬ (pw_bt p 0 (zc 1 - 1) ∧ ∀ j : Nat, j < P → p = nI j → pw_bt i 0 (nI (ns j) - 1)) ∧ r = -2) ∨ ∃ j i2 : Nat, j < P ∧ p = nI j ∧ i2 < ns j ∧ i = nI i2 ∧ ∃ (D L U C R : Nat → Int32), wk_res D L U C R (ns j) (A 26 j) (A 27 j) ∧ (∀ i, i < ns j → D i = A 29 (12 * j + i) ∧ L i = A 30 (12 * j + i) ∧ U i = A 31 (12 * j + i)) ∧ r = if wk_fe D L U (ns j) then C i2 else -1) ∧ h' = (hp_h N xs zc e3 e11 e18 zm A g gh dy))) := by
  have z0 := pz_0
  have z1 := pz_1
  have z2 := pz_2
  have z3 := pz_3
  have z4 := pz_4
  have z6 := pz_6
  have z7 := pz_7
  have z10 := pz_10
  have z11 := pz_11
  have z12 := pz_12
  have z20 := pz_20
  have z30 := pz_30
  have z50 := pz_50
  have z60 := pz_60
  have z80 := pz_80
  have z300 := pz_300
  have hPT : (zc 1).toInt = (P : Int) := by rw [hP]; exact pw_T (by omega)
  have hPP : (zc 1 - 1).toInt = (P : Int) - 1 := by rw [hP]; exact pw_pred (by omega)
  refine pr_aload_n rfl rfl ?_
  refine pr_iload_n rfl rfl ?_
  refine pr_vr1 rfl (by decide) (Nat.le_of_ble_eq_true rfl) rfl (Nat.le_of_ble_eq_true rfl) (c_56 _ _) (fun r_2 h_2 q_2 => ?_)
  obtain ⟨q, rfl⟩ := q_2
  refine pr_astore_n rfl (Nat.le_of_ble_eq_true rfl) rfl ?_
  refine pr_aload_n rfl rfl ?_
  rcases pa_case hPP hPb hgn q with ⟨hnb, hrn⟩ | ⟨j, hjP, hjp, hrg⟩
  · skip
    rw [hrn]
    refine pr_step rfl rfl rfl rfl ?_
    refine pr_push (v := (-2)) rfl rfl ?_
    exact pr_reti rfl rfl (by
    first
    | exact ⟨Or.inl ⟨fun hh => c_21 (hh.2 j hjP hjp), rfl⟩, rfl⟩
    | exact ⟨Or.inl ⟨fun hh => hnb hh.1, rfl⟩, rfl⟩)
  · skip
    obtain ⟨k, D, L, U, C, R, hgk, hat, hres, hag⟩ := hwk j hjP
    obtain ⟨hn0, hw, hx0, hy0⟩ := hpar j hjP
    have hn12 := hw.1
    have hjT := pw_T (n := j) (by omega)
    have hpT : p.toInt = (j : Int) := by rw [hjp]; exact hjT
    have hnT := pw_T (n := ns j) (by omega)
    have hag2 : ∀ i, i < ns j → (D i).toInt = md_D A j i ∧ (L i).toInt = md_L A j i ∧ (U i).toInt = md_U A j i := fun i hi => by
      obtain ⟨a1, a2, a3⟩ := hag i hi
      rw [a1, a2, a3]
      exact ⟨rfl, rfl, rfl⟩
    rw [hrg, hgk]
    refine pr_step rfl rfl rfl rfl ?_
    refine pr_iload_n rfl rfl ?_
    refine pr_push (v := 0) rfl rfl ?_
    refine pr_aload_n rfl rfl ?_
    refine pr_vi0 rfl (by decide) (Nat.le_of_ble_eq_true rfl) (hp_dy.trans hat.1) (Nat.le_of_ble_eq_true rfl) (lc_8 _ _ _ _ _ (hp_dy.trans hat.1) rfl) (fun r_13 h_13 q_13 => ?_)
    obtain ⟨rfl, rfl⟩ := q_13
    refine pr_push (v := 1) rfl rfl ?_
    refine pr_step rfl rfl rfl rfl ?_
    refine pr_si3 rfl (by decide) (Nat.le_of_ble_eq_true rfl) (Nat.le_of_ble_eq_true rfl) (c_48 _ _ _ _ _) (fun r_18 h_18 q_18 => ?_)
    obtain ⟨rfl, rfl⟩ := q_18
    refine pr_b_ne rfl (fun c_21 => ?_) (fun c_21 => ?_)
    · skip
      have hnP : (nI (ns j) - 1).toInt = (ns j : Int) - 1 := pw_pred (by omega)
      obtain ⟨i2, rfl, hiT, hil⟩ := pw_nat (x := i) (by omega)
      refine pr_aload_n rfl rfl ?_
      refine pr_iload_n rfl rfl ?_
      refine pr_vi1 rfl (by decide) (Nat.le_of_ble_eq_true rfl) (hp_dy.trans hat.1) (Nat.le_of_ble_eq_true rfl) (k_11 _ _ hat (by omega) i2 (by omega)) (fun r_29 h_29 q_29 => ?_)
      obtain ⟨rfl, rfl⟩ := q_29
      exact pr_reti rfl rfl (⟨Or.inr ⟨j, i2, hjP, hjp, by omega, rfl, D, L, U, C, R, hres, hag, rfl⟩, rfl⟩)
    · skip
      refine pr_push (v := (-2)) rfl rfl ?_
      exact pr_reti rfl rfl (by
    first
    | exact ⟨Or.inl ⟨fun hh => c_21 (hh.2 j hjP hjp), rfl⟩, rfl⟩
    | exact ⟨Or.inl ⟨fun hh => hnb hh.1, rfl⟩, rfl⟩)
theorem c_28 (d : Nat) {N : Nat} {xs : Nat → Int32} {zc zm : Nat → Int32} {e3 e11 e18 : Nat} {A : Nat → Nat → Int32} {g gh : Nat → Option Nat} {dy : pw_H} (P : Nat) (hP : zc 1 = nI P) (hPb : P ≤ 4) (hgn : ∀ j, P ≤ j → j < 4 → g j = none) (ns : Nat → Nat) (hwk : ∀ j, j < P → pa_ok g dy A ns j) (hpar : ∀ j, j < P → md_par A j (ns j)) (p : Int32) : pw_M (d + 4) 28 [.inr (some 1), .inl p] (hp_h N xs zc e3 e11 e18 zm A g gh dy) (pw_qi (fun r h' => ((¬ pw_bt p 0 (zc 1 - 1) ∧ r = -2) ∨ ∃ j : Nat, j < P ∧ p = nI j ∧ ∃ (D L U C R : Nat → Int32), wk_res D L U C R (ns j) (A 26 j) (A 27 j) ∧ (∀ i, i < ns j → D i = A 29 (12 * j + i) ∧ L i = A 30 (12 * j + i) ∧ U i = A 31 (12 * j + i)) ∧ r = if wk_rg D L U (ns j) (A 26 j) (A 27 j) then fi_run R 12 else -1) ∧ h' = (hp_h N xs zc e3 e11 e18 zm A g gh dy))) := by
  have z0 := pz_0
  have z1 := pz_1
  have z2 := pz_2
  have z3 := pz_3
  have z4 := pz_4
  have z6 := pz_6
  have z7 := pz_7
  have z10 := pz_10
  have z11 := pz_11
  have z12 := pz_12
  have z20 := pz_20
  have z30 := pz_30
  have z50 := pz_50
  have z60 := pz_60
  have z80 := pz_80
  have z300 := pz_300
  have hPT : (zc 1).toInt = (P : Int) := by rw [hP]; exact pw_T (by omega)
  have hPP : (zc 1 - 1).toInt = (P : Int) - 1 := by rw [hP]; exact pw_pred (by omega)
  refine pr_aload_n rfl rfl ?_
  refine pr_iload_n rfl rfl ?_
  refine pr_vr1 rfl (by decide) (Nat.le_of_ble_eq_true rfl) rfl (Nat.le_of_ble_eq_true rfl) (c_56 _ _) (fun r_2 h_2 q_2 => ?_)
  obtain ⟨q, rfl⟩ := q_2
  refine pr_astore_n rfl (Nat.le_of_ble_eq_true rfl) rfl ?_
  refine pr_aload_n rfl rfl ?_
  rcases pa_case hPP hPb hgn q with ⟨hnb, hrn⟩ | ⟨j, hjP, hjp, hrg⟩
  · skip
    rw [hrn]
    refine pr_step rfl rfl rfl rfl ?_
    refine pr_push (v := (-2)) rfl rfl ?_
    exact pr_reti rfl rfl (⟨Or.inl ⟨hnb, rfl⟩, rfl⟩)
  · skip
    obtain ⟨k, D, L, U, C, R, hgk, hat, hres, hag⟩ := hwk j hjP
    obtain ⟨hn0, hw, hx0, hy0⟩ := hpar j hjP
    have hn12 := hw.1
    have hjT := pw_T (n := j) (by omega)
    have hpT : p.toInt = (j : Int) := by rw [hjp]; exact hjT
    have hnT := pw_T (n := ns j) (by omega)
    have hag2 : ∀ i, i < ns j → (D i).toInt = md_D A j i ∧ (L i).toInt = md_L A j i ∧ (U i).toInt = md_U A j i := fun i hi => by
      obtain ⟨a1, a2, a3⟩ := hag i hi
      rw [a1, a2, a3]
      exact ⟨rfl, rfl, rfl⟩
    rw [hrg, hgk]
    refine pr_step rfl rfl rfl rfl ?_
    refine pr_aload_n rfl rfl ?_
    refine pr_vi0 rfl (by decide) (Nat.le_of_ble_eq_true rfl) (hp_dy.trans hat.1) (Nat.le_of_ble_eq_true rfl) (k_13 _ _ hat) (fun r_14 h_14 q_14 => ?_)
    obtain ⟨rfl, rfl⟩ := q_14
    exact pr_reti rfl rfl (⟨Or.inr ⟨j, hjP, hjp, D, L, U, C, R, hres, hag, rfl⟩, rfl⟩)
