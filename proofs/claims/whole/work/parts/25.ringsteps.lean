section HR
variable {N : Nat} {xs : Nat → Int32} {zc zm : Nat → Int32} {e3 e11 e18 : Nat} {A : Nat → Nat → Int32} {g gh : Nat → Option Nat} {dy : pw_H} {f s : Nat → Int32}
theorem hr_26 : (hp_h N xs zc e3 e11 e18 zm (uA (uA A 52 f) 53 s) g gh dy)[26]? = some (.inl (0, 4, A 26)) := rfl
theorem hr_27 : (hp_h N xs zc e3 e11 e18 zm (uA (uA A 52 f) 53 s) g gh dy)[27]? = some (.inl (0, 4, A 27)) := rfl
theorem hr_28 : (hp_h N xs zc e3 e11 e18 zm (uA (uA A 52 f) 53 s) g gh dy)[28]? = some (.inl (0, 4, A 28)) := rfl
theorem hr_29 : (hp_h N xs zc e3 e11 e18 zm (uA (uA A 52 f) 53 s) g gh dy)[29]? = some (.inl (0, 48, A 29)) := rfl
theorem hr_52 : (hp_h N xs zc e3 e11 e18 zm (uA (uA A 52 f) 53 s) g gh dy)[52]? = some (.inl (0, 12, f)) := rfl
theorem hr_53 : (hp_h N xs zc e3 e11 e18 zm (uA (uA A 52 f) 53 s) g gh dy)[53]? = some (.inl (1, 156, s)) := rfl
end HR
set_option maxRecDepth 20000 in
theorem c_81_st0 (d : Nat) {N : Nat} {xs : Nat → Int32} {zc zm : Nat → Int32} {e3 e11 e18 : Nat} {A : Nat → Nat → Int32} {g gh : Nat → Option Nat} {dy : pw_H} (j i m : Nat) (hj : j < 4) (hi : i < 12) (hm : m ≤ 12) (f : Nat → Int32) (hfi : f i = nI m) (V : Int → Int → Bool) (px py : Int) (hp0 : (0 ≤ px ∧ px ≤ 12) ∧ 0 ≤ py ∧ py ≤ 12) (Qi : Int32 → pw_H → Prop) (Kf : ¬ ((0 ≤ px + (m : Int) ∧ px + (m : Int) ≤ 12) ∧ 0 ≤ py ∧ py ≤ 12) → ∀ s, Qi 0 (hp_h N xs zc e3 e11 e18 zm (uA (uA A 52 f) 53 s) g gh dy)) (K : ∀ (x y : Int32) (s : Nat → Int32) (g7 g8 g9 : Option pw_V), x.toInt = px + (m : Int) → y.toInt = py → (0 ≤ x.toInt ∧ x.toInt ≤ 12) → (0 ≤ y.toInt ∧ y.toInt ≤ 12) → wl_sd (fun X Y => V X Y ^^ wl_cov 0 px py m X Y) s → pw_W (d + 2) 81 209 [some (.inr (some 25)), some (.inl (nI j)), some (.inl x), some (.inl y), some (.inl (nI i)), some (.inl 0), some (.inl (nI m)), g7, g8, g9] [] (hp_h N xs zc e3 e11 e18 zm (uA (uA A 52 f) 53 s) g gh dy) (pw_qi Qi)) : ∀ (c t : Nat) (x y : Int32) (s : Nat → Int32) (g7 g8 g9 : Option pw_V), t + c = m → x.toInt = px + (t : Int) → y.toInt = py → (0 ≤ x.toInt ∧ x.toInt ≤ 12) → (0 ≤ y.toInt ∧ y.toInt ≤ 12) → wl_sd (fun X Y => V X Y ^^ wl_cov 0 px py t X Y) s → pw_W (d + 2) 81 77 [some (.inr (some 25)), some (.inl (nI j)), some (.inl x), some (.inl y), some (.inl (nI i)), some (.inl 0), some (.inl (nI t)), g7, g8, g9] [] (hp_h N xs zc e3 e11 e18 zm (uA (uA A 52 f) 53 s) g gh dy) (pw_qi Qi) := by
  have z0 := pz_0
  have z1 := pz_1
  have z2 := pz_2
  have z3 := pz_3
  have z4 := pz_4
  have z6 := pz_6
  have z7 := pz_7
  have z10 := pz_10
  have z11 := pz_11
  have z12 := pz_12
  have z20 := pz_20
  have z30 := pz_30
  have z50 := pz_50
  have z60 := pz_60
  have z80 := pz_80
  have z300 := pz_300
  obtain ⟨mo, hmo⟩ : ∃ mo : Int32, mo = -1 := ⟨_, rfl⟩
  have hmoT : mo.toInt = -1 := by rw [hmo]; rfl
  have hmT : (f i).toInt = (m : Int) := by rw [hfi]; exact pw_T (by omega)
  intro c
  induction c with
  | zero =>
    intro t x y s g7 g8 g9 ht hx hy rx ry hs
    obtain rfl : t = m := by omega
    have htT := pw_T (n := t) (by omega)
    refine pr_iload rfl rfl ?_
    refine pr_aload_n rfl rfl ?_
    refine pr_getf rfl rfl rfl ?_
    refine pr_iload rfl rfl ?_
    refine pr_iald (i) rfl hr_52 (by decide) (by decide) rfl (by omega) ?_
    refine pr_c_ge rfl (fun c_86 => ?_) (fun c_86 => ?_)
    · skip
      exact K x y s g7 g8 g9 hx hy rx ry hs
    · skip
      exact absurd c_86 (by omega)
  | succ c ih =>
    intro t x y s g7 g8 g9 ht hx hy rx ry hs
    have htT := pw_T (n := t) (by omega)
    obtain ⟨u, hu, huT, hul⟩ := pw_nat (x := x) (by omega)
    obtain ⟨v, hv, hvT, hvl⟩ := pw_nat (x := y) (by omega)
    have ax := pw_addT (a := x) (b := 1) (by omega) (by omega)
    have ay := pw_addT (a := y) (b := 0) (by omega) (by omega)
    refine pr_iload rfl rfl ?_
    refine pr_aload_n rfl rfl ?_
    refine pr_getf rfl rfl rfl ?_
    refine pr_iload rfl rfl ?_
    refine pr_iald (i) rfl hr_52 (by decide) (by decide) rfl (by omega) ?_
    refine pr_c_ge rfl (fun c_86 => ?_) (fun c_86 => ?_)
    · skip
      exact absurd c_86 (by omega)
    · skip
      refine pr_iload_n rfl rfl ?_
      refine pr_iload rfl rfl ?_
      refine pr_step rfl rfl rfl rfl ?_
      refine pr_push (v := 1) rfl rfl ?_
      refine pr_step rfl rfl rfl rfl ?_
      refine pr_step rfl rfl rfl rfl ?_
      refine pr_istore rfl (Nat.le_of_ble_eq_true rfl) rfl ?_
      refine pr_iload_n rfl rfl ?_
      refine pr_iload rfl rfl ?_
      refine pr_push (v := 1) rfl rfl ?_
      refine pr_step rfl rfl rfl rfl ?_
      refine pr_iload rfl rfl ?_
      refine pr_push (v := 3) rfl rfl ?_
      refine pr_step rfl rfl rfl rfl ?_
      refine pr_push (v := 0) rfl rfl ?_
      refine pr_step rfl rfl rfl rfl ?_
      refine pr_istore rfl (Nat.le_of_ble_eq_true rfl) rfl ?_
      refine pr_iload rfl rfl ?_
      refine pr_iload rfl rfl ?_
      refine pr_si2 rfl (by decide) (Nat.le_of_ble_eq_true rfl) (Nat.le_of_ble_eq_true rfl) (c_70 _ _ (x + 1) (y + 0)) (fun r_142 h_142 q_142 => ?_)
      obtain ⟨e_142, f_142⟩ := q_142
      subst f_142
      rw [e_142]
      clear e_142
      refine pr_b_ne rfl (fun c_145 => ?_) (fun c_145 => ?_)
      · skip
        refine pr_iload rfl rfl ?_
        refine pr_iload_n rfl rfl ?_
        refine pr_u_eq rfl (fun c_153 => ?_) (fun c_153 => ?_)
        · skip
          refine pr_iload rfl rfl ?_
          refine pr_istore_n rfl (Nat.le_of_ble_eq_true rfl) rfl ?_
          refine pr_iload rfl rfl ?_
          refine pr_istore_n rfl (Nat.le_of_ble_eq_true rfl) rfl ?_
          refine pr_iinc rfl rfl (pw_inc t) rfl ?_
          refine pr_step rfl rfl rfl rfl ?_
          exact ih (t + 1) _ _ s _ _ _ (by omega) (by omega) (by omega) (by omega) (by omega) (by
            intro X Y hX hY
            rw [hs X Y hX hY]
            dsimp only
            rw [wl_covE (t2 := ((t + 1 : Nat) : Int)) (by omega)])
        · skip
          exact absurd c_153 (by omega)
      · skip
        refine pr_push (v := 0) rfl rfl ?_
        exact pr_retb rfl rfl rfl (Kf (by omega) s)
set_option maxRecDepth 20000 in
theorem c_81_st1 (d : Nat) {N : Nat} {xs : Nat → Int32} {zc zm : Nat → Int32} {e3 e11 e18 : Nat} {A : Nat → Nat → Int32} {g gh : Nat → Option Nat} {dy : pw_H} (j i m : Nat) (hj : j < 4) (hi : i < 12) (hm : m ≤ 12) (f : Nat → Int32) (hfi : f i = nI m) (V : Int → Int → Bool) (px py : Int) (hp0 : (0 ≤ px ∧ px ≤ 12) ∧ 0 ≤ py ∧ py ≤ 12) (Qi : Int32 → pw_H → Prop) (Kf : ¬ ((0 ≤ px ∧ px ≤ 12) ∧ 0 ≤ py + (m : Int) ∧ py + (m : Int) ≤ 12) → ∀ s, Qi 0 (hp_h N xs zc e3 e11 e18 zm (uA (uA A 52 f) 53 s) g gh dy)) (K : ∀ (x y : Int32) (s : Nat → Int32) (g7 g8 g9 : Option pw_V), x.toInt = px → y.toInt = py + (m : Int) → (0 ≤ x.toInt ∧ x.toInt ≤ 12) → (0 ≤ y.toInt ∧ y.toInt ≤ 12) → wl_sd (fun X Y => V X Y ^^ wl_cov 1 px py m X Y) s → pw_W (d + 2) 81 209 [some (.inr (some 25)), some (.inl (nI j)), some (.inl x), some (.inl y), some (.inl (nI i)), some (.inl 1), some (.inl (nI m)), g7, g8, g9] [] (hp_h N xs zc e3 e11 e18 zm (uA (uA A 52 f) 53 s) g gh dy) (pw_qi Qi)) : ∀ (c t : Nat) (x y : Int32) (s : Nat → Int32) (g7 g8 g9 : Option pw_V), t + c = m → x.toInt = px → y.toInt = py + (t : Int) → (0 ≤ x.toInt ∧ x.toInt ≤ 12) → (0 ≤ y.toInt ∧ y.toInt ≤ 12) → wl_sd (fun X Y => V X Y ^^ wl_cov 1 px py t X Y) s → pw_W (d + 2) 81 77 [some (.inr (some 25)), some (.inl (nI j)), some (.inl x), some (.inl y), some (.inl (nI i)), some (.inl 1), some (.inl (nI t)), g7, g8, g9] [] (hp_h N xs zc e3 e11 e18 zm (uA (uA A 52 f) 53 s) g gh dy) (pw_qi Qi) := by
  have z0 := pz_0
  have z1 := pz_1
  have z2 := pz_2
  have z3 := pz_3
  have z4 := pz_4
  have z6 := pz_6
  have z7 := pz_7
  have z10 := pz_10
  have z11 := pz_11
  have z12 := pz_12
  have z20 := pz_20
  have z30 := pz_30
  have z50 := pz_50
  have z60 := pz_60
  have z80 := pz_80
  have z300 := pz_300
  obtain ⟨mo, hmo⟩ : ∃ mo : Int32, mo = -1 := ⟨_, rfl⟩
  have hmoT : mo.toInt = -1 := by rw [hmo]; rfl
  have hmT : (f i).toInt = (m : Int) := by rw [hfi]; exact pw_T (by omega)
  intro c
  induction c with
  | zero =>
    intro t x y s g7 g8 g9 ht hx hy rx ry hs
    obtain rfl : t = m := by omega
    have htT := pw_T (n := t) (by omega)
    refine pr_iload rfl rfl ?_
    refine pr_aload_n rfl rfl ?_
    refine pr_getf rfl rfl rfl ?_
    refine pr_iload rfl rfl ?_
    refine pr_iald (i) rfl hr_52 (by decide) (by decide) rfl (by omega) ?_
    refine pr_c_ge rfl (fun c_86 => ?_) (fun c_86 => ?_)
    · skip
      exact K x y s g7 g8 g9 hx hy rx ry hs
    · skip
      exact absurd c_86 (by omega)
  | succ c ih =>
    intro t x y s g7 g8 g9 ht hx hy rx ry hs
    have htT := pw_T (n := t) (by omega)
    obtain ⟨u, hu, huT, hul⟩ := pw_nat (x := x) (by omega)
    obtain ⟨v, hv, hvT, hvl⟩ := pw_nat (x := y) (by omega)
    have ax := pw_addT (a := x) (b := 0) (by omega) (by omega)
    have ay := pw_addT (a := y) (b := 1) (by omega) (by omega)
    refine pr_iload rfl rfl ?_
    refine pr_aload_n rfl rfl ?_
    refine pr_getf rfl rfl rfl ?_
    refine pr_iload rfl rfl ?_
    refine pr_iald (i) rfl hr_52 (by decide) (by decide) rfl (by omega) ?_
    refine pr_c_ge rfl (fun c_86 => ?_) (fun c_86 => ?_)
    · skip
      exact absurd c_86 (by omega)
    · skip
      refine pr_iload_n rfl rfl ?_
      refine pr_iload rfl rfl ?_
      refine pr_step rfl rfl rfl rfl ?_
      refine pr_iload rfl rfl ?_
      refine pr_push (v := 2) rfl rfl ?_
      refine pr_step rfl rfl rfl rfl ?_
      refine pr_push (v := 0) rfl rfl ?_
      refine pr_step rfl rfl rfl rfl ?_
      refine pr_istore rfl (Nat.le_of_ble_eq_true rfl) rfl ?_
      refine pr_iload_n rfl rfl ?_
      refine pr_iload rfl rfl ?_
      refine pr_push (v := 1) rfl rfl ?_
      refine pr_step rfl rfl rfl rfl ?_
      refine pr_push (v := 1) rfl rfl ?_
      refine pr_step rfl rfl rfl rfl ?_
      refine pr_step rfl rfl rfl rfl ?_
      refine pr_istore rfl (Nat.le_of_ble_eq_true rfl) rfl ?_
      refine pr_iload rfl rfl ?_
      refine pr_iload rfl rfl ?_
      refine pr_si2 rfl (by decide) (Nat.le_of_ble_eq_true rfl) (Nat.le_of_ble_eq_true rfl) (c_70 _ _ (x + 0) (y + 1)) (fun r_142 h_142 q_142 => ?_)
      obtain ⟨e_142, f_142⟩ := q_142
      subst f_142
      rw [e_142]
      clear e_142
      refine pr_b_ne rfl (fun c_145 => ?_) (fun c_145 => ?_)
      · skip
        refine pr_iload rfl rfl ?_
        refine pr_iload_n rfl rfl ?_
        refine pr_u_eq rfl (fun c_153 => ?_) (fun c_153 => ?_)
        · skip
          exact absurd c_153 (by omega)
        · skip
          refine pr_push (v := 12) rfl rfl ?_
          refine pr_iload_n rfl rfl ?_
          refine pr_step rfl rfl rfl rfl ?_
          refine pr_iload rfl rfl ?_
          refine pr_iload_n rfl rfl ?_
          refine pr_c_le rfl (fun c_163 => ?_) (fun c_163 => ?_)
          · skip
            exact absurd c_163 (by omega)
          · skip
            refine pr_iload_n rfl rfl ?_
            refine pr_step rfl rfl rfl rfl ?_
            refine pr_step rfl rfl rfl rfl ?_
            refine pr_top ((by rw [hu, hv]; exact pw_at u v : 12 * x + y = nI (12 * u + v))) ?_
            refine pr_istore rfl (Nat.le_of_ble_eq_true rfl) rfl ?_
            refine pr_aload_n rfl rfl ?_
            refine pr_getf rfl rfl rfl ?_
            refine pr_iload rfl rfl ?_
            refine pr_aload_n rfl rfl ?_
            refine pr_getf rfl rfl rfl ?_
            refine pr_iload rfl rfl ?_
            refine pr_zald (12 * u + v) rfl hr_53 (by decide) rfl (by omega) ?_
            refine pr_t_ne rfl (fun c_188 => ?_) (fun c_188 => ?_)
            · skip
              have hbb := hs u v (by omega) (by omega)
              rw [hbb] at c_188
              have BB := pw_bo_1 c_188
              clear c_188 hbb
              dsimp only at BB
              refine pr_push (v := 0) rfl rfl ?_
              refine pr_zast (12 * u + v) rfl hr_53 (by decide) rfl (by omega) rfl ht_a53 ?_
              refine pr_iload rfl rfl ?_
              refine pr_istore_n rfl (Nat.le_of_ble_eq_true rfl) rfl ?_
              refine pr_iload rfl rfl ?_
              refine pr_istore_n rfl (Nat.le_of_ble_eq_true rfl) rfl ?_
              refine pr_iinc rfl rfl (pw_inc t) rfl ?_
              refine pr_step rfl rfl rfl rfl ?_
              exact ih (t + 1) _ _ _ _ _ _ (by omega) (by omega) (by omega) (by omega) (by omega) (wl_sd_tog (X0 := u) (Y0 := v) (b := V u v ^^ wl_cov 1 px py t u v) hs (by omega) rfl (by rw [BB]; rfl) (fun X Y => by
                rw [show ((t + 1 : Nat) : Int) = (t : Int) + 1 from by omega, wl_cov1 (by omega)]
                rw [show (u : Int) = px from by omega, show (v : Int) = py + t from by omega]
                simp only [Bool.xor_assoc]))
            · skip
              have hbb := hs u v (by omega) (by omega)
              rw [hbb] at c_188
              have BB := pw_bo_0 c_188
              clear c_188 hbb
              dsimp only at BB
              refine pr_push (v := 1) rfl rfl ?_
              refine pr_step rfl rfl rfl rfl ?_
              refine pr_zast (12 * u + v) rfl hr_53 (by decide) rfl (by omega) rfl ht_a53 ?_
              refine pr_iload rfl rfl ?_
              refine pr_istore_n rfl (Nat.le_of_ble_eq_true rfl) rfl ?_
              refine pr_iload rfl rfl ?_
              refine pr_istore_n rfl (Nat.le_of_ble_eq_true rfl) rfl ?_
              refine pr_iinc rfl rfl (pw_inc t) rfl ?_
              refine pr_step rfl rfl rfl rfl ?_
              exact ih (t + 1) _ _ _ _ _ _ (by omega) (by omega) (by omega) (by omega) (by omega) (wl_sd_tog (X0 := u) (Y0 := v) (b := V u v ^^ wl_cov 1 px py t u v) hs (by omega) rfl (by rw [BB]; rfl) (fun X Y => by
                rw [show ((t + 1 : Nat) : Int) = (t : Int) + 1 from by omega, wl_cov1 (by omega)]
                rw [show (u : Int) = px from by omega, show (v : Int) = py + t from by omega]
                simp only [Bool.xor_assoc]))
      · skip
        refine pr_push (v := 0) rfl rfl ?_
        exact pr_retb rfl rfl rfl (Kf (by omega) s)
set_option maxRecDepth 20000 in
theorem c_81_st2 (d : Nat) {N : Nat} {xs : Nat → Int32} {zc zm : Nat → Int32} {e3 e11 e18 : Nat} {A : Nat → Nat → Int32} {g gh : Nat → Option Nat} {dy : pw_H} (j i m : Nat) (hj : j < 4) (hi : i < 12) (hm : m ≤ 12) (f : Nat → Int32) (hfi : f i = nI m) (V : Int → Int → Bool) (px py : Int) (hp0 : (0 ≤ px ∧ px ≤ 12) ∧ 0 ≤ py ∧ py ≤ 12) (Qi : Int32 → pw_H → Prop) (Kf : ¬ ((0 ≤ px - (m : Int) ∧ px - (m : Int) ≤ 12) ∧ 0 ≤ py ∧ py ≤ 12) → ∀ s, Qi 0 (hp_h N xs zc e3 e11 e18 zm (uA (uA A 52 f) 53 s) g gh dy)) (K : ∀ (x y : Int32) (s : Nat → Int32) (g7 g8 g9 : Option pw_V), x.toInt = px - (m : Int) → y.toInt = py → (0 ≤ x.toInt ∧ x.toInt ≤ 12) → (0 ≤ y.toInt ∧ y.toInt ≤ 12) → wl_sd (fun X Y => V X Y ^^ wl_cov 2 px py m X Y) s → pw_W (d + 2) 81 209 [some (.inr (some 25)), some (.inl (nI j)), some (.inl x), some (.inl y), some (.inl (nI i)), some (.inl 2), some (.inl (nI m)), g7, g8, g9] [] (hp_h N xs zc e3 e11 e18 zm (uA (uA A 52 f) 53 s) g gh dy) (pw_qi Qi)) : ∀ (c t : Nat) (x y : Int32) (s : Nat → Int32) (g7 g8 g9 : Option pw_V), t + c = m → x.toInt = px - (t : Int) → y.toInt = py → (0 ≤ x.toInt ∧ x.toInt ≤ 12) → (0 ≤ y.toInt ∧ y.toInt ≤ 12) → wl_sd (fun X Y => V X Y ^^ wl_cov 2 px py t X Y) s → pw_W (d + 2) 81 77 [some (.inr (some 25)), some (.inl (nI j)), some (.inl x), some (.inl y), some (.inl (nI i)), some (.inl 2), some (.inl (nI t)), g7, g8, g9] [] (hp_h N xs zc e3 e11 e18 zm (uA (uA A 52 f) 53 s) g gh dy) (pw_qi Qi) := by
  have z0 := pz_0
  have z1 := pz_1
  have z2 := pz_2
  have z3 := pz_3
  have z4 := pz_4
  have z6 := pz_6
  have z7 := pz_7
  have z10 := pz_10
  have z11 := pz_11
  have z12 := pz_12
  have z20 := pz_20
  have z30 := pz_30
  have z50 := pz_50
  have z60 := pz_60
  have z80 := pz_80
  have z300 := pz_300
  obtain ⟨mo, hmo⟩ : ∃ mo : Int32, mo = -1 := ⟨_, rfl⟩
  have hmoT : mo.toInt = -1 := by rw [hmo]; rfl
  have hmT : (f i).toInt = (m : Int) := by rw [hfi]; exact pw_T (by omega)
  intro c
  induction c with
  | zero =>
    intro t x y s g7 g8 g9 ht hx hy rx ry hs
    obtain rfl : t = m := by omega
    have htT := pw_T (n := t) (by omega)
    refine pr_iload rfl rfl ?_
    refine pr_aload_n rfl rfl ?_
    refine pr_getf rfl rfl rfl ?_
    refine pr_iload rfl rfl ?_
    refine pr_iald (i) rfl hr_52 (by decide) (by decide) rfl (by omega) ?_
    refine pr_c_ge rfl (fun c_86 => ?_) (fun c_86 => ?_)
    · skip
      exact K x y s g7 g8 g9 hx hy rx ry hs
    · skip
      exact absurd c_86 (by omega)
  | succ c ih =>
    intro t x y s g7 g8 g9 ht hx hy rx ry hs
    have htT := pw_T (n := t) (by omega)
    obtain ⟨u, hu, huT, hul⟩ := pw_nat (x := x) (by omega)
    obtain ⟨v, hv, hvT, hvl⟩ := pw_nat (x := y) (by omega)
    have ax := pw_addT (a := x) (b := mo) (by omega) (by omega)
    have ay := pw_addT (a := y) (b := 0) (by omega) (by omega)
    refine pr_iload rfl rfl ?_
    refine pr_aload_n rfl rfl ?_
    refine pr_getf rfl rfl rfl ?_
    refine pr_iload rfl rfl ?_
    refine pr_iald (i) rfl hr_52 (by decide) (by decide) rfl (by omega) ?_
    refine pr_c_ge rfl (fun c_86 => ?_) (fun c_86 => ?_)
    · skip
      exact absurd c_86 (by omega)
    · skip
      refine pr_iload_n rfl rfl ?_
      refine pr_iload rfl rfl ?_
      refine pr_step rfl rfl rfl rfl ?_
      refine pr_iload rfl rfl ?_
      refine pr_push (v := 2) rfl rfl ?_
      refine pr_step rfl rfl rfl rfl ?_
      refine pr_push (v := (-1)) rfl rfl ?_
      refine pr_top hmo.symm ?_
      refine pr_step rfl rfl rfl rfl ?_
      refine pr_step rfl rfl rfl rfl ?_
      refine pr_istore rfl (Nat.le_of_ble_eq_true rfl) rfl ?_
      refine pr_iload_n rfl rfl ?_
      refine pr_iload rfl rfl ?_
      refine pr_push (v := 1) rfl rfl ?_
      refine pr_step rfl rfl rfl rfl ?_
      refine pr_iload rfl rfl ?_
      refine pr_push (v := 3) rfl rfl ?_
      refine pr_step rfl rfl rfl rfl ?_
      refine pr_push (v := 0) rfl rfl ?_
      refine pr_step rfl rfl rfl rfl ?_
      refine pr_istore rfl (Nat.le_of_ble_eq_true rfl) rfl ?_
      refine pr_iload rfl rfl ?_
      refine pr_iload rfl rfl ?_
      refine pr_si2 rfl (by decide) (Nat.le_of_ble_eq_true rfl) (Nat.le_of_ble_eq_true rfl) (c_70 _ _ (x + mo) (y + 0)) (fun r_142 h_142 q_142 => ?_)
      obtain ⟨e_142, f_142⟩ := q_142
      subst f_142
      rw [e_142]
      clear e_142
      refine pr_b_ne rfl (fun c_145 => ?_) (fun c_145 => ?_)
      · skip
        refine pr_iload rfl rfl ?_
        refine pr_iload_n rfl rfl ?_
        refine pr_u_eq rfl (fun c_153 => ?_) (fun c_153 => ?_)
        · skip
          refine pr_iload rfl rfl ?_
          refine pr_istore_n rfl (Nat.le_of_ble_eq_true rfl) rfl ?_
          refine pr_iload rfl rfl ?_
          refine pr_istore_n rfl (Nat.le_of_ble_eq_true rfl) rfl ?_
          refine pr_iinc rfl rfl (pw_inc t) rfl ?_
          refine pr_step rfl rfl rfl rfl ?_
          exact ih (t + 1) _ _ s _ _ _ (by omega) (by omega) (by omega) (by omega) (by omega) (by
            intro X Y hX hY
            rw [hs X Y hX hY]
            dsimp only
            rw [wl_covE (t2 := ((t + 1 : Nat) : Int)) (by omega)])
        · skip
          exact absurd c_153 (by omega)
      · skip
        refine pr_push (v := 0) rfl rfl ?_
        exact pr_retb rfl rfl rfl (Kf (by omega) s)
set_option maxRecDepth 20000 in
theorem c_81_st3 (d : Nat) {N : Nat} {xs : Nat → Int32} {zc zm : Nat → Int32} {e3 e11 e18 : Nat} {A : Nat → Nat → Int32} {g gh : Nat → Option Nat} {dy : pw_H} (j i m : Nat) (hj : j < 4) (hi : i < 12) (hm : m ≤ 12) (f : Nat → Int32) (hfi : f i = nI m) (V : Int → Int → Bool) (px py : Int) (hp0 : (0 ≤ px ∧ px ≤ 12) ∧ 0 ≤ py ∧ py ≤ 12) (Qi : Int32 → pw_H → Prop) (Kf : ¬ ((0 ≤ px ∧ px ≤ 12) ∧ 0 ≤ py - (m : Int) ∧ py - (m : Int) ≤ 12) → ∀ s, Qi 0 (hp_h N xs zc e3 e11 e18 zm (uA (uA A 52 f) 53 s) g gh dy)) (K : ∀ (x y : Int32) (s : Nat → Int32) (g7 g8 g9 : Option pw_V), x.toInt = px → y.toInt = py - (m : Int) → (0 ≤ x.toInt ∧ x.toInt ≤ 12) → (0 ≤ y.toInt ∧ y.toInt ≤ 12) → wl_sd (fun X Y => V X Y ^^ wl_cov 3 px py m X Y) s → pw_W (d + 2) 81 209 [some (.inr (some 25)), some (.inl (nI j)), some (.inl x), some (.inl y), some (.inl (nI i)), some (.inl 3), some (.inl (nI m)), g7, g8, g9] [] (hp_h N xs zc e3 e11 e18 zm (uA (uA A 52 f) 53 s) g gh dy) (pw_qi Qi)) : ∀ (c t : Nat) (x y : Int32) (s : Nat → Int32) (g7 g8 g9 : Option pw_V), t + c = m → x.toInt = px → y.toInt = py - (t : Int) → (0 ≤ x.toInt ∧ x.toInt ≤ 12) → (0 ≤ y.toInt ∧ y.toInt ≤ 12) → wl_sd (fun X Y => V X Y ^^ wl_cov 3 px py t X Y) s → pw_W (d + 2) 81 77 [some (.inr (some 25)), some (.inl (nI j)), some (.inl x), some (.inl y), some (.inl (nI i)), some (.inl 3), some (.inl (nI t)), g7, g8, g9] [] (hp_h N xs zc e3 e11 e18 zm (uA (uA A 52 f) 53 s) g gh dy) (pw_qi Qi) := by
  have z0 := pz_0
  have z1 := pz_1
  have z2 := pz_2
  have z3 := pz_3
  have z4 := pz_4
  have z6 := pz_6
  have z7 := pz_7
  have z10 := pz_10
  have z11 := pz_11
  have z12 := pz_12
  have z20 := pz_20
  have z30 := pz_30
  have z50 := pz_50
  have z60 := pz_60
  have z80 := pz_80
  have z300 := pz_300
  obtain ⟨mo, hmo⟩ : ∃ mo : Int32, mo = -1 := ⟨_, rfl⟩
  have hmoT : mo.toInt = -1 := by rw [hmo]; rfl
  have hmT : (f i).toInt = (m : Int) := by rw [hfi]; exact pw_T (by omega)
  intro c
  induction c with
  | zero =>
    intro t x y s g7 g8 g9 ht hx hy rx ry hs
    obtain rfl : t = m := by omega
    have htT := pw_T (n := t) (by omega)
    refine pr_iload rfl rfl ?_
    refine pr_aload_n rfl rfl ?_
    refine pr_getf rfl rfl rfl ?_
    refine pr_iload rfl rfl ?_
    refine pr_iald (i) rfl hr_52 (by decide) (by decide) rfl (by omega) ?_
    refine pr_c_ge rfl (fun c_86 => ?_) (fun c_86 => ?_)
    · skip
      exact K x y s g7 g8 g9 hx hy rx ry hs
    · skip
      exact absurd c_86 (by omega)
  | succ c ih =>
    intro t x y s g7 g8 g9 ht hx hy rx ry hs
    have htT := pw_T (n := t) (by omega)
    obtain ⟨u, hu, huT, hul⟩ := pw_nat (x := x) (by omega)
    obtain ⟨v, hv, hvT, hvl⟩ := pw_nat (x := y) (by omega)
    have ax := pw_addT (a := x) (b := 0) (by omega) (by omega)
    have ay := pw_addT (a := y) (b := mo) (by omega) (by omega)
    refine pr_iload rfl rfl ?_
    refine pr_aload_n rfl rfl ?_
    refine pr_getf rfl rfl rfl ?_
    refine pr_iload rfl rfl ?_
    refine pr_iald (i) rfl hr_52 (by decide) (by decide) rfl (by omega) ?_
    refine pr_c_ge rfl (fun c_86 => ?_) (fun c_86 => ?_)
    · skip
      exact absurd c_86 (by omega)
    · skip
      refine pr_iload_n rfl rfl ?_
      refine pr_iload rfl rfl ?_
      refine pr_step rfl rfl rfl rfl ?_
      refine pr_iload rfl rfl ?_
      refine pr_push (v := 2) rfl rfl ?_
      refine pr_step rfl rfl rfl rfl ?_
      refine pr_push (v := 0) rfl rfl ?_
      refine pr_step rfl rfl rfl rfl ?_
      refine pr_istore rfl (Nat.le_of_ble_eq_true rfl) rfl ?_
      refine pr_iload_n rfl rfl ?_
      refine pr_iload rfl rfl ?_
      refine pr_push (v := 1) rfl rfl ?_
      refine pr_step rfl rfl rfl rfl ?_
      refine pr_iload rfl rfl ?_
      refine pr_push (v := 3) rfl rfl ?_
      refine pr_step rfl rfl rfl rfl ?_
      refine pr_push (v := (-1)) rfl rfl ?_
      refine pr_top hmo.symm ?_
      refine pr_step rfl rfl rfl rfl ?_
      refine pr_step rfl rfl rfl rfl ?_
      refine pr_istore rfl (Nat.le_of_ble_eq_true rfl) rfl ?_
      refine pr_iload rfl rfl ?_
      refine pr_iload rfl rfl ?_
      refine pr_si2 rfl (by decide) (Nat.le_of_ble_eq_true rfl) (Nat.le_of_ble_eq_true rfl) (c_70 _ _ (x + 0) (y + mo)) (fun r_142 h_142 q_142 => ?_)
      obtain ⟨e_142, f_142⟩ := q_142
      subst f_142
      rw [e_142]
      clear e_142
      refine pr_b_ne rfl (fun c_145 => ?_) (fun c_145 => ?_)
      · skip
        obtain ⟨w, hw0, hwT, hwl⟩ := pw_nat (x := y + mo) (by omega)
        refine pr_iload rfl rfl ?_
        refine pr_iload_n rfl rfl ?_
        refine pr_u_eq rfl (fun c_153 => ?_) (fun c_153 => ?_)
        · skip
          exact absurd c_153 (by omega)
        · skip
          refine pr_push (v := 12) rfl rfl ?_
          refine pr_iload_n rfl rfl ?_
          refine pr_step rfl rfl rfl rfl ?_
          refine pr_iload rfl rfl ?_
          refine pr_iload_n rfl rfl ?_
          refine pr_c_le rfl (fun c_163 => ?_) (fun c_163 => ?_)
          · skip
            refine pr_iload rfl rfl ?_
            refine pr_step rfl rfl rfl rfl ?_
            refine pr_top ((by rw [hw0, hu]; exact pw_at u w : 12 * x + (y + mo) = nI (12 * u + w))) ?_
            refine pr_istore rfl (Nat.le_of_ble_eq_true rfl) rfl ?_
            refine pr_aload_n rfl rfl ?_
            refine pr_getf rfl rfl rfl ?_
            refine pr_iload rfl rfl ?_
            refine pr_aload_n rfl rfl ?_
            refine pr_getf rfl rfl rfl ?_
            refine pr_iload rfl rfl ?_
            refine pr_zald (12 * u + w) rfl hr_53 (by decide) rfl (by omega) ?_
            refine pr_t_ne rfl (fun c_188 => ?_) (fun c_188 => ?_)
            · skip
              have hbb := hs u w (by omega) (by omega)
              rw [hbb] at c_188
              have BB := pw_bo_1 c_188
              clear c_188 hbb
              dsimp only at BB
              refine pr_push (v := 0) rfl rfl ?_
              refine pr_zast (12 * u + w) rfl hr_53 (by decide) rfl (by omega) rfl ht_a53 ?_
              refine pr_iload rfl rfl ?_
              refine pr_istore_n rfl (Nat.le_of_ble_eq_true rfl) rfl ?_
              refine pr_iload rfl rfl ?_
              refine pr_istore_n rfl (Nat.le_of_ble_eq_true rfl) rfl ?_
              refine pr_iinc rfl rfl (pw_inc t) rfl ?_
              refine pr_step rfl rfl rfl rfl ?_
              exact ih (t + 1) _ _ _ _ _ _ (by omega) (by omega) (by omega) (by omega) (by omega) (wl_sd_tog (X0 := u) (Y0 := w) (b := V u w ^^ wl_cov 3 px py t u w) hs (by omega) rfl (by rw [BB]; rfl) (fun X Y => by
                rw [show ((t + 1 : Nat) : Int) = (t : Int) + 1 from by omega, wl_cov3 (by omega)]
                rw [show (u : Int) = px from by omega, show (w : Int) = py - t - 1 from by omega]
                simp only [Bool.xor_assoc]))
            · skip
              have hbb := hs u w (by omega) (by omega)
              rw [hbb] at c_188
              have BB := pw_bo_0 c_188
              clear c_188 hbb
              dsimp only at BB
              refine pr_push (v := 1) rfl rfl ?_
              refine pr_step rfl rfl rfl rfl ?_
              refine pr_zast (12 * u + w) rfl hr_53 (by decide) rfl (by omega) rfl ht_a53 ?_
              refine pr_iload rfl rfl ?_
              refine pr_istore_n rfl (Nat.le_of_ble_eq_true rfl) rfl ?_
              refine pr_iload rfl rfl ?_
              refine pr_istore_n rfl (Nat.le_of_ble_eq_true rfl) rfl ?_
              refine pr_iinc rfl rfl (pw_inc t) rfl ?_
              refine pr_step rfl rfl rfl rfl ?_
              exact ih (t + 1) _ _ _ _ _ _ (by omega) (by omega) (by omega) (by omega) (by omega) (wl_sd_tog (X0 := u) (Y0 := w) (b := V u w ^^ wl_cov 3 px py t u w) hs (by omega) rfl (by rw [BB]; rfl) (fun X Y => by
                rw [show ((t + 1 : Nat) : Int) = (t : Int) + 1 from by omega, wl_cov3 (by omega)]
                rw [show (u : Int) = px from by omega, show (w : Int) = py - t - 1 from by omega]
                simp only [Bool.xor_assoc]))
          · skip
            exact absurd c_163 (by omega)
      · skip
        refine pr_push (v := 0) rfl rfl ?_
        exact pr_retb rfl rfl rfl (Kf (by omega) s)
