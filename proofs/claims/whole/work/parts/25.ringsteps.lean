section HR
variable {N : Nat} {xs : Nat → Int32} {zc zm : Nat → Int32} {e3 e11 e18 : Nat} {A : Nat → Nat → Int32} {g gh : Nat → Option Nat} {dy : pw_H} {f s : Nat → Int32}
theorem hr_26 : (hp_h N xs zc e3 e11 e18 zm (uA (uA A 52 f) 53 s) g gh dy)[26]? = some (.inl (0, 4, A 26)) := rfl
theorem hr_27 : (hp_h N xs zc e3 e11 e18 zm (uA (uA A 52 f) 53 s) g gh dy)[27]? = some (.inl (0, 4, A 27)) := rfl
theorem hr_28 : (hp_h N xs zc e3 e11 e18 zm (uA (uA A 52 f) 53 s) g gh dy)[28]? = some (.inl (0, 4, A 28)) := rfl
theorem hr_29 : (hp_h N xs zc e3 e11 e18 zm (uA (uA A 52 f) 53 s) g gh dy)[29]? = some (.inl (0, 48, A 29)) := rfl
theorem hr_52 : (hp_h N xs zc e3 e11 e18 zm (uA (uA A 52 f) 53 s) g gh dy)[52]? = some (.inl (0, 12, f)) := rfl
theorem hr_53 : (hp_h N xs zc e3 e11 e18 zm (uA (uA A 52 f) 53 s) g gh dy)[53]? = some (.inl (1, 156, s)) := rfl
end HR
theorem c_81_st0 (d : Nat) {N : Nat} {xs : Nat → Int32} {zc zm : Nat → Int32} {e3 e11 e18 : Nat} {A : Nat → Nat → Int32} {g gh : Nat → Option Nat} {dy : pw_H} (j i m : Nat) (hj : j < 4) (hi : i < 12) (hm : m ≤ 12) (f : Nat → Int32) (hfi : f i = nI m) (V : Int → Int → Bool) (px py : Int) (hp0 : (0 ≤ px ∧ px ≤ 12) ∧ 0 ≤ py ∧ py ≤ 12) (Qi : Int32 → pw_H → Prop) (Kf : ¬ ((0 ≤ px + (m : Int) ∧ px + (m : Int) ≤ 12) ∧ 0 ≤ py ∧ py ≤ 12) → ∀ s, Qi 0 (hp_h N xs zc e3 e11 e18 zm (uA (uA A 52 f) 53 s) g gh dy)) (K : ∀ (x y : Int32) (s : Nat → Int32) (g7 g8 g9 : Option pw_V), x.toInt = px + (m : Int) → y.toInt = py → (0 ≤ x.toInt ∧ x.toInt ≤ 12) → (0 ≤ y.toInt ∧ y.toInt ≤ 12) → wl_sd (fun X Y => V X Y ^^ wl_cov 0 px py m X Y) s → pw_W (d + 2) 81 209 [some (.inr (some 25)), some (.inl (nI j)), some (.inl x), some (.inl y), some (.inl (nI i)), some (.inl 0), some (.inl (nI m)), g7, g8, g9] [] (hp_h N xs zc e3 e11 e18 zm (uA (uA A 52 f) 53 s) g gh dy) (pw_qi Qi)) : ∀ (c t : Nat) (x y : Int32) (s : Nat → Int32) (g7 g8 g9 : Option pw_V), t + c = m → x.toInt = px + (t : Int) → y.toInt = py → (0 ≤ x.toInt ∧ x.toInt ≤ 12) → (0 ≤ y.toInt ∧ y.toInt ≤ 12) → wl_sd (fun X Y => V X Y ^^ wl_cov 0 px py t X Y) s → pw_W (d + 2) 81 77 [some (.inr (some 25)), some (.inl (nI j)), some (.inl x), some (.inl y), some (.inl (nI i)), some (.inl 0), some (.inl (nI t)), g7, g8, g9] [] (hp_h N xs zc e3 e11 e18 zm (uA (uA A 52 f) 53 s) g gh dy) (pw_qi Qi) := by
  have z0 := pz_0
  have z1 := pz_1
  have z2 := pz_2
  have z3 := pz_3
  have z4 := pz_4
  have z6 := pz_6
  have z7 := pz_7
  have z10 := pz_10
  have z11 := pz_11
  have z12 := pz_12
  have z20 := pz_20
  have z30 := pz_30
  have z50 := pz_50
  have z60 := pz_60
  have z80 := pz_80
  have z300 := pz_300
  have zm1 := pz_m1
  have hmT : (f i).toInt = (m : Int) := by rw [hfi]; exact pw_T (by omega)
  intro c
  induction c with
  | zero =>
    intro t x y s g7 g8 g9 ht hx hy rx ry hs
    obtain rfl : t = m := by omega
    have htT := pw_T (n := t) (by omega)
    refine pr_iload rfl rfl ?_
    refine pr_aload_n rfl rfl ?_
    refine pr_getf rfl rfl rfl ?_
    refine pr_iload rfl rfl ?_
    refine pr_iald (i) rfl hr_52 (by decide) (by decide) rfl (by omega) ?_
    refine pr_c_ge rfl (fun c_86 => ?_) (fun c_86 => ?_)
    · skip
      exact K x y s g7 g8 g9 hx hy rx ry hs
    · skip
      exact absurd c_86 (by omega)
  | succ c ih =>
    intro t x y s g7 g8 g9 ht hx hy rx ry hs
    have htT := pw_T (n := t) (by omega)
    obtain ⟨u, hu, huT, hul⟩ := pw_nat (x := x) (by omega)
    obtain ⟨v, hv, hvT, hvl⟩ := pw_nat (x := y) (by omega)
    have ax := pw_addT (a := x) (b := 1) (by omega) (by omega)
    have ay := pw_addT (a := y) (b := 0) (by omega) (by omega)
    refine pr_iload rfl rfl ?_
    refine pr_aload_n rfl rfl ?_
    refine pr_getf rfl rfl rfl ?_
    refine pr_iload rfl rfl ?_
    refine pr_iald (i) rfl hr_52 (by decide) (by decide) rfl (by omega) ?_
    refine pr_c_ge rfl (fun c_86 => ?_) (fun c_86 => ?_)
    · skip
      exact absurd c_86 (by omega)
    · skip
      refine pr_iload_n rfl rfl ?_
      refine pr_iload rfl rfl ?_
      refine pr_step rfl rfl rfl rfl ?_
      refine pr_push (v := 1) rfl rfl ?_
      refine pr_step rfl rfl rfl rfl ?_
      refine pr_step rfl rfl rfl rfl ?_
      refine pr_istore rfl (Nat.le_of_ble_eq_true rfl) rfl ?_
      refine pr_iload_n rfl rfl ?_
      refine pr_iload rfl rfl ?_
      refine pr_push (v := 1) rfl rfl ?_
      refine pr_step rfl rfl rfl rfl ?_
      refine pr_iload rfl rfl ?_
      refine pr_push (v := 3) rfl rfl ?_
      refine pr_step rfl rfl rfl rfl ?_
      refine pr_push (v := 0) rfl rfl ?_
      refine pr_step rfl rfl rfl rfl ?_
      refine pr_istore rfl (Nat.le_of_ble_eq_true rfl) rfl ?_
      refine pr_iload rfl rfl ?_
      refine pr_iload rfl rfl ?_
      refine pr_si2 rfl (by decide) (Nat.le_of_ble_eq_true rfl) (Nat.le_of_ble_eq_true rfl) (c_70 _ _ _ _) (fun r_142 h_142 q_142 => ?_)
      obtain ⟨rfl, rfl⟩ := q_142
      refine pr_b_ne rfl (fun c_145 => ?_) (fun c_145 => ?_)
      · skip
        refine pr_iload rfl rfl ?_
        refine pr_iload_n rfl rfl ?_
        refine pr_u_eq rfl (fun c_153 => ?_) (fun c_153 => ?_)
        · skip
          refine pr_iload rfl rfl ?_
          refine pr_istore_n rfl (Nat.le_of_ble_eq_true rfl) rfl ?_
          refine pr_iload rfl rfl ?_
          refine pr_istore_n rfl (Nat.le_of_ble_eq_true rfl) rfl ?_
          refine pr_iinc rfl rfl (pw_inc t) rfl ?_
          refine pr_step rfl rfl rfl rfl ?_
          exact ih (t + 1) _ _ s _ _ _ (by omega) (by omega) (by omega) (by omega) (by omega) (by
            intro X Y hX hY
            rw [hs X Y hX hY]
            dsimp only
            rw [wl_covE (t2 := ((t + 1 : Nat) : Int)) (by omega)])
        · skip
          exact absurd c_153 (by omega)
      · skip
        refine pr_push (v := 0) rfl rfl ?_
        exact pr_retb rfl rfl rfl (Kf (by omega) s)
