def rn_in (A : Nat → Nat → Int32) (T : Nat) (now yr : Int32) (S : Nat) : Nat → (Nat → Int32) → (Nat → Int32)
  | 0, f => f
  | k + 1, f => rn_in A T now yr S k (match la_run (uA A 56 f) T now yr S with
    | none => f
    | some b => upd f b yr)
def rn_any (A : Nat → Nat → Int32) (T : Nat) (now gap : Int32) (f : Nat → Int32) (yr : Int32) : Nat → Bool
  | 0 => false
  | i + 1 => rn_any A T now gap f yr i || decide (¬ wh_of A T i now now = -1 ∧ gap.toInt ≤ (yr - f i).toInt)
theorem rn_any_up {A : Nat → Nat → Int32} {T : Nat} {now gap : Int32} {f : Nat → Int32} {yr : Int32} {i : Nat} (h : rn_any A T now gap f yr i = true) : ∀ k, rn_any A T now gap f yr (i + k) = true
  | 0 => h
  | k + 1 => by
    show (rn_any A T now gap f yr (i + k) || _) = true
    rw [rn_any_up h k]
    rfl
def rn_run (A : Nat → Nat → Int32) (T : Nat) (now gap : Int32) (S m : Nat) : Nat → Nat → (Nat → Int32) → Int32
  | 0, _, _ => -1
  | k + 1, y, f => if rn_any A T now gap (rn_in A T now (nI y) S m f) (nI y) S = true then nI y else rn_run A T now gap S m k (y + 1) (rn_in A T now (nI y) S m f)
theorem c_112_i (d : Nat) {N : Nat} {xs : Nat → Int32} {zc zm : Nat → Int32} {e3 e11 e18 : Nat} {A : Nat → Nat → Int32} {g gh : Nat → Option Nat} {dy : pw_H} (S : Nat) (hS : zm 12 = nI S) (hSb : S ≤ 12) (T : Nat) (hT : zm 16 = nI T) (hTb : T ≤ 60) (hf : ∀ i, i < T → 0 ≤ (A 39 i).toInt) (n m : Nat) (hm : m ≤ 12) (y : Nat) (F : Nat → Int32) (Q : Option pw_V → pw_H → Prop) (K : ∀ (g4 g5 : Option pw_V), pw_W (d + 3) 112 102 [some (.inr (some 25)), some (.inl (nI n)), some (.inl (nI m)), some (.inl (nI y)), g4, g5] [] (hp_h N xs zc e3 e11 e18 zm (uA A 56 F) g gh dy) Q) : ∀ (k i : Nat) (f : Nat → Int32) (g5 : Option pw_V), i + k = m → rn_in A T (zm 11) (nI y) S k f = F → pw_W (d + 3) 112 69 [some (.inr (some 25)), some (.inl (nI n)), some (.inl (nI m)), some (.inl (nI y)), some (.inl (nI i)), g5] [] (hp_h N xs zc e3 e11 e18 zm (uA A 56 f) g gh dy) Q := by
  have zm1 := pz_m1
  have hmT := pw_T (n := m) (by omega)
  intro k
  induction k with
  | zero =>
    intro i f g5 hi hF
    obtain rfl : i = m := by omega
    subst hF
    refine pr_iload rfl rfl ?_
    refine pr_iload_n rfl rfl ?_
    refine pr_c_ge rfl (fun c_72 => ?_) (fun c_72 => ?_)
    · skip
      exact K _ _
    · skip
      exact absurd c_72 (by omega)
  | succ k ih =>
    intro i f g5 hi hF
    have hiT := pw_T (n := i) (by omega)
    rw [rn_in] at hF
    cases hr : la_run (uA A 56 f) T (zm 11) (nI y) S with
    | none =>
      rw [hr] at hF
      dsimp only at hF
      refine pr_iload rfl rfl ?_
      refine pr_iload_n rfl rfl ?_
      refine pr_c_ge rfl (fun c_72 => ?_) (fun c_72 => ?_)
      · skip
        exact absurd c_72 (by omega)
      · skip
        refine pr_aload_n rfl rfl ?_
        refine pr_iload_n rfl rfl ?_
        refine pr_vi1 rfl (by decide) (Nat.le_of_ble_eq_true rfl) rfl (Nat.le_of_ble_eq_true rfl) (c_111 (A := (uA A 56 f)) _ S hS hSb T hT hTb hf (nI y)) (fun r_77 h_77 q_77 => ?_)
        obtain ⟨e_77, rfl⟩ := q_77
        rw [hr] at e_77
        change r_77 = -1 at e_77
        subst e_77
        refine pr_istore rfl (Nat.le_of_ble_eq_true rfl) rfl ?_
        refine pr_iload rfl rfl ?_
        refine pr_push (v := (-1)) rfl rfl ?_
        refine pr_step rfl rfl rfl rfl ?_
        refine pr_iinc rfl rfl (pw_inc i) rfl ?_
        refine pr_step rfl rfl rfl rfl ?_
        exact ih (i + 1) _ _ (by omega) hF
    | some b =>
      rw [hr] at hF
      dsimp only at hF
      have hb := la_lt _ T (zm 11) (nI y) S b hr
      have hbT := pw_T (n := b) (by omega)
      refine pr_iload rfl rfl ?_
      refine pr_iload_n rfl rfl ?_
      refine pr_c_ge rfl (fun c_72 => ?_) (fun c_72 => ?_)
      · skip
        exact absurd c_72 (by omega)
      · skip
        refine pr_aload_n rfl rfl ?_
        refine pr_iload_n rfl rfl ?_
        refine pr_vi1 rfl (by decide) (Nat.le_of_ble_eq_true rfl) rfl (Nat.le_of_ble_eq_true rfl) (c_111 (A := (uA A 56 f)) _ S hS hSb T hT hTb hf (nI y)) (fun r_77 h_77 q_77 => ?_)
        obtain ⟨e_77, rfl⟩ := q_77
        rw [hr] at e_77
        change r_77 = nI b at e_77
        subst e_77
        refine pr_istore rfl (Nat.le_of_ble_eq_true rfl) rfl ?_
        refine pr_iload rfl rfl ?_
        refine pr_push (v := (-1)) rfl rfl ?_
        refine pr_u_eq rfl (fun c_85 => ?_) (fun c_85 => ?_)
        · skip
          exact absurd c_85 (by omega)
        · skip
          refine pr_aload_n rfl rfl ?_
          refine pr_getf rfl rfl rfl ?_
          refine pr_iload rfl rfl ?_
          refine pr_iload_n rfl rfl ?_
          refine pr_iast (f := f) (b) rfl rfl (by decide) rfl (by omega) ht_a56 ?_
          refine pr_iinc rfl rfl (pw_inc i) rfl ?_
          refine pr_step rfl rfl rfl rfl ?_
          exact ih (i + 1) _ _ (by omega) hF
theorem c_112_u (d : Nat) {N : Nat} {xs : Nat → Int32} {zc zm : Nat → Int32} {e3 e11 e18 : Nat} {A : Nat → Nat → Int32} {g gh : Nat → Option Nat} {dy : pw_H} (S : Nat) (hS : zm 12 = nI S) (hSb : S ≤ 12) (T : Nat) (hT : zm 16 = nI T) (hTb : T ≤ 60) (hf : ∀ i, i < T → 0 ≤ (A 39 i).toInt) (n m : Nat) (y : Nat) (f : Nat → Int32) (Qi : Int32 → pw_H → Prop) (Ky : rn_any A T (zm 11) (zm 34) f (nI y) S = true → Qi (nI y) (hp_h N xs zc e3 e11 e18 zm (uA A 56 f) g gh dy)) (Kn : rn_any A T (zm 11) (zm 34) f (nI y) S = false → ∀ (g4 g5 : Option pw_V), pw_W (d + 3) 112 147 [some (.inr (some 25)), some (.inl (nI n)), some (.inl (nI m)), some (.inl (nI y)), g4, g5] [] (hp_h N xs zc e3 e11 e18 zm (uA A 56 f) g gh dy) (pw_qi Qi)) : ∀ (k i : Nat) (g5 : Option pw_V), i + k = S → rn_any A T (zm 11) (zm 34) f (nI y) i = false → pw_W (d + 3) 112 105 [some (.inr (some 25)), some (.inl (nI n)), some (.inl (nI m)), some (.inl (nI y)), some (.inl (nI i)), g5] [] (hp_h N xs zc e3 e11 e18 zm (uA A 56 f) g gh dy) (pw_qi Qi) := by
  have hST : (zm 12).toInt = (S : Int) := by rw [hS]; exact pw_T (by omega)
  have hSP : (zm 12 - 1).toInt = (S : Int) - 1 := by rw [hS]; exact pw_pred (by omega)
  intro k
  induction k with
  | zero =>
    intro i g5 hi hF
    obtain rfl : i = S := by omega
    have hiT := pw_T (n := i) (by omega)
    refine pr_iload rfl rfl ?_
    refine pr_aload_n rfl rfl ?_
    refine pr_getf rfl rfl rfl ?_
    refine pr_c_ge rfl (fun c_111 => ?_) (fun c_111 => ?_)
    · skip
      exact Kn hF _ _
    · skip
      exact absurd c_111 (by omega)
  | succ k ih =>
    intro i g5 hi hF
    have hiT := pw_T (n := i) (by omega)
    refine pr_iload rfl rfl ?_
    refine pr_aload_n rfl rfl ?_
    refine pr_getf rfl rfl rfl ?_
    refine pr_c_ge rfl (fun c_111 => ?_) (fun c_111 => ?_)
    · skip
      exact absurd c_111 (by omega)
    · skip
      refine pr_aload_n rfl rfl ?_
      refine pr_iload rfl rfl ?_
      refine pr_vi1 rfl (by decide) (Nat.le_of_ble_eq_true rfl) rfl (Nat.le_of_ble_eq_true rfl) (c_107 (A := (uA A 56 f)) _ T hT hTb hf i (by omega)) (fun r_117 h_117 q_117 => ?_)
      obtain ⟨rfl, rfl⟩ := q_117
      refine pr_b_ne rfl (fun c_120 => ?_) (fun c_120 => ?_)
      · skip
        refine pr_iinc rfl rfl (pw_inc i) rfl ?_
        refine pr_step rfl rfl rfl rfl ?_
        exact ih (i + 1) _ (by omega) (by
          rw [rn_any, hF, Bool.false_or]
          exact decide_eq_false (fun hh => by first | exact hh.1 c_120 | exact absurd hh.2 (by omega)))
      · skip
        refine pr_iload_n rfl rfl ?_
        refine pr_aload_n rfl rfl ?_
        refine pr_getf rfl rfl rfl ?_
        refine pr_iload rfl rfl ?_
        refine pr_iald (f := f) (i) rfl rfl (by decide) (by decide) rfl (by omega) ?_
        refine pr_step rfl rfl rfl rfl ?_
        refine pr_aload_n rfl rfl ?_
        refine pr_getf rfl rfl rfl ?_
        refine pr_c_lt rfl (fun c_136 => ?_) (fun c_136 => ?_)
        · skip
          refine pr_iinc rfl rfl (pw_inc i) rfl ?_
          refine pr_step rfl rfl rfl rfl ?_
          exact ih (i + 1) _ (by omega) (by
            rw [rn_any, hF, Bool.false_or]
            exact decide_eq_false (fun hh => by first | exact hh.1 c_120 | exact absurd hh.2 (by omega)))
        · skip
          refine pr_iload_n rfl rfl ?_
          exact pr_reti rfl rfl (by
  refine Ky ?_
  have h1 : rn_any A T (zm 11) (zm 34) f (nI y) (i + 1) = true := by
    rw [rn_any, hF, Bool.false_or]
    exact decide_eq_true ⟨c_120, c_136⟩
  have h2 := rn_any_up h1 k
  rw [show i + 1 + k = S by omega] at h2
  exact h2)
theorem c_112_y (d : Nat) {N : Nat} {xs : Nat → Int32} {zc zm : Nat → Int32} {e3 e11 e18 : Nat} {A : Nat → Nat → Int32} {g gh : Nat → Option Nat} {dy : pw_H} (Y : Nat) (hY : zm 11 = nI Y) (hYb : Y ≤ 300) (S : Nat) (hS : zm 12 = nI S) (hSb : S ≤ 12) (T : Nat) (hT : zm 16 = nI T) (hTb : T ≤ 60) (hf : ∀ i, i < T → 0 ≤ (A 39 i).toInt) (n m : Nat) (hn : n ≤ 30) (hm : m ≤ 12) (Qi : Int32 → pw_H → Prop) : ∀ (k y : Nat) (f : Nat → Int32) (g4 g5 : Option pw_V), y + k = Y + n → (∀ f2, Qi (rn_run A T (zm 11) (zm 34) S m k y f) (hp_h N xs zc e3 e11 e18 zm (uA A 56 f2) g gh dy)) → pw_W (d + 3) 112 56 [some (.inr (some 25)), some (.inl (nI n)), some (.inl (nI m)), some (.inl (nI y)), g4, g5] [] (hp_h N xs zc e3 e11 e18 zm (uA A 56 f) g gh dy) (pw_qi Qi) := by
  have hYT : (zm 11).toInt = (Y : Int) := by rw [hY]; exact pw_T (by omega)
  have hYP : (zm 11 - 1).toInt = (Y : Int) - 1 := by rw [hY]; exact pw_pred (by omega)
  have hyn : (zm 11 + nI n).toInt = ((Y + n : Nat) : Int) := by rw [hY, nI_add]; exact pw_T (by omega)
  intro k
  induction k with
  | zero =>
    intro y f g4 g5 hy hQ
    have hyT := pw_T (n := y) (by omega)
    refine pr_iload_n rfl rfl ?_
    refine pr_aload_n rfl rfl ?_
    refine pr_getf rfl rfl rfl ?_
    refine pr_iload_n rfl rfl ?_
    refine pr_step rfl rfl rfl rfl ?_
    refine pr_c_ge rfl (fun c_63 => ?_) (fun c_63 => ?_)
    · skip
      refine pr_push (v := (-1)) rfl rfl ?_
      exact pr_reti rfl rfl (hQ f)
    · skip
      exact absurd c_63 (by omega)
  | succ k ih =>
    intro y f g4 g5 hy hQ
    have hyT := pw_T (n := y) (by omega)
    refine pr_iload_n rfl rfl ?_
    refine pr_aload_n rfl rfl ?_
    refine pr_getf rfl rfl rfl ?_
    refine pr_iload_n rfl rfl ?_
    refine pr_step rfl rfl rfl rfl ?_
    refine pr_c_ge rfl (fun c_63 => ?_) (fun c_63 => ?_)
    · skip
      exact absurd c_63 (by omega)
    · skip
      refine pr_push (v := 0) rfl rfl ?_
      refine pr_istore rfl (Nat.le_of_ble_eq_true rfl) rfl ?_
      refine c_112_i d S hS hSb T hT hTb hf n m hm y (rn_in A T (zm 11) (nI y) S m f) _ (fun h4 h5 => ?_) m 0 f _ (by omega) rfl
      refine pr_push (v := 0) rfl rfl ?_
      refine pr_istore rfl (Nat.le_of_ble_eq_true rfl) rfl ?_
      refine c_112_u d S hS hSb T hT hTb hf n m y (rn_in A T (zm 11) (nI y) S m f) Qi (fun hh => ?_) (fun hh k4 k5 => ?_) S 0 _ (by omega) rfl
      · have h2 := hQ (rn_in A T (zm 11) (nI y) S m f)
        rw [rn_run, if_pos hh] at h2
        exact h2
      · skip
        refine pr_iinc rfl rfl (pw_inc y) rfl ?_
        refine pr_step rfl rfl rfl rfl ?_
        refine ih (y + 1) (rn_in A T (zm 11) (nI y) S m f) _ _ (by omega) (fun f2 => ?_)
        have h2 := hQ f2
        rw [rn_run, if_neg (by rw [hh]; exact Bool.false_ne_true)] at h2
        exact h2
theorem c_112_c (d : Nat) {N : Nat} {xs : Nat → Int32} {zc zm : Nat → Int32} {e3 e11 e18 : Nat} {A : Nat → Nat → Int32} {g gh : Nat → Option Nat} {dy : pw_H} (S : Nat) (hS : zm 12 = nI S) (hSb : S ≤ 12) (n m : Nat) (Q : Option pw_V → pw_H → Prop) (K : ∀ (g3 : Option pw_V), pw_W (d + 3) 112 51 [some (.inr (some 25)), some (.inl (nI n)), some (.inl (nI m)), g3, none, none] [] (hp_h N xs zc e3 e11 e18 zm (uA A 56 (fun a => if a < S then A 37 a else A 56 a)) g gh dy) Q) : ∀ (k i : Nat) (f : Nat → Int32), i + k = S → f = (fun a => if a < i then A 37 a else A 56 a) → pw_W (d + 3) 112 25 [some (.inr (some 25)), some (.inl (nI n)), some (.inl (nI m)), some (.inl (nI i)), none, none] [] (hp_h N xs zc e3 e11 e18 zm (uA A 56 f) g gh dy) Q := by
  have hST : (zm 12).toInt = (S : Int) := by rw [hS]; exact pw_T (by omega)
  have hSP : (zm 12 - 1).toInt = (S : Int) - 1 := by rw [hS]; exact pw_pred (by omega)
  intro k
  induction k with
  | zero =>
    intro i f hi hF
    obtain rfl : i = S := by omega
    have hiT := pw_T (n := i) (by omega)
    subst hF
    refine pr_iload_n rfl rfl ?_
    refine pr_aload_n rfl rfl ?_
    refine pr_getf rfl rfl rfl ?_
    refine pr_c_ge rfl (fun c_30 => ?_) (fun c_30 => ?_)
    · skip
      exact K _
    · skip
      exact absurd c_30 (by omega)
  | succ k ih =>
    intro i f hi hF
    have hiT := pw_T (n := i) (by omega)
    refine pr_iload_n rfl rfl ?_
    refine pr_aload_n rfl rfl ?_
    refine pr_getf rfl rfl rfl ?_
    refine pr_c_ge rfl (fun c_30 => ?_) (fun c_30 => ?_)
    · skip
      exact absurd c_30 (by omega)
    · skip
      refine pr_aload_n rfl rfl ?_
      refine pr_getf rfl rfl rfl ?_
      refine pr_iload_n rfl rfl ?_
      refine pr_aload_n rfl rfl ?_
      refine pr_getf rfl rfl rfl ?_
      refine pr_iload_n rfl rfl ?_
      refine pr_iald (i) rfl rfl (by decide) (by decide) rfl (by omega) ?_
      refine pr_iast (f := f) (i) rfl rfl (by decide) rfl (by omega) ht_a56 ?_
      refine pr_iinc rfl rfl (pw_inc i) rfl ?_
      refine pr_step rfl rfl rfl rfl ?_
      exact ih (i + 1) _ (by omega) (by
        funext a
        rw [hF]
        unfold upd
        by_cases h1 : a = i
        · rw [if_pos h1, if_pos (by omega), h1]
          rfl
        · rw [if_neg h1]; dsimp only
          by_cases h2 : a < i
          · rw [if_pos h2, if_pos (by omega)]
          · rw [if_neg h2, if_neg (by omega)])
theorem c_112 (d : Nat) {N : Nat} {xs : Nat → Int32} {zc zm : Nat → Int32} {e3 e11 e18 : Nat} {A : Nat → Nat → Int32} {g gh : Nat → Option Nat} {dy : pw_H} (Y : Nat) (hY : zm 11 = nI Y) (hYb : Y ≤ 300) (S : Nat) (hS : zm 12 = nI S) (hSb : S ≤ 12) (T : Nat) (hT : zm 16 = nI T) (hTb : T ≤ 60) (hf : ∀ i, i < T → 0 ≤ (A 39 i).toInt) (n m : Int32) : pw_M (d + 3) 112 [.inr (some 25), .inl n, .inl m] (hp_h N xs zc e3 e11 e18 zm A g gh dy) (pw_qi (fun r h' => (¬ (pw_bt n 1 30 ∧ pw_bt m 1 12) ∧ r = -2 ∧ h' = (hp_h N xs zc e3 e11 e18 zm A g gh dy)) ∨ ((pw_bt n 1 30 ∧ pw_bt m 1 12) ∧ ∃ nn mm : Nat, n = nI nn ∧ m = nI mm ∧ (1 ≤ nn ∧ nn ≤ 30) ∧ (1 ≤ mm ∧ mm ≤ 12) ∧ r = rn_run A T (zm 11) (zm 34) S mm nn Y (fun a => if a < S then A 37 a else A 56 a) ∧ ∃ f : Nat → Int32, h' = (hp_h N xs zc e3 e11 e18 zm (uA A 56 f) g gh dy)))) := by
  have z0 := pz_0
  have z1 := pz_1
  have z2 := pz_2
  have z3 := pz_3
  have z4 := pz_4
  have z6 := pz_6
  have z7 := pz_7
  have z10 := pz_10
  have z11 := pz_11
  have z12 := pz_12
  have z20 := pz_20
  have z30 := pz_30
  have z50 := pz_50
  have z60 := pz_60
  have z80 := pz_80
  have z300 := pz_300
  refine pr_iload_n rfl rfl ?_
  refine pr_push (v := 1) rfl rfl ?_
  refine pr_push (v := 30) rfl rfl ?_
  refine pr_si3 rfl (by decide) (Nat.le_of_ble_eq_true rfl) (Nat.le_of_ble_eq_true rfl) (c_69 _ _ _ _ _) (fun r_4 h_4 q_4 => ?_)
  obtain ⟨rfl, rfl⟩ := q_4
  refine pr_b_eq rfl (fun c_7 => ?_) (fun c_7 => ?_)
  · skip
    refine pr_push (v := (-2)) rfl rfl ?_
    exact pr_reti rfl rfl (Or.inl ⟨by omega, rfl, rfl⟩)
  · skip
    refine pr_iload_n rfl rfl ?_
    refine pr_push (v := 1) rfl rfl ?_
    refine pr_push (v := 12) rfl rfl ?_
    refine pr_si3 rfl (by decide) (Nat.le_of_ble_eq_true rfl) (Nat.le_of_ble_eq_true rfl) (c_69 _ _ _ _ _) (fun r_14 h_14 q_14 => ?_)
    obtain ⟨rfl, rfl⟩ := q_14
    refine pr_b_ne rfl (fun c_17 => ?_) (fun c_17 => ?_)
    · skip
      obtain ⟨nn, rfl, hnT, hnl⟩ := pw_nat (x := n) (by omega)
      obtain ⟨mm, rfl, hmT, hml⟩ := pw_nat (x := m) (by omega)
      refine pr_push (v := 0) rfl rfl ?_
      refine pr_istore_n rfl (Nat.le_of_ble_eq_true rfl) rfl ?_
      refine pr_heap (show (hp_h N xs zc e3 e11 e18 zm A g gh dy) = (hp_h N xs zc e3 e11 e18 zm (uA A 56 (A 56)) g gh dy) by rw [uA_self]) ?_
      refine c_112_c d S hS hSb nn mm _ (fun g3 => ?_) S 0 (A 56) (by omega) (by funext a; rw [if_neg (Nat.not_lt_zero a)])
      refine pr_aload_n rfl rfl ?_
      refine pr_getf rfl rfl rfl ?_
      refine pr_top hY ?_
      refine pr_istore_n rfl (Nat.le_of_ble_eq_true rfl) rfl ?_
      refine c_112_y d Y hY hYb S hS hSb T hT hTb hf nn mm (by omega) (by omega) _ nn Y _ _ _ (by omega) (fun f2 => ?_)
      exact Or.inr ⟨by omega, nn, mm, rfl, rfl, by omega, by omega, rfl, f2, rfl⟩
    · skip
      refine pr_push (v := (-2)) rfl rfl ?_
      exact pr_reti rfl rfl (Or.inl ⟨by omega, rfl, rfl⟩)
