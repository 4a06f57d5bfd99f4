def gt_n (A : Nat → Nat → Int32) (T : Nat) (now : Int32) : Nat → Nat
  | 0 => 0
  | i + 1 => if lt_of A T i now = -1 then gt_n A T now i else gt_n A T now i + 1
def gt_f (A : Nat → Nat → Int32) (T : Nat) (now : Int32) : Nat → (Nat → Int32)
  | 0 => A 24
  | i + 1 => if lt_of A T i now = -1 then gt_f A T now i else upd (gt_f A T now i) (gt_n A T now i) (A 10 i)
theorem gt_le (A : Nat → Nat → Int32) (T : Nat) (now : Int32) : ∀ i, gt_n A T now i ≤ i
  | 0 => Nat.le_refl 0
  | i + 1 => by
    have h := gt_le A T now i
    rw [gt_n]
    split <;> omega
def so_min (f : Nat → Int32) : Nat → Nat
  | 0 => 0
  | i + 1 => if (f (i + 1)).toInt < (f (so_min f i)).toInt then i + 1 else so_min f i
theorem so_le (f : Nat → Int32) : ∀ i, so_min f i ≤ i
  | 0 => Nat.le_refl 0
  | i + 1 => by
    have h := so_le f i
    rw [so_min]
    split <;> omega
def so_in (yr : Int32) (n : Nat) : Nat → (Nat → Int32) → (Nat → Int32)
  | 0, f => f
  | k + 1, f => so_in yr n k (upd f (so_min f (n - 1)) yr)
def su_any (f : Nat → Int32) (gap yr : Int32) : Nat → Bool
  | 0 => false
  | i + 1 => su_any f gap yr i || decide (gap.toInt ≤ (yr - f i).toInt)
theorem su_up {f : Nat → Int32} {gap yr : Int32} {i : Nat} (h : su_any f gap yr i = true) : ∀ k, su_any f gap yr (i + k) = true
  | 0 => h
  | k + 1 => by
    show (su_any f gap yr (i + k) || _) = true
    rw [su_up h k]
    rfl
def rc_run (gap : Int32) (n m : Nat) : Nat → Nat → (Nat → Int32) → Int32
  | 0, _, _ => -1
  | k + 1, y, f => if su_any (so_in (nI y) n (min m n) f) gap (nI y) n = true then nI y else rc_run gap n m k (y + 1) (so_in (nI y) n (min m n) f)
section HP3
variable {N : Nat} {xs : Nat → Int32} {zc zm : Nat → Int32} {e3 e11 e18 : Nat} {A : Nat → Nat → Int32} {g gh : Nat → Option Nat} {dy : pw_H} {f f2 : Nat → Int32}
theorem ht_a24 : (hp_h N xs zc e3 e11 e18 zm (uA A 24 f) g gh dy).set 24 (.inl (0, 12, f2)) = (hp_h N xs zc e3 e11 e18 zm (uA A 24 f2) g gh dy) := rfl
theorem hx_24 : (hp_h N xs zc e3 e11 e18 zm (uA A 24 f) g gh dy)[24]? = some (.inl (0, 12, f)) := rfl
end HP3
theorem c_65_loop (d : Nat) {N : Nat} {xs : Nat → Int32} {zc zm : Nat → Int32} {e3 e11 e18 : Nat} {A : Nat → Nat → Int32} {g gh : Nat → Option Nat} {dy : pw_H} (S : Nat) (hS : zc 7 = nI S) (hSb : S ≤ 12) (he11 : e11 ≤ 60) : ∀ (k i c : Nat) (f : Nat → Int32), i + k = S → c = (gt_n A e11 (zc 3) i) → f = (gt_f A e11 (zc 3) i) → pw_W (d + 2) 65 4 [some (.inr (some 1)), some (.inl (nI c)), some (.inl (nI i))] [] (hp_h N xs zc e3 e11 e18 zm (uA A 24 f) g gh dy) (pw_qi (fun r h' => r = nI (gt_n A e11 (zc 3) S) ∧ h' = (hp_h N xs zc e3 e11 e18 zm (uA A 24 (gt_f A e11 (zc 3) S)) g gh dy))) := by
  have hST : (zc 7).toInt = (S : Int) := by rw [hS]; exact pw_T (by omega)
  have hSP : (zc 7 - 1).toInt = (S : Int) - 1 := by rw [hS]; exact pw_pred (by omega)
  intro k
  induction k with
  | zero =>
    intro i c f hi hc hf
    obtain rfl : i = S := by omega
    subst hc
    subst hf
    have hiT := pw_T (n := i) (by omega)
    refine pr_iload_n rfl rfl ?_
    refine pr_aload_n rfl rfl ?_
    refine pr_getf rfl rfl rfl ?_
    refine pr_c_ge rfl (fun c_9 => ?_) (fun c_9 => ?_)
    · skip
      refine pr_iload_n rfl rfl ?_
      exact pr_reti rfl rfl (⟨rfl, rfl⟩)
    · skip
      exact absurd c_9 (by omega)
  | succ k ih =>
    intro i c f hi hc hf
    have hiT := pw_T (n := i) (by omega)
    have hcl := gt_le A e11 (zc 3) i
    rw [← hc] at hcl
    refine pr_iload_n rfl rfl ?_
    refine pr_aload_n rfl rfl ?_
    refine pr_getf rfl rfl rfl ?_
    refine pr_c_ge rfl (fun c_9 => ?_) (fun c_9 => ?_)
    · skip
      exact absurd c_9 (by omega)
    · skip
      refine pr_aload_n rfl rfl ?_
      refine pr_iload_n rfl rfl ?_
      refine pr_vi1 rfl (by decide) (Nat.le_of_ble_eq_true rfl) rfl (Nat.le_of_ble_eq_true rfl) (c_64 (A := (uA A 24 f)) _ he11 i (by omega)) (fun r_14 h_14 q_14 => ?_)
      obtain ⟨rfl, rfl⟩ := q_14
      refine pr_b_ne rfl (fun c_17 => ?_) (fun c_17 => ?_)
      · skip
        refine pr_iinc rfl rfl (pw_inc i) rfl ?_
        refine pr_step rfl rfl rfl rfl ?_
        first
        | (have e17 : ¬ lt_of A e11 i (zc 3) = -1 := c_17
           exact ih (i + 1) (c + 1) (upd f c (A 10 i)) (by omega) (by rw [gt_n, if_neg e17, hc]) (by rw [gt_f, if_neg e17, hf, hc]))
        | (have e17 : lt_of A e11 i (zc 3) = -1 := c_17
           exact ih (i + 1) c f (by omega) (by rw [gt_n, if_pos e17, hc]) (by rw [gt_f, if_pos e17, hf]))
      · skip
        refine pr_aload_n rfl rfl ?_
        refine pr_getf rfl rfl rfl ?_
        refine pr_iload_n rfl rfl ?_
        refine pr_aload_n rfl rfl ?_
        refine pr_getf rfl rfl rfl ?_
        refine pr_iload_n rfl rfl ?_
        refine pr_iald (i) rfl rfl (by decide) (by decide) rfl (by omega) ?_
        refine pr_iast (c) rfl hx_24 (by decide) rfl (by omega) ht_a24 ?_
        refine pr_iinc rfl rfl (pw_inc c) rfl ?_
        refine pr_iinc rfl rfl (pw_inc i) rfl ?_
        refine pr_step rfl rfl rfl rfl ?_
        first
        | (have e17 : ¬ lt_of A e11 i (zc 3) = -1 := c_17
           exact ih (i + 1) (c + 1) (upd f c (A 10 i)) (by omega) (by rw [gt_n, if_neg e17, hc]) (by rw [gt_f, if_neg e17, hf, hc]))
        | (have e17 : lt_of A e11 i (zc 3) = -1 := c_17
           exact ih (i + 1) c f (by omega) (by rw [gt_n, if_pos e17, hc]) (by rw [gt_f, if_pos e17, hf]))
theorem c_65 (d : Nat) {N : Nat} {xs : Nat → Int32} {zc zm : Nat → Int32} {e3 e11 e18 : Nat} {A : Nat → Nat → Int32} {g gh : Nat → Option Nat} {dy : pw_H} (S : Nat) (hS : zc 7 = nI S) (hSb : S ≤ 12) (he11 : e11 ≤ 60) : pw_M (d + 2) 65 [.inr (some 1)] (hp_h N xs zc e3 e11 e18 zm A g gh dy) (pw_qi (fun r h' => r = nI (gt_n A e11 (zc 3) S) ∧ h' = (hp_h N xs zc e3 e11 e18 zm (uA A 24 (gt_f A e11 (zc 3) S)) g gh dy))) := by
  refine pr_push (v := 0) rfl rfl ?_
  refine pr_istore_n rfl (Nat.le_of_ble_eq_true rfl) rfl ?_
  refine pr_push (v := 0) rfl rfl ?_
  refine pr_istore_n rfl (Nat.le_of_ble_eq_true rfl) rfl ?_
  refine pr_heap (show (hp_h N xs zc e3 e11 e18 zm A g gh dy) = (hp_h N xs zc e3 e11 e18 zm (uA A 24 (A 24)) g gh dy) by rw [uA_self]) ?_
  exact c_65_loop d S hS hSb he11 S 0 0 (A 24) (by omega) rfl rfl
theorem c_66_i (d : Nat) {N : Nat} {xs : Nat → Int32} {zc zm : Nat → Int32} {e3 e11 e18 : Nat} {A : Nat → Nat → Int32} {g gh : Nat → Option Nat} {dy : pw_H} (n m : Nat) (hn : n ≤ 12) (yr : Int32) (f : Nat → Int32) (g4 : Option pw_V) (Q : Option pw_V → pw_H → Prop) (K : ∀ (g6 : Option pw_V), pw_W d 66 54 [some (.inr (some 1)), some (.inl (nI n)), some (.inl (nI m)), some (.inl yr), g4, some (.inl (nI (so_min f (n - 1)))), g6] [] (hp_h N xs zc e3 e11 e18 zm (uA A 24 f) g gh dy) Q) : ∀ (k i b : Nat), i + 1 + k = n → b = so_min f i → pw_W d 66 21 [some (.inr (some 1)), some (.inl (nI n)), some (.inl (nI m)), some (.inl yr), g4, some (.inl (nI b)), some (.inl (nI (i + 1)))] [] (hp_h N xs zc e3 e11 e18 zm (uA A 24 f) g gh dy) Q := by
  have hnT := pw_T (n := n) (by omega)
  intro k
  induction k with
  | zero =>
    intro i b hi hb
    have hiT := pw_T (n := i + 1) (by omega)
    obtain rfl : i = n - 1 := by omega
    subst hb
    refine pr_iload rfl rfl ?_
    refine pr_iload_n rfl rfl ?_
    refine pr_c_ge rfl (fun c_24 => ?_) (fun c_24 => ?_)
    · skip
      exact K _
    · skip
      exact absurd c_24 (by omega)
  | succ k ih =>
    intro i b hi hb
    have hiT := pw_T (n := i + 1) (by omega)
    have hbl := so_le f i
    rw [← hb] at hbl
    refine pr_iload rfl rfl ?_
    refine pr_iload_n rfl rfl ?_
    refine pr_c_ge rfl (fun c_24 => ?_) (fun c_24 => ?_)
    · skip
      exact absurd c_24 (by omega)
    · skip
      refine pr_aload_n rfl rfl ?_
      refine pr_getf rfl rfl rfl ?_
      refine pr_iload rfl rfl ?_
      refine pr_iald (i + 1) rfl hx_24 (by decide) (by decide) rfl (by omega) ?_
      refine pr_aload_n rfl rfl ?_
      refine pr_getf rfl rfl rfl ?_
      refine pr_iload rfl rfl ?_
      refine pr_iald (b) rfl hx_24 (by decide) (by decide) rfl (by omega) ?_
      refine pr_c_ge rfl (fun c_41 => ?_) (fun c_41 => ?_)
      · skip
        refine pr_iinc rfl rfl (pw_inc (i + 1)) rfl ?_
        refine pr_step rfl rfl rfl rfl ?_
        first
        | exact ih (i + 1) (i + 1) (by omega) (by rw [so_min, ← hb, if_pos (by omega)])
        | exact ih (i + 1) b (by omega) (by rw [so_min, ← hb, if_neg (by omega)])
      · skip
        refine pr_iload rfl rfl ?_
        refine pr_istore rfl (Nat.le_of_ble_eq_true rfl) rfl ?_
        refine pr_iinc rfl rfl (pw_inc (i + 1)) rfl ?_
        refine pr_step rfl rfl rfl rfl ?_
        first
        | exact ih (i + 1) (i + 1) (by omega) (by rw [so_min, ← hb, if_pos (by omega)])
        | exact ih (i + 1) b (by omega) (by rw [so_min, ← hb, if_neg (by omega)])
theorem c_66_o (d : Nat) {N : Nat} {xs : Nat → Int32} {zc zm : Nat → Int32} {e3 e11 e18 : Nat} {A : Nat → Nat → Int32} {g gh : Nat → Option Nat} {dy : pw_H} (n m : Nat) (hn : n ≤ 12) (hm : m ≤ 12) (yr : Int32) (F : Nat → Int32) : ∀ (k i : Nat) (f : Nat → Int32) (g5 g6 : Option pw_V), i + k = min m n → so_in yr n k f = F → pw_W d 66 3 [some (.inr (some 1)), some (.inl (nI n)), some (.inl (nI m)), some (.inl yr), some (.inl (nI i)), g5, g6] [] (hp_h N xs zc e3 e11 e18 zm (uA A 24 f) g gh dy) (pw_qv (fun h' => h' = (hp_h N xs zc e3 e11 e18 zm (uA A 24 F) g gh dy))) := by
  have hnT := pw_T (n := n) (by omega)
  have hmT := pw_T (n := m) (by omega)
  intro k
  induction k with
  | zero =>
    intro i f g5 g6 hi hF
    have hiT := pw_T (n := i) (by omega)
    subst hF
    refine pr_iload rfl rfl ?_
    refine pr_iload_n rfl rfl ?_
    refine pr_c_ge rfl (fun c_6 => ?_) (fun c_6 => ?_)
    · skip
      exact pr_retv rfl rfl (rfl)
    · skip
      refine pr_iload rfl rfl ?_
      refine pr_iload_n rfl rfl ?_
      refine pr_c_ge rfl (fun c_12 => ?_) (fun c_12 => ?_)
      · skip
        exact pr_retv rfl rfl (rfl)
      · skip
        exact absurd c_12 (by omega)
  | succ k ih =>
    intro i f g5 g6 hi hF
    have hiT := pw_T (n := i) (by omega)
    have hsl := so_le f (n - 1)
    rw [so_in] at hF
    refine pr_iload rfl rfl ?_
    refine pr_iload_n rfl rfl ?_
    refine pr_c_ge rfl (fun c_6 => ?_) (fun c_6 => ?_)
    · skip
      exact absurd c_6 (by omega)
    · skip
      refine pr_iload rfl rfl ?_
      refine pr_iload_n rfl rfl ?_
      refine pr_c_ge rfl (fun c_12 => ?_) (fun c_12 => ?_)
      · skip
        exact absurd c_12 (by omega)
      · skip
        refine pr_push (v := 0) rfl rfl ?_
        refine pr_istore rfl (Nat.le_of_ble_eq_true rfl) rfl ?_
        refine pr_push (v := 1) rfl rfl ?_
        refine pr_istore rfl (Nat.le_of_ble_eq_true rfl) rfl ?_
        refine c_66_i d n m hn yr f _ _ (fun h6 => ?_) (n - 1) 0 0 (by omega) rfl
        refine pr_aload_n rfl rfl ?_
        refine pr_getf rfl rfl rfl ?_
        refine pr_iload rfl rfl ?_
        refine pr_iload_n rfl rfl ?_
        refine pr_iast (so_min f (n - 1)) rfl hx_24 (by decide) rfl (by omega) ht_a24 ?_
        refine pr_iinc rfl rfl (pw_inc i) rfl ?_
        refine pr_step rfl rfl rfl rfl ?_
        exact ih (i + 1) _ _ _ (by omega) hF
theorem c_66 (d : Nat) {N : Nat} {xs : Nat → Int32} {zc zm : Nat → Int32} {e3 e11 e18 : Nat} {A : Nat → Nat → Int32} {g gh : Nat → Option Nat} {dy : pw_H} (n m : Nat) (hn : n ≤ 12) (hm : m ≤ 12) (yr : Int32) (f : Nat → Int32) : pw_M d 66 [.inr (some 1), .inl (nI n), .inl (nI m), .inl yr] (hp_h N xs zc e3 e11 e18 zm (uA A 24 f) g gh dy) (pw_qv (fun h' => h' = (hp_h N xs zc e3 e11 e18 zm (uA A 24 (so_in yr n (min m n) f)) g gh dy))) := by
  refine pr_push (v := 0) rfl rfl ?_
  refine pr_istore rfl (Nat.le_of_ble_eq_true rfl) rfl ?_
  exact c_66_o d n m hn hm yr _ (min m n) 0 f _ _ (by omega) rfl
theorem c_67_loop (d : Nat) {N : Nat} {xs : Nat → Int32} {zc zm : Nat → Int32} {e3 e11 e18 : Nat} {A : Nat → Nat → Int32} {g gh : Nat → Option Nat} {dy : pw_H} (n : Nat) (hn : n ≤ 12) (yr : Int32) (f : Nat → Int32) : ∀ (k i : Nat), i + k = n → su_any f (zc 14) yr i = false → pw_W d 67 2 [some (.inr (some 1)), some (.inl (nI n)), some (.inl yr), some (.inl (nI i))] [] (hp_h N xs zc e3 e11 e18 zm (uA A 24 f) g gh dy) (pw_qi (fun r h' => r = pw_b (su_any f (zc 14) yr n = true) ∧ h' = (hp_h N xs zc e3 e11 e18 zm (uA A 24 f) g gh dy))) := by
  have hnT := pw_T (n := n) (by omega)
  intro k
  induction k with
  | zero =>
    intro i hi hF
    obtain rfl : i = n := by omega
    refine pr_iload_n rfl rfl ?_
    refine pr_iload_n rfl rfl ?_
    refine pr_c_ge rfl (fun c_4 => ?_) (fun c_4 => ?_)
    · skip
      refine pr_push (v := 0) rfl rfl ?_
      exact pr_retb rfl rfl rfl (⟨(pw_b0 (by rw [hF]; exact Bool.false_ne_true)).symm, rfl⟩)
    · skip
      exact absurd c_4 (by omega)
  | succ k ih =>
    intro i hi hF
    have hiT := pw_T (n := i) (by omega)
    refine pr_iload_n rfl rfl ?_
    refine pr_iload_n rfl rfl ?_
    refine pr_c_ge rfl (fun c_4 => ?_) (fun c_4 => ?_)
    · skip
      exact absurd c_4 (by omega)
    · skip
      refine pr_iload_n rfl rfl ?_
      refine pr_aload_n rfl rfl ?_
      refine pr_getf rfl rfl rfl ?_
      refine pr_iload_n rfl rfl ?_
      refine pr_iald (i) rfl hx_24 (by decide) (by decide) rfl (by omega) ?_
      refine pr_step rfl rfl rfl rfl ?_
      refine pr_aload_n rfl rfl ?_
      refine pr_getf rfl rfl rfl ?_
      refine pr_c_lt rfl (fun c_19 => ?_) (fun c_19 => ?_)
      · skip
        refine pr_iinc rfl rfl (pw_inc i) rfl ?_
        refine pr_step rfl rfl rfl rfl ?_
        exact ih (i + 1) (by omega) (by
          rw [su_any, hF, Bool.false_or]
          exact decide_eq_false (by omega))
      · skip
        refine pr_push (v := 1) rfl rfl ?_
        exact pr_retb rfl rfl rfl (by
    have h1 : su_any f (zc 14) yr (i + 1) = true := by
      rw [su_any, hF, Bool.false_or]
      exact decide_eq_true c_19
    have h2 := su_up h1 k
    rw [show i + 1 + k = n by omega] at h2
    exact ⟨(pw_b1 h2).symm, rfl⟩)
theorem c_67 (d : Nat) {N : Nat} {xs : Nat → Int32} {zc zm : Nat → Int32} {e3 e11 e18 : Nat} {A : Nat → Nat → Int32} {g gh : Nat → Option Nat} {dy : pw_H} (n : Nat) (hn : n ≤ 12) (yr : Int32) (f : Nat → Int32) : pw_M d 67 [.inr (some 1), .inl (nI n), .inl yr] (hp_h N xs zc e3 e11 e18 zm (uA A 24 f) g gh dy) (pw_qi (fun r h' => r = pw_b (su_any f (zc 14) yr n = true) ∧ h' = (hp_h N xs zc e3 e11 e18 zm (uA A 24 f) g gh dy))) := by
  refine pr_push (v := 0) rfl rfl ?_
  refine pr_istore_n rfl (Nat.le_of_ble_eq_true rfl) rfl ?_
  exact c_67_loop d n hn yr f n 0 (by omega) rfl
theorem c_46_loop (d : Nat) {N : Nat} {xs : Nat → Int32} {zc zm : Nat → Int32} {e3 e11 e18 : Nat} {A : Nat → Nat → Int32} {g gh : Nat → Option Nat} {dy : pw_H} (Y : Nat) (hY : zc 3 = nI Y) (hYb : Y ≤ 300) (n m c : Nat) (hn : n ≤ 30) (hm : m ≤ 12) (hc : c ≤ 12) (Qi : Int32 → pw_H → Prop) : ∀ (k y : Nat) (f : Nat → Int32), y + k = Y + n → (∀ f2, Qi (rc_run (zc 14) c m k y f) (hp_h N xs zc e3 e11 e18 zm (uA A 24 f2) g gh dy)) → pw_W (d + 1) 46 34 [some (.inr (some 1)), some (.inl (nI n)), some (.inl (nI m)), some (.inl (nI c)), some (.inl (nI y))] [] (hp_h N xs zc e3 e11 e18 zm (uA A 24 f) g gh dy) (pw_qi Qi) := by
  have hYT : (zc 3).toInt = (Y : Int) := by rw [hY]; exact pw_T (by omega)
  have hYP : (zc 3 - 1).toInt = (Y : Int) - 1 := by rw [hY]; exact pw_pred (by omega)
  have hyn : (zc 3 + nI n).toInt = ((Y + n : Nat) : Int) := by rw [hY, nI_add]; exact pw_T (by omega)
  intro k
  induction k with
  | zero =>
    intro y f hy hQ
    have hyT := pw_T (n := y) (by omega)
    refine pr_iload rfl rfl ?_
    refine pr_aload_n rfl rfl ?_
    refine pr_getf rfl rfl rfl ?_
    refine pr_iload_n rfl rfl ?_
    refine pr_step rfl rfl rfl rfl ?_
    refine pr_c_ge rfl (fun c_42 => ?_) (fun c_42 => ?_)
    · skip
      refine pr_push (v := (-1)) rfl rfl ?_
      exact pr_reti rfl rfl (hQ f)
    · skip
      exact absurd c_42 (by omega)
  | succ k ih =>
    intro y f hy hQ
    have hyT := pw_T (n := y) (by omega)
    refine pr_iload rfl rfl ?_
    refine pr_aload_n rfl rfl ?_
    refine pr_getf rfl rfl rfl ?_
    refine pr_iload_n rfl rfl ?_
    refine pr_step rfl rfl rfl rfl ?_
    refine pr_c_ge rfl (fun c_42 => ?_) (fun c_42 => ?_)
    · skip
      exact absurd c_42 (by omega)
    · skip
      refine pr_aload_n rfl rfl ?_
      refine pr_iload_n rfl rfl ?_
      refine pr_iload_n rfl rfl ?_
      refine pr_iload rfl rfl ?_
      refine pr_vv3 rfl (by decide) (Nat.le_of_ble_eq_true rfl) rfl (Nat.le_of_ble_eq_true rfl) (c_66 _ c m hc hm (nI y) f) (fun h_50 q_50 => ?_)
      subst q_50
      refine pr_aload_n rfl rfl ?_
      refine pr_iload_n rfl rfl ?_
      refine pr_iload rfl rfl ?_
      refine pr_vi2 rfl (by decide) (Nat.le_of_ble_eq_true rfl) rfl (Nat.le_of_ble_eq_true rfl) (c_67 _ c hc (nI y) (so_in (nI y) c (min m c) f)) (fun r_57 h_57 q_57 => ?_)
      obtain ⟨rfl, rfl⟩ := q_57
      refine pr_b_eq rfl (fun c_60 => ?_) (fun c_60 => ?_)
      · skip
        refine pr_iinc rfl rfl (pw_inc y) rfl ?_
        refine pr_step rfl rfl rfl rfl ?_
        refine ih (y + 1) (so_in (nI y) c (min m c) f) (by omega) (fun f2 => ?_)
        have h2 := hQ f2
        rw [rc_run, if_neg c_60] at h2
        exact h2
      · skip
        refine pr_iload rfl rfl ?_
        exact pr_reti rfl rfl (by
    have h2 := hQ (so_in (nI y) c (min m c) f)
    rw [rc_run, if_pos c_60] at h2
    exact h2)
theorem c_46 (d : Nat) {N : Nat} {xs : Nat → Int32} {zc zm : Nat → Int32} {e3 e11 e18 : Nat} {A : Nat → Nat → Int32} {g gh : Nat → Option Nat} {dy : pw_H} (Y : Nat) (hY : zc 3 = nI Y) (hYb : Y ≤ 300) (S : Nat) (hS : zc 7 = nI S) (hSb : S ≤ 12) (he11 : e11 ≤ 60) (n m : Int32) : pw_M (d + 3) 46 [.inr (some 1), .inl n, .inl m] (hp_h N xs zc e3 e11 e18 zm A g gh dy) (pw_qi (fun r h' => (¬ (pw_bt n 1 30 ∧ pw_bt m 1 12) ∧ r = -2 ∧ h' = (hp_h N xs zc e3 e11 e18 zm A g gh dy)) ∨ ((pw_bt n 1 30 ∧ pw_bt m 1 12) ∧ ∃ nn mm : Nat, n = nI nn ∧ m = nI mm ∧ (1 ≤ nn ∧ nn ≤ 30) ∧ (1 ≤ mm ∧ mm ≤ 12) ∧ r = rc_run (zc 14) (gt_n A e11 (zc 3) S) mm nn Y (gt_f A e11 (zc 3) S) ∧ ∃ f : Nat → Int32, h' = (hp_h N xs zc e3 e11 e18 zm (uA A 24 f) g gh dy)))) := by
  have z0 := pz_0
  have z1 := pz_1
  have z2 := pz_2
  have z3 := pz_3
  have z4 := pz_4
  have z6 := pz_6
  have z7 := pz_7
  have z10 := pz_10
  have z11 := pz_11
  have z12 := pz_12
  have z20 := pz_20
  have z30 := pz_30
  have z50 := pz_50
  have z60 := pz_60
  have z80 := pz_80
  have z300 := pz_300
  refine pr_iload_n rfl rfl ?_
  refine pr_push (v := 1) rfl rfl ?_
  refine pr_push (v := 30) rfl rfl ?_
  refine pr_si3 rfl (by decide) (Nat.le_of_ble_eq_true rfl) (Nat.le_of_ble_eq_true rfl) (c_48 _ _ _ _ _) (fun r_4 h_4 q_4 => ?_)
  obtain ⟨rfl, rfl⟩ := q_4
  refine pr_b_eq rfl (fun c_7 => ?_) (fun c_7 => ?_)
  · skip
    refine pr_push (v := (-2)) rfl rfl ?_
    exact pr_reti rfl rfl (Or.inl ⟨by omega, rfl, rfl⟩)
  · skip
    refine pr_iload_n rfl rfl ?_
    refine pr_push (v := 1) rfl rfl ?_
    refine pr_push (v := 12) rfl rfl ?_
    refine pr_si3 rfl (by decide) (Nat.le_of_ble_eq_true rfl) (Nat.le_of_ble_eq_true rfl) (c_48 _ _ _ _ _) (fun r_14 h_14 q_14 => ?_)
    obtain ⟨rfl, rfl⟩ := q_14
    refine pr_b_ne rfl (fun c_17 => ?_) (fun c_17 => ?_)
    · skip
      obtain ⟨nn, rfl, hnT, hnl⟩ := pw_nat (x := n) (by omega)
      obtain ⟨mm, rfl, hmT, hml⟩ := pw_nat (x := m) (by omega)
      have hgl := gt_le A e11 (zc 3) S
      refine pr_aload_n rfl rfl ?_
      refine pr_vi0 rfl (by decide) (Nat.le_of_ble_eq_true rfl) rfl (Nat.le_of_ble_eq_true rfl) (c_65 _ S hS hSb he11) (fun r_24 h_24 q_24 => ?_)
      obtain ⟨rfl, rfl⟩ := q_24
      refine pr_istore_n rfl (Nat.le_of_ble_eq_true rfl) rfl ?_
      refine pr_aload_n rfl rfl ?_
      refine pr_getf rfl rfl rfl ?_
      refine pr_top hY ?_
      refine pr_istore rfl (Nat.le_of_ble_eq_true rfl) rfl ?_
      refine c_46_loop _ Y hY hYb nn mm (gt_n A e11 (zc 3) S) (by omega) (by omega) (by omega) _ nn Y _ (by omega) (fun f2 => ?_)
      exact Or.inr ⟨by omega, nn, mm, rfl, rfl, by omega, by omega, rfl, f2, rfl⟩
    · skip
      refine pr_push (v := (-2)) rfl rfl ?_
      exact pr_reti rfl rfl (Or.inl ⟨by omega, rfl, rfl⟩)
