/-- inside: the sides to the left of a field's middle, up to column x - 1 -/
def wl_pf (V : Int → Int → Bool) (y : Int) : Nat → Bool
  | 0 => false
  | x + 1 => wl_pf V y x ^^ V x y
def wl_rc (V : Int → Int → Bool) (y : Int) : Nat → Nat
  | 0 => 0
  | x + 1 => wl_rc V y x + (if wl_pf V y (x + 1) then 1 else 0)
def wl_ct (V : Int → Int → Bool) : Nat → Nat
  | 0 => 0
  | y + 1 => wl_ct V y + wl_rc V y 12
theorem wl_rc_le (V : Int → Int → Bool) (y : Int) : ∀ x, wl_rc V y x ≤ x
  | 0 => Nat.le_refl 0
  | x + 1 => by
    have h := wl_rc_le V y x
    unfold wl_rc
    split <;> omega
theorem wl_ct_le (V : Int → Int → Bool) : ∀ y, wl_ct V y ≤ 12 * y
  | 0 => Nat.le_refl 0
  | y + 1 => by
    have h := wl_ct_le V y
    have h2 := wl_rc_le V y 12
    unfold wl_ct
    omega
/-- the claims with the fields of the first y rows and x of row y laid -/
def wl_cl (V : Int → Int → Bool) (p : Int32) (q0 q : Nat → Int32) (y x : Nat) : Prop := ∀ Y X : Nat, Y < 12 → X < 12 → q (12 * Y + X) = if Y < y ∨ (Y = y ∧ X < x) then q0 (12 * Y + X) ||| (if wl_pf V Y (X + 1) then 1 <<< (p &&& 31) else 0) else q0 (12 * Y + X)
theorem pw_bo_eq {a b : Bool} (h : (pw_bo a).toInt = (pw_bo b).toInt) : (a ^^ b) = false := by
  cases a <;> cases b <;> first | rfl | exact absurd h (by decide)
theorem pw_bo_ne {a b : Bool} (h : ¬ (pw_bo a).toInt = (pw_bo b).toInt) : (a ^^ b) = true := by
  cases a <;> cases b <;> first | rfl | exact absurd rfl h
theorem wl_ifc {p q : Prop} [Decidable p] [Decidable q] {a b : Int32} (h : p ↔ q) (_ : a = a) (_ : b = b) : (if p then a else b) = if q then a else b := by
  by_cases hp : p
  · rw [if_pos hp, if_pos (h.mp hp)]
  · rw [if_neg hp, if_neg (fun hq => hp (h.mpr hq))]
theorem pr_L {d M pc : Nat} {L L1 : pw_L} {st : List pw_V} {h : pw_H} {Q : Option pw_V → pw_H → Prop} (e : L = L1) (k : pw_W d M pc L1 st h Q) : pw_W d M pc L st h Q := by rw [e]; exact k
section HR3
variable {N : Nat} {xs : Nat → Int32} {zc zm : Nat → Int32} {e3 e11 e18 : Nat} {A : Nat → Nat → Int32} {g gh : Nat → Option Nat} {dy : pw_H} {q : Nat → Int32}
theorem hv_53 : (hp_h N xs zc e3 e11 e18 zm (uA A 54 q) g gh dy)[53]? = some (.inl (1, 156, A 53)) := rfl
theorem hv_54 : (hp_h N xs zc e3 e11 e18 zm (uA A 54 q) g gh dy)[54]? = some (.inl (0, 144, q)) := rfl
end HR3
theorem c_82_x (d : Nat) {N : Nat} {xs : Nat → Int32} {zc zm : Nat → Int32} {e3 e11 e18 : Nat} {A : Nat → Nat → Int32} {g gh : Nat → Option Nat} {dy : pw_H} (V : Int → Int → Bool) (hV : wl_sd V (A 53)) (p : Int32) (q0 : Nat → Int32) (y : Nat) (hy : y < 12) (Q : Option pw_V → pw_H → Prop) (K : ∀ (q : Nat → Int32) (g4 g5 : Option pw_V), wl_cl V p q0 q (y + 1) 0 → pw_W (d + 3) 82 103 [some (.inr (some 25)), some (.inl p), some (.inl (nI (wl_ct V (y + 1)))), some (.inl (nI y)), g4, g5] [] (hp_h N xs zc e3 e11 e18 zm (uA A 54 q) g gh dy) Q) : ∀ (k x : Nat) (q : Nat → Int32), x + k = 12 → wl_cl V p q0 q y x → pw_W (d + 3) 82 26 [some (.inr (some 25)), some (.inl p), some (.inl (nI (wl_ct V y + wl_rc V y x))), some (.inl (nI y)), some (.inl (pw_bo (wl_pf V y x))), some (.inl (nI x))] [] (hp_h N xs zc e3 e11 e18 zm (uA A 54 q) g gh dy) Q := by
  have z12 := pz_12
  have hyT := pw_T (n := y) (by omega)
  intro k
  induction k with
  | zero =>
    intro x q hx hq
    obtain rfl : x = 12 := by omega
    have hxT := pw_T (n := 12) (by omega)
    refine pr_iload rfl rfl ?_
    refine pr_push (v := 12) rfl rfl ?_
    refine pr_c_ge rfl (fun c_30 => ?_) (fun c_30 => ?_)
    · skip
      exact K q _ _ (fun Y X hY hX => (hq Y X hY hX).trans (wl_ifc (by omega) rfl rfl))
    · skip
      exact absurd c_30 (by omega)
  | succ k ih =>
    intro x q hx hq
    have hxT := pw_T (n := x) (by omega)
    have hcl : wl_ct V y ≤ 144 := by have := wl_ct_le V y; omega
    refine pr_iload rfl rfl ?_
    refine pr_push (v := 12) rfl rfl ?_
    refine pr_c_ge rfl (fun c_30 => ?_) (fun c_30 => ?_)
    · skip
      exact absurd c_30 (by omega)
    · skip
      refine pr_iload rfl rfl ?_
      refine pr_aload_n rfl rfl ?_
      refine pr_getf rfl rfl rfl ?_
      refine pr_push (v := 12) rfl rfl ?_
      refine pr_iload rfl rfl ?_
      refine pr_step rfl rfl rfl rfl ?_
      refine pr_iload_n rfl rfl ?_
      refine pr_step rfl rfl rfl rfl ?_
      refine pr_top (pw_at x y) ?_
      refine pr_zald (12 * x + y) rfl hv_53 (by decide) rfl (by omega) ?_
      refine pr_u_eq rfl (fun c_47 => ?_) (fun c_47 => ?_)
      · skip
        rw [hV x y (by omega) hy] at c_47
        have BP : wl_pf V y (x + 1) = false := pw_bo_eq c_47
        clear c_47
        refine pr_push (v := 0) rfl rfl ?_
        refine pr_istore rfl (Nat.le_of_ble_eq_true rfl) rfl ?_
        refine pr_aload_n rfl rfl ?_
        refine pr_getf rfl rfl rfl ?_
        refine pr_push (v := 12) rfl rfl ?_
        refine pr_iload_n rfl rfl ?_
        refine pr_step rfl rfl rfl rfl ?_
        refine pr_iload rfl rfl ?_
        refine pr_step rfl rfl rfl rfl ?_
        refine pr_top (pw_at y x) ?_
        refine pr_step rfl rfl rfl rfl ?_
        refine pr_iald (12 * y + x) rfl hv_54 (by decide) (by decide) rfl (by omega) ?_
        refine pr_iload rfl rfl ?_
        refine pr_step rfl rfl rfl rfl ?_
        refine pr_push (v := 0) rfl rfl ?_
        refine pr_step rfl rfl rfl rfl ?_
        refine pr_iast (12 * y + x) rfl hv_54 (by decide) rfl (by omega) ht_a54 ?_
        refine pr_iload_n rfl rfl ?_
        refine pr_iload rfl rfl ?_
        refine pr_step rfl rfl rfl rfl ?_
        refine pr_push (v := 0) rfl rfl ?_
        refine pr_step rfl rfl rfl rfl ?_
        refine pr_istore_n rfl (Nat.le_of_ble_eq_true rfl) rfl ?_
        refine pr_iinc rfl rfl (pw_inc x) rfl ?_
        refine pr_step rfl rfl rfl rfl ?_
        have hc1 : nI (wl_ct V y + wl_rc V y (x + 1)) = nI (wl_ct V y + wl_rc V y x) + (if wl_pf V y (x + 1) then 1 else 0) := by
          rw [wl_rc, BP]
          first | (rw [if_pos rfl, if_pos rfl]; exact (nI_1 _).symm) | (rw [if_neg Bool.false_ne_true, if_neg Bool.false_ne_true]; exact (Int32.add_zero _).symm)
        rw [BP] at hc1
        refine pr_L (show _ = [some (.inr (some 25)), some (.inl p), some (.inl (nI (wl_ct V y + wl_rc V y (x + 1)))), some (.inl (nI y)), some (.inl (pw_bo (wl_pf V y (x + 1)))), some (.inl (nI (x + 1)))] from by rw [hc1, BP]; rfl) ?_
        refine ih (x + 1) (upd q (12 * y + x) _) (by omega) (fun Y X hY hX => ?_)
        by_cases he : 12 * Y + X = 12 * y + x
        · have hYX : Y = y ∧ X = x := by omega
          rw [he, pk_us, ← he, hq Y X hY hX, if_neg (by omega), hYX.1, hYX.2, if_pos (show y < y ∨ y = y ∧ x < x + 1 by omega), BP]
          rfl
        · rw [pk_un he, hq Y X hY hX]
          exact wl_ifc (by omega) rfl rfl
      · skip
        rw [hV x y (by omega) hy] at c_47
        have BP : wl_pf V y (x + 1) = true := pw_bo_ne c_47
        clear c_47
        refine pr_push (v := 1) rfl rfl ?_
        refine pr_step rfl rfl rfl rfl ?_
        refine pr_istore rfl (Nat.le_of_ble_eq_true rfl) rfl ?_
        refine pr_aload_n rfl rfl ?_
        refine pr_getf rfl rfl rfl ?_
        refine pr_push (v := 12) rfl rfl ?_
        refine pr_iload_n rfl rfl ?_
        refine pr_step rfl rfl rfl rfl ?_
        refine pr_iload rfl rfl ?_
        refine pr_step rfl rfl rfl rfl ?_
        refine pr_top (pw_at y x) ?_
        refine pr_step rfl rfl rfl rfl ?_
        refine pr_iald (12 * y + x) rfl hv_54 (by decide) (by decide) rfl (by omega) ?_
        refine pr_iload rfl rfl ?_
        refine pr_step rfl rfl rfl rfl ?_
        refine pr_push (v := 1) rfl rfl ?_
        refine pr_iload_n rfl rfl ?_
        refine pr_step rfl rfl rfl rfl ?_
        refine pr_step rfl rfl rfl rfl ?_
        refine pr_step rfl rfl rfl rfl ?_
        refine pr_iast (12 * y + x) rfl hv_54 (by decide) rfl (by omega) ht_a54 ?_
        refine pr_iload_n rfl rfl ?_
        refine pr_iload rfl rfl ?_
        refine pr_step rfl rfl rfl rfl ?_
        refine pr_push (v := 1) rfl rfl ?_
        refine pr_step rfl rfl rfl rfl ?_
        refine pr_step rfl rfl rfl rfl ?_
        refine pr_istore_n rfl (Nat.le_of_ble_eq_true rfl) rfl ?_
        refine pr_iinc rfl rfl (pw_inc x) rfl ?_
        refine pr_step rfl rfl rfl rfl ?_
        have hc1 : nI (wl_ct V y + wl_rc V y (x + 1)) = nI (wl_ct V y + wl_rc V y x) + (if wl_pf V y (x + 1) then 1 else 0) := by
          rw [wl_rc, BP]
          first | (rw [if_pos rfl, if_pos rfl]; exact (nI_1 _).symm) | (rw [if_neg Bool.false_ne_true, if_neg Bool.false_ne_true]; exact (Int32.add_zero _).symm)
        rw [BP] at hc1
        refine pr_L (show _ = [some (.inr (some 25)), some (.inl p), some (.inl (nI (wl_ct V y + wl_rc V y (x + 1)))), some (.inl (nI y)), some (.inl (pw_bo (wl_pf V y (x + 1)))), some (.inl (nI (x + 1)))] from by rw [hc1, BP]; rfl) ?_
        refine ih (x + 1) (upd q (12 * y + x) _) (by omega) (fun Y X hY hX => ?_)
        by_cases he : 12 * Y + X = 12 * y + x
        · have hYX : Y = y ∧ X = x := by omega
          rw [he, pk_us, ← he, hq Y X hY hX, if_neg (by omega), hYX.1, hYX.2, if_pos (show y < y ∨ y = y ∧ x < x + 1 by omega), BP]
          rfl
        · rw [pk_un he, hq Y X hY hX]
          exact wl_ifc (by omega) rfl rfl
