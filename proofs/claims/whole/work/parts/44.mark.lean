/-- a number's bits, twelve of them, by what they say -/
def rb_is (r : Int32) (p : Nat → Bool) : Prop := ∀ i, i < 32 → r.toBitVec.getLsbD i = (decide (i < 12) && p i)
theorem rb_xor {r s : Int32} {p q : Nat → Bool} (h1 : rb_is r p) (h2 : rb_is s q) : rb_is (r ^^^ s) (fun x => p x ^^ q x) := by
  intro i hi
  rw [Int32.toBitVec_xor, BitVec.getLsbD_xor, h1 i hi, h2 i hi]
  cases decide (i < 12) <;> rfl
theorem rb_0 : rb_is 0 (fun _ => false) := by
  intro i hi
  rw [Bool.and_false]
  exact BitVec.getLsbD_zero
theorem rb_eq {r : Int32} {p q : Nat → Bool} (h : rb_is r p) (hpq : ∀ x, x < 12 → p x = q x) : rb_is r q := by
  intro i hi
  rw [h i hi]
  by_cases h2 : i < 12
  · rw [hpq i h2]
  · rw [decide_eq_false h2]; rfl
theorem rb_mask : ∀ x, x < 13 → ∀ i, i < 32 → ((4095 <<< (nI x &&& 31)) &&& (4095 : Int32)).toBitVec.getLsbD i = (decide (i < 12) && decide (x ≤ i)) := by decide +kernel
theorem mx_n {m : Nat} (hm : m = 0) {a b : Nat} (ha : a ≤ 12) (hb : b ≤ 12) : (if m = 0 then (if nI a < nI b then nI b else nI a) else (if nI b < nI a then nI b else nI a)) = nI (max a b) := by
  have h1 := pw_T (n := a) (by omega)
  have h2 := pw_T (n := b) (by omega)
  rw [if_pos hm]
  by_cases h3 : a < b
  · rw [if_pos (Int32.lt_iff_toInt_lt.mpr (by omega)), show max a b = b by omega]
  · rw [if_neg (fun h4 => by have h5 := Int32.lt_iff_toInt_lt.mp h4; omega), show max a b = a by omega]
theorem mn_n {m : Nat} (hm : ¬ m = 0) {a b : Nat} (ha : a ≤ 12) (hb : b ≤ 12) : (if m = 0 then (if nI a < nI b then nI b else nI a) else (if nI b < nI a then nI b else nI a)) = nI (min a b) := by
  have h1 := pw_T (n := a) (by omega)
  have h2 := pw_T (n := b) (by omega)
  rw [if_neg hm]
  by_cases h3 : b < a
  · rw [if_pos (Int32.lt_iff_toInt_lt.mpr (by omega)), show min a b = b by omega]
  · rw [if_neg (fun h4 => by have h5 := Int32.lt_iff_toInt_lt.mp h4; omega), show min a b = a by omega]
theorem wl_pf_add {V V2 : Int → Int → Bool} {y : Int} {X : Nat} {c : Bool} (h : ∀ X2 : Int, V2 X2 y = (V X2 y ^^ (decide (X2 = (X : Int)) && c))) : ∀ k, wl_pf V2 y k = (wl_pf V y k ^^ (decide (X < k) && c))
  | 0 => by
    rw [decide_eq_false (Nat.not_lt_zero X)]
    rfl
  | k + 1 => by
    show (wl_pf V2 y k ^^ V2 k y) = ((wl_pf V y k ^^ V k y) ^^ (decide (X < k + 1) && c))
    rw [wl_pf_add h k, h k]
    rcases Nat.lt_trichotomy k X with e | e | e
    · rw [decide_eq_false (show ¬ X < k by omega), decide_eq_false (show ¬ (k : Int) = X by omega), decide_eq_false (show ¬ X < k + 1 by omega)]
      cases wl_pf V y k <;> cases V k y <;> cases c <;> rfl
    · rw [decide_eq_false (show ¬ X < k by omega), decide_eq_true (show (k : Int) = X by omega), decide_eq_true (show X < k + 1 by omega)]
      cases wl_pf V y k <;> cases V k y <;> cases c <;> rfl
    · rw [decide_eq_true (show X < k by omega), decide_eq_false (show ¬ (k : Int) = X by omega), decide_eq_true (show X < k + 1 by omega)]
      cases wl_pf V y k <;> cases V k y <;> cases c <;> rfl
theorem mk_row {V V2 : Int → Int → Bool} {y : Nat} {X : Nat} (hX : X ≤ 12) {r r2 : Int32} {C : Prop} [Decidable C] (h : ∀ X2 : Int, V2 X2 y = (V X2 y ^^ (decide (X2 = (X : Int)) && decide C))) (hr : rb_is r (fun x => wl_pf V y (x + 1))) (h2 : r2 = if C then r ^^^ ((4095 <<< (nI X &&& 31)) &&& 4095) else r) : rb_is r2 (fun x => wl_pf V2 y (x + 1)) := by
  by_cases hc : C
  · rw [if_pos hc] at h2
    have hm : rb_is ((4095 <<< (nI X &&& 31)) &&& 4095) (fun x => decide (X ≤ x)) := fun i hi => rb_mask X (by omega) i hi
    rw [h2]
    refine rb_eq (rb_xor hr hm) (fun x _ => ?_)
    rw [wl_pf_add h (x + 1), decide_eq_true hc, Bool.and_true]
    exact congrArg _ (decide_eq_decide.mpr (by omega))
  · rw [if_neg hc] at h2
    rw [h2]
    refine rb_eq hr (fun x _ => ?_)
    rw [wl_pf_add h (x + 1), decide_eq_false hc, Bool.and_false, Bool.xor_false]
theorem c_18_r (d : Nat) {H pst : pw_H} {x0 y0 : Int32} {D L U C : Nat → Int32} {n : Nat} {hl hr : Int32} (X Y i : Nat) (g4 : Option pw_V) (lo hi : Nat) (hhi : hi ≤ 12) (R0 : Nat → Int32) (Q : Option pw_V → pw_H → Prop) (K : ∀ (R : Nat → Int32) (g5 g6 : Option pw_V), (∀ y, y < 12 → R y = if lo ≤ y ∧ y < hi then R0 y ^^^ ((4095 <<< (nI X &&& 31)) &&& 4095) else R0 y) → pw_W (d + 2) 18 86 [some (.inr (some H.length)), some (.inl (nI X)), some (.inl (nI Y)), some (.inl (nI i)), g4, g5, g6] [] (wk_h H pst x0 y0 D L U C R n hl hr) Q) : ∀ (c r : Nat) (R : Nat → Int32), r + c = hi → lo ≤ r → (∀ y, y < 12 → R y = if lo ≤ y ∧ y < r then R0 y ^^^ ((4095 <<< (nI X &&& 31)) &&& 4095) else R0 y) → pw_W (d + 2) 18 54 [some (.inr (some H.length)), some (.inl (nI X)), some (.inl (nI Y)), some (.inl (nI i)), g4, some (.inl (nI hi)), some (.inl (nI r))] [] (wk_h H pst x0 y0 D L U C R n hl hr) Q := by
  have hhT := pw_T (n := hi) (by omega)
  intro c
  induction c with
  | zero =>
    intro r R hr hlo hR
    obtain rfl : r = hi := by omega
    refine pr_iload rfl rfl ?_
    refine pr_iload rfl rfl ?_
    refine pr_c_ge rfl (fun c_58 => ?_) (fun c_58 => ?_)
    · skip
      exact K R _ _ hR
    · skip
      exact absurd c_58 (by omega)
  | succ c ih =>
    intro r R hr hlo hR
    have hrT := pw_T (n := r) (by omega)
    refine pr_iload rfl rfl ?_
    refine pr_iload rfl rfl ?_
    refine pr_c_ge rfl (fun c_58 => ?_) (fun c_58 => ?_)
    · skip
      exact absurd c_58 (by omega)
    · skip
      refine pr_aload_n rfl rfl ?_
      refine pr_getf rfl wr_100 rfl ?_
      refine pr_iload rfl rfl ?_
      refine pr_step rfl rfl rfl rfl ?_
      refine pr_iald (r) rfl wr_105 (by decide) (by decide) rfl (by omega) ?_
      refine pr_push (v := 4095) rfl rfl ?_
      refine pr_iload_n rfl rfl ?_
      refine pr_step rfl rfl rfl rfl ?_
      refine pr_push (v := 4095) rfl rfl ?_
      refine pr_step rfl rfl rfl rfl ?_
      refine pr_step rfl rfl rfl rfl ?_
      refine pr_iast (r) rfl wr_105 (by decide) rfl (by omega) ht_a105 ?_
      refine pr_iinc rfl rfl (pw_inc r) rfl ?_
      refine pr_step rfl rfl rfl rfl ?_
      exact ih (r + 1) _ (by omega) (by omega) (fun y hy => by
        unfold upd
        by_cases e : y = r
        · rw [if_pos e, if_pos (by omega), hR r (by omega), if_neg (by omega), e]
        · rw [if_neg e, hR y hy]
          by_cases e2 : lo ≤ y ∧ y < r
          · rw [if_pos e2, if_pos (by omega)]
          · rw [if_neg e2, if_neg (by omega)])
theorem c_18_loop (d : Nat) {H pst : pw_H} {x0 y0 : Int32} {D L U C : Nat → Int32} {n : Nat} {hl hr : Int32} (hw : wl_ok (iT D) (iT L) (iT U) n) (hfe : (wl_feas (iT D) (iT L) (iT U) n 0 ∧ wl_feas (iT D) (iT L) (iT U) n 1)) (hC : ∀ k, k < n → (C k).toInt = wl_len (iT D) (iT L) (iT U) n k) (hx0 : 0 ≤ x0.toInt ∧ x0.toInt ≤ 12) (hy0 : 0 ≤ y0.toInt ∧ y0.toInt ≤ 12) (hla0 : (wl_land (iT D) (wl_len (iT D) (iT L) (iT U) n) x0.toInt y0.toInt n)) : ∀ (c i X Y : Nat) (R : Nat → Int32) (g4 g5 g6 : Option pw_V), i + c = n → (X : Int) = wl_px (iT D) (wl_len (iT D) (iT L) (iT U) n) x0.toInt i → (Y : Int) = wl_py (iT D) (wl_len (iT D) (iT L) (iT U) n) y0.toInt i → X ≤ 12 → Y ≤ 12 → (∀ y : Nat, y < 12 → rb_is (R y) (fun x => wl_pf (wl_V (iT D) (wl_len (iT D) (iT L) (iT U) n) x0.toInt y0.toInt i) y (x + 1))) → pw_W (d + 2) 18 12 [some (.inr (some H.length)), some (.inl (nI X)), some (.inl (nI Y)), some (.inl (nI i)), g4, g5, g6] [] (wk_h H pst x0 y0 D L U C R n hl hr) (pw_qv (fun h' => ∃ R2 : Nat → Int32, h' = (wk_h H pst x0 y0 D L U C R2 n hl hr) ∧ ∀ y : Nat, y < 12 → rb_is (R2 y) (fun x => wl_pf (wl_V (iT D) (wl_len (iT D) (iT L) (iT U) n) x0.toInt y0.toInt n) y (x + 1)))) := by
  have hn12 := hw.1
  have hnT := pw_T (n := n) (by omega)
  intro c
  induction c with
  | zero =>
    intro i X Y R g4 g5 g6 hi hX hY hXb hYb hR
    obtain rfl : i = n := by omega
    refine pr_iload_n rfl rfl ?_
    refine pr_aload_n rfl rfl ?_
    refine pr_getf rfl wr_100 rfl ?_
    refine pr_c_ge rfl (fun c_17 => ?_) (fun c_17 => ?_)
    · skip
      exact pr_retv rfl rfl (⟨R, rfl, hR⟩)
    · skip
      exact absurd c_17 (by omega)
  | succ c ih =>
    intro i X Y R g4 g5 g6 hi hX hY hXb hYb hR
    have hiT := pw_T (n := i) (by omega)
    have hXT := pw_T (n := X) (by omega)
    have hYT := pw_T (n := Y) (by omega)
    have hin : i < n := by omega
    have hi2 := hw.2 i hin
    dsimp only [iT] at hi2
    have hci := hC i hin
    have hlb := wl_len_b hw hfe hin
    have hla := hla0 i hin
    refine pr_iload_n rfl rfl ?_
    refine pr_aload_n rfl rfl ?_
    refine pr_getf rfl wr_100 rfl ?_
    refine pr_c_ge rfl (fun c_17 => ?_) (fun c_17 => ?_)
    · skip
      exact absurd c_17 (by omega)
    · skip
      refine pr_iload_n rfl rfl ?_
      refine pr_aload_n rfl rfl ?_
      refine pr_iload_n rfl rfl ?_
      refine pr_vi1 rfl (by decide) (Nat.le_of_ble_eq_true rfl) wr_100 (Nat.le_of_ble_eq_true rfl) (c_22 _ i (by omega) (by omega) (by omega)) (fun r_23 h_23 q_23 => ?_)
      obtain ⟨qy, rfl⟩ := q_23
      rw [hci] at qy
      have hby : -12 ≤ r_23.toInt ∧ r_23.toInt ≤ 12 := by rw [qy]; split <;> (try split) <;> omega
      refine pr_step rfl rfl rfl rfl ?_
      refine pr_gen (fun w => w.toInt = wl_py (iT D) (wl_len (iT D) (iT L) (iT U) n) y0.toInt (i + 1)) (by
        rw [pw_addT (by omega) (by omega), hYT, hY, qy]
        rfl) (fun y2 hy2 => ?_)
      obtain ⟨Y2, rfl, hY2T, hY2l⟩ := pw_nat (x := y2) (by omega)
      refine pr_istore rfl (Nat.le_of_ble_eq_true rfl) rfl ?_
      refine pr_iload_n rfl rfl ?_
      refine pr_iload rfl rfl ?_
      refine pr_math rfl rfl rfl (by decide) ?_
      refine pr_top (mx_n rfl hYb (by omega)) ?_
      refine pr_push (v := 12) rfl rfl ?_
      refine pr_math rfl rfl rfl (by decide) ?_
      refine pr_top (mn_n (a := max Y Y2) (b := 12) (by decide) (by omega) (by omega)) ?_
      refine pr_istore rfl (Nat.le_of_ble_eq_true rfl) rfl ?_
      refine pr_iload_n rfl rfl ?_
      refine pr_iload rfl rfl ?_
      refine pr_math rfl rfl rfl (by decide) ?_
      refine pr_top (mn_n (by decide) hYb (by omega)) ?_
      refine pr_push (v := 0) rfl rfl ?_
      refine pr_math rfl rfl rfl (by decide) ?_
      refine pr_top (mx_n (a := min Y Y2) (b := 0) rfl (by omega) (by omega)) ?_
      refine pr_istore rfl (Nat.le_of_ble_eq_true rfl) rfl ?_
      refine c_18_r d X Y i _ (max (min Y Y2) 0) (min (max Y Y2) 12) (by omega) R _ (fun R2 h5 h6 hR2 => ?_) (min (max Y Y2) 12 - max (min Y Y2) 0) (max (min Y Y2) 0) R (by omega) (by omega) (fun y hy => by rw [if_neg (by omega)])
      refine pr_iload_n rfl rfl ?_
      refine pr_aload_n rfl rfl ?_
      refine pr_iload_n rfl rfl ?_
      refine pr_vi1 rfl (by decide) (Nat.le_of_ble_eq_true rfl) wr_100 (Nat.le_of_ble_eq_true rfl) (c_21 _ i (by omega) (by omega) (by omega)) (fun r_89 h_89 q_89 => ?_)
      obtain ⟨qx, rfl⟩ := q_89
      rw [hci] at qx
      have hbx : -12 ≤ r_89.toInt ∧ r_89.toInt ≤ 12 := by rw [qx]; split <;> (try split) <;> omega
      refine pr_step rfl rfl rfl rfl ?_
      refine pr_gen (fun w => w.toInt = wl_px (iT D) (wl_len (iT D) (iT L) (iT U) n) x0.toInt (i + 1)) (by
        rw [pw_addT (by omega) (by omega), hXT, hX, qx]
        rfl) (fun x2 hx2 => ?_)
      obtain ⟨X2, rfl, hX2T, hX2l⟩ := pw_nat (x := x2) (by omega)
      refine pr_istore_n rfl (Nat.le_of_ble_eq_true rfl) rfl ?_
      refine pr_iload rfl rfl ?_
      refine pr_istore_n rfl (Nat.le_of_ble_eq_true rfl) rfl ?_
      refine pr_iinc rfl rfl (pw_inc i) rfl ?_
      refine pr_step rfl rfl rfl rfl ?_
      have hrows : ∀ y : Nat, y < 12 → rb_is (R2 y) (fun x => wl_pf (wl_V (iT D) (wl_len (iT D) (iT L) (iT U) n) x0.toInt y0.toInt (i + 1)) y (x + 1)) := fun y hy => by
        have hrow := hR2 y hy
        refine mk_row hXb (C := (iT D i = 1 ∧ wl_py (iT D) (wl_len (iT D) (iT L) (iT U) n) y0.toInt i ≤ (y : Int) ∧ (y : Int) < wl_py (iT D) (wl_len (iT D) (iT L) (iT U) n) y0.toInt i + wl_len (iT D) (iT L) (iT U) n i) ∨ (iT D i = 3 ∧ wl_py (iT D) (wl_len (iT D) (iT L) (iT U) n) y0.toInt i - wl_len (iT D) (iT L) (iT U) n i ≤ (y : Int) ∧ (y : Int) < wl_py (iT D) (wl_len (iT D) (iT L) (iT U) n) y0.toInt i)) (fun Xa => ?_) (hR y hy) ?_
        · show (wl_V (iT D) (wl_len (iT D) (iT L) (iT U) n) x0.toInt y0.toInt i Xa y ^^ wl_cov (iT D i) (wl_px (iT D) (wl_len (iT D) (iT L) (iT U) n) x0.toInt i) (wl_py (iT D) (wl_len (iT D) (iT L) (iT U) n) y0.toInt i) (wl_len (iT D) (iT L) (iT U) n i) Xa y) = _
          refine congrArg _ ?_
          rw [wl_cov, ← hX, ← Bool.decide_and]
          exact decide_eq_decide.mpr (by omega)
        · rw [hrow]
          have e : (max (min Y Y2) 0 ≤ y ∧ y < min (max Y Y2) 12) ↔ ((iT D i = 1 ∧ wl_py (iT D) (wl_len (iT D) (iT L) (iT U) n) y0.toInt i ≤ (y : Int) ∧ (y : Int) < wl_py (iT D) (wl_len (iT D) (iT L) (iT U) n) y0.toInt i + wl_len (iT D) (iT L) (iT U) n i) ∨ (iT D i = 3 ∧ wl_py (iT D) (wl_len (iT D) (iT L) (iT U) n) y0.toInt i - wl_len (iT D) (iT L) (iT U) n i ≤ (y : Int) ∧ (y : Int) < wl_py (iT D) (wl_len (iT D) (iT L) (iT U) n) y0.toInt i)) := by
            rw [← hY]
            rw [show wl_py (iT D) (wl_len (iT D) (iT L) (iT U) n) y0.toInt (i + 1) = wl_py (iT D) (wl_len (iT D) (iT L) (iT U) n) y0.toInt i + (if iT D i = 1 then wl_len (iT D) (iT L) (iT U) n i else if iT D i = 3 then -(wl_len (iT D) (iT L) (iT U) n i) else 0) from rfl, ← hY] at hy2
            dsimp only [iT] at hy2 ⊢
            rcases (show (D i).toInt = 0 ∨ (D i).toInt = 1 ∨ (D i).toInt = 2 ∨ (D i).toInt = 3 by omega) with e | e | e | e
            · rw [if_neg (by omega), if_neg (by omega)] at hy2
              omega
            · rw [if_pos e] at hy2
              omega
            · rw [if_neg (by omega), if_neg (by omega)] at hy2
              omega
            · rw [if_neg (by omega), if_pos e] at hy2
              omega
          simp only [e]
      exact ih (i + 1) X2 Y2 R2 _ _ _ (by omega) (by omega) (by omega) (by omega) (by omega) hrows
theorem c_18 (d : Nat) {H pst : pw_H} {x0 y0 : Int32} {D L U C R : Nat → Int32} {n : Nat} {hl hr : Int32} (hw : wl_ok (iT D) (iT L) (iT U) n) (hfe : (wl_feas (iT D) (iT L) (iT U) n 0 ∧ wl_feas (iT D) (iT L) (iT U) n 1)) (hC : ∀ k, k < n → (C k).toInt = wl_len (iT D) (iT L) (iT U) n k) (hx0 : 0 ≤ x0.toInt ∧ x0.toInt ≤ 12) (hy0 : 0 ≤ y0.toInt ∧ y0.toInt ≤ 12) (hla0 : (wl_land (iT D) (wl_len (iT D) (iT L) (iT U) n) x0.toInt y0.toInt n)) (hR : ∀ y, y < 12 → R y = 0) : pw_M (d + 2) 18 [.inr (some H.length)] (wk_h H pst x0 y0 D L U C R n hl hr) (pw_qv (fun h' => ∃ R2 : Nat → Int32, h' = (wk_h H pst x0 y0 D L U C R2 n hl hr) ∧ ∀ y : Nat, y < 12 → rb_is (R2 y) (fun x => wl_pf (wl_V (iT D) (wl_len (iT D) (iT L) (iT U) n) x0.toInt y0.toInt n) y (x + 1)))) := by
  obtain ⟨X, hX, hXT, hXl⟩ := pw_nat (x := x0) (by omega)
  obtain ⟨Y, hY, hYT, hYl⟩ := pw_nat (x := y0) (by omega)
  refine pr_aload_n rfl rfl ?_
  refine pr_getf rfl wr_100 rfl ?_
  refine pr_top hX ?_
  refine pr_istore_n rfl (Nat.le_of_ble_eq_true rfl) rfl ?_
  refine pr_aload_n rfl rfl ?_
  refine pr_getf rfl wr_100 rfl ?_
  refine pr_top hY ?_
  refine pr_istore_n rfl (Nat.le_of_ble_eq_true rfl) rfl ?_
  refine pr_push (v := 0) rfl rfl ?_
  refine pr_istore_n rfl (Nat.le_of_ble_eq_true rfl) rfl ?_
  exact c_18_loop d hw hfe hC hx0 hy0 hla0 n 0 X Y R _ _ _ (by omega) hXT.symm hYT.symm (by omega) (by omega) (fun y hy => by
    rw [hR y hy]
    refine rb_eq rb_0 (fun x _ => ?_)
    have hz : ∀ k, wl_pf (wl_V (iT D) (wl_len (iT D) (iT L) (iT U) n) x0.toInt y0.toInt 0) y k = false := fun k => by
      induction k with
      | zero => rfl
      | succ k ihk =>
        show (wl_pf (wl_V (iT D) (wl_len (iT D) (iT L) (iT U) n) x0.toInt y0.toInt 0) y k ^^ false) = false
        rw [ihk]
        rfl
    exact (hz (x + 1)).symm)
