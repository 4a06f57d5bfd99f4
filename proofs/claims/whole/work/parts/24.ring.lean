theorem uA_comm (A : Nat → Nat → Int32) {k l : Nat} (h : k ≠ l) (f f2 : Nat → Int32) : uA (uA A k f) l f2 = uA (uA A l f2) k f := by
  funext i
  unfold uA
  by_cases h1 : i = l
  · rw [if_pos h1, if_neg (by omega), if_pos h1]
  · rw [if_neg h1, if_neg h1]
theorem dec_xor {p q r : Prop} [Decidable p] [Decidable q] [Decidable r] (h : p ↔ (q ∧ ¬ r) ∨ (¬ q ∧ r)) : decide p = (decide q ^^ decide r) := by
  by_cases hq : q <;> by_cases hr : r <;> by_cases hp : p <;> simp_all
def pw_bo (b : Bool) : Int32 := bif b then 1 else 0
/-- where the walk stands -/
def wl_px (D ln : Nat → Int) (x0 : Int) : Nat → Int
  | 0 => x0
  | i + 1 => wl_px D ln x0 i + (if D i = 0 then ln i else if D i = 2 then -(ln i) else 0)
def wl_py (D ln : Nat → Int) (y0 : Int) : Nat → Int
  | 0 => y0
  | i + 1 => wl_py D ln y0 i + (if D i = 1 then ln i else if D i = 3 then -(ln i) else 0)
abbrev wl_land (D ln : Nat → Int) (x0 y0 : Int) (n : Nat) : Prop := ∀ i, i < n → (0 ≤ wl_px D ln x0 (i + 1) ∧ wl_px D ln x0 (i + 1) ≤ 12) ∧ 0 ≤ wl_py D ln y0 (i + 1) ∧ wl_py D ln y0 (i + 1) ≤ 12
/-- the sides at column X, row Y that t steps in a direction lay -/
def wl_cov (dr px py t X Y : Int) : Bool := decide ((dr = 1 ∧ X = px ∧ py ≤ Y ∧ Y < py + t) ∨ (dr = 3 ∧ X = px ∧ py - t ≤ Y ∧ Y < py))
def wl_V (D ln : Nat → Int) (x0 y0 : Int) : Nat → Int → Int → Bool
  | 0, _, _ => false
  | i + 1, X, Y => wl_V D ln x0 y0 i X Y ^^ wl_cov (D i) (wl_px D ln x0 i) (wl_py D ln y0 i) (ln i) X Y
theorem wl_cov0 (dr px py X Y : Int) : wl_cov dr px py 0 X Y = false := by
  unfold wl_cov
  exact decide_eq_false (by omega)
theorem wl_cov1 {px py t X Y : Int} (h : 0 ≤ t) : wl_cov 1 px py (t + 1) X Y = (wl_cov 1 px py t X Y ^^ decide (X = px ∧ Y = py + t)) := by
  unfold wl_cov
  exact dec_xor (by omega)
theorem wl_cov3 {px py t X Y : Int} (h : 0 ≤ t) : wl_cov 3 px py (t + 1) X Y = (wl_cov 3 px py t X Y ^^ decide (X = px ∧ Y = py - t - 1)) := by
  unfold wl_cov
  exact dec_xor (by omega)
theorem wl_covE {dr px py t t2 X Y : Int} (h : dr = 0 ∨ dr = 2) : wl_cov dr px py t X Y = wl_cov dr px py t2 X Y := by
  unfold wl_cov
  rw [decide_eq_false (by omega), decide_eq_false (by omega)]
theorem pw_bo_0 {b : Bool} (h : (pw_bo b).toInt = 0) : b = false := by
  cases b with
  | true => exact absurd h (by decide)
  | false => rfl
theorem pw_bo_1 {b : Bool} (h : ¬ (pw_bo b).toInt = 0) : b = true := by
  cases b with
  | true => rfl
  | false => exact absurd rfl h
def wl_sd (V : Int → Int → Bool) (s : Nat → Int32) : Prop := ∀ X Y : Nat, X ≤ 12 → Y < 12 → s (12 * X + Y) = pw_bo (V X Y)
theorem wl_sd_tog {V V2 : Int → Int → Bool} {s : Nat → Int32} {X0 Y0 : Nat} {v : Int32} {b : Bool} (h : wl_sd V s) (hY : Y0 < 12) (hb : V X0 Y0 = b) (hv : v = pw_bo (!b)) (h2 : ∀ X Y : Int, V2 X Y = (V X Y ^^ decide (X = X0 ∧ Y = Y0))) : wl_sd V2 (upd s (12 * X0 + Y0) v) := by
  intro X Y hX hYY
  by_cases he : 12 * X + Y = 12 * X0 + Y0
  · obtain ⟨rfl, rfl⟩ : X = X0 ∧ Y = Y0 := by omega
    rw [pk_us, h2, hv, hb]
    simp
  · rw [pk_un he, h X Y hX hYY, h2, decide_eq_false (by omega)]
    simp
