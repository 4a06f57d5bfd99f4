theorem so_spec (f : Nat → Int32) : ∀ i, (∀ k, k ≤ i → (f (so_min f i)).toInt ≤ (f k).toInt) ∧ ∀ k, k < so_min f i → (f (so_min f i)).toInt < (f k).toInt
  | 0 => ⟨fun k hk => by rw [show k = 0 by omega]; exact Int.le_refl _, fun k hk => absurd hk (Nat.not_lt_zero k)⟩
  | i + 1 => by
    obtain ⟨h1, h2⟩ := so_spec f i
    have h3 := so_le f i
    rw [so_min]
    by_cases e : (f (i + 1)).toInt < (f (so_min f i)).toInt
    · rw [if_pos e]
      refine ⟨fun k hk => ?_, fun k hk => ?_⟩
      · by_cases e2 : k = i + 1
        · rw [e2]; exact Int.le_refl _
        · have h4 := h1 k (by omega)
          omega
      · have h4 := h1 k (by omega)
        omega
    · rw [if_neg e]
      refine ⟨fun k hk => ?_, h2⟩
      by_cases e2 : k = i + 1
      · rw [e2]; omega
      · exact h1 k (by omega)
section RD
variable {A : Nat → Nat → Int32} {T : Nat} {now : Int32}
theorem la_spec {f : Nat → Int32} {yr : Int32} : ∀ i, (la_run (uA A 56 f) T now yr i = none → ∀ k, k < i → ¬ wh_of A T k now now = -1 → ¬ (f k).toInt < yr.toInt) ∧ ∀ b, la_run (uA A 56 f) T now yr i = some b → b < i ∧ ¬ wh_of A T b now now = -1 ∧ (f b).toInt < yr.toInt ∧ (∀ k, k < i → ¬ wh_of A T k now now = -1 → (f b).toInt ≤ (f k).toInt) ∧ ∀ k, k < b → ¬ wh_of A T k now now = -1 → (f b).toInt < (f k).toInt
  | 0 => ⟨fun _ k hk => absurd hk (Nat.not_lt_zero k), fun b hb => by cases hb⟩
  | i + 1 => by
    obtain ⟨h1, h2⟩ := la_spec (f := f) (yr := yr) i
    have ew : wh_of (uA A 56 f) T i now now = wh_of A T i now now := rfl
    have e56 : (uA A 56 f) 56 = f := rfl
    rw [la_run]
    cases hr : la_run (uA A 56 f) T now yr i with
    | none =>
      have h3 := h1 hr
      dsimp only
      rw [ew, e56]
      by_cases hc : ¬ wh_of A T i now now = -1 ∧ (f i).toInt < yr.toInt
      · rw [if_pos hc]
        refine ⟨fun h => (by cases h), fun b hb => ?_⟩
        cases hb
        refine ⟨by omega, hc.1, hc.2, fun k hk hl => ?_, fun k hk hl => ?_⟩
        · by_cases e : k = i
          · rw [e]; exact Int.le_refl _
          · have h4 := h3 k (by omega) hl
            omega
        · have h4 := h3 k hk hl
          omega
      · rw [if_neg hc]
        refine ⟨fun _ k hk hl => ?_, fun b hb => by cases hb⟩
        by_cases e : k = i
        · rw [e] at hl ⊢
          exact fun h => hc ⟨hl, h⟩
        · exact h3 k (by omega) hl
    | some b =>
      obtain ⟨g1, g2, g3, g4, g5⟩ := h2 b hr
      dsimp only
      rw [ew, e56]
      by_cases hc : ¬ wh_of A T i now now = -1 ∧ (f i).toInt < yr.toInt ∧ (f i).toInt < (f b).toInt
      · rw [if_pos hc]
        refine ⟨fun h => (by cases h), fun c hb => ?_⟩
        cases hb
        refine ⟨by omega, hc.1, hc.2.1, fun k hk hl => ?_, fun k hk hl => ?_⟩
        · by_cases e : k = i
          · rw [e]; exact Int.le_refl _
          · have h4 := g4 k (by omega) hl
            omega
        · have h4 := g4 k (by omega) hl
          omega
      · rw [if_neg hc]
        refine ⟨fun h => (by cases h), fun c hb => ?_⟩
        cases hb
        refine ⟨by omega, g2, g3, fun k hk hl => ?_, g5⟩
        by_cases e : k = i
        · rw [e] at hl ⊢
          by_cases e2 : (f i).toInt < yr.toInt
          · by_cases e3 : (f i).toInt < (f b).toInt
            · exact absurd ⟨hl, e2, e3⟩ hc
            · omega
          · omega
        · exact g4 k (by omega) hl
/-- places in the row, by the stones' numbers -/
theorem gt_mono (h : ∀ i, lt_of A T i now = lt_of A T i now) : ∀ i k, gt_n A T now i ≤ gt_n A T now (i + k)
  | _, 0 => Nat.le_refl _
  | i, k + 1 => by
    have h1 := gt_mono h i k
    show _ ≤ gt_n A T now (i + k + 1)
    rw [gt_n]
    split <;> omega
theorem gt_lt {i j : Nat} (hij : i < j) (hi : ¬ lt_of A T i now = -1) : gt_n A T now i < gt_n A T now j := by
  have h1 : gt_n A T now (i + 1) = gt_n A T now i + 1 := by rw [gt_n, if_neg hi]
  have h2 := gt_mono (A := A) (T := T) (now := now) (fun _ => rfl) (i + 1) (j - (i + 1))
  rw [show i + 1 + (j - (i + 1)) = j by omega] at h2
  omega
theorem gt_sur : ∀ S k, k < gt_n A T now S → ∃ i, i < S ∧ ¬ lt_of A T i now = -1 ∧ gt_n A T now i = k
  | 0, k, h => absurd h (Nat.not_lt_zero k)
  | S + 1, k, h => by
    rw [gt_n] at h
    by_cases e : lt_of A T S now = -1
    · rw [if_pos e] at h
      obtain ⟨i, h1, h2, h3⟩ := gt_sur S k h
      exact ⟨i, by omega, h2, h3⟩
    · rw [if_neg e] at h
      by_cases e2 : k = gt_n A T now S
      · exact ⟨S, by omega, e, e2.symm⟩
      · obtain ⟨i, h1, h2, h3⟩ := gt_sur S k (by omega)
        exact ⟨i, by omega, h2, h3⟩
theorem gt_at : ∀ S i, i < S → ¬ lt_of A T i now = -1 → gt_f A T now S (gt_n A T now i) = A 10 i
  | 0, i, h, _ => absurd h (Nat.not_lt_zero i)
  | S + 1, i, h, hl => by
    rw [gt_f]
    by_cases e : lt_of A T S now = -1
    · rw [if_pos e]
      by_cases e2 : i = S
      · rw [e2] at hl; exact absurd e hl
      · exact gt_at S i (by omega) hl
    · rw [if_neg e, upd]
      by_cases e2 : i = S
      · rw [if_pos (by rw [e2]), e2]
      · have h2 := gt_lt (A := A) (T := T) (now := now) (show i < S by omega) hl
        rw [if_neg (by omega)]
        exact gt_at S i (by omega) hl
/-- the class's row and the model's tell the same -/
def rd_R (A : Nat → Nat → Int32) (T : Nat) (now : Int32) (S : Nat) (f g : Nat → Int32) : Prop := ∀ i, i < S → ¬ lt_of A T i now = -1 → g (gt_n A T now i) = f i
def rd_b (A : Nat → Nat → Int32) (T : Nat) (now : Int32) (S : Nat) (f : Nat → Int32) (yr : Int32) : Prop := ∀ i, i < S → ¬ lt_of A T i now = -1 → (f i).toInt ≤ yr.toInt
def rd_m (A : Nat → Nat → Int32) (T : Nat) (now yr : Int32) (S : Nat) (f : Nat → Int32) : Nat → Int32 := match la_run (uA A 56 f) T now yr S with
  | none => f
  | some b => upd f b yr
theorem rd_step {S : Nat} {f g : Nat → Int32} {yr : Int32} (hlt : ∀ i, i < S → lt_of A T i now = wh_of A T i now now) (hR : rd_R A T now S f g) (hb : rd_b A T now S f yr) : rd_R A T now S (rd_m A T now yr S f) (upd g (so_min g (gt_n A T now S - 1)) yr) ∧ rd_b A T now S (rd_m A T now yr S f) yr := by
  obtain ⟨h1, h2⟩ := la_spec (A := A) (T := T) (now := now) (f := f) (yr := yr) S
  obtain ⟨o1, o2⟩ := so_spec g (gt_n A T now S - 1)
  have o3 := so_le g (gt_n A T now S - 1)
  unfold rd_m
  cases hr : la_run (uA A 56 f) T now yr S with
  | none =>
    have h3 := h1 hr
    dsimp only
    refine ⟨fun i hi hl => ?_, hb⟩
    rw [upd]
    split
    · have e1 := h3 i hi (by rw [← hlt i hi]; exact hl)
      have e2 := hb i hi hl
      exact (Int32.toInt_inj.mp (by omega)).symm
    · exact hR i hi hl
  | some b =>
    obtain ⟨g1, g2, g3, g4, g5⟩ := h2 b hr
    dsimp only
    have gl : ¬ lt_of A T b now = -1 := by rw [hlt b g1]; exact g2
    have hbn := gt_lt (A := A) (T := T) (now := now) g1 gl
    have eo : so_min g (gt_n A T now S - 1) = gt_n A T now b := by
      obtain ⟨i0, i1, i2, i3⟩ := gt_sur (A := A) (T := T) (now := now) S (so_min g (gt_n A T now S - 1)) (by omega)
      have m1 := o1 (gt_n A T now b) (by omega)
      have e0 := hR i0 i1 i2
      rw [i3] at e0
      have eb := hR b g1 gl
      rw [e0, eb] at m1
      have m2 := g4 i0 i1 (by rw [← hlt i0 i1]; exact i2)
      rcases Nat.lt_trichotomy i0 b with c | c | c
      · have m3 := g5 i0 c (by rw [← hlt i0 i1]; exact i2)
        omega
      · rw [← i3, c]
      · have m3 := gt_lt (A := A) (T := T) (now := now) c gl
        have m4 := o2 (gt_n A T now b) (by omega)
        rw [e0, eb] at m4
        omega
    refine ⟨fun i hi hl => ?_, fun i hi hl => ?_⟩
    · rw [eo, upd, upd]
      by_cases e : i = b
      · rw [if_pos (by rw [e]), if_pos e]
      · rw [if_neg (fun h => ?_), if_neg e]
        · exact hR i hi hl
        · rcases Nat.lt_trichotomy i b with c | c | c
          · have := gt_lt (A := A) (T := T) (now := now) c hl
            omega
          · exact e c
          · have := gt_lt (A := A) (T := T) (now := now) c gl
            omega
    · rw [upd]
      split
      · exact Int.le_refl _
      · exact hb i hi hl
theorem rd_steps {S : Nat} {yr : Int32} (hlt : ∀ i, i < S → lt_of A T i now = wh_of A T i now now) : ∀ (k : Nat) (f g : Nat → Int32), rd_R A T now S f g → rd_b A T now S f yr → rd_R A T now S (rn_in A T now yr S k f) (so_in yr (gt_n A T now S) k g) ∧ rd_b A T now S (rn_in A T now yr S k f) yr
  | 0, f, g, hR, hb => ⟨hR, hb⟩
  | k + 1, f, g, hR, hb => by
    obtain ⟨h1, h2⟩ := rd_step hlt hR hb
    exact rd_steps hlt k _ _ h1 h2
theorem rn_add {S : Nat} {yr : Int32} : ∀ (a b : Nat) (f : Nat → Int32), rn_in A T now yr S (a + b) f = rn_in A T now yr S b (rn_in A T now yr S a f)
  | 0, b, f => by rw [Nat.zero_add]; rfl
  | a + 1, b, f => by
    rw [show a + 1 + b = (a + b) + 1 by omega]
    show rn_in A T now yr S (a + b) _ = _
    rw [rn_add a b]
    rfl
theorem rn_stop {S : Nat} {yr : Int32} {f : Nat → Int32} (h : la_run (uA A 56 f) T now yr S = none) : ∀ k, rn_in A T now yr S k f = f
  | 0 => rfl
  | k + 1 => by
    rw [rn_in, h]
    exact rn_stop h k
/-- how many are not seen in that year -/
def rd_c (g : Nat → Int32) (yr : Int32) : Nat → Nat
  | 0 => 0
  | k + 1 => rd_c g yr k + (if (g k).toInt < yr.toInt then 1 else 0)
theorem rd_c_le (g : Nat → Int32) (yr : Int32) : ∀ n, rd_c g yr n ≤ n
  | 0 => Nat.le_refl 0
  | n + 1 => by
    have := rd_c_le g yr n
    rw [rd_c]
    split <;> omega
theorem rd_c_0 {g : Nat → Int32} {yr : Int32} : ∀ n, rd_c g yr n = 0 → ∀ k, k < n → ¬ (g k).toInt < yr.toInt
  | 0, _, k, hk => absurd hk (Nat.not_lt_zero k)
  | n + 1, h, k, hk => by
    rw [rd_c] at h
    by_cases e : k = n
    · rw [e]
      intro h2
      rw [if_pos h2] at h
      omega
    · exact rd_c_0 n (by omega) k (by omega)
theorem rd_c_z {g : Nat → Int32} {yr : Int32} : ∀ n, (∀ k, k < n → ¬ (g k).toInt < yr.toInt) → rd_c g yr n = 0
  | 0, _ => rfl
  | n + 1, h => by
    rw [rd_c, rd_c_z n (fun k hk => h k (by omega)), if_neg (h n (by omega))]
theorem rd_c_up {g : Nat → Int32} {yr : Int32} {p : Nat} : ∀ n, rd_c (upd g p yr) yr n = rd_c g yr n - (if p < n ∧ (g p).toInt < yr.toInt then 1 else 0)
  | 0 => by
    rw [if_neg (by omega)]
    rfl
  | n + 1 => by
    have h1 := rd_c_up (g := g) (yr := yr) (p := p) n
    have h2 : rd_c (upd g p yr) yr (n + 1) = rd_c (upd g p yr) yr n + (if (upd g p yr n).toInt < yr.toInt then 1 else 0) := rfl
    have h3 : rd_c g yr (n + 1) = rd_c g yr n + (if (g n).toInt < yr.toInt then 1 else 0) := rfl
    have h4 : p < n → (g p).toInt < yr.toInt → 0 < rd_c g yr n := fun a b => by
      rcases Nat.eq_zero_or_pos (rd_c g yr n) with c | c
      · exact absurd b (rd_c_0 n c p a)
      · exact c
    by_cases e : n = p
    · subst e
      rw [show upd g n yr n = yr from if_pos rfl, if_neg (Int.lt_irrefl _)] at h2
      rw [if_neg (fun h => absurd h.1 (Nat.lt_irrefl n))] at h1
      by_cases e2 : (g n).toInt < yr.toInt
      · rw [if_pos e2] at h3
        rw [if_pos ⟨Nat.lt_succ_self n, e2⟩]
        omega
      · rw [if_neg e2] at h3
        rw [if_neg (fun h => e2 h.2)]
        omega
    · rw [show upd g p yr n = g n from if_neg e] at h2
      by_cases e2 : p < n ∧ (g p).toInt < yr.toInt
      · rw [if_pos e2] at h1
        rw [if_pos ⟨Nat.lt_succ_of_lt e2.1, e2.2⟩]
        have h5 := h4 e2.1 e2.2
        split at h2 <;> rename_i e3
        · rw [if_pos e3] at h3
          omega
        · rw [if_neg e3] at h3
          omega
      · rw [if_neg e2] at h1
        rw [if_neg (fun h => e2 ⟨by omega, h.2⟩)]
        split at h2 <;> rename_i e3
        · rw [if_pos e3] at h3
          omega
        · rw [if_neg e3] at h3
          omega
theorem rd_c_in {yr : Int32} {n : Nat} : ∀ (k : Nat) (g : Nat → Int32), rd_c (so_in yr n k g) yr n ≤ rd_c g yr n - k
  | 0, g => Nat.le_refl _
  | k + 1, g => by
    rw [so_in]
    have h1 := rd_c_in (yr := yr) (n := n) k (upd g (so_min g (n - 1)) yr)
    have h2 := rd_c_up (g := g) (yr := yr) (p := so_min g (n - 1)) n
    have h3 := so_le g (n - 1)
    obtain ⟨o1, o2⟩ := so_spec g (n - 1)
    by_cases e : rd_c g yr n = 0
    · rw [h2, e] at h1
      omega
    · have hn : 0 < n := by
        have := rd_c_le g yr n
        omega
      have h4 : (g (so_min g (n - 1))).toInt < yr.toInt := by
        apply Decidable.byContradiction
        intro h5
        apply e
        apply rd_c_z
        intro i hi
        have := o1 i (by omega)
        omega
      rw [h2, if_pos ⟨by omega, h4⟩] at h1
      omega
theorem rd_m_all {S m : Nat} {yr : Int32} {f g : Nat → Int32} (hlt : ∀ i, i < S → lt_of A T i now = wh_of A T i now now) (hR : rd_R A T now S f g) (hb : rd_b A T now S f yr) : rd_R A T now S (rn_in A T now yr S m f) (so_in yr (gt_n A T now S) (min m (gt_n A T now S)) g) ∧ rd_b A T now S (rn_in A T now yr S m f) yr := by
  by_cases e : m ≤ gt_n A T now S
  · rw [Nat.min_eq_left e]
    exact rd_steps hlt m f g hR hb
  · rw [Nat.min_eq_right (by omega)]
    obtain ⟨h1, h2⟩ := rd_steps hlt (gt_n A T now S) f g hR hb
    have h3 : la_run (uA A 56 (rn_in A T now yr S (gt_n A T now S) f)) T now yr S = none := by
      cases hr : la_run (uA A 56 (rn_in A T now yr S (gt_n A T now S) f)) T now yr S with
      | none => rfl
      | some b =>
        exfalso
        obtain ⟨g1, g2, g3, -, -⟩ := (la_spec (A := A) (T := T) (now := now) (f := rn_in A T now yr S (gt_n A T now S) f) (yr := yr) S).2 b hr
        have gl : ¬ lt_of A T b now = -1 := by rw [hlt b g1]; exact g2
        have c1 := rd_c_in (yr := yr) (n := gt_n A T now S) (gt_n A T now S) g
        have c2 := rd_c_le g yr (gt_n A T now S)
        have c3 := rd_c_0 (g := so_in yr (gt_n A T now S) (gt_n A T now S) g) (yr := yr) (gt_n A T now S) (by omega) (gt_n A T now b) (gt_lt g1 gl)
        rw [h1 b g1 gl] at c3
        exact c3 g3
    rw [show m = gt_n A T now S + (m - gt_n A T now S) by omega, rn_add, rn_stop h3]
    exact ⟨h1, h2⟩
theorem rn_any_iff {gap yr : Int32} {f : Nat → Int32} : ∀ S, rn_any A T now gap f yr S = true ↔ ∃ i, i < S ∧ ¬ wh_of A T i now now = -1 ∧ gap.toInt ≤ (yr - f i).toInt
  | 0 => ⟨fun h => (by cases h), fun ⟨i, h, _⟩ => absurd h (Nat.not_lt_zero i)⟩
  | S + 1 => by
    rw [rn_any, Bool.or_eq_true, rn_any_iff S, decide_eq_true_iff]
    constructor
    · rintro (⟨i, h1, h2⟩ | h)
      · exact ⟨i, by omega, h2⟩
      · exact ⟨S, by omega, h⟩
    · rintro ⟨i, h1, h2⟩
      by_cases e : i = S
      · rw [e] at h2; exact Or.inr h2
      · exact Or.inl ⟨i, by omega, h2⟩
theorem su_any_iff {gap yr : Int32} {g : Nat → Int32} : ∀ n, su_any g gap yr n = true ↔ ∃ i, i < n ∧ gap.toInt ≤ (yr - g i).toInt
  | 0 => ⟨fun h => (by cases h), fun ⟨i, h, _⟩ => absurd h (Nat.not_lt_zero i)⟩
  | n + 1 => by
    rw [su_any, Bool.or_eq_true, su_any_iff n, decide_eq_true_iff]
    constructor
    · rintro (⟨i, h1, h2⟩ | h)
      · exact ⟨i, by omega, h2⟩
      · exact ⟨n, by omega, h⟩
    · rintro ⟨i, h1, h2⟩
      by_cases e : i = n
      · rw [e] at h2; exact Or.inr h2
      · exact Or.inl ⟨i, by omega, h2⟩
theorem rd_any {S : Nat} {gap yr : Int32} {f g : Nat → Int32} (hlt : ∀ i, i < S → lt_of A T i now = wh_of A T i now now) (hR : rd_R A T now S f g) : su_any g gap yr (gt_n A T now S) = true ↔ rn_any A T now gap f yr S = true := by
  rw [su_any_iff, rn_any_iff]
  constructor
  · rintro ⟨k, h1, h2⟩
    obtain ⟨i, i1, i2, i3⟩ := gt_sur S k h1
    refine ⟨i, i1, by rw [← hlt i i1]; exact i2, ?_⟩
    rw [← hR i i1 i2, i3]
    exact h2
  · rintro ⟨i, i1, i2, i3⟩
    have il : ¬ lt_of A T i now = -1 := by rw [hlt i i1]; exact i2
    refine ⟨gt_n A T now i, gt_lt i1 il, ?_⟩
    rw [hR i i1 il]
    exact i3
theorem rd_all {S m : Nat} {gap : Int32} (hlt : ∀ i, i < S → lt_of A T i now = wh_of A T i now now) : ∀ (k y : Nat) (f g : Nat → Int32), y + k ≤ 1000 → rd_R A T now S f g → rd_b A T now S f (nI y) → rc_run gap (gt_n A T now S) m k y g = rn_run A T now gap S m k y f
  | 0, y, f, g, _, _, _ => rfl
  | k + 1, y, f, g, hy, hR, hb => by
    obtain ⟨h1, h2⟩ := rd_m_all (m := m) hlt hR hb
    have h3 := rd_any (gap := gap) (yr := nI y) hlt h1
    rw [rc_run, rn_run]
    by_cases e : rn_any A T now gap (rn_in A T now (nI y) S m f) (nI y) S = true
    · rw [if_pos e, if_pos (h3.mpr e)]
    · rw [if_neg e, if_neg (fun h => e (h3.mp h))]
      refine rd_all hlt k (y + 1) _ _ (by omega) h1 (fun i hi hl => ?_)
      have h4 := h2 i hi hl
      have h5 := pw_T (n := y) (by omega)
      have h6 := pw_T (n := y + 1) (by omega)
      omega
end RD
