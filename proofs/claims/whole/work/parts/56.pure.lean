theorem ld_300 {th yr ot : Int32} {f1 f2 f3 f4 : Nat → Int32} : ∀ n, (∀ i, i < n → (f3 i).toInt ≤ 300) → ld_run th yr 300 ot f1 f2 f3 f4 n = ld_run th yr 0 ot f1 f2 (fun _ => 0) f4 n
  | 0, _ => rfl
  | n + 1, h => by
    have h1 := h n (by omega)
    have z3 := pz_300
    have z0 := pz_0
    rw [ld_run, ld_run, ld_300 n (fun i hi => h i (by omega)), ld_step, ld_step]
    by_cases hc : f1 n = th ∧ (f2 n).toInt ≤ yr.toInt ∧ (f3 n).toInt ≤ (300 : Int32).toInt ∧ (ld_run th yr 0 ot f1 f2 (fun _ => 0) f4 n).1.toInt ≤ (f2 n).toInt
    · rw [if_pos hc, if_pos ⟨hc.1, hc.2.1, Int.le_refl _, hc.2.2.2⟩]
    · rw [if_neg hc, if_neg (fun hh => hc ⟨hh.1, hh.2.1, by omega, hh.2.2.2⟩)]
theorem ld_in {th yr kn ot : Int32} {f1 f2 f3 f4 : Nat → Int32} : ∀ n, (ld_run th yr kn ot f1 f2 f3 f4 n).2 = ot ∨ ∃ i, i < n ∧ (ld_run th yr kn ot f1 f2 f3 f4 n).2 = f4 i
  | 0 => Or.inl rfl
  | n + 1 => by
    rw [ld_run, ld_step]
    split
    · exact Or.inr ⟨n, by omega, rfl⟩
    · rcases ld_in n with h | ⟨i, hi, h⟩
      · exact Or.inl h
      · exact Or.inr ⟨i, by omega, h⟩
theorem on_in {c : Int32} : ∀ n p, on_f c n p = -1 ∨ ∃ i, i < p + n ∧ on_f c n p = nI i
  | 0, _ => Or.inl rfl
  | n + 1, p => by
    rw [on_f]
    split
    · exact Or.inr ⟨p, by omega, rfl⟩
    · rcases on_in (c := c) n (p + 1) with h | ⟨i, hi, h⟩
      · exact Or.inl h
      · exact Or.inr ⟨i, by omega, h⟩
theorem cl_up {b : Nat → Bool} {P : Nat} (h : ∀ p, P ≤ p → b p = false) : ∀ k, cl_run b (P + k) = cl_run b P
  | 0 => rfl
  | k + 1 => by
    show cl_run b (P + k) ||| (if b (P + k) = true then 1 <<< (nI (P + k) &&& 31) else 0) = _
    rw [cl_up h k, h (P + k) (by omega), if_neg Bool.false_ne_true, pw_or0]
theorem cl_16 (b : Nat → Bool) : ∃ c, c < 16 ∧ cl_run b 4 = nI c := by
  unfold cl_run cl_run cl_run cl_run cl_run
  generalize b 0 = b0
  generalize b 1 = b1
  generalize b 2 = b2
  generalize b 3 = b3
  cases b0 <;> cases b1 <;> cases b2 <;> cases b3 <;> first
    | exact ⟨0, by decide, by decide +kernel⟩
    | exact ⟨1, by decide, by decide +kernel⟩
    | exact ⟨2, by decide, by decide +kernel⟩
    | exact ⟨3, by decide, by decide +kernel⟩
    | exact ⟨4, by decide, by decide +kernel⟩
    | exact ⟨5, by decide, by decide +kernel⟩
    | exact ⟨6, by decide, by decide +kernel⟩
    | exact ⟨7, by decide, by decide +kernel⟩
    | exact ⟨8, by decide, by decide +kernel⟩
    | exact ⟨9, by decide, by decide +kernel⟩
    | exact ⟨10, by decide, by decide +kernel⟩
    | exact ⟨11, by decide, by decide +kernel⟩
    | exact ⟨12, by decide, by decide +kernel⟩
    | exact ⟨13, by decide, by decide +kernel⟩
    | exact ⟨14, by decide, by decide +kernel⟩
    | exact ⟨15, by decide, by decide +kernel⟩
theorem on_lt : ∀ P, P < 5 → ∀ c, c < 2 ^ P → on_f (nI c) 4 0 = on_f (nI c) P 0 := by decide +kernel
theorem cl_lt (b : Nat → Bool) {P : Nat} (hP : P ≤ 4) (h : ∀ p, P ≤ p → b p = false) : ∃ c, c < 2 ^ P ∧ cl_run b 4 = nI c := by
  have h4 := cl_up h (4 - P)
  rw [show P + (4 - P) = 4 by omega] at h4
  rw [h4]
  clear h4
  rcases (show P = 0 ∨ P = 1 ∨ P = 2 ∨ P = 3 ∨ P = 4 by omega) with rfl | rfl | rfl | rfl | rfl
  · exact ⟨0, by decide, rfl⟩
  · unfold cl_run cl_run
    generalize b 0 = b0
    cases b0 <;> first
    | exact ⟨0, by decide, by decide +kernel⟩
    | exact ⟨1, by decide, by decide +kernel⟩
  · unfold cl_run cl_run cl_run
    generalize b 0 = b0
    generalize b 1 = b1
    cases b0 <;> cases b1 <;> first
    | exact ⟨0, by decide, by decide +kernel⟩
    | exact ⟨1, by decide, by decide +kernel⟩
    | exact ⟨2, by decide, by decide +kernel⟩
    | exact ⟨3, by decide, by decide +kernel⟩
  · unfold cl_run cl_run cl_run cl_run
    generalize b 0 = b0
    generalize b 1 = b1
    generalize b 2 = b2
    cases b0 <;> cases b1 <;> cases b2 <;> first
    | exact ⟨0, by decide, by decide +kernel⟩
    | exact ⟨1, by decide, by decide +kernel⟩
    | exact ⟨2, by decide, by decide +kernel⟩
    | exact ⟨3, by decide, by decide +kernel⟩
    | exact ⟨4, by decide, by decide +kernel⟩
    | exact ⟨5, by decide, by decide +kernel⟩
    | exact ⟨6, by decide, by decide +kernel⟩
    | exact ⟨7, by decide, by decide +kernel⟩
  · obtain ⟨c, hc, e⟩ := cl_16 b
    exact ⟨c, by omega, e⟩
theorem cl_on (b : Nat → Bool) {P : Nat} (hP : P ≤ 4) (h : ∀ p, P ≤ p → b p = false) : on_f (cl_run b 4) 4 0 = on_f (cl_run b 4) P 0 := by
  obtain ⟨c, hc, e⟩ := cl_lt b hP h
  rw [e]
  exact on_lt P (by omega) c hc
theorem cl_os (b : Nat → Bool) : os_run (cl_run b 4) 12 = bc_of (cl_run b 4) := by
  obtain ⟨c, hc, e⟩ := cl_16 b
  rw [e]
  exact rb_os c hc
/-- counts keep small -/
theorem gp_row_b {own : Nat → Int32} {c : Nat → Int32} {f M : Nat} (h : ∀ i, i < 4 → 0 ≤ (c i).toInt ∧ (c i).toInt ≤ M) (hM : M < 1000) (ho : ∀ k, own (f + k) = -1 ∨ (∃ p, p < 4 ∧ own (f + k) = nI p) ∨ True) : ∀ k, k ≤ 12 → ∀ i, i < 4 → 0 ≤ (gp_row own c f k i).toInt ∧ (gp_row own c f k i).toInt ≤ M + k
  | 0, _, i, hi => h i hi
  | k + 1, hk, i, hi => by
    have h1 := gp_row_b (own := own) (f := f) h hM ho k (by omega) i hi
    have z1 := pz_1
    show 0 ≤ (gp_add (gp_row own c f k) (own (f + k)) i).toInt ∧ (gp_add (gp_row own c f k) (own (f + k)) i).toInt ≤ _
    rw [gp_add]
    split
    · omega
    · rw [upd]
      split
      · rename_i e
        rw [e] at h1
        rw [pw_addT (by omega) (by omega)]
        omega
      · omega
theorem gp_all_b {own : Nat → Int32} {hx hy w : Nat} (hw : w ≤ 12) : ∀ k, k ≤ 12 → ∀ i, i < 4 → 0 ≤ (gp_all own hx hy w k i).toInt ∧ (gp_all own hx hy w k i).toInt ≤ ((12 * k : Nat) : Int)
  | 0, _, i, hi => ⟨Int.le_refl 0, Int.le_refl 0⟩
  | k + 1, hk, i, hi => by
    have h1 := gp_row_b (own := own) (c := gp_all own hx hy w k) (M := 12 * k) (f := 12 * (hy + k) + hx) (gp_all_b hw k (by omega)) (by omega) (fun _ => Or.inr (Or.inr trivial)) w hw i hi
    show 0 ≤ (gp_row own (gp_all own hx hy w k) (12 * (hy + k) + hx) w i).toInt ∧ (gp_row own (gp_all own hx hy w k) (12 * (hy + k) + hx) w i).toInt ≤ _
    omega
theorem gc_gp {c : Nat → Int32} (h : ∀ i, i < 4 → 0 ≤ (c i).toInt) : (gc_st c 4).2 = gp_of c := by
  have h0 := h 0 (by omega)
  have h1 := h 1 (by omega)
  have h2 := h 2 (by omega)
  have h3 := h 3 (by omega)
  have z0 := pz_0
  -- after the first
  have s1 : (0 < (c 0).toInt ∧ gc_st c 1 = (c 0, nI 0)) ∨ ((c 0).toInt = 0 ∧ (gc_st c 1).1.toInt = 0 ∧ (gc_st c 1).2 = -1) := by
    rw [gc_st, gc_st]
    by_cases e : 0 < (c 0).toInt
    · exact Or.inl ⟨e, by rw [if_pos (by rw [z0]; exact e)]⟩
    · refine Or.inr ⟨by omega, ?_⟩
      rw [if_neg (by rw [z0]; exact e), if_pos (by rw [z0]; omega)]
      exact ⟨rfl, rfl⟩
  have key : ∀ p, p < 4 → (gc_st c (p + 1)).1.toInt = (c (gp_st c p).1).toInt ∧ (gc_st c (p + 1)).2 = if (gp_st c p).2 = true then nI (gp_st c p).1 else -1 := by
    intro p
    induction p with
    | zero =>
      intro _
      rcases s1 with ⟨e1, e2⟩ | ⟨e1, e2, e3⟩
      · rw [e2]
        refine ⟨rfl, ?_⟩
        show nI 0 = if decide (0 < (c 0).toInt) = true then nI 0 else -1
        rw [if_pos (decide_eq_true e1)]
      · refine ⟨e2.trans e1.symm, ?_⟩
        rw [e3]
        show -1 = if decide (0 < (c 0).toInt) = true then nI 0 else -1
        rw [if_neg (by rw [decide_eq_false (by omega)]; exact Bool.false_ne_true)]
    | succ p ih =>
      intro hp
      obtain ⟨i1, i2⟩ := ih (by omega)
      have hl := gp_st_le c p
      rw [gc_st, gp_st]
      dsimp only
      generalize gp_st c p = s at *
      generalize gc_st c (p + 1) = t at *
      by_cases e1 : t.1.toInt < (c (p + 1)).toInt
      · rw [if_pos e1, if_pos (by omega), decide_eq_true (show (c s.1).toInt < (c (p + 1)).toInt by omega)]
        exact ⟨rfl, rfl⟩
      · have e1b : ¬ (c s.1).toInt < (c (p + 1)).toInt := by omega
        rw [if_neg e1, if_neg e1b, decide_eq_false e1b, Bool.false_or]
        by_cases e2 : (c (p + 1)).toInt = t.1.toInt
        · rw [if_pos e2, decide_eq_false (by omega), Bool.false_and]
          exact ⟨i1, rfl⟩
        · rw [if_neg e2, decide_eq_true (by omega), Bool.true_and]
          exact ⟨i1, i2⟩
  exact (key 3 (by omega)).2
section CG
variable {D L U D2 L2 U2 : Nat → Int} {n : Nat}
def cg_ag (D L U D2 L2 U2 : Nat → Int) (n : Nat) : Prop := ∀ i, i < n → D i = D2 i ∧ L i = L2 i ∧ U i = U2 i
theorem cg_s {f f2 : Nat → Int} : ∀ c i, i + c ≤ n → (∀ k, k < n → f k = f2 k) → wl_s f c i = wl_s f2 c i
  | 0, _, _, _ => rfl
  | c + 1, i, hi, h => by
    rw [wl_s, wl_s, h i (by omega), cg_s c (i + 1) (by omega) h]
theorem cg_mn (h : cg_ag D L U D2 L2 U2 n) {ax : Int} : ∀ k, k < n → wl_mn D L U ax k = wl_mn D2 L2 U2 ax k := fun k hk => by
  obtain ⟨h1, h2, h3⟩ := h k hk
  rw [wl_mn, wl_mn, h1, h2, h3]
theorem cg_mx (h : cg_ag D L U D2 L2 U2 n) {ax : Int} : ∀ k, k < n → wl_mx D L U ax k = wl_mx D2 L2 U2 ax k := fun k hk => by
  obtain ⟨h1, h2, h3⟩ := h k hk
  rw [wl_mx, wl_mx, h1, h2, h3]
theorem cg_feas (h : cg_ag D L U D2 L2 U2 n) {ax : Int} : wl_feas D L U n ax ↔ wl_feas D2 L2 U2 n ax := by
  unfold wl_feas
  rw [cg_s n 0 (by omega) (cg_mn h), cg_s n 0 (by omega) (cg_mx h)]
theorem cg_pick (h : cg_ag D L U D2 L2 U2 n) {ax nd : Int} {i : Nat} (hi : i < n) : wl_pick D L U n ax nd i = wl_pick D2 L2 U2 n ax nd i := by
  obtain ⟨h1, h2, h3⟩ := h i hi
  rw [wl_pick, wl_pick, h1, h2, cg_s (n - (i + 1)) (i + 1) (by omega) (cg_mn h), cg_s (n - (i + 1)) (i + 1) (by omega) (cg_mx h)]
theorem cg_nd (h : cg_ag D L U D2 L2 U2 n) {ax : Int} : ∀ i, i ≤ n → wl_nd D L U n ax i = wl_nd D2 L2 U2 n ax i
  | 0, _ => rfl
  | i + 1, hi => by
    rw [wl_nd, wl_nd, cg_nd h i (by omega), (h i (by omega)).1, cg_pick h (by omega)]
theorem cg_len (h : cg_ag D L U D2 L2 U2 n) {i : Nat} (hi : i < n) : wl_len D L U n i = wl_len D2 L2 U2 n i := by
  rw [wl_len, wl_len, (h i hi).1, cg_nd h i (by omega), cg_pick h hi]
theorem cg_px {ln ln2 : Nat → Int} (h : ∀ i, i < n → D i = D2 i) (hl : ∀ i, i < n → ln i = ln2 i) {x0 : Int} : ∀ i, i ≤ n → wl_px D ln x0 i = wl_px D2 ln2 x0 i
  | 0, _ => rfl
  | i + 1, hi => by rw [wl_px, wl_px, cg_px h hl i (by omega), h i (by omega), hl i (by omega)]
theorem cg_py {ln ln2 : Nat → Int} (h : ∀ i, i < n → D i = D2 i) (hl : ∀ i, i < n → ln i = ln2 i) {y0 : Int} : ∀ i, i ≤ n → wl_py D ln y0 i = wl_py D2 ln2 y0 i
  | 0, _ => rfl
  | i + 1, hi => by rw [wl_py, wl_py, cg_py h hl i (by omega), h i (by omega), hl i (by omega)]
theorem cg_land {ln ln2 : Nat → Int} (h : ∀ i, i < n → D i = D2 i) (hl : ∀ i, i < n → ln i = ln2 i) {x0 y0 : Int} : wl_land D ln x0 y0 n ↔ wl_land D2 ln2 x0 y0 n := by
  constructor
  · intro hh i hi
    have e := hh i hi
    rw [cg_px h hl (i + 1) (by omega), cg_py h hl (i + 1) (by omega)] at e
    exact e
  · intro hh i hi
    have e := hh i hi
    rw [← cg_px h hl (i + 1) (by omega), ← cg_py h hl (i + 1) (by omega)] at e
    exact e
theorem cg_V {ln ln2 : Nat → Int} (h : ∀ i, i < n → D i = D2 i) (hl : ∀ i, i < n → ln i = ln2 i) {x0 y0 X Y : Int} : ∀ i, i ≤ n → wl_V D ln x0 y0 i X Y = wl_V D2 ln2 x0 y0 i X Y
  | 0, _ => rfl
  | i + 1, hi => by rw [wl_V, wl_V, cg_V h hl i (by omega), h i (by omega), hl i (by omega), cg_px h hl i (by omega), cg_py h hl i (by omega)]
end CG
section CM
variable {D L U : Nat → Int32} {A : Nat → Nat → Int32} {j n : Nat}
theorem cm_ag (h : ∀ i, i < n → D i = A 29 (12 * j + i) ∧ L i = A 30 (12 * j + i) ∧ U i = A 31 (12 * j + i)) : cg_ag (iT D) (iT L) (iT U) (md_D A j) (md_L A j) (md_U A j) n := fun i hi => by
  obtain ⟨h1, h2, h3⟩ := h i hi
  dsimp only [iT]
  rw [h1, h2, h3]
  exact ⟨rfl, rfl, rfl⟩
theorem cm_fe (h : cg_ag (iT D) (iT L) (iT U) (md_D A j) (md_L A j) (md_U A j) n) : wk_fe D L U n ↔ (wl_feas (md_D A j) (md_L A j) (md_U A j) n 0 ∧ wl_feas (md_D A j) (md_L A j) (md_U A j) n 1) :=
  and_congr (cg_feas h) (cg_feas h)
theorem cm_rg (h : cg_ag (iT D) (iT L) (iT U) (md_D A j) (md_L A j) (md_U A j) n) : wk_rg D L U n (A 26 j) (A 27 j) ↔ md_ring A j n :=
  and_congr (cm_fe h) (cg_land (fun i hi => (h i hi).1) (fun i hi => cg_len h hi))
theorem cm_V (h : cg_ag (iT D) (iT L) (iT U) (md_D A j) (md_L A j) (md_U A j) n) : wk_V D L U n (A 26 j) (A 27 j) = md_V A j n := by
  funext X Y
  exact cg_V (fun i hi => (h i hi).1) (fun i hi => cg_len h hi) n (Nat.le_refl n)
end CM
