theorem pw_inc (i : Nat) : nI i + Int32.ofInt 1 = nI (i + 1) := nI_1 i
theorem pw_T {n : Nat} (h : n < 2147483648) : (nI n).toInt = (n : Int) := nI_toInt h
/-- the latest of a ledger's entries: what the first i of them give, a year and a value -/
def ld_step (th yr kn : Int32) (f1 f2 f3 f4 : Nat → Int32) (i : Nat) (s : Int32 × Int32) : Int32 × Int32 :=
  if f1 i = th ∧ (f2 i).toInt ≤ yr.toInt ∧ (f3 i).toInt ≤ kn.toInt ∧ s.1.toInt ≤ (f2 i).toInt then (f2 i, f4 i) else s
def ld_run (th yr kn ot : Int32) (f1 f2 f3 f4 : Nat → Int32) : Nat → Int32 × Int32
  | 0 => (-1, ot)
  | i + 1 => ld_step th yr kn f1 f2 f3 f4 i (ld_run th yr kn ot f1 f2 f3 f4 i)
/-- a ledger at a: its object, its four rows of n places, e entries -/
def ld_at (h : pw_H) (a t1 t2 t3 t4 n e : Nat) (f1 f2 f3 f4 : Nat → Int32) : Prop :=
  h[a]? = some (.inr (.inr (1, [.inr (some t1), .inr (some t2), .inr (some t3), .inr (some t4), .inl (nI e)]))) ∧ h[t1]? = some (.inl (0, n, f1)) ∧ h[t2]? = some (.inl (0, n, f2)) ∧ h[t3]? = some (.inl (0, n, f3)) ∧ h[t4]? = some (.inl (0, n, f4)) ∧ n < 100000 ∧ e ≤ n
theorem c_4 (d : Nat) (h : pw_H) (a t1 t2 t3 t4 n e : Nat) (f1 f2 f3 f4 : Nat → Int32) (hL : ld_at h a t1 t2 t3 t4 n e f1 f2 f3 f4) : pw_M d 4 [.inr (some a)] h (pw_qi (pw_is h (pw_b (n ≤ e)))) := by
  obtain ⟨ha, h1, h2, h3, h4, hn, he⟩ := hL
  have heT := pw_T (n := e) (by omega)
  have hnT := pw_T (n := n) (by omega)
  refine pr_aload_n rfl rfl ?_
  refine pr_getf rfl ha rfl ?_
  refine pr_aload_n rfl rfl ?_
  refine pr_getf rfl ha rfl ?_
  refine pr_alen rfl h1 ?_
  refine pr_c_lt rfl (fun c_9 => ?_) (fun c_9 => ?_)
  · skip
    refine pr_push (v := 0) rfl rfl ?_
    exact pr_retb rfl rfl rfl (⟨by first | rw [pw_b1 (by omega)] | rw [pw_b0 (by omega)], rfl⟩)
  · skip
    refine pr_push (v := 1) rfl rfl ?_
    refine pr_step rfl rfl rfl rfl ?_
    exact pr_retb rfl rfl rfl (⟨by first | rw [pw_b1 (by omega)] | rw [pw_b0 (by omega)], rfl⟩)
def ld_put (h : pw_H) (a t1 t2 t3 t4 n e : Nat) (f1 f2 f3 f4 : Nat → Int32) (x1 x2 x3 x4 : Int32) : pw_H := ((((h.set t1 (.inl (0, n, upd f1 e x1))).set t2 (.inl (0, n, upd f2 e x2))).set t3 (.inl (0, n, upd f3 e x3))).set t4 (.inl (0, n, upd f4 e x4))).set a (.inr (.inr (1, [.inr (some t1), .inr (some t2), .inr (some t3), .inr (some t4), .inl (nI (e + 1))])))
theorem pw_ne {h : pw_H} {i j : Nat} {x : pw_C} {y : Option pw_C} (hn : i ≠ j) (hy : h[j]? = y) : (h.set i x)[j]? = y := by rw [List.getElem?_set_ne hn]; exact hy
theorem c_5 (d : Nat) (h : pw_H) (a t1 t2 t3 t4 n e : Nat) (f1 f2 f3 f4 : Nat → Int32) (hL : ld_at h a t1 t2 t3 t4 n e f1 f2 f3 f4) (hd : a ≠ t1 ∧ a ≠ t2 ∧ a ≠ t3 ∧ a ≠ t4 ∧ t1 ≠ t2 ∧ t1 ≠ t3 ∧ t1 ≠ t4 ∧ t2 ≠ t3 ∧ t2 ≠ t4 ∧ t3 ≠ t4) (hf : e < n) (x1 x2 x3 x4 : Int32) : pw_M (d + 1) 5 [.inr (some a), .inl x1, .inl x2, .inl x3, .inl x4] h (pw_qi (fun r h1 => r = nI e ∧ h1 = ld_put h a t1 t2 t3 t4 n e f1 f2 f3 f4 x1 x2 x3 x4)) := by
  have hL0 := hL
  obtain ⟨ha, h1, h2, h3, h4, hn, he⟩ := hL
  have heT := pw_T (n := e) (by omega)
  have hnT := pw_T (n := n) (by omega)
  obtain ⟨d1, d2, d3, d4, d5, d6, d7, d8, d9, d10⟩ := hd
  refine pr_aload_n rfl rfl ?_
  refine pr_vi0 rfl (by decide) (Nat.le_of_ble_eq_true rfl) ha (Nat.le_of_ble_eq_true rfl) (c_4 _ _ _ _ _ _ _ _ _ _ _ _ _ hL0) (fun r_1 h_1 q_1 => ?_)
  obtain ⟨rfl, rfl⟩ := q_1
  refine pr_b_eq rfl (fun c_4 => ?_) (fun c_4 => ?_)
  · skip
    refine pr_aload_n rfl rfl ?_
    refine pr_getf rfl ha rfl ?_
    refine pr_aload_n rfl rfl ?_
    refine pr_getf rfl ha rfl ?_
    refine pr_iload_n rfl rfl ?_
    refine pr_iast e rfl h1 (by omega) rfl (by omega) rfl ?_
    refine pr_aload_n rfl rfl ?_
    refine pr_getf rfl (pw_ne (Ne.symm d1) ha) rfl ?_
    refine pr_aload_n rfl rfl ?_
    refine pr_getf rfl (pw_ne (Ne.symm d1) ha) rfl ?_
    refine pr_iload_n rfl rfl ?_
    refine pr_iast e rfl (pw_ne d5 h2) (by omega) rfl (by omega) rfl ?_
    refine pr_aload_n rfl rfl ?_
    refine pr_getf rfl (pw_ne (Ne.symm d2) (pw_ne (Ne.symm d1) ha)) rfl ?_
    refine pr_aload_n rfl rfl ?_
    refine pr_getf rfl (pw_ne (Ne.symm d2) (pw_ne (Ne.symm d1) ha)) rfl ?_
    refine pr_iload_n rfl rfl ?_
    refine pr_iast e rfl (pw_ne d8 (pw_ne d6 h3)) (by omega) rfl (by omega) rfl ?_
    refine pr_aload_n rfl rfl ?_
    refine pr_getf rfl (pw_ne (Ne.symm d3) (pw_ne (Ne.symm d2) (pw_ne (Ne.symm d1) ha))) rfl ?_
    refine pr_aload_n rfl rfl ?_
    refine pr_getf rfl (pw_ne (Ne.symm d3) (pw_ne (Ne.symm d2) (pw_ne (Ne.symm d1) ha))) rfl ?_
    refine pr_iload rfl rfl ?_
    refine pr_iast e rfl (pw_ne d10 (pw_ne d9 (pw_ne d7 h4))) (by omega) rfl (by omega) rfl ?_
    refine pr_aload_n rfl rfl ?_
    refine pr_step rfl rfl rfl rfl ?_
    refine pr_getf rfl (pw_ne (Ne.symm d4) (pw_ne (Ne.symm d3) (pw_ne (Ne.symm d2) (pw_ne (Ne.symm d1) ha)))) rfl ?_
    refine pr_step rfl rfl rfl rfl ?_
    refine pr_push (v := 1) rfl rfl ?_
    refine pr_step rfl rfl rfl rfl ?_
    refine pr_top (nI_1 e) ?_
    refine pr_putf rfl (pw_ne (Ne.symm d4) (pw_ne (Ne.symm d3) (pw_ne (Ne.symm d2) (pw_ne (Ne.symm d1) ha)))) (Nat.le_of_ble_eq_true rfl) rfl rfl ?_
    exact pr_reti rfl rfl (⟨rfl, rfl⟩)
  · skip
    exact absurd c_4 (by omega)
theorem c_6_loop (d : Nat) (h : pw_H) (a t1 t2 t3 t4 n e : Nat) (f1 f2 f3 f4 : Nat → Int32) (hL : ld_at h a t1 t2 t3 t4 n e f1 f2 f3 f4) (th yr kn ot : Int32) : ∀ (k i : Nat) (u v : Int32) (g : Option pw_V), i + k = e → (u, v) = ld_run th yr kn ot f1 f2 f3 f4 i → pw_W d 6 10 [some (.inr (some a)), some (.inl th), some (.inl yr), some (.inl kn), some (.inl ot), some (.inl u), some (.inl v), some (.inl (nI i)), g] [] h (pw_qi (pw_is h (ld_run th yr kn ot f1 f2 f3 f4 e).2)) := by
  obtain ⟨ha, h1, h2, h3, h4, hn, he⟩ := hL
  have heT := pw_T (n := e) (by omega)
  have hnT := pw_T (n := n) (by omega)
  intro k
  induction k with
  | zero =>
    intro i u v g hi hs
    obtain rfl : i = e := by omega
    refine pr_iload rfl rfl ?_
    refine pr_aload_n rfl rfl ?_
    refine pr_getf rfl ha rfl ?_
    refine pr_c_ge rfl (fun c_16 => ?_) (fun c_16 => ?_)
    · skip
      refine pr_iload rfl rfl ?_
      exact pr_reti rfl rfl (⟨by rw [← hs], rfl⟩)
    · skip
      exact absurd c_16 (by omega)
  | succ k ih =>
    intro i u v g hi hs
    have hiT := pw_T (n := i) (by omega)
    refine pr_iload rfl rfl ?_
    refine pr_aload_n rfl rfl ?_
    refine pr_getf rfl ha rfl ?_
    refine pr_c_ge rfl (fun c_16 => ?_) (fun c_16 => ?_)
    · skip
      exact absurd c_16 (by omega)
    · skip
      refine pr_aload_n rfl rfl ?_
      refine pr_getf rfl ha rfl ?_
      refine pr_iload rfl rfl ?_
      refine pr_iald i rfl h1 (by decide) (by omega) rfl (by omega) ?_
      refine pr_iload_n rfl rfl ?_
      refine pr_c_ne rfl (fun c_27 => ?_) (fun c_27 => ?_)
      · skip
        refine pr_push (v := 0) rfl rfl ?_
        refine pr_istore rfl (Nat.le_of_ble_eq_true rfl) rfl ?_
        refine pr_iload rfl rfl ?_
        refine pr_step rfl rfl rfl rfl ?_
        refine pr_iinc rfl rfl (pw_inc i) rfl ?_
        refine pr_step rfl rfl rfl rfl ?_
        exact ih (i + 1) _ _ _ (by omega) (by
          rw [ld_run, ← hs]
          unfold ld_step
          first
            | rw [if_pos ⟨by assumption, by omega, by omega, by dsimp only; omega⟩]
            | rw [if_neg (fun hh => by first | exact absurd hh.1 (by assumption) | (dsimp only at hh; omega))])
      · skip
        refine pr_aload_n rfl rfl ?_
        refine pr_getf rfl ha rfl ?_
        refine pr_iload rfl rfl ?_
        refine pr_iald i rfl h2 (by decide) (by omega) rfl (by omega) ?_
        refine pr_iload_n rfl rfl ?_
        refine pr_c_gt rfl (fun c_38 => ?_) (fun c_38 => ?_)
        · skip
          refine pr_push (v := 0) rfl rfl ?_
          refine pr_istore rfl (Nat.le_of_ble_eq_true rfl) rfl ?_
          refine pr_iload rfl rfl ?_
          refine pr_step rfl rfl rfl rfl ?_
          refine pr_iinc rfl rfl (pw_inc i) rfl ?_
          refine pr_step rfl rfl rfl rfl ?_
          exact ih (i + 1) _ _ _ (by omega) (by
            rw [ld_run, ← hs]
            unfold ld_step
            first
              | rw [if_pos ⟨by assumption, by omega, by omega, by dsimp only; omega⟩]
              | rw [if_neg (fun hh => by first | exact absurd hh.1 (by assumption) | (dsimp only at hh; omega))])
        · skip
          refine pr_aload_n rfl rfl ?_
          refine pr_getf rfl ha rfl ?_
          refine pr_iload rfl rfl ?_
          refine pr_iald i rfl h3 (by decide) (by omega) rfl (by omega) ?_
          refine pr_iload_n rfl rfl ?_
          refine pr_c_gt rfl (fun c_49 => ?_) (fun c_49 => ?_)
          · skip
            refine pr_push (v := 0) rfl rfl ?_
            refine pr_istore rfl (Nat.le_of_ble_eq_true rfl) rfl ?_
            refine pr_iload rfl rfl ?_
            refine pr_step rfl rfl rfl rfl ?_
            refine pr_iinc rfl rfl (pw_inc i) rfl ?_
            refine pr_step rfl rfl rfl rfl ?_
            exact ih (i + 1) _ _ _ (by omega) (by
              rw [ld_run, ← hs]
              unfold ld_step
              first
                | rw [if_pos ⟨by assumption, by omega, by omega, by dsimp only; omega⟩]
                | rw [if_neg (fun hh => by first | exact absurd hh.1 (by assumption) | (dsimp only at hh; omega))])
          · skip
            refine pr_push (v := 1) rfl rfl ?_
            refine pr_step rfl rfl rfl rfl ?_
            refine pr_istore rfl (Nat.le_of_ble_eq_true rfl) rfl ?_
            refine pr_iload rfl rfl ?_
            refine pr_step rfl rfl rfl rfl ?_
            refine pr_aload_n rfl rfl ?_
            refine pr_getf rfl ha rfl ?_
            refine pr_iload rfl rfl ?_
            refine pr_iald i rfl h2 (by decide) (by omega) rfl (by omega) ?_
            refine pr_iload rfl rfl ?_
            refine pr_c_lt rfl (fun c_73 => ?_) (fun c_73 => ?_)
            · skip
              refine pr_iinc rfl rfl (pw_inc i) rfl ?_
              refine pr_step rfl rfl rfl rfl ?_
              exact ih (i + 1) _ _ _ (by omega) (by
                rw [ld_run, ← hs]
                unfold ld_step
                first
                  | rw [if_pos ⟨by assumption, by omega, by omega, by dsimp only; omega⟩]
                  | rw [if_neg (fun hh => by first | exact absurd hh.1 (by assumption) | (dsimp only at hh; omega))])
            · skip
              refine pr_aload_n rfl rfl ?_
              refine pr_getf rfl ha rfl ?_
              refine pr_iload rfl rfl ?_
              refine pr_iald i rfl h2 (by decide) (by omega) rfl (by omega) ?_
              refine pr_istore rfl (Nat.le_of_ble_eq_true rfl) rfl ?_
              refine pr_aload_n rfl rfl ?_
              refine pr_getf rfl ha rfl ?_
              refine pr_iload rfl rfl ?_
              refine pr_iald i rfl h4 (by decide) (by omega) rfl (by omega) ?_
              refine pr_istore rfl (Nat.le_of_ble_eq_true rfl) rfl ?_
              refine pr_iinc rfl rfl (pw_inc i) rfl ?_
              refine pr_step rfl rfl rfl rfl ?_
              exact ih (i + 1) _ _ _ (by omega) (by
                rw [ld_run, ← hs]
                unfold ld_step
                first
                  | rw [if_pos ⟨by assumption, by omega, by omega, by dsimp only; omega⟩]
                  | rw [if_neg (fun hh => by first | exact absurd hh.1 (by assumption) | (dsimp only at hh; omega))])
theorem c_6 (d : Nat) (h : pw_H) (a t1 t2 t3 t4 n e : Nat) (f1 f2 f3 f4 : Nat → Int32) (hL : ld_at h a t1 t2 t3 t4 n e f1 f2 f3 f4) (th yr kn ot : Int32) : pw_M d 6 [.inr (some a), .inl th, .inl yr, .inl kn, .inl ot] h (pw_qi (pw_is h (ld_run th yr kn ot f1 f2 f3 f4 e).2)) := by
  refine pr_push (v := (-1)) rfl rfl ?_
  refine pr_istore rfl (Nat.le_of_ble_eq_true rfl) rfl ?_
  refine pr_iload rfl rfl ?_
  refine pr_istore rfl (Nat.le_of_ble_eq_true rfl) rfl ?_
  refine pr_push (v := 0) rfl rfl ?_
  refine pr_istore rfl (Nat.le_of_ble_eq_true rfl) rfl ?_
  exact c_6_loop d h a t1 t2 t3 t4 n e f1 f2 f3 f4 hL th yr kn ot e 0 _ _ _ (by omega) rfl
