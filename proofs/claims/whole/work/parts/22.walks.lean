theorem pw_at (j k : Nat) : 12 * nI j + nI k = nI (12 * j + k) := by
  rw [show (12 : Int32) = nI 12 from rfl, pk_mul, nI_add]
theorem pw_rem2 {x : Int32} (h : 0 ≤ x.toInt) : (x - x / 2 * 2).toInt = x.toInt % 2 := by
  obtain ⟨a, rfl, hT, hl⟩ := pw_nat h
  rw [show (2 : Int32) = nI 2 from rfl, pk_rem hl (by decide) (by decide), pw_T (by omega), hT]
  omega
theorem pw_negT {x : Int32} (h : -1000000000 ≤ x.toInt ∧ x.toInt ≤ 1000000000) : (-x).toInt = - x.toInt := by
  rw [Int32.toInt_neg]
  exact Int.bmod_eq_of_le (by omega) (by omega)
theorem pw_x1 (x : Int32) : 1 * x = x := Int32.one_mul x
theorem pw_xm (x : Int32) : (-1) * x = -x := by rw [Int32.neg_mul, Int32.one_mul]
/-- the walk's pure numbers: directions, least and greatest lengths -/
def wl_mn (D L U : Nat → Int) (ax : Int) (k : Nat) : Int := if D k % 2 = ax then (if D k < 2 then L k else -(U k)) else 0
def wl_mx (D L U : Nat → Int) (ax : Int) (k : Nat) : Int := if D k % 2 = ax then (if D k < 2 then U k else -(L k)) else 0
def wl_s (f : Nat → Int) : Nat → Nat → Int
  | 0, _ => 0
  | c + 1, i => f i + wl_s f c (i + 1)
def wl_pick (D L U : Nat → Int) (n : Nat) (ax nd : Int) (i : Nat) : Int :=
  if D i < 2 then max (L i) (nd - wl_s (wl_mx D L U ax) (n - (i + 1)) (i + 1)) else max (L i) (wl_s (wl_mn D L U ax) (n - (i + 1)) (i + 1) - nd)
def wl_nd (D L U : Nat → Int) (n : Nat) (ax : Int) : Nat → Int
  | 0 => 0
  | i + 1 => if D i % 2 = ax then wl_nd D L U n ax i - (if D i < 2 then 1 else -1) * wl_pick D L U n ax (wl_nd D L U n ax i) i else wl_nd D L U n ax i
def wl_len (D L U : Nat → Int) (n i : Nat) : Int := wl_pick D L U n (D i % 2) (wl_nd D L U n (D i % 2) i) i
/-- legs as they may stand -/
def wl_ok (D L U : Nat → Int) (n : Nat) : Prop := n ≤ 12 ∧ ∀ k, k < n → (0 ≤ D k ∧ D k ≤ 3) ∧ 1 ≤ L k ∧ L k ≤ U k ∧ U k ≤ 12
abbrev wl_feas (D L U : Nat → Int) (n : Nat) (ax : Int) : Prop := wl_s (wl_mn D L U ax) n 0 ≤ 0 ∧ 0 ≤ wl_s (wl_mx D L U ax) n 0
section WL
variable {D L U : Nat → Int} {n : Nat}
theorem wl_mn_le (h : wl_ok D L U n) {ax : Int} {k : Nat} (hk : k < n) : wl_mn D L U ax k ≤ wl_mx D L U ax k ∧ -12 ≤ wl_mn D L U ax k ∧ wl_mx D L U ax k ≤ 12 := by
  obtain ⟨-, h⟩ := h
  have := h k hk
  unfold wl_mn wl_mx
  split
  · split <;> omega
  · omega
theorem wl_s_le (h : wl_ok D L U n) {ax : Int} : ∀ (c i : Nat), i + c = n → wl_s (wl_mn D L U ax) c i ≤ wl_s (wl_mx D L U ax) c i ∧ -(12 * (c : Int)) ≤ wl_s (wl_mn D L U ax) c i ∧ wl_s (wl_mx D L U ax) c i ≤ 12 * (c : Int) := by
  intro c
  induction c with
  | zero => intro i _; exact ⟨Int.le_refl _, by simp [wl_s], by simp [wl_s]⟩
  | succ c ih =>
    intro i hi
    have h1 := wl_mn_le h (ax := ax) (k := i) (by omega)
    have h2 := ih (i + 1) (by omega)
    simp only [wl_s]
    omega
/-- if it can be undone from i on, the leg's length is found, within its span, and the rest can be undone -/
theorem wl_step (h : wl_ok D L U n) {ax nd : Int} {i c : Nat} (hi : i + (c + 1) = n) (hf : wl_s (wl_mn D L U ax) (c + 1) i ≤ nd ∧ nd ≤ wl_s (wl_mx D L U ax) (c + 1) i) (hd : D i % 2 = ax) :
    L i ≤ wl_pick D L U n ax nd i ∧ wl_pick D L U n ax nd i ≤ U i ∧ (∀ l : Int, L i ≤ l → l ≤ wl_pick D L U n ax nd i → (wl_s (wl_mn D L U ax) c (i + 1) ≤ nd - (if D i < 2 then 1 else -1) * l ∧ nd - (if D i < 2 then 1 else -1) * l ≤ wl_s (wl_mx D L U ax) c (i + 1) ↔ l = wl_pick D L U n ax nd i)) := by
  have hc : n - (i + 1) = c := by omega
  have h1 := wl_s_le h (ax := ax) c (i + 1) (by omega)
  have h2 := h.2 i (by omega)
  have e1 : wl_mn D L U ax i = if D i < 2 then L i else -(U i) := if_pos hd
  have e2 : wl_mx D L U ax i = if D i < 2 then U i else -(L i) := if_pos hd
  simp only [wl_s] at hf
  rw [e1, e2] at hf
  unfold wl_pick
  rw [hc]
  by_cases hs : D i < 2
  · simp only [if_pos hs] at hf ⊢
    refine ⟨by omega, by omega, fun l l1 l2 => ⟨fun hh => by omega, fun hh => by omega⟩⟩
  · simp only [if_neg hs] at hf ⊢
    refine ⟨by omega, by omega, fun l l1 l2 => ⟨fun hh => by omega, fun hh => by omega⟩⟩
theorem wl_keep (h : wl_ok D L U n) {ax : Int} : ∀ (i : Nat), i ≤ n → wl_feas D L U n ax → wl_s (wl_mn D L U ax) (n - i) i ≤ wl_nd D L U n ax i ∧ wl_nd D L U n ax i ≤ wl_s (wl_mx D L U ax) (n - i) i := by
  intro i
  induction i with
  | zero => intro _ hf; exact hf
  | succ i ih =>
    intro hi hf
    have h1 := ih (by omega) hf
    obtain ⟨c, hc⟩ : ∃ c, n - i = c + 1 := ⟨n - i - 1, by omega⟩
    have hc2 : n - (i + 1) = c := by omega
    rw [hc] at h1
    rw [hc2]
    by_cases hd : D i % 2 = ax
    · have h3 := wl_step h (c := c) (i := i) (by omega) h1 hd
      have h4 := (h3.2.2 _ h3.1 (Int.le_refl _)).mpr rfl
      have e : wl_nd D L U n ax (i + 1) = wl_nd D L U n ax i - (if D i < 2 then 1 else -1) * wl_pick D L U n ax (wl_nd D L U n ax i) i := if_pos hd
      rw [e]
      exact h4
    · have e : wl_nd D L U n ax (i + 1) = wl_nd D L U n ax i := if_neg hd
      have e1 : wl_mn D L U ax i = 0 := if_neg hd
      have e2 : wl_mx D L U ax i = 0 := if_neg hd
      rw [e]
      simp only [wl_s] at h1
      rw [e1, e2] at h1
      omega
theorem wl_nd_b (h : wl_ok D L U n) {ax : Int} {i : Nat} (hi : i ≤ n) (hf : wl_feas D L U n ax) : -144 ≤ wl_nd D L U n ax i ∧ wl_nd D L U n ax i ≤ 144 := by
  have h1 := wl_keep h (ax := ax) i hi hf
  have h2 := wl_s_le h (ax := ax) (n - i) i (by omega)
  have := h.1
  omega
end WL
abbrev md_D (A : Nat → Nat → Int32) (j : Nat) : Nat → Int := fun k => (A 29 (12 * j + k)).toInt
abbrev md_L (A : Nat → Nat → Int32) (j : Nat) : Nat → Int := fun k => (A 30 (12 * j + k)).toInt
abbrev md_U (A : Nat → Nat → Int32) (j : Nat) : Nat → Int := fun k => (A 31 (12 * j + k)).toInt
theorem c_75 (d : Nat) {N : Nat} {xs : Nat → Int32} {zc zm : Nat → Int32} {e3 e11 e18 : Nat} {A : Nat → Nat → Int32} {g gh : Nat → Option Nat} {dy : pw_H} (P : Nat) (hP : zm 0 = nI P) (hPb : P ≤ 4) (hl : ∀ j, j < P → ∃ n : Nat, n ≤ 12 ∧ A 28 j = nI n) (p e l h : Int32) : pw_M (d + 2) 75 [.inr (some 25), .inl p, .inl e, .inl l, .inl h] (hp_h N xs zc e3 e11 e18 zm A g gh dy) (pw_qi (fun r h' => (¬ (pw_bt p 0 (zm 0 - 1) ∧ pw_bt e 0 3 ∧ pw_bt l 1 12 ∧ pw_bt h l 12) ∧ r = -2 ∧ h' = (hp_h N xs zc e3 e11 e18 zm A g gh dy)) ∨ ((pw_bt p 0 (zm 0 - 1) ∧ pw_bt e 0 3 ∧ pw_bt l 1 12 ∧ pw_bt h l 12) ∧ ∃ j n : Nat, j < P ∧ p = nI j ∧ A 28 j = nI n ∧ n ≤ 12 ∧ ((n = 12 ∧ r = -4 ∧ h' = (hp_h N xs zc e3 e11 e18 zm A g gh dy)) ∨ (n < 12 ∧ r = nI (n + 1) ∧ h' = (hp_h N xs zc e3 e11 e18 zm (uA (uA (uA (uA A 29 (upd (A 29) (12 * j + n) e)) 30 (upd (A 30) (12 * j + n) l)) 31 (upd (A 31) (12 * j + n) h)) 28 (upd (A 28) j (nI (n + 1)))) g gh dy)))))) := by
  have z0 := pz_0
  have z1 := pz_1
  have z2 := pz_2
  have z3 := pz_3
  have z4 := pz_4
  have z6 := pz_6
  have z7 := pz_7
  have z10 := pz_10
  have z11 := pz_11
  have z12 := pz_12
  have z20 := pz_20
  have z30 := pz_30
  have z50 := pz_50
  have z60 := pz_60
  have z80 := pz_80
  have z300 := pz_300
  have hPT : (zm 0).toInt = (P : Int) := by rw [hP]; exact pw_T (by omega)
  have hPP : (zm 0 - 1).toInt = (P : Int) - 1 := by rw [hP]; exact pw_pred (by omega)
  refine pr_aload_n rfl rfl ?_
  refine pr_iload_n rfl rfl ?_
  refine pr_vi1 rfl (by decide) (Nat.le_of_ble_eq_true rfl) rfl (Nat.le_of_ble_eq_true rfl) (c_73 _ _ 25 (hp_m zm) (zm 0) _ rfl rfl) (fun r_2 h_2 q_2 => ?_)
  obtain ⟨rfl, rfl⟩ := q_2
  refine pr_b_eq rfl (fun c_5 => ?_) (fun c_5 => ?_)
  · skip
    refine pr_push (v := (-2)) rfl rfl ?_
    exact pr_reti rfl rfl (Or.inl ⟨by omega, rfl, rfl⟩)
  · skip
    obtain ⟨j, rfl, hjT, hjl⟩ := pw_nat (x := p) (by omega)
    obtain ⟨n, hn12, hn⟩ := hl j (by omega)
    have hnT : (A 28 j).toInt = (n : Int) := by rw [hn]; exact pw_T (by omega)
    refine pr_iload_n rfl rfl ?_
    refine pr_push (v := 0) rfl rfl ?_
    refine pr_push (v := 3) rfl rfl ?_
    refine pr_si3 rfl (by decide) (Nat.le_of_ble_eq_true rfl) (Nat.le_of_ble_eq_true rfl) (c_69 _ _ _ _ _) (fun r_11 h_11 q_11 => ?_)
    obtain ⟨rfl, rfl⟩ := q_11
    refine pr_b_eq rfl (fun c_14 => ?_) (fun c_14 => ?_)
    · skip
      refine pr_push (v := (-2)) rfl rfl ?_
      exact pr_reti rfl rfl (Or.inl ⟨by omega, rfl, rfl⟩)
    · skip
      refine pr_iload_n rfl rfl ?_
      refine pr_push (v := 1) rfl rfl ?_
      refine pr_push (v := 12) rfl rfl ?_
      refine pr_si3 rfl (by decide) (Nat.le_of_ble_eq_true rfl) (Nat.le_of_ble_eq_true rfl) (c_69 _ _ _ _ _) (fun r_21 h_21 q_21 => ?_)
      obtain ⟨rfl, rfl⟩ := q_21
      refine pr_b_eq rfl (fun c_24 => ?_) (fun c_24 => ?_)
      · skip
        refine pr_push (v := (-2)) rfl rfl ?_
        exact pr_reti rfl rfl (Or.inl ⟨by omega, rfl, rfl⟩)
      · skip
        refine pr_iload rfl rfl ?_
        refine pr_iload_n rfl rfl ?_
        refine pr_push (v := 12) rfl rfl ?_
        refine pr_si3 rfl (by decide) (Nat.le_of_ble_eq_true rfl) (Nat.le_of_ble_eq_true rfl) (c_69 _ _ _ _ _) (fun r_32 h_32 q_32 => ?_)
        obtain ⟨rfl, rfl⟩ := q_32
        refine pr_b_ne rfl (fun c_35 => ?_) (fun c_35 => ?_)
        · skip
          refine pr_aload_n rfl rfl ?_
          refine pr_getf rfl rfl rfl ?_
          refine pr_iload_n rfl rfl ?_
          refine pr_iald (j) rfl rfl (by decide) (by decide) rfl (by omega) ?_
          refine pr_push (v := 12) rfl rfl ?_
          refine pr_u_ne rfl (fun c_49 => ?_) (fun c_49 => ?_)
          · skip
            refine pr_push (v := 12) rfl rfl ?_
            refine pr_iload_n rfl rfl ?_
            refine pr_step rfl rfl rfl rfl ?_
            refine pr_aload_n rfl rfl ?_
            refine pr_getf rfl rfl rfl ?_
            refine pr_iload_n rfl rfl ?_
            refine pr_iald (j) rfl rfl (by decide) (by decide) rfl (by omega) ?_
            refine pr_step rfl rfl rfl rfl ?_
            refine pr_top ((by rw [hn]; exact pw_at j n : 12 * nI j + A 28 j = nI (12 * j + n))) ?_
            refine pr_istore rfl (Nat.le_of_ble_eq_true rfl) rfl ?_
            refine pr_aload_n rfl rfl ?_
            refine pr_getf rfl rfl rfl ?_
            refine pr_iload rfl rfl ?_
            refine pr_iload_n rfl rfl ?_
            refine pr_iast (12 * j + n) rfl rfl (by decide) rfl (by omega) hs_a29 ?_
            refine pr_aload_n rfl rfl ?_
            refine pr_getf rfl rfl rfl ?_
            refine pr_iload rfl rfl ?_
            refine pr_iload_n rfl rfl ?_
            refine pr_iast (12 * j + n) rfl rfl (by decide) rfl (by omega) hs_a30 ?_
            refine pr_aload_n rfl rfl ?_
            refine pr_getf rfl rfl rfl ?_
            refine pr_iload rfl rfl ?_
            refine pr_iload rfl rfl ?_
            refine pr_iast (12 * j + n) rfl rfl (by decide) rfl (by omega) hs_a31 ?_
            refine pr_aload_n rfl rfl ?_
            refine pr_getf rfl rfl rfl ?_
            refine pr_iload_n rfl rfl ?_
            refine pr_step rfl rfl rfl rfl ?_
            refine pr_iald (j) rfl rfl (by decide) (by decide) rfl (by omega) ?_
            refine pr_push (v := 1) rfl rfl ?_
            refine pr_step rfl rfl rfl rfl ?_
            refine pr_top (pw_s hn) ?_
            refine pr_iast (j) rfl rfl (by decide) rfl (by omega) hs_a28 ?_
            refine pr_aload_n rfl rfl ?_
            refine pr_getf rfl rfl rfl ?_
            refine pr_iload_n rfl rfl ?_
            refine pr_iald (j) rfl rfl (by decide) (by decide) rfl (by omega) ?_
            exact pr_reti rfl rfl (Or.inr ⟨by omega, j, n, by omega, rfl, hn, hn12, Or.inr ⟨by omega, by simp [uA, upd], rfl⟩⟩)
          · skip
            refine pr_push (v := (-4)) rfl rfl ?_
            exact pr_reti rfl rfl (Or.inr ⟨by omega, j, n, by omega, rfl, hn, hn12, Or.inl ⟨by omega, rfl, rfl⟩⟩)
        · skip
          refine pr_push (v := (-2)) rfl rfl ?_
          exact pr_reti rfl rfl (Or.inl ⟨by omega, rfl, rfl⟩)
theorem c_76 (d : Nat) {N : Nat} {xs : Nat → Int32} {zc zm : Nat → Int32} {e3 e11 e18 : Nat} {A : Nat → Nat → Int32} {g gh : Nat → Option Nat} {dy : pw_H} (P : Nat) (hP : zm 0 = nI P) (hPb : P ≤ 4) (hl : ∀ j, j < P → ∃ n : Nat, n ≤ 12 ∧ A 28 j = nI n) (p : Int32) : pw_M (d + 2) 76 [.inr (some 25), .inl p] (hp_h N xs zc e3 e11 e18 zm A g gh dy) (pw_qi (fun r h' => (¬ pw_bt p 0 (zm 0 - 1) ∧ r = -2 ∧ h' = (hp_h N xs zc e3 e11 e18 zm A g gh dy)) ∨ (pw_bt p 0 (zm 0 - 1) ∧ ∃ j n : Nat, j < P ∧ p = nI j ∧ A 28 j = nI n ∧ n ≤ 12 ∧ ((n = 0 ∧ r = -3 ∧ h' = (hp_h N xs zc e3 e11 e18 zm A g gh dy)) ∨ (0 < n ∧ r = nI (n - 1) ∧ h' = (hp_h N xs zc e3 e11 e18 zm (uA A 28 (upd (A 28) j (nI (n - 1)))) g gh dy)))))) := by
  have z0 := pz_0
  have z1 := pz_1
  have z2 := pz_2
  have z3 := pz_3
  have z4 := pz_4
  have z6 := pz_6
  have z7 := pz_7
  have z10 := pz_10
  have z11 := pz_11
  have z12 := pz_12
  have z20 := pz_20
  have z30 := pz_30
  have z50 := pz_50
  have z60 := pz_60
  have z80 := pz_80
  have z300 := pz_300
  have hPT : (zm 0).toInt = (P : Int) := by rw [hP]; exact pw_T (by omega)
  have hPP : (zm 0 - 1).toInt = (P : Int) - 1 := by rw [hP]; exact pw_pred (by omega)
  refine pr_aload_n rfl rfl ?_
  refine pr_iload_n rfl rfl ?_
  refine pr_vi1 rfl (by decide) (Nat.le_of_ble_eq_true rfl) rfl (Nat.le_of_ble_eq_true rfl) (c_73 _ _ 25 (hp_m zm) (zm 0) _ rfl rfl) (fun r_2 h_2 q_2 => ?_)
  obtain ⟨rfl, rfl⟩ := q_2
  refine pr_b_ne rfl (fun c_5 => ?_) (fun c_5 => ?_)
  · skip
    obtain ⟨j, rfl, hjT, hjl⟩ := pw_nat (x := p) (by omega)
    obtain ⟨n, hn12, hn⟩ := hl j (by omega)
    have hnT : (A 28 j).toInt = (n : Int) := by rw [hn]; exact pw_T (by omega)
    refine pr_aload_n rfl rfl ?_
    refine pr_getf rfl rfl rfl ?_
    refine pr_iload_n rfl rfl ?_
    refine pr_iald (j) rfl rfl (by decide) (by decide) rfl (by omega) ?_
    refine pr_t_ne rfl (fun c_17 => ?_) (fun c_17 => ?_)
    · skip
      refine pr_aload_n rfl rfl ?_
      refine pr_getf rfl rfl rfl ?_
      refine pr_iload_n rfl rfl ?_
      refine pr_step rfl rfl rfl rfl ?_
      refine pr_iald (j) rfl rfl (by decide) (by decide) rfl (by omega) ?_
      refine pr_push (v := 1) rfl rfl ?_
      refine pr_step rfl rfl rfl rfl ?_
      refine pr_top ((by rw [hn]; obtain ⟨k, rfl⟩ : ∃ k, n = k + 1 := ⟨n - 1, by omega⟩; exact nI_pred k : A 28 j - 1 = nI (n - 1))) ?_
      refine pr_iast (j) rfl rfl (by decide) rfl (by omega) hs_a28 ?_
      refine pr_aload_n rfl rfl ?_
      refine pr_getf rfl rfl rfl ?_
      refine pr_iload_n rfl rfl ?_
      refine pr_iald (j) rfl rfl (by decide) (by decide) rfl (by omega) ?_
      exact pr_reti rfl rfl (Or.inr ⟨by omega, j, n, by omega, rfl, hn, hn12, Or.inr ⟨by omega, by simp [uA, upd], rfl⟩⟩)
    · skip
      refine pr_push (v := (-3)) rfl rfl ?_
      exact pr_reti rfl rfl (Or.inr ⟨by omega, j, n, by omega, rfl, hn, hn12, Or.inl ⟨by omega, rfl, rfl⟩⟩)
  · skip
    refine pr_push (v := (-2)) rfl rfl ?_
    exact pr_reti rfl rfl (Or.inl ⟨by omega, rfl, rfl⟩)
theorem c_77_loop (d : Nat) {N : Nat} {xs : Nat → Int32} {zc zm : Nat → Int32} {e3 e11 e18 : Nat} {A : Nat → Nat → Int32} {g gh : Nat → Option Nat} {dy : pw_H} (j n : Nat) (hj : j < 4) (hn : A 28 j = nI n) (hw : wl_ok (md_D A j) (md_L A j) (md_U A j) n) (ax : Int32) (i0 : Int32) : ∀ (c k : Nat) (s : Int32) (g6 : Option pw_V), k + c = n → (-(12 * (k : Int)) ≤ s.toInt ∧ s.toInt ≤ 12 * (k : Int)) → pw_W (d + 0) 77 6 [some (.inr (some 25)), some (.inl (nI j)), some (.inl i0), some (.inl ax), some (.inl s), some (.inl (nI k)), g6] [] (hp_h N xs zc e3 e11 e18 zm A g gh dy) (pw_qi (fun r h' => r.toInt = s.toInt + wl_s (wl_mn (md_D A j) (md_L A j) (md_U A j) ax.toInt) c k ∧ h' = (hp_h N xs zc e3 e11 e18 zm A g gh dy))) := by
  have z0 := pz_0
  have z1 := pz_1
  have z2 := pz_2
  have z3 := pz_3
  have z4 := pz_4
  have z6 := pz_6
  have z7 := pz_7
  have z10 := pz_10
  have z11 := pz_11
  have z12 := pz_12
  have z20 := pz_20
  have z30 := pz_30
  have z50 := pz_50
  have z60 := pz_60
  have z80 := pz_80
  have z300 := pz_300
  have hn12 := hw.1
  have hnT : (A 28 j).toInt = (n : Int) := by rw [hn]; exact pw_T (by omega)
  intro c
  induction c with
  | zero =>
    intro k s g6 hk hs
    have hkT := pw_T (n := k) (by omega)
    refine pr_iload rfl rfl ?_
    refine pr_aload_n rfl rfl ?_
    refine pr_getf rfl rfl rfl ?_
    refine pr_iload_n rfl rfl ?_
    refine pr_iald (j) rfl rfl (by decide) (by decide) rfl (by omega) ?_
    refine pr_c_ge rfl (fun c_14 => ?_) (fun c_14 => ?_)
    · skip
      refine pr_iload rfl rfl ?_
      exact pr_reti rfl rfl (⟨by simp only [wl_s]; omega, rfl⟩)
    · skip
      exact absurd c_14 (by omega)
  | succ c ih =>
    intro k s g6 hk hs
    have hkT := pw_T (n := k) (by omega)
    have hwk : (0 ≤ (A 29 (12 * j + k)).toInt ∧ (A 29 (12 * j + k)).toInt ≤ 3) ∧ 1 ≤ (A 30 (12 * j + k)).toInt ∧ (A 30 (12 * j + k)).toInt ≤ (A 31 (12 * j + k)).toInt ∧ (A 31 (12 * j + k)).toInt ≤ 12 := hw.2 k (by omega)
    have hr := pw_rem2 (x := A 29 (12 * j + k)) (by omega)
    have hng := pw_negT (x := A 31 (12 * j + k)) (by omega)
    have hng2 := pw_negT (x := A 30 (12 * j + k)) (by omega)
    have ha1 := pw_addT (a := s) (b := A 30 (12 * j + k)) (by omega) (by omega)
    have ha2 := pw_addT (a := s) (b := A 31 (12 * j + k)) (by omega) (by omega)
    have ha3 := pw_addT (a := s) (b := -A 31 (12 * j + k)) (by omega) (by omega)
    have ha4 := pw_addT (a := s) (b := -A 30 (12 * j + k)) (by omega) (by omega)
    refine pr_iload rfl rfl ?_
    refine pr_aload_n rfl rfl ?_
    refine pr_getf rfl rfl rfl ?_
    refine pr_iload_n rfl rfl ?_
    refine pr_iald (j) rfl rfl (by decide) (by decide) rfl (by omega) ?_
    refine pr_c_ge rfl (fun c_14 => ?_) (fun c_14 => ?_)
    · skip
      exact absurd c_14 (by omega)
    · skip
      refine pr_push (v := 12) rfl rfl ?_
      refine pr_iload_n rfl rfl ?_
      refine pr_step rfl rfl rfl rfl ?_
      refine pr_iload rfl rfl ?_
      refine pr_step rfl rfl rfl rfl ?_
      refine pr_top (pw_at j k) ?_
      refine pr_istore rfl (Nat.le_of_ble_eq_true rfl) rfl ?_
      refine pr_aload_n rfl rfl ?_
      refine pr_getf rfl rfl rfl ?_
      refine pr_iload rfl rfl ?_
      refine pr_iald (12 * j + k) rfl rfl (by decide) (by decide) rfl (by omega) ?_
      refine pr_push (v := 2) rfl rfl ?_
      refine pr_rem rfl (by decide) ?_
      refine pr_iload_n rfl rfl ?_
      refine pr_u_ne rfl (fun c_36 => ?_) (fun c_36 => ?_)
      · skip
        refine pr_iinc rfl rfl (pw_inc k) rfl ?_
        refine pr_step rfl rfl rfl rfl ?_
        refine pr_post (ih (k + 1) _ _ (by omega) (by omega)) (fun r h1 hq => ?_)
        obtain ⟨x, e1, e2, e3⟩ := hq
        refine ⟨x, e1, ?_, e3⟩
        rw [e2]
        simp only [wl_s, wl_mn, md_D, md_L, md_U]
        first
          | (rw [if_pos (by omega), if_pos (by omega)]; omega)
          | (rw [if_pos (by omega), if_neg (by omega)]; omega)
          | (rw [if_neg (by omega)]; omega)
      · skip
        refine pr_iload rfl rfl ?_
        refine pr_aload_n rfl rfl ?_
        refine pr_getf rfl rfl rfl ?_
        refine pr_iload rfl rfl ?_
        refine pr_iald (12 * j + k) rfl rfl (by decide) (by decide) rfl (by omega) ?_
        refine pr_push (v := 2) rfl rfl ?_
        refine pr_c_ge rfl (fun c_49 => ?_) (fun c_49 => ?_)
        · skip
          refine pr_aload_n rfl rfl ?_
          refine pr_getf rfl rfl rfl ?_
          refine pr_iload rfl rfl ?_
          refine pr_iald (12 * j + k) rfl rfl (by decide) (by decide) rfl (by omega) ?_
          refine pr_step rfl rfl rfl rfl ?_
          refine pr_step rfl rfl rfl rfl ?_
          refine pr_istore rfl (Nat.le_of_ble_eq_true rfl) rfl ?_
          refine pr_iinc rfl rfl (pw_inc k) rfl ?_
          refine pr_step rfl rfl rfl rfl ?_
          refine pr_post (ih (k + 1) _ _ (by omega) (by omega)) (fun r h1 hq => ?_)
          obtain ⟨x, e1, e2, e3⟩ := hq
          refine ⟨x, e1, ?_, e3⟩
          rw [e2]
          simp only [wl_s, wl_mn, md_D, md_L, md_U]
          first
            | (rw [if_pos (by omega), if_pos (by omega)]; omega)
            | (rw [if_pos (by omega), if_neg (by omega)]; omega)
            | (rw [if_neg (by omega)]; omega)
        · skip
          refine pr_aload_n rfl rfl ?_
          refine pr_getf rfl rfl rfl ?_
          refine pr_iload rfl rfl ?_
          refine pr_iald (12 * j + k) rfl rfl (by decide) (by decide) rfl (by omega) ?_
          refine pr_step rfl rfl rfl rfl ?_
          refine pr_step rfl rfl rfl rfl ?_
          refine pr_istore rfl (Nat.le_of_ble_eq_true rfl) rfl ?_
          refine pr_iinc rfl rfl (pw_inc k) rfl ?_
          refine pr_step rfl rfl rfl rfl ?_
          refine pr_post (ih (k + 1) _ _ (by omega) (by omega)) (fun r h1 hq => ?_)
          obtain ⟨x, e1, e2, e3⟩ := hq
          refine ⟨x, e1, ?_, e3⟩
          rw [e2]
          simp only [wl_s, wl_mn, md_D, md_L, md_U]
          first
            | (rw [if_pos (by omega), if_pos (by omega)]; omega)
            | (rw [if_pos (by omega), if_neg (by omega)]; omega)
            | (rw [if_neg (by omega)]; omega)
theorem c_77 (d : Nat) {N : Nat} {xs : Nat → Int32} {zc zm : Nat → Int32} {e3 e11 e18 : Nat} {A : Nat → Nat → Int32} {g gh : Nat → Option Nat} {dy : pw_H} (j n : Nat) (hj : j < 4) (hn : A 28 j = nI n) (hw : wl_ok (md_D A j) (md_L A j) (md_U A j) n) (ax : Int32) (i : Nat) (hi : i ≤ n) : pw_M (d + 0) 77 [.inr (some 25), .inl (nI j), .inl (nI i), .inl ax] (hp_h N xs zc e3 e11 e18 zm A g gh dy) (pw_qi (fun r h' => r.toInt = wl_s (wl_mn (md_D A j) (md_L A j) (md_U A j) ax.toInt) (n - i) i ∧ h' = (hp_h N xs zc e3 e11 e18 zm A g gh dy))) := by
  refine pr_push (v := 0) rfl rfl ?_
  refine pr_istore rfl (Nat.le_of_ble_eq_true rfl) rfl ?_
  refine pr_iload_n rfl rfl ?_
  refine pr_istore rfl (Nat.le_of_ble_eq_true rfl) rfl ?_
  refine pr_post (c_77_loop d j n hj hn hw ax (nI i) (n - i) i 0 none (by omega) (by rw [pz_0]; omega)) (fun r h1 hq => ?_)
  obtain ⟨x, e1, e2, e3⟩ := hq
  refine ⟨x, e1, ?_, e3⟩
  rw [e2, pz_0]
  omega
theorem c_78_loop (d : Nat) {N : Nat} {xs : Nat → Int32} {zc zm : Nat → Int32} {e3 e11 e18 : Nat} {A : Nat → Nat → Int32} {g gh : Nat → Option Nat} {dy : pw_H} (j n : Nat) (hj : j < 4) (hn : A 28 j = nI n) (hw : wl_ok (md_D A j) (md_L A j) (md_U A j) n) (ax : Int32) (i0 : Int32) : ∀ (c k : Nat) (s : Int32) (g6 : Option pw_V), k + c = n → (-(12 * (k : Int)) ≤ s.toInt ∧ s.toInt ≤ 12 * (k : Int)) → pw_W (d + 0) 78 6 [some (.inr (some 25)), some (.inl (nI j)), some (.inl i0), some (.inl ax), some (.inl s), some (.inl (nI k)), g6] [] (hp_h N xs zc e3 e11 e18 zm A g gh dy) (pw_qi (fun r h' => r.toInt = s.toInt + wl_s (wl_mx (md_D A j) (md_L A j) (md_U A j) ax.toInt) c k ∧ h' = (hp_h N xs zc e3 e11 e18 zm A g gh dy))) := by
  have z0 := pz_0
  have z1 := pz_1
  have z2 := pz_2
  have z3 := pz_3
  have z4 := pz_4
  have z6 := pz_6
  have z7 := pz_7
  have z10 := pz_10
  have z11 := pz_11
  have z12 := pz_12
  have z20 := pz_20
  have z30 := pz_30
  have z50 := pz_50
  have z60 := pz_60
  have z80 := pz_80
  have z300 := pz_300
  have hn12 := hw.1
  have hnT : (A 28 j).toInt = (n : Int) := by rw [hn]; exact pw_T (by omega)
  intro c
  induction c with
  | zero =>
    intro k s g6 hk hs
    have hkT := pw_T (n := k) (by omega)
    refine pr_iload rfl rfl ?_
    refine pr_aload_n rfl rfl ?_
    refine pr_getf rfl rfl rfl ?_
    refine pr_iload_n rfl rfl ?_
    refine pr_iald (j) rfl rfl (by decide) (by decide) rfl (by omega) ?_
    refine pr_c_ge rfl (fun c_14 => ?_) (fun c_14 => ?_)
    · skip
      refine pr_iload rfl rfl ?_
      exact pr_reti rfl rfl (⟨by simp only [wl_s]; omega, rfl⟩)
    · skip
      exact absurd c_14 (by omega)
  | succ c ih =>
    intro k s g6 hk hs
    have hkT := pw_T (n := k) (by omega)
    have hwk : (0 ≤ (A 29 (12 * j + k)).toInt ∧ (A 29 (12 * j + k)).toInt ≤ 3) ∧ 1 ≤ (A 30 (12 * j + k)).toInt ∧ (A 30 (12 * j + k)).toInt ≤ (A 31 (12 * j + k)).toInt ∧ (A 31 (12 * j + k)).toInt ≤ 12 := hw.2 k (by omega)
    have hr := pw_rem2 (x := A 29 (12 * j + k)) (by omega)
    have hng := pw_negT (x := A 31 (12 * j + k)) (by omega)
    have hng2 := pw_negT (x := A 30 (12 * j + k)) (by omega)
    have ha1 := pw_addT (a := s) (b := A 30 (12 * j + k)) (by omega) (by omega)
    have ha2 := pw_addT (a := s) (b := A 31 (12 * j + k)) (by omega) (by omega)
    have ha3 := pw_addT (a := s) (b := -A 31 (12 * j + k)) (by omega) (by omega)
    have ha4 := pw_addT (a := s) (b := -A 30 (12 * j + k)) (by omega) (by omega)
    refine pr_iload rfl rfl ?_
    refine pr_aload_n rfl rfl ?_
    refine pr_getf rfl rfl rfl ?_
    refine pr_iload_n rfl rfl ?_
    refine pr_iald (j) rfl rfl (by decide) (by decide) rfl (by omega) ?_
    refine pr_c_ge rfl (fun c_14 => ?_) (fun c_14 => ?_)
    · skip
      exact absurd c_14 (by omega)
    · skip
      refine pr_push (v := 12) rfl rfl ?_
      refine pr_iload_n rfl rfl ?_
      refine pr_step rfl rfl rfl rfl ?_
      refine pr_iload rfl rfl ?_
      refine pr_step rfl rfl rfl rfl ?_
      refine pr_top (pw_at j k) ?_
      refine pr_istore rfl (Nat.le_of_ble_eq_true rfl) rfl ?_
      refine pr_aload_n rfl rfl ?_
      refine pr_getf rfl rfl rfl ?_
      refine pr_iload rfl rfl ?_
      refine pr_iald (12 * j + k) rfl rfl (by decide) (by decide) rfl (by omega) ?_
      refine pr_push (v := 2) rfl rfl ?_
      refine pr_rem rfl (by decide) ?_
      refine pr_iload_n rfl rfl ?_
      refine pr_u_ne rfl (fun c_36 => ?_) (fun c_36 => ?_)
      · skip
        refine pr_iinc rfl rfl (pw_inc k) rfl ?_
        refine pr_step rfl rfl rfl rfl ?_
        refine pr_post (ih (k + 1) _ _ (by omega) (by omega)) (fun r h1 hq => ?_)
        obtain ⟨x, e1, e2, e3⟩ := hq
        refine ⟨x, e1, ?_, e3⟩
        rw [e2]
        simp only [wl_s, wl_mx, md_D, md_L, md_U]
        first
          | (rw [if_pos (by omega), if_pos (by omega)]; omega)
          | (rw [if_pos (by omega), if_neg (by omega)]; omega)
          | (rw [if_neg (by omega)]; omega)
      · skip
        refine pr_iload rfl rfl ?_
        refine pr_aload_n rfl rfl ?_
        refine pr_getf rfl rfl rfl ?_
        refine pr_iload rfl rfl ?_
        refine pr_iald (12 * j + k) rfl rfl (by decide) (by decide) rfl (by omega) ?_
        refine pr_push (v := 2) rfl rfl ?_
        refine pr_c_ge rfl (fun c_49 => ?_) (fun c_49 => ?_)
        · skip
          refine pr_aload_n rfl rfl ?_
          refine pr_getf rfl rfl rfl ?_
          refine pr_iload rfl rfl ?_
          refine pr_iald (12 * j + k) rfl rfl (by decide) (by decide) rfl (by omega) ?_
          refine pr_step rfl rfl rfl rfl ?_
          refine pr_step rfl rfl rfl rfl ?_
          refine pr_istore rfl (Nat.le_of_ble_eq_true rfl) rfl ?_
          refine pr_iinc rfl rfl (pw_inc k) rfl ?_
          refine pr_step rfl rfl rfl rfl ?_
          refine pr_post (ih (k + 1) _ _ (by omega) (by omega)) (fun r h1 hq => ?_)
          obtain ⟨x, e1, e2, e3⟩ := hq
          refine ⟨x, e1, ?_, e3⟩
          rw [e2]
          simp only [wl_s, wl_mx, md_D, md_L, md_U]
          first
            | (rw [if_pos (by omega), if_pos (by omega)]; omega)
            | (rw [if_pos (by omega), if_neg (by omega)]; omega)
            | (rw [if_neg (by omega)]; omega)
        · skip
          refine pr_aload_n rfl rfl ?_
          refine pr_getf rfl rfl rfl ?_
          refine pr_iload rfl rfl ?_
          refine pr_iald (12 * j + k) rfl rfl (by decide) (by decide) rfl (by omega) ?_
          refine pr_step rfl rfl rfl rfl ?_
          refine pr_step rfl rfl rfl rfl ?_
          refine pr_istore rfl (Nat.le_of_ble_eq_true rfl) rfl ?_
          refine pr_iinc rfl rfl (pw_inc k) rfl ?_
          refine pr_step rfl rfl rfl rfl ?_
          refine pr_post (ih (k + 1) _ _ (by omega) (by omega)) (fun r h1 hq => ?_)
          obtain ⟨x, e1, e2, e3⟩ := hq
          refine ⟨x, e1, ?_, e3⟩
          rw [e2]
          simp only [wl_s, wl_mx, md_D, md_L, md_U]
          first
            | (rw [if_pos (by omega), if_pos (by omega)]; omega)
            | (rw [if_pos (by omega), if_neg (by omega)]; omega)
            | (rw [if_neg (by omega)]; omega)
theorem c_78 (d : Nat) {N : Nat} {xs : Nat → Int32} {zc zm : Nat → Int32} {e3 e11 e18 : Nat} {A : Nat → Nat → Int32} {g gh : Nat → Option Nat} {dy : pw_H} (j n : Nat) (hj : j < 4) (hn : A 28 j = nI n) (hw : wl_ok (md_D A j) (md_L A j) (md_U A j) n) (ax : Int32) (i : Nat) (hi : i ≤ n) : pw_M (d + 0) 78 [.inr (some 25), .inl (nI j), .inl (nI i), .inl ax] (hp_h N xs zc e3 e11 e18 zm A g gh dy) (pw_qi (fun r h' => r.toInt = wl_s (wl_mx (md_D A j) (md_L A j) (md_U A j) ax.toInt) (n - i) i ∧ h' = (hp_h N xs zc e3 e11 e18 zm A g gh dy))) := by
  refine pr_push (v := 0) rfl rfl ?_
  refine pr_istore rfl (Nat.le_of_ble_eq_true rfl) rfl ?_
  refine pr_iload_n rfl rfl ?_
  refine pr_istore rfl (Nat.le_of_ble_eq_true rfl) rfl ?_
  refine pr_post (c_78_loop d j n hj hn hw ax (nI i) (n - i) i 0 none (by omega) (by rw [pz_0]; omega)) (fun r h1 hq => ?_)
  obtain ⟨x, e1, e2, e3⟩ := hq
  refine ⟨x, e1, ?_, e3⟩
  rw [e2, pz_0]
  omega
