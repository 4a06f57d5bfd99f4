def md_bits (A : Nat → Nat → Int32) (ns : Nat → Nat) (Y X : Nat) : Nat → Int32
  | 0 => 0
  | p + 1 => md_bits A ns Y X p ||| (if md_ring A p (ns p) ∧ wl_pf (md_V A p (ns p)) Y (X + 1) = true then 1 <<< (nI p &&& 31) else 0)
theorem uA_3 (A : Nat → Nat → Int32) (f s q f2 s2 q2 : Nat → Int32) : uA (uA (uA (uA (uA (uA A 52 f) 53 s) 54 q) 52 f2) 53 s2) 54 q2 = uA (uA (uA A 52 f2) 53 s2) 54 q2 := by
  funext i
  by_cases h1 : i = 54 <;> by_cases h2 : i = 53 <;> by_cases h3 : i = 52 <;> simp [uA, h1, h2, h3]
theorem uA_2 (A : Nat → Nat → Int32) (f s q f2 s2 : Nat → Int32) : uA (uA (uA (uA (uA A 52 f) 53 s) 54 q) 52 f2) 53 s2 = uA (uA (uA A 52 f2) 53 s2) 54 q := by
  funext i
  by_cases h1 : i = 54 <;> by_cases h2 : i = 53 <;> by_cases h3 : i = 52 <;> simp [uA, h1, h2, h3]
section HR4
variable {N : Nat} {xs : Nat → Int32} {zc zm : Nat → Int32} {e3 e11 e18 : Nat} {A : Nat → Nat → Int32} {g gh : Nat → Option Nat} {dy : pw_H} {f s q : Nat → Int32}
theorem hw_54 : (hp_h N xs zc e3 e11 e18 zm (uA (uA (uA A 52 f) 53 s) 54 q) g gh dy)[54]? = some (.inl (0, 144, q)) := rfl
end HR4
theorem c_84_two (d : Nat) {N : Nat} {xs : Nat → Int32} {zc zm : Nat → Int32} {e3 e11 e18 : Nat} {A : Nat → Nat → Int32} {g gh : Nat → Option Nat} {dy : pw_H} (P : Nat) (hP : zm 0 = nI P) (hPb : P ≤ 4) (ns : Nat → Nat) (hpar : ∀ j, j < P → md_par A j (ns j)) : ∀ (k p : Nat) (f s q : Nat → Int32), p + k = P → (∀ Y X : Nat, Y < 12 → X < 12 → q (12 * Y + X) = md_bits A ns Y X p) → pw_W (d + 4) 84 24 [some (.inr (some 25)), some (.inl (nI p))] [] (hp_h N xs zc e3 e11 e18 zm (uA (uA (uA A 52 f) 53 s) 54 q) g gh dy) (pw_qv (fun h' => ∃ f s q : Nat → Int32, h' = (hp_h N xs zc e3 e11 e18 zm (uA (uA (uA A 52 f) 53 s) 54 q) g gh dy) ∧ ∀ Y X : Nat, Y < 12 → X < 12 → q (12 * Y + X) = md_bits A ns Y X P)) := by
  have hPT : (zm 0).toInt = (P : Int) := by rw [hP]; exact pw_T (by omega)
  have hPP : (zm 0 - 1).toInt = (P : Int) - 1 := by rw [hP]; exact pw_pred (by omega)
  intro k
  induction k with
  | zero =>
    intro p f s q hp hq
    obtain rfl : p = P := by omega
    have hpT := pw_T (n := p) (by omega)
    refine pr_iload_n rfl rfl ?_
    refine pr_aload_n rfl rfl ?_
    refine pr_getf rfl rfl rfl ?_
    refine pr_c_ge rfl (fun c_29 => ?_) (fun c_29 => ?_)
    · skip
      exact pr_retv rfl rfl (⟨f, s, q, rfl, hq⟩)
    · skip
      exact absurd c_29 (by omega)
  | succ k ih =>
    intro p f s q hp hq
    have hpT := pw_T (n := p) (by omega)
    obtain ⟨hn, hw, hx0, hy0⟩ := hpar p (by omega)
    refine pr_iload_n rfl rfl ?_
    refine pr_aload_n rfl rfl ?_
    refine pr_getf rfl rfl rfl ?_
    refine pr_c_ge rfl (fun c_29 => ?_) (fun c_29 => ?_)
    · skip
      exact absurd c_29 (by omega)
    · skip
      refine pr_aload_n rfl rfl ?_
      refine pr_iload_n rfl rfl ?_
      refine pr_vi1 rfl (by decide) (Nat.le_of_ble_eq_true rfl) rfl (Nat.le_of_ble_eq_true rfl) (c_82 (A := (uA (uA (uA A 52 f) 53 s) 54 q)) _ p (ns p) (by omega) hn hw hx0 hy0) (fun r_34 h_34 q_34 => ?_)
      have hcase : ∃ f2 s2 q2 : Nat → Int32, h_34 = (hp_h N xs zc e3 e11 e18 zm (uA (uA (uA A 52 f2) 53 s2) 54 q2) g gh dy) ∧ ∀ Y X : Nat, Y < 12 → X < 12 → q2 (12 * Y + X) = md_bits A ns Y X (p + 1) := by
        rcases q_34 with ⟨g1, -, f2, s2, g3⟩ | ⟨g1, -, f2, s2, q2, g3, g4⟩
        · refine ⟨f2, s2, q, by rw [g3, uA_2], fun Y X hY hX => ?_⟩
          rw [hq Y X hY hX, md_bits, if_neg (fun hh => g1 hh.1), pw_or0]
        · refine ⟨f2, s2, q2, by rw [g3, uA_3], fun Y X hY hX => ?_⟩
          have g5 : q2 (12 * Y + X) = q (12 * Y + X) ||| (if wl_pf (md_V A p (ns p)) Y (X + 1) = true then 1 <<< (nI p &&& 31) else 0) := by
            have g6 := g4 Y X hY hX
            rw [if_pos (by omega)] at g6
            exact g6
          rw [g5, md_bits, hq Y X hY hX]
          by_cases hin : wl_pf (md_V A p (ns p)) Y (X + 1) = true
          · rw [if_pos hin, if_pos ⟨g1, hin⟩]
          · rw [if_neg hin, if_neg (fun hh => hin hh.2)]
      clear q_34
      obtain ⟨f2, s2, q2, rfl, hq2⟩ := hcase
      refine pr_step rfl rfl rfl rfl ?_
      refine pr_iinc rfl rfl (pw_inc p) rfl ?_
      refine pr_step rfl rfl rfl rfl ?_
      exact ih (p + 1) f2 s2 q2 (by omega) hq2
theorem c_84_one (d : Nat) {N : Nat} {xs : Nat → Int32} {zc zm : Nat → Int32} {e3 e11 e18 : Nat} {A : Nat → Nat → Int32} {g gh : Nat → Option Nat} {dy : pw_H} (Q : Option pw_V → pw_H → Prop) (K : ∀ (q : Nat → Int32) (g1 : Option pw_V), (∀ k, k < 144 → q k = 0) → pw_W (d + 4) 84 22 [some (.inr (some 25)), g1] [] (hp_h N xs zc e3 e11 e18 zm (uA A 54 q) g gh dy) Q) : ∀ (c k : Nat) (q : Nat → Int32), k + c = 144 → (∀ i, i < k → q i = 0) → pw_W (d + 4) 84 2 [some (.inr (some 25)), some (.inl (nI k))] [] (hp_h N xs zc e3 e11 e18 zm (uA A 54 q) g gh dy) Q := by
  have z144 := pz_144b
  intro c
  induction c with
  | zero =>
    intro k q hk hq
    obtain rfl : k = 144 := by omega
    have hkT := pw_T (n := 144) (by omega)
    refine pr_iload_n rfl rfl ?_
    refine pr_push (v := 144) rfl rfl ?_
    refine pr_c_ge rfl (fun c_6 => ?_) (fun c_6 => ?_)
    · skip
      exact K q _ hq
    · skip
      exact absurd c_6 (by omega)
  | succ c ih =>
    intro k q hk hq
    have hkT := pw_T (n := k) (by omega)
    refine pr_iload_n rfl rfl ?_
    refine pr_push (v := 144) rfl rfl ?_
    refine pr_c_ge rfl (fun c_6 => ?_) (fun c_6 => ?_)
    · skip
      exact absurd c_6 (by omega)
    · skip
      refine pr_aload_n rfl rfl ?_
      refine pr_getf rfl rfl rfl ?_
      refine pr_iload_n rfl rfl ?_
      refine pr_push (v := 0) rfl rfl ?_
      refine pr_iast (k) rfl hv_54 (by decide) rfl (by omega) ht_a54 ?_
      refine pr_iinc rfl rfl (pw_inc k) rfl ?_
      refine pr_step rfl rfl rfl rfl ?_
      exact ih (k + 1) _ (by omega) (fun i hi => by
        by_cases hik : i = k
        · rw [hik, pk_us]
        · rw [pk_un hik]; exact hq i (by omega))
theorem c_84 (d : Nat) {N : Nat} {xs : Nat → Int32} {zc zm : Nat → Int32} {e3 e11 e18 : Nat} {A : Nat → Nat → Int32} {g gh : Nat → Option Nat} {dy : pw_H} (P : Nat) (hP : zm 0 = nI P) (hPb : P ≤ 4) (ns : Nat → Nat) (hpar : ∀ j, j < P → md_par A j (ns j)) : pw_M (d + 4) 84 [.inr (some 25)] (hp_h N xs zc e3 e11 e18 zm A g gh dy) (pw_qv (fun h' => ∃ f s q : Nat → Int32, h' = (hp_h N xs zc e3 e11 e18 zm (uA (uA (uA A 52 f) 53 s) 54 q) g gh dy) ∧ ∀ Y X : Nat, Y < 12 → X < 12 → q (12 * Y + X) = md_bits A ns Y X P)) := by
  refine pr_push (v := 0) rfl rfl ?_
  refine pr_istore_n rfl (Nat.le_of_ble_eq_true rfl) rfl ?_
  refine pr_heap (show (hp_h N xs zc e3 e11 e18 zm A g gh dy) = (hp_h N xs zc e3 e11 e18 zm (uA A 54 (A 54)) g gh dy) by rw [uA_self]) ?_
  refine c_84_one d _ (fun q g1 hq0 => ?_) 144 0 (A 54) (by omega) (fun i hi => absurd hi (Nat.not_lt_zero i))
  refine pr_heap (show (hp_h N xs zc e3 e11 e18 zm (uA A 54 q) g gh dy) = (hp_h N xs zc e3 e11 e18 zm (uA (uA (uA A 52 (A 52)) 53 (A 53)) 54 q) g gh dy) by rw [uA_self A 52, uA_self A 53]) ?_
  refine pr_push (v := 0) rfl rfl ?_
  refine pr_istore_n rfl (Nat.le_of_ble_eq_true rfl) rfl ?_
  exact c_84_two d P hP hPb ns hpar P 0 (A 52) (A 53) q (by omega) (fun Y X hY hX => hq0 _ (by omega))
