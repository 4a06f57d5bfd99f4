/-- parish j of the model: its legs' number, its legs, its start -/
def md_par (A : Nat → Nat → Int32) (j n : Nat) : Prop := A 28 j = nI n ∧ wl_ok (md_D A j) (md_L A j) (md_U A j) n ∧ (0 ≤ (A 26 j).toInt ∧ (A 26 j).toInt ≤ 12) ∧ 0 ≤ (A 27 j).toInt ∧ (A 27 j).toInt ≤ 12
abbrev md_ring (A : Nat → Nat → Int32) (j n : Nat) : Prop := ((wl_feas (md_D A j) (md_L A j) (md_U A j) n 0 ∧ wl_feas (md_D A j) (md_L A j) (md_U A j) n 1) ∧ wl_land (md_D A j) (wl_len (md_D A j) (md_L A j) (md_U A j) n) (A 26 j).toInt (A 27 j).toInt n)
abbrev md_V (A : Nat → Nat → Int32) (j n : Nat) : Int → Int → Bool := wl_V (md_D A j) (wl_len (md_D A j) (md_L A j) (md_U A j) n) (A 26 j).toInt (A 27 j).toInt n
theorem pz_144b : (144 : Int32).toInt = 144 := rfl
theorem c_83 (d : Nat) {N : Nat} {xs : Nat → Int32} {zc zm : Nat → Int32} {e3 e11 e18 : Nat} {A : Nat → Nat → Int32} {g gh : Nat → Option Nat} {dy : pw_H} (P : Nat) (hP : zm 0 = nI P) (hPb : P ≤ 4) (ns : Nat → Nat) (hpar : ∀ j, j < P → md_par A j (ns j)) (p : Int32) : pw_M (d + 4) 83 [.inr (some 25), .inl p] (hp_h N xs zc e3 e11 e18 zm A g gh dy) (pw_qi (fun r h' => (¬ pw_bt p 0 (zm 0 - 1) ∧ r = -2 ∧ h' = (hp_h N xs zc e3 e11 e18 zm A g gh dy)) ∨ ∃ j : Nat, j < P ∧ p = nI j ∧ ((¬ md_ring A j (ns j) ∧ r = -1) ∨ (md_ring A j (ns j) ∧ r = nI (wl_ct (md_V A j (ns j)) 12))) ∧ ∃ f s q : Nat → Int32, h' = (hp_h N xs zc e3 e11 e18 zm (uA (uA (uA A 52 f) 53 s) 54 q) g gh dy))) := by
  have z0 := pz_0
  have z1 := pz_1
  have z2 := pz_2
  have z3 := pz_3
  have z4 := pz_4
  have z6 := pz_6
  have z7 := pz_7
  have z10 := pz_10
  have z11 := pz_11
  have z12 := pz_12
  have z20 := pz_20
  have z30 := pz_30
  have z50 := pz_50
  have z60 := pz_60
  have z80 := pz_80
  have z300 := pz_300
  have hPT : (zm 0).toInt = (P : Int) := by rw [hP]; exact pw_T (by omega)
  have hPP : (zm 0 - 1).toInt = (P : Int) - 1 := by rw [hP]; exact pw_pred (by omega)
  refine pr_aload_n rfl rfl ?_
  refine pr_iload_n rfl rfl ?_
  refine pr_vi1 rfl (by decide) (Nat.le_of_ble_eq_true rfl) rfl (Nat.le_of_ble_eq_true rfl) (c_73 _ _ 25 (hp_m zm) (zm 0) _ rfl rfl) (fun r_2 h_2 q_2 => ?_)
  obtain ⟨rfl, rfl⟩ := q_2
  refine pr_b_eq rfl (fun c_5 => ?_) (fun c_5 => ?_)
  · skip
    refine pr_push (v := (-2)) rfl rfl ?_
    exact pr_reti rfl rfl (by
  first
  | exact Or.inl ⟨by assumption, rfl, rfl⟩
  | (rcases q_10 with ⟨h1, h2, f, s, h3⟩ | ⟨h1, h2, f, s, q, h3, h4⟩
     · exact Or.inr ⟨j, by omega, rfl, Or.inl ⟨h1, h2⟩, f, s, A 54, by rw [h3, ← uA_self (uA (uA A 52 f) 53 s) 54]; rfl⟩
     · exact Or.inr ⟨j, by omega, rfl, Or.inr ⟨h1, h2⟩, f, s, q, h3⟩))
  · skip
    obtain ⟨j, rfl, hjT, hjl⟩ := pw_nat (x := p) (by omega)
    obtain ⟨hn, hw, hx0, hy0⟩ := hpar j (by omega)
    refine pr_aload_n rfl rfl ?_
    refine pr_iload_n rfl rfl ?_
    refine pr_vi1 rfl (by decide) (Nat.le_of_ble_eq_true rfl) rfl (Nat.le_of_ble_eq_true rfl) (c_82 _ j (ns j) (by omega) hn hw hx0 hy0) (fun r_10 h_10 q_10 => ?_)
    skip
    refine pr_step rfl rfl rfl rfl ?_
    exact pr_reti rfl rfl (by
  first
  | exact Or.inl ⟨by assumption, rfl, rfl⟩
  | (rcases q_10 with ⟨h1, h2, f, s, h3⟩ | ⟨h1, h2, f, s, q, h3, h4⟩
     · exact Or.inr ⟨j, by omega, rfl, Or.inl ⟨h1, h2⟩, f, s, A 54, by rw [h3, ← uA_self (uA (uA A 52 f) 53 s) 54]; rfl⟩
     · exact Or.inr ⟨j, by omega, rfl, Or.inr ⟨h1, h2⟩, f, s, q, h3⟩))
