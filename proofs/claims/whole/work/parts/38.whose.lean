theorem gp_row_eq {own own2 : Nat → Int32} {c : Nat → Int32} {f : Nat} : ∀ k, (∀ i, i < k → own (f + i) = own2 (f + i)) → gp_row own c f k = gp_row own2 c f k
  | 0, _ => rfl
  | k + 1, h => by
    show gp_add (gp_row own c f k) (own (f + k)) = gp_add (gp_row own2 c f k) (own2 (f + k))
    rw [gp_row_eq k (fun i hi => h i (by omega)), h k (by omega)]
theorem gp_all_eq {own own2 : Nat → Int32} {hx hy w : Nat} (hxw : hx + w ≤ 12) (h : ∀ f, f < 144 → own f = own2 f) : ∀ k, hy + k ≤ 12 → gp_all own hx hy w k = gp_all own2 hx hy w k
  | 0, _ => rfl
  | k + 1, hk => by
    show gp_row own (gp_all own hx hy w k) (12 * (hy + k) + hx) w = gp_row own2 (gp_all own2 hx hy w k) (12 * (hy + k) + hx) w
    rw [gp_all_eq hxw h k (by omega)]
    exact gp_row_eq w (fun i hi => h (12 * (hy + k) + hx + i) (by omega))
def ws_of (b m dr he : Int32) : Int32 := if b = 2 ∧ ¬ m = -1 then m else if b = 1 then he else dr
def md_hou (A : Nat → Nat → Int32) (j : Nat) (v : Nat → Nat) : Prop := A 43 j = nI (v 0) ∧ A 44 j = nI (v 1) ∧ A 45 j = nI (v 2) ∧ A 46 j = nI (v 3) ∧ A 47 j = nI (v 4) ∧ A 48 j = nI (v 5) ∧ v 0 + v 2 ≤ 12 ∧ v 1 + v 3 ≤ 12 ∧ v 4 < 144 ∧ v 5 < 144
/-- the owner of a field by its number -/
abbrev md_of (A : Nat → Nat → Int32) (ns : Nat → Nat) (E P : Nat) (yr : Int32) : Nat → Int32 := fun f => md_own A ns E P (f / 12) (f % 12) yr
theorem uA_ne {A : Nat → Nat → Int32} {k j : Nat} {f : Nat → Int32} (h : j ≠ k) : uA A k f j = A j := if_neg h
theorem uA_eq {A : Nat → Nat → Int32} {k : Nat} {f : Nat → Int32} : uA A k f k = f := if_pos rfl
section HR7
variable {N : Nat} {xs : Nat → Int32} {zc zm : Nat → Int32} {e3 e11 e18 : Nat} {A : Nat → Nat → Int32} {g gh : Nat → Option Nat} {dy : pw_H} {f s q c : Nat → Int32}
theorem hr_47 : (hp_h N xs zc e3 e11 e18 zm A g gh dy)[47]? = some (.inl (0, 6, A 47)) := rfl
theorem hr_48 : (hp_h N xs zc e3 e11 e18 zm A g gh dy)[48]? = some (.inl (0, 6, A 48)) := rfl
theorem hk_47 : (hp_h N xs zc e3 e11 e18 zm (uA (uA (uA (uA A 52 f) 53 s) 54 q) 55 c) g gh dy)[47]? = some (.inl (0, 6, A 47)) := by
  rw [hr_47, uA_ne (by decide), uA_ne (by decide), uA_ne (by decide), uA_ne (by decide)]
theorem hk_48 : (hp_h N xs zc e3 e11 e18 zm (uA (uA (uA (uA A 52 f) 53 s) 54 q) 55 c) g gh dy)[48]? = some (.inl (0, 6, A 48)) := by
  rw [hr_48, uA_ne (by decide), uA_ne (by decide), uA_ne (by decide), uA_ne (by decide)]
end HR7
theorem c_106 (d : Nat) {N : Nat} {xs : Nat → Int32} {zc zm : Nat → Int32} {e3 e11 e18 : Nat} {A : Nat → Nat → Int32} {g gh : Nat → Option Nat} {dy : pw_H} (P : Nat) (hP : zm 0 = nI P) (hPb : P ≤ 4) (E : Nat) (hE : zm 7 = nI E) (hEb : E ≤ 12) (K : Nat) (hK : zm 23 = nI K) (hKb : K ≤ 6) (U : Nat) (hU : zm 30 = nI U) (hUb : U ≤ 10) (ns : Nat → Nat) (hpar : ∀ j, j < P → md_par A j (ns j)) (hf : ∀ i, i < E → 0 ≤ (A 32 i).toInt) (hfl : ∀ i, i < U → 0 ≤ (A 50 i).toInt) (vs : Nat → Nat → Nat) (hhs : ∀ j, j < K → md_hou A j (vs j)) (h u yr : Int32) (ho : gp_ok (md_of A ns E P yr)) : pw_M (d + 5) 106 [.inr (some 25), .inl h, .inl u, .inl yr] (hp_h N xs zc e3 e11 e18 zm A g gh dy) (pw_qi (fun r h' => (¬ (pw_bt h 0 (zm 23 - 1) ∧ pw_bt u 0 3 ∧ pw_yr yr) ∧ r = -2 ∧ h' = (hp_h N xs zc e3 e11 e18 zm A g gh dy)) ∨ ((pw_bt h 0 (zm 23 - 1) ∧ pw_bt u 0 3 ∧ pw_yr yr) ∧ ∃ j : Nat, j < K ∧ h = nI j ∧ r = ws_of (ld_run u yr 0 0 (A 49) (A 50) (fun _ => 0) (A 51) U).2 (gp_of (gp_all (md_of A ns E P yr) (vs j 0) (vs j 1) (vs j 2) (vs j 3))) (md_of A ns E P yr (vs j 4)) (md_of A ns E P yr (vs j 5)) ∧ ∃ f s q c : Nat → Int32, h' = (hp_h N xs zc e3 e11 e18 zm (uA (uA (uA (uA A 52 f) 53 s) 54 q) 55 c) g gh dy)))) := by
  have z0 := pz_0
  have z1 := pz_1
  have z2 := pz_2
  have z3 := pz_3
  have z4 := pz_4
  have z6 := pz_6
  have z7 := pz_7
  have z10 := pz_10
  have z11 := pz_11
  have z12 := pz_12
  have z20 := pz_20
  have z30 := pz_30
  have z50 := pz_50
  have z60 := pz_60
  have z80 := pz_80
  have z300 := pz_300
  have hKT : (zm 23).toInt = (K : Int) := by rw [hK]; exact pw_T (by omega)
  have hKP : (zm 23 - 1).toInt = (K : Int) - 1 := by rw [hK]; exact pw_pred (by omega)
  refine pr_iload_n rfl rfl ?_
  refine pr_push (v := 0) rfl rfl ?_
  refine pr_aload_n rfl rfl ?_
  refine pr_getf rfl rfl rfl ?_
  refine pr_push (v := 1) rfl rfl ?_
  refine pr_step rfl rfl rfl rfl ?_
  refine pr_si3 rfl (by decide) (Nat.le_of_ble_eq_true rfl) (Nat.le_of_ble_eq_true rfl) (c_69 _ _ _ _ _) (fun r_8 h_8 q_8 => ?_)
  obtain ⟨rfl, rfl⟩ := q_8
  refine pr_b_eq rfl (fun c_11 => ?_) (fun c_11 => ?_)
  · skip
    refine pr_push (v := (-2)) rfl rfl ?_
    exact pr_reti rfl rfl (Or.inl ⟨by omega, rfl, rfl⟩)
  · skip
    refine pr_iload_n rfl rfl ?_
    refine pr_push (v := 0) rfl rfl ?_
    refine pr_push (v := 3) rfl rfl ?_
    refine pr_si3 rfl (by decide) (Nat.le_of_ble_eq_true rfl) (Nat.le_of_ble_eq_true rfl) (c_69 _ _ _ _ _) (fun r_17 h_17 q_17 => ?_)
    obtain ⟨rfl, rfl⟩ := q_17
    refine pr_b_eq rfl (fun c_20 => ?_) (fun c_20 => ?_)
    · skip
      refine pr_push (v := (-2)) rfl rfl ?_
      exact pr_reti rfl rfl (Or.inl ⟨by omega, rfl, rfl⟩)
    · skip
      refine pr_iload_n rfl rfl ?_
      refine pr_si1 rfl (by decide) (Nat.le_of_ble_eq_true rfl) (Nat.le_of_ble_eq_true rfl) (c_72 _ _ _) (fun r_24 h_24 q_24 => ?_)
      obtain ⟨rfl, rfl⟩ := q_24
      refine pr_b_ne rfl (fun c_27 => ?_) (fun c_27 => ?_)
      · skip
        obtain ⟨j, rfl, hjT, hjl⟩ := pw_nat (x := h) (by omega)
        obtain ⟨hd0, hd1, hd2, hd3, hd4, hd5, hd6, hd7, hd8, hd9⟩ := hhs j (by omega)
        refine pr_aload_n rfl rfl ?_
        refine pr_vv0 rfl (by decide) (Nat.le_of_ble_eq_true rfl) rfl (Nat.le_of_ble_eq_true rfl) (c_84 _ P hP hPb ns hpar) (fun h_34 q_34 => ?_)
        obtain ⟨f, s, q, rfl, hq⟩ := q_34
        have hmo : ∀ k, k < 144 → ow_of (uA (uA (uA A 52 f) 53 s) 54 q) E P k yr = md_of A ns E P yr k := fun k hk => by
          have h2 := md_own_of (A := A) (E := E) (yr := yr) (f := f) (s := s) (hq (k / 12) (k % 12) (by omega) (by omega))
          rw [show 12 * (k / 12) + k % 12 = k by omega] at h2
          exact h2
        have hog : gp_ok (fun k => ow_of (uA (uA (uA A 52 f) 53 s) 54 q) E P k yr) := fun k hk => by
          have h2 := ho k hk
          rw [← hmo k hk] at h2
          exact h2
        refine pr_aload_n rfl rfl ?_
        refine pr_iload_n rfl rfl ?_
        refine pr_iload_n rfl rfl ?_
        refine pr_vi2 rfl (by decide) (Nat.le_of_ble_eq_true rfl) rfl (Nat.le_of_ble_eq_true rfl) (c_104 (A := (uA (uA (uA A 52 f) 53 s) 54 q)) _ U hU hUb hfl u yr) (fun r_40 h_40 q_40 => ?_)
        obtain ⟨e_40, rfl⟩ := q_40
        have e40 : r_40 = (ld_run u yr 0 0 (A 49) (A 50) (fun _ => 0) (A 51) U).2 := e_40
        clear e_40
        refine pr_istore rfl (Nat.le_of_ble_eq_true rfl) rfl ?_
        refine pr_iload rfl rfl ?_
        refine pr_push (v := 2) rfl rfl ?_
        refine pr_c_ne rfl (fun c_48 => ?_) (fun c_48 => ?_)
        · skip
          obtain ⟨c, hc⟩ : ∃ c, c = (uA (uA (uA A 52 f) 53 s) 54 q) 55 := ⟨_, rfl⟩
          refine pr_heap (show (hp_h N xs zc e3 e11 e18 zm (uA (uA (uA A 52 f) 53 s) 54 q) g gh dy) = (hp_h N xs zc e3 e11 e18 zm (uA (uA (uA (uA A 52 f) 53 s) 54 q) 55 c) g gh dy) by rw [hc, uA_self]) ?_
          clear hc
          refine pr_push (v := (-1)) rfl rfl ?_
          refine pr_istore rfl (Nat.le_of_ble_eq_true rfl) rfl ?_
          refine pr_iload rfl rfl ?_
          refine pr_push (v := (-1)) rfl rfl ?_
          refine pr_step rfl rfl rfl rfl ?_
          refine pr_aload_n rfl rfl ?_
          refine pr_iload rfl rfl ?_
          refine pr_push (v := 1) rfl rfl ?_
          refine pr_c_ne rfl (fun c_78 => ?_) (fun c_78 => ?_)
          · skip
            refine pr_aload_n rfl rfl ?_
            refine pr_getf rfl rfl rfl ?_
            refine pr_iload_n rfl rfl ?_
            refine pr_iald (j) rfl hk_47 (by decide) (by decide) rfl (by omega) ?_
            first
            | refine pr_top hd5 ?_
            | refine pr_top hd4 ?_
            refine pr_iload_n rfl rfl ?_
            refine pr_vi2 rfl (by decide) (Nat.le_of_ble_eq_true rfl) rfl (Nat.le_of_ble_eq_true rfl) (c_87 (A := (uA (uA (uA (uA A 52 f) 53 s) 54 q) 55 c)) _ P hP hPb E hE hEb hf _ (by omega) yr) (fun r_97 h_97 q_97 => ?_)
            obtain ⟨e_97, rfl⟩ := q_97
            have e97 := Eq.trans e_97 (hmo _ (by omega))
            clear e_97
            exact pr_reti rfl rfl (by
              refine Or.inr ⟨by omega, j, by omega, rfl, ?_, f, s, q, c, rfl⟩
              unfold ws_of
              rw [if_neg (fun z => c_48 (e40.trans z.1))]
              first
              | (rw [if_neg (fun z => c_78 (e40.trans z))]; exact e97)
              | (rw [if_pos (e40.symm.trans c_78)]; exact e97))
          · skip
            refine pr_aload_n rfl rfl ?_
            refine pr_getf rfl rfl rfl ?_
            refine pr_iload_n rfl rfl ?_
            refine pr_iald (j) rfl hk_48 (by decide) (by decide) rfl (by omega) ?_
            refine pr_step rfl rfl rfl rfl ?_
            first
            | refine pr_top hd5 ?_
            | refine pr_top hd4 ?_
            refine pr_iload_n rfl rfl ?_
            refine pr_vi2 rfl (by decide) (Nat.le_of_ble_eq_true rfl) rfl (Nat.le_of_ble_eq_true rfl) (c_87 (A := (uA (uA (uA (uA A 52 f) 53 s) 54 q) 55 c)) _ P hP hPb E hE hEb hf _ (by omega) yr) (fun r_97 h_97 q_97 => ?_)
            obtain ⟨e_97, rfl⟩ := q_97
            have e97 := Eq.trans e_97 (hmo _ (by omega))
            clear e_97
            exact pr_reti rfl rfl (by
              refine Or.inr ⟨by omega, j, by omega, rfl, ?_, f, s, q, c, rfl⟩
              unfold ws_of
              rw [if_neg (fun z => c_48 (e40.trans z.1))]
              first
              | (rw [if_neg (fun z => c_78 (e40.trans z))]; exact e97)
              | (rw [if_pos (e40.symm.trans c_78)]; exact e97))
        · skip
          refine pr_aload_n rfl rfl ?_
          refine pr_iload_n rfl rfl ?_
          refine pr_iload_n rfl rfl ?_
          refine pr_vi2 rfl (by decide) (Nat.le_of_ble_eq_true rfl) rfl (Nat.le_of_ble_eq_true rfl) (c_105 (A := (uA (uA (uA A 52 f) 53 s) 54 q)) _ P hP hPb E hE hEb hf j (by omega) yr (vs j 0) (vs j 1) (vs j 2) (vs j 3) hd0 hd1 hd2 hd3 hd6 hd7 hog) (fun r_54 h_54 q_54 => ?_)
          obtain ⟨e54, c, rfl⟩ := q_54
          rw [gp_all_eq (own2 := md_of A ns E P yr) hd6 hmo (vs j 3) hd7] at e54
          refine pr_step rfl rfl rfl rfl ?_
          refine pr_istore rfl (Nat.le_of_ble_eq_true rfl) rfl ?_
          refine pr_iload rfl rfl ?_
          refine pr_push (v := (-1)) rfl rfl ?_
          refine pr_c_eq rfl (fun c_66 => ?_) (fun c_66 => ?_)
          · skip
            refine pr_aload_n rfl rfl ?_
            refine pr_iload rfl rfl ?_
            refine pr_push (v := 1) rfl rfl ?_
            refine pr_c_ne rfl (fun c_78 => ?_) (fun c_78 => ?_)
            · skip
              refine pr_aload_n rfl rfl ?_
              refine pr_getf rfl rfl rfl ?_
              refine pr_iload_n rfl rfl ?_
              refine pr_iald (j) rfl hk_47 (by decide) (by decide) rfl (by omega) ?_
              first
              | refine pr_top hd5 ?_
              | refine pr_top hd4 ?_
              refine pr_iload_n rfl rfl ?_
              refine pr_vi2 rfl (by decide) (Nat.le_of_ble_eq_true rfl) rfl (Nat.le_of_ble_eq_true rfl) (c_87 (A := (uA (uA (uA (uA A 52 f) 53 s) 54 q) 55 c)) _ P hP hPb E hE hEb hf _ (by omega) yr) (fun r_97 h_97 q_97 => ?_)
              obtain ⟨e_97, rfl⟩ := q_97
              have e97 := Eq.trans e_97 (hmo _ (by omega))
              clear e_97
              exact pr_reti rfl rfl (by
    refine Or.inr ⟨by omega, j, by omega, rfl, ?_, f, s, q, c, rfl⟩
    unfold ws_of
    first
    | exact absurd (c_48.symm.trans c_78) (by decide)
    | (have h9 := e97; rw [if_neg (fun z => z.2 (e54.symm.trans c_66)), if_neg (fun z => c_78 (e40.trans z))]; exact h9)
    | (rw [if_pos ⟨e40.symm.trans c_48, fun z => c_66 (e54.trans z)⟩]; exact e54))
            · skip
              refine pr_aload_n rfl rfl ?_
              refine pr_getf rfl rfl rfl ?_
              refine pr_iload_n rfl rfl ?_
              refine pr_iald (j) rfl hk_48 (by decide) (by decide) rfl (by omega) ?_
              refine pr_step rfl rfl rfl rfl ?_
              first
              | refine pr_top hd5 ?_
              | refine pr_top hd4 ?_
              refine pr_iload_n rfl rfl ?_
              refine pr_vi2 rfl (by decide) (Nat.le_of_ble_eq_true rfl) rfl (Nat.le_of_ble_eq_true rfl) (c_87 (A := (uA (uA (uA (uA A 52 f) 53 s) 54 q) 55 c)) _ P hP hPb E hE hEb hf _ (by omega) yr) (fun r_97 h_97 q_97 => ?_)
              obtain ⟨e_97, rfl⟩ := q_97
              have e97 := Eq.trans e_97 (hmo _ (by omega))
              clear e_97
              exact pr_reti rfl rfl (by
    refine Or.inr ⟨by omega, j, by omega, rfl, ?_, f, s, q, c, rfl⟩
    unfold ws_of
    first
    | exact absurd (c_48.symm.trans c_78) (by decide)
    | (have h9 := e97; rw [if_neg (fun z => z.2 (e54.symm.trans c_66)), if_neg (fun z => c_78 (e40.trans z))]; exact h9)
    | (rw [if_pos ⟨e40.symm.trans c_48, fun z => c_66 (e54.trans z)⟩]; exact e54))
          · skip
            refine pr_iload rfl rfl ?_
            refine pr_step rfl rfl rfl rfl ?_
            exact pr_reti rfl rfl (by
    refine Or.inr ⟨by omega, j, by omega, rfl, ?_, f, s, q, c, rfl⟩
    unfold ws_of
    first
    | exact absurd (c_48.symm.trans c_78) (by decide)
    | (have h9 := e97; rw [if_neg (fun z => z.2 (e54.symm.trans c_66)), if_neg (fun z => c_78 (e40.trans z))]; exact h9)
    | (rw [if_pos ⟨e40.symm.trans c_48, fun z => c_66 (e54.trans z)⟩]; exact e54))
      · skip
        refine pr_push (v := (-2)) rfl rfl ?_
        exact pr_reti rfl rfl (Or.inl ⟨by omega, rfl, rfl⟩)
