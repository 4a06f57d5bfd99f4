theorem uA_self (A : Nat → Nat → Int32) (k : Nat) : uA A k (A k) = A := by
  funext i
  unfold uA
  split
  · rename_i h; rw [h]
  · rfl
theorem uA_uA (A : Nat → Nat → Int32) (k : Nat) (f f2 : Nat → Int32) : uA (uA A k f) k f2 = uA A k f2 := by
  funext i
  unfold uA
  split <;> rfl
theorem pr_heap {d M pc : Nat} {L : pw_L} {st : List pw_V} {h h1 : pw_H} {Q : Option pw_V → pw_H → Prop} (e : h = h1) (k : pw_W d M pc L st h1 Q) : pw_W d M pc L st h Q := by rw [e]; exact k
section HP2
variable {N : Nat} {xs : Nat → Int32} {zc zm : Nat → Int32} {e3 e11 e18 : Nat} {A : Nat → Nat → Int32} {g gh : Nat → Option Nat} {dy : pw_H}
theorem ht_a52 {f f2 : Nat → Int32} : (hp_h N xs zc e3 e11 e18 zm (uA A 52 f) g gh dy).set 52 (.inl (0, 12, f2)) = (hp_h N xs zc e3 e11 e18 zm (uA A 52 f2) g gh dy) := rfl
theorem ht_a53 {f f2 : Nat → Int32} : (hp_h N xs zc e3 e11 e18 zm (uA A 53 f) g gh dy).set 53 (.inl (1, 156, f2)) = (hp_h N xs zc e3 e11 e18 zm (uA A 53 f2) g gh dy) := rfl
theorem ht_a54 {f f2 : Nat → Int32} : (hp_h N xs zc e3 e11 e18 zm (uA A 54 f) g gh dy).set 54 (.inl (0, 144, f2)) = (hp_h N xs zc e3 e11 e18 zm (uA A 54 f2) g gh dy) := rfl
theorem ht_a55 {f f2 : Nat → Int32} : (hp_h N xs zc e3 e11 e18 zm (uA A 55 f) g gh dy).set 55 (.inl (0, 4, f2)) = (hp_h N xs zc e3 e11 e18 zm (uA A 55 f2) g gh dy) := rfl
theorem ht_a56 {f f2 : Nat → Int32} : (hp_h N xs zc e3 e11 e18 zm (uA A 56 f) g gh dy).set 56 (.inl (0, 12, f2)) = (hp_h N xs zc e3 e11 e18 zm (uA A 56 f2) g gh dy) := rfl
end HP2
theorem c_79_w (d : Nat) {N : Nat} {xs : Nat → Int32} {zc zm : Nat → Int32} {e3 e11 e18 : Nat} {A : Nat → Nat → Int32} {g gh : Nat → Option Nat} {dy : pw_H} (j n : Nat) (hj : j < 4) (hn : A 28 j = nI n) (hw : wl_ok (md_D A j) (md_L A j) (md_U A j) n) (a : Nat) (ha : a < 2) (hfe : wl_feas (md_D A j) (md_L A j) (md_U A j) n (a : Int)) (f : Nat → Int32) (i : Nat) (hi : i < n) (hd : (A 29 (12 * j + i)).toInt % 2 = (a : Int)) (s sg : Int32) (hs : s.toInt = wl_nd (md_D A j) (md_L A j) (md_U A j) n (a : Int) i) (hsg : (sg = 1 ∧ (A 29 (12 * j + i)).toInt < 2) ∨ (sg = -1 ∧ ¬ (A 29 (12 * j + i)).toInt < 2)) (Q : Option pw_V → pw_H → Prop) (K : ∀ l : Int32, l.toInt = wl_pick (md_D A j) (md_L A j) (md_U A j) n (a : Int) (wl_nd (md_D A j) (md_L A j) (md_U A j) n (a : Int) i) i → pw_W (d + 1) 79 134 [some (.inr (some 25)), some (.inl (nI j)), some (.inl (nI a)), some (.inl s), some (.inl (nI i)), some (.inl (nI (12 * j + i))), some (.inl sg), some (.inl l)] [] (hp_h N xs zc e3 e11 e18 zm (uA A 52 f) g gh dy) Q) : ∀ (c : Nat) (l : Int32), (A 30 (12 * j + i)).toInt ≤ l.toInt → l.toInt + c = wl_pick (md_D A j) (md_L A j) (md_U A j) n (a : Int) (wl_nd (md_D A j) (md_L A j) (md_U A j) n (a : Int) i) i → pw_W (d + 1) 79 95 [some (.inr (some 25)), some (.inl (nI j)), some (.inl (nI a)), some (.inl s), some (.inl (nI i)), some (.inl (nI (12 * j + i))), some (.inl sg), some (.inl l)] [] (hp_h N xs zc e3 e11 e18 zm (uA A 52 f) g gh dy) Q := by
  have z0 := pz_0
  have z1 := pz_1
  have z2 := pz_2
  have z3 := pz_3
  have z4 := pz_4
  have z6 := pz_6
  have z7 := pz_7
  have z10 := pz_10
  have z11 := pz_11
  have z12 := pz_12
  have z20 := pz_20
  have z30 := pz_30
  have z50 := pz_50
  have z60 := pz_60
  have z80 := pz_80
  have z300 := pz_300
  have zm1 := pz_m1
  have hn12 := hw.1
  have hnT : (A 28 j).toInt = (n : Int) := by rw [hn]; exact pw_T (by omega)
  have haT := pw_T (n := a) (by omega)
  have hiT := pw_T (n := i) (by omega)
  have hwk : (0 ≤ (A 29 (12 * j + i)).toInt ∧ (A 29 (12 * j + i)).toInt ≤ 3) ∧ 1 ≤ (A 30 (12 * j + i)).toInt ∧ (A 30 (12 * j + i)).toInt ≤ (A 31 (12 * j + i)).toInt ∧ (A 31 (12 * j + i)).toInt ≤ 12 := hw.2 i hi
  have hkp := wl_keep hw (ax := (a : Int)) i (by omega) hfe
  have hnb := wl_nd_b hw (ax := (a : Int)) (i := i) (by omega) hfe
  obtain ⟨c0, hc0⟩ : ∃ c0, n - i = c0 + 1 := ⟨n - i - 1, by omega⟩
  have hc1 : n - (i + 1) = c0 := by omega
  rw [hc0] at hkp
  have hst := wl_step hw (c := c0) (i := i) (by omega) hkp hd
  have hpU : wl_pick (md_D A j) (md_L A j) (md_U A j) n (a : Int) (wl_nd (md_D A j) (md_L A j) (md_U A j) n (a : Int) i) i ≤ (A 31 (12 * j + i)).toInt := hst.2.1
  intro c
  induction c with
  | zero =>
    intro l hl1 hl2
    have hsl : (s - sg * l).toInt = wl_nd (md_D A j) (md_L A j) (md_U A j) n (a : Int) i - (if md_D A j i < 2 then 1 else -1) * (l).toInt := by
      rcases hsg with ⟨rfl, h2⟩ | ⟨rfl, h2⟩
      · rw [pw_x1, pw_subT (by omega) (by omega), if_pos h2]
        omega
      · have hng := pw_negT (x := l) (by omega)
        rw [pw_xm, pw_subT (by omega) (by omega), if_neg h2]
        omega
    refine pr_iload_n rfl rfl ?_
    refine pr_iload rfl rfl ?_
    refine pr_iload rfl rfl ?_
    refine pr_step rfl rfl rfl rfl ?_
    refine pr_step rfl rfl rfl rfl ?_
    refine pr_aload_n rfl rfl ?_
    refine pr_iload_n rfl rfl ?_
    refine pr_iload rfl rfl ?_
    refine pr_push (v := 1) rfl rfl ?_
    refine pr_step rfl rfl rfl rfl ?_
    refine pr_top (nI_1 i) ?_
    refine pr_iload_n rfl rfl ?_
    refine pr_vi3 rfl (by decide) (Nat.le_of_ble_eq_true rfl) rfl (Nat.le_of_ble_eq_true rfl) (c_77 (A := uA A 52 f) _ j n hj hn hw _ (i + 1) (by omega)) (fun r_109 h_109 q_109 => ?_)
    obtain ⟨ea, rfl⟩ := q_109
    have ea_109 : r_109.toInt = wl_s (wl_mn (md_D A j) (md_L A j) (md_U A j) (nI a).toInt) (n - (i + 1)) (i + 1) := ea
    clear ea
    refine pr_aload_n rfl rfl ?_
    refine pr_iload_n rfl rfl ?_
    refine pr_iload rfl rfl ?_
    refine pr_push (v := 1) rfl rfl ?_
    refine pr_step rfl rfl rfl rfl ?_
    refine pr_top (nI_1 i) ?_
    refine pr_iload_n rfl rfl ?_
    refine pr_vi3 rfl (by decide) (Nat.le_of_ble_eq_true rfl) rfl (Nat.le_of_ble_eq_true rfl) (c_78 (A := uA A 52 f) _ j n hj hn hw _ (i + 1) (by omega)) (fun r_119 h_119 q_119 => ?_)
    obtain ⟨ea, rfl⟩ := q_119
    have ea_119 : r_119.toInt = wl_s (wl_mx (md_D A j) (md_L A j) (md_U A j) (nI a).toInt) (n - (i + 1)) (i + 1) := ea
    clear ea
    refine pr_si3 rfl (by decide) (Nat.le_of_ble_eq_true rfl) (Nat.le_of_ble_eq_true rfl) (c_69 _ _ _ _ _) (fun r_122 h_122 q_122 => ?_)
    obtain ⟨rfl, rfl⟩ := q_122
    have hiff := hst.2.2 l.toInt hl1 (by omega)
    rw [← hsl] at hiff
    rw [hc1, haT] at ea_109 ea_119
    have hiff2 : (r_109.toInt ≤ (s - sg * l).toInt ∧ (s - sg * l).toInt ≤ r_119.toInt) ↔ l.toInt = wl_pick (md_D A j) (md_L A j) (md_U A j) n (a : Int) (wl_nd (md_D A j) (md_L A j) (md_U A j) n (a : Int) i) i := by
      rw [ea_109, ea_119]
      exact hiff
    refine pr_b_ne rfl (fun c_125 => ?_) (fun c_125 => ?_)
    · skip
      exact K l (hiff2.mp c_125)
    · skip
      exact absurd (hiff2.mpr (by omega)) c_125
  | succ c ih =>
    intro l hl1 hl2
    have hsl : (s - sg * l).toInt = wl_nd (md_D A j) (md_L A j) (md_U A j) n (a : Int) i - (if md_D A j i < 2 then 1 else -1) * (l).toInt := by
      rcases hsg with ⟨rfl, h2⟩ | ⟨rfl, h2⟩
      · rw [pw_x1, pw_subT (by omega) (by omega), if_pos h2]
        omega
      · have hng := pw_negT (x := l) (by omega)
        rw [pw_xm, pw_subT (by omega) (by omega), if_neg h2]
        omega
    refine pr_iload_n rfl rfl ?_
    refine pr_iload rfl rfl ?_
    refine pr_iload rfl rfl ?_
    refine pr_step rfl rfl rfl rfl ?_
    refine pr_step rfl rfl rfl rfl ?_
    refine pr_aload_n rfl rfl ?_
    refine pr_iload_n rfl rfl ?_
    refine pr_iload rfl rfl ?_
    refine pr_push (v := 1) rfl rfl ?_
    refine pr_step rfl rfl rfl rfl ?_
    refine pr_top (nI_1 i) ?_
    refine pr_iload_n rfl rfl ?_
    refine pr_vi3 rfl (by decide) (Nat.le_of_ble_eq_true rfl) rfl (Nat.le_of_ble_eq_true rfl) (c_77 (A := uA A 52 f) _ j n hj hn hw _ (i + 1) (by omega)) (fun r_109 h_109 q_109 => ?_)
    obtain ⟨ea, rfl⟩ := q_109
    have ea_109 : r_109.toInt = wl_s (wl_mn (md_D A j) (md_L A j) (md_U A j) (nI a).toInt) (n - (i + 1)) (i + 1) := ea
    clear ea
    refine pr_aload_n rfl rfl ?_
    refine pr_iload_n rfl rfl ?_
    refine pr_iload rfl rfl ?_
    refine pr_push (v := 1) rfl rfl ?_
    refine pr_step rfl rfl rfl rfl ?_
    refine pr_top (nI_1 i) ?_
    refine pr_iload_n rfl rfl ?_
    refine pr_vi3 rfl (by decide) (Nat.le_of_ble_eq_true rfl) rfl (Nat.le_of_ble_eq_true rfl) (c_78 (A := uA A 52 f) _ j n hj hn hw _ (i + 1) (by omega)) (fun r_119 h_119 q_119 => ?_)
    obtain ⟨ea, rfl⟩ := q_119
    have ea_119 : r_119.toInt = wl_s (wl_mx (md_D A j) (md_L A j) (md_U A j) (nI a).toInt) (n - (i + 1)) (i + 1) := ea
    clear ea
    refine pr_si3 rfl (by decide) (Nat.le_of_ble_eq_true rfl) (Nat.le_of_ble_eq_true rfl) (c_69 _ _ _ _ _) (fun r_122 h_122 q_122 => ?_)
    obtain ⟨rfl, rfl⟩ := q_122
    have hiff := hst.2.2 l.toInt hl1 (by omega)
    rw [← hsl] at hiff
    rw [hc1, haT] at ea_109 ea_119
    have hiff2 : (r_109.toInt ≤ (s - sg * l).toInt ∧ (s - sg * l).toInt ≤ r_119.toInt) ↔ l.toInt = wl_pick (md_D A j) (md_L A j) (md_U A j) n (a : Int) (wl_nd (md_D A j) (md_L A j) (md_U A j) n (a : Int) i) i := by
      rw [ea_109, ea_119]
      exact hiff
    refine pr_b_ne rfl (fun c_125 => ?_) (fun c_125 => ?_)
    · skip
      exact K l (hiff2.mp c_125)
    · skip
      have hne : ¬ l.toInt = wl_pick (md_D A j) (md_L A j) (md_U A j) n (a : Int) (wl_nd (md_D A j) (md_L A j) (md_U A j) n (a : Int) i) i := fun e => c_125 (hiff2.mpr e)
      have hl3 := pw_addT (a := l) (b := 1) (by omega) (by omega)
      refine pr_iinc rfl rfl (show l + Int32.ofInt 1 = l + 1 from rfl) rfl ?_
      refine pr_step rfl rfl rfl rfl ?_
      exact ih _ (by omega) (by omega)
theorem c_79_for (d : Nat) {N : Nat} {xs : Nat → Int32} {zc zm : Nat → Int32} {e3 e11 e18 : Nat} {A : Nat → Nat → Int32} {g gh : Nat → Option Nat} {dy : pw_H} (j n : Nat) (hj : j < 4) (hn : A 28 j = nI n) (hw : wl_ok (md_D A j) (md_L A j) (md_U A j) n) (a : Nat) (ha : a < 2) (hfe : wl_feas (md_D A j) (md_L A j) (md_U A j) n (a : Int)) (f0 : Nat → Int32) (Q : Option pw_V → pw_H → Prop) (K : ∀ (f : Nat → Int32) (s : Int32) (i : Nat) (g5 g6 g7 : Option pw_V), (∀ k, (k < n → md_D A j k % 2 = (a : Int) → (f k).toInt = wl_len (md_D A j) (md_L A j) (md_U A j) n k) ∧ (¬ (k < n ∧ md_D A j k % 2 = (a : Int)) → f k = f0 k)) → pw_W (d + 1) 79 157 [some (.inr (some 25)), some (.inl (nI j)), some (.inl (nI a)), some (.inl s), some (.inl (nI i)), g5, g6, g7] [] (hp_h N xs zc e3 e11 e18 zm (uA A 52 f) g gh dy) Q) : ∀ (c i : Nat) (f : Nat → Int32) (s : Int32) (g5 g6 g7 : Option pw_V), i + c = n → s.toInt = wl_nd (md_D A j) (md_L A j) (md_U A j) n (a : Int) i → (∀ k, (k < i → md_D A j k % 2 = (a : Int) → (f k).toInt = wl_len (md_D A j) (md_L A j) (md_U A j) n k) ∧ (¬ (k < i ∧ md_D A j k % 2 = (a : Int)) → f k = f0 k)) → pw_W (d + 1) 79 35 [some (.inr (some 25)), some (.inl (nI j)), some (.inl (nI a)), some (.inl s), some (.inl (nI i)), g5, g6, g7] [] (hp_h N xs zc e3 e11 e18 zm (uA A 52 f) g gh dy) Q := by
  have z0 := pz_0
  have z1 := pz_1
  have z2 := pz_2
  have z3 := pz_3
  have z4 := pz_4
  have z6 := pz_6
  have z7 := pz_7
  have z10 := pz_10
  have z11 := pz_11
  have z12 := pz_12
  have z20 := pz_20
  have z30 := pz_30
  have z50 := pz_50
  have z60 := pz_60
  have z80 := pz_80
  have z300 := pz_300
  have zm1 := pz_m1
  have hn12 := hw.1
  have hnT : (A 28 j).toInt = (n : Int) := by rw [hn]; exact pw_T (by omega)
  have haT := pw_T (n := a) (by omega)
  intro c
  induction c with
  | zero =>
    intro i f s g5 g6 g7 hi hs hp
    obtain rfl : i = n := by omega
    have hiT := pw_T (n := i) (by omega)
    refine pr_iload rfl rfl ?_
    refine pr_aload_n rfl rfl ?_
    refine pr_getf rfl rfl rfl ?_
    refine pr_iload_n rfl rfl ?_
    refine pr_iald (f := A 28) (j) rfl rfl (by decide) (by decide) rfl (by omega) ?_
    refine pr_c_ge rfl (fun c_43 => ?_) (fun c_43 => ?_)
    · skip
      exact K f s i g5 g6 g7 hp
    · skip
      exact absurd c_43 (by omega)
  | succ c ih =>
    intro i f s g5 g6 g7 hi hs hp
    have hiT := pw_T (n := i) (by omega)
    have hwk : (0 ≤ (A 29 (12 * j + i)).toInt ∧ (A 29 (12 * j + i)).toInt ≤ 3) ∧ 1 ≤ (A 30 (12 * j + i)).toInt ∧ (A 30 (12 * j + i)).toInt ≤ (A 31 (12 * j + i)).toInt ∧ (A 31 (12 * j + i)).toInt ≤ 12 := hw.2 i (by omega)
    have hr := pw_rem2 (x := A 29 (12 * j + i)) (by omega)
    have hnb := wl_nd_b hw (ax := (a : Int)) (i := i) (by omega) hfe
    have hkp := wl_keep hw (ax := (a : Int)) i (by omega) hfe
    rw [show n - i = c + 1 by omega] at hkp
    refine pr_iload rfl rfl ?_
    refine pr_aload_n rfl rfl ?_
    refine pr_getf rfl rfl rfl ?_
    refine pr_iload_n rfl rfl ?_
    refine pr_iald (f := A 28) (j) rfl rfl (by decide) (by decide) rfl (by omega) ?_
    refine pr_c_ge rfl (fun c_43 => ?_) (fun c_43 => ?_)
    · skip
      exact absurd c_43 (by omega)
    · skip
      refine pr_push (v := 12) rfl rfl ?_
      refine pr_iload_n rfl rfl ?_
      refine pr_step rfl rfl rfl rfl ?_
      refine pr_iload rfl rfl ?_
      refine pr_step rfl rfl rfl rfl ?_
      refine pr_top (pw_at j i) ?_
      refine pr_istore rfl (Nat.le_of_ble_eq_true rfl) rfl ?_
      refine pr_aload_n rfl rfl ?_
      refine pr_getf rfl rfl rfl ?_
      refine pr_iload rfl rfl ?_
      refine pr_iald (f := A 29) (12 * j + i) rfl rfl (by decide) (by decide) rfl (by omega) ?_
      refine pr_push (v := 2) rfl rfl ?_
      refine pr_rem rfl (by decide) ?_
      refine pr_iload_n rfl rfl ?_
      refine pr_u_ne rfl (fun c_65 => ?_) (fun c_65 => ?_)
      · skip
        refine pr_iinc rfl rfl (pw_inc i) rfl ?_
        refine pr_step rfl rfl rfl rfl ?_
        refine ih (i + 1) f s _ _ _ (by omega) ?_ ?_
        · have e : wl_nd (md_D A j) (md_L A j) (md_U A j) n (a : Int) (i + 1) = wl_nd (md_D A j) (md_L A j) (md_U A j) n (a : Int) i := if_neg (by show ¬ (A 29 (12 * j + i)).toInt % 2 = (a : Int); omega)
          rw [e]
          exact hs
        · intro k
          have hpk := hp k
          refine ⟨fun h1 h2 => ?_, fun hh => hpk.2 (fun h3 => hh ⟨by omega, h3.2⟩)⟩
          by_cases hki : k = i
          · subst hki
            exact absurd (show (A 29 (12 * j + k)).toInt % 2 = (a : Int) from h2) (by omega)
          · exact hpk.1 (by omega) h2
      · skip
        refine pr_aload_n rfl rfl ?_
        refine pr_getf rfl rfl rfl ?_
        refine pr_iload rfl rfl ?_
        refine pr_iald (f := A 29) (12 * j + i) rfl rfl (by decide) (by decide) rfl (by omega) ?_
        refine pr_push (v := 2) rfl rfl ?_
        refine pr_c_ge rfl (fun c_76 => ?_) (fun c_76 => ?_)
        · skip
          refine pr_push (v := (-1)) rfl rfl ?_
          refine pr_istore rfl (Nat.le_of_ble_eq_true rfl) rfl ?_
          refine pr_aload_n rfl rfl ?_
          refine pr_getf rfl rfl rfl ?_
          refine pr_iload rfl rfl ?_
          refine pr_iald (f := A 30) (12 * j + i) rfl rfl (by decide) (by decide) rfl (by omega) ?_
          refine pr_istore rfl (Nat.le_of_ble_eq_true rfl) rfl ?_
          have hd : (A 29 (12 * j + i)).toInt % 2 = (a : Int) := by omega
          have hst := wl_step hw (c := c) (i := i) (by omega) hkp hd
          have hpL : (A 30 (12 * j + i)).toInt ≤ wl_pick (md_D A j) (md_L A j) (md_U A j) n (a : Int) (wl_nd (md_D A j) (md_L A j) (md_U A j) n (a : Int) i) i := hst.1
          have hpU : wl_pick (md_D A j) (md_L A j) (md_U A j) n (a : Int) (wl_nd (md_D A j) (md_L A j) (md_U A j) n (a : Int) i) i ≤ (A 31 (12 * j + i)).toInt := hst.2.1
          refine c_79_w d j n hj hn hw a ha hfe f i (by omega) hd s _ hs (by first | exact Or.inl ⟨rfl, by omega⟩ | exact Or.inr ⟨rfl, by omega⟩) Q (fun l hl => ?_) (wl_pick (md_D A j) (md_L A j) (md_U A j) n (a : Int) (wl_nd (md_D A j) (md_L A j) (md_U A j) n (a : Int) i) i - (A 30 (12 * j + i)).toInt).toNat _ (Int.le_refl _) (by show (A 30 (12 * j + i)).toInt + _ = _; omega)
          refine pr_aload_n rfl rfl ?_
          refine pr_getf rfl rfl rfl ?_
          refine pr_iload rfl rfl ?_
          refine pr_iload rfl rfl ?_
          refine pr_iast i rfl rfl (by decide) rfl (by omega) ht_a52 ?_
          refine pr_iload_n rfl rfl ?_
          refine pr_iload rfl rfl ?_
          refine pr_iload rfl rfl ?_
          refine pr_step rfl rfl rfl rfl ?_
          refine pr_step rfl rfl rfl rfl ?_
          refine pr_istore_n rfl (Nat.le_of_ble_eq_true rfl) rfl ?_
          refine pr_iinc rfl rfl (pw_inc i) rfl ?_
          refine pr_step rfl rfl rfl rfl ?_
          refine ih (i + 1) _ _ _ _ _ (by omega) ?_ ?_
          · have hng := pw_negT (x := l) (by omega)
            have es1 := pw_subT (a := s) (b := l) (by omega) (by omega)
            have es2 := pw_subT (a := s) (b := -l) (by omega) (by omega)
            have e : wl_nd (md_D A j) (md_L A j) (md_U A j) n (a : Int) (i + 1) = wl_nd (md_D A j) (md_L A j) (md_U A j) n (a : Int) i - (if md_D A j i < 2 then 1 else -1) * wl_pick (md_D A j) (md_L A j) (md_U A j) n (a : Int) (wl_nd (md_D A j) (md_L A j) (md_U A j) n (a : Int) i) i := if_pos hd
            rw [e]
            first
              | (rw [pw_x1, es1, if_pos (by show (A 29 (12 * j + i)).toInt < 2; omega)]; omega)
              | (rw [pw_xm, es2, if_neg (by show ¬ (A 29 (12 * j + i)).toInt < 2; omega)]; omega)
          · intro k
            have hpk := hp k
            by_cases hki : k = i
            · subst hki
              refine ⟨fun _ _ => ?_, fun hh => absurd ⟨by omega, hd⟩ hh⟩
              rw [pk_us, hl]
              unfold wl_len
              rw [show md_D A j k % 2 = (a : Int) from hd]
            · rw [pk_un hki]
              exact ⟨fun h1 h2 => hpk.1 (by omega) h2, fun hh => hpk.2 (fun h3 => hh ⟨by omega, h3.2⟩)⟩
        · skip
          refine pr_push (v := 1) rfl rfl ?_
          refine pr_step rfl rfl rfl rfl ?_
          refine pr_istore rfl (Nat.le_of_ble_eq_true rfl) rfl ?_
          refine pr_aload_n rfl rfl ?_
          refine pr_getf rfl rfl rfl ?_
          refine pr_iload rfl rfl ?_
          refine pr_iald (f := A 30) (12 * j + i) rfl rfl (by decide) (by decide) rfl (by omega) ?_
          refine pr_istore rfl (Nat.le_of_ble_eq_true rfl) rfl ?_
          have hd : (A 29 (12 * j + i)).toInt % 2 = (a : Int) := by omega
          have hst := wl_step hw (c := c) (i := i) (by omega) hkp hd
          have hpL : (A 30 (12 * j + i)).toInt ≤ wl_pick (md_D A j) (md_L A j) (md_U A j) n (a : Int) (wl_nd (md_D A j) (md_L A j) (md_U A j) n (a : Int) i) i := hst.1
          have hpU : wl_pick (md_D A j) (md_L A j) (md_U A j) n (a : Int) (wl_nd (md_D A j) (md_L A j) (md_U A j) n (a : Int) i) i ≤ (A 31 (12 * j + i)).toInt := hst.2.1
          refine c_79_w d j n hj hn hw a ha hfe f i (by omega) hd s _ hs (by first | exact Or.inl ⟨rfl, by omega⟩ | exact Or.inr ⟨rfl, by omega⟩) Q (fun l hl => ?_) (wl_pick (md_D A j) (md_L A j) (md_U A j) n (a : Int) (wl_nd (md_D A j) (md_L A j) (md_U A j) n (a : Int) i) i - (A 30 (12 * j + i)).toInt).toNat _ (Int.le_refl _) (by show (A 30 (12 * j + i)).toInt + _ = _; omega)
          refine pr_aload_n rfl rfl ?_
          refine pr_getf rfl rfl rfl ?_
          refine pr_iload rfl rfl ?_
          refine pr_iload rfl rfl ?_
          refine pr_iast i rfl rfl (by decide) rfl (by omega) ht_a52 ?_
          refine pr_iload_n rfl rfl ?_
          refine pr_iload rfl rfl ?_
          refine pr_iload rfl rfl ?_
          refine pr_step rfl rfl rfl rfl ?_
          refine pr_step rfl rfl rfl rfl ?_
          refine pr_istore_n rfl (Nat.le_of_ble_eq_true rfl) rfl ?_
          refine pr_iinc rfl rfl (pw_inc i) rfl ?_
          refine pr_step rfl rfl rfl rfl ?_
          refine ih (i + 1) _ _ _ _ _ (by omega) ?_ ?_
          · have hng := pw_negT (x := l) (by omega)
            have es1 := pw_subT (a := s) (b := l) (by omega) (by omega)
            have es2 := pw_subT (a := s) (b := -l) (by omega) (by omega)
            have e : wl_nd (md_D A j) (md_L A j) (md_U A j) n (a : Int) (i + 1) = wl_nd (md_D A j) (md_L A j) (md_U A j) n (a : Int) i - (if md_D A j i < 2 then 1 else -1) * wl_pick (md_D A j) (md_L A j) (md_U A j) n (a : Int) (wl_nd (md_D A j) (md_L A j) (md_U A j) n (a : Int) i) i := if_pos hd
            rw [e]
            first
              | (rw [pw_x1, es1, if_pos (by show (A 29 (12 * j + i)).toInt < 2; omega)]; omega)
              | (rw [pw_xm, es2, if_neg (by show ¬ (A 29 (12 * j + i)).toInt < 2; omega)]; omega)
          · intro k
            have hpk := hp k
            by_cases hki : k = i
            · subst hki
              refine ⟨fun _ _ => ?_, fun hh => absurd ⟨by omega, hd⟩ hh⟩
              rw [pk_us, hl]
              unfold wl_len
              rw [show md_D A j k % 2 = (a : Int) from hd]
            · rw [pk_un hki]
              exact ⟨fun h1 h2 => hpk.1 (by omega) h2, fun hh => hpk.2 (fun h3 => hh ⟨by omega, h3.2⟩)⟩
theorem c_79 (d : Nat) {N : Nat} {xs : Nat → Int32} {zc zm : Nat → Int32} {e3 e11 e18 : Nat} {A : Nat → Nat → Int32} {g gh : Nat → Option Nat} {dy : pw_H} (j n : Nat) (hj : j < 4) (hn : A 28 j = nI n) (hw : wl_ok (md_D A j) (md_L A j) (md_U A j) n) : pw_M (d + 1) 79 [.inr (some 25), .inl (nI j)] (hp_h N xs zc e3 e11 e18 zm A g gh dy) (pw_qi (fun r h' => r = pw_b (wl_feas (md_D A j) (md_L A j) (md_U A j) n 0 ∧ wl_feas (md_D A j) (md_L A j) (md_U A j) n 1) ∧ ∃ f : Nat → Int32, h' = (hp_h N xs zc e3 e11 e18 zm (uA A 52 f) g gh dy) ∧ ((wl_feas (md_D A j) (md_L A j) (md_U A j) n 0 ∧ wl_feas (md_D A j) (md_L A j) (md_U A j) n 1) → ∀ k, k < n → (f k).toInt = wl_len (md_D A j) (md_L A j) (md_U A j) n k))) := by
  have z0 := pz_0
  have z1 := pz_1
  have z2 := pz_2
  have z3 := pz_3
  have z4 := pz_4
  have z6 := pz_6
  have z7 := pz_7
  have z10 := pz_10
  have z11 := pz_11
  have z12 := pz_12
  have z20 := pz_20
  have z30 := pz_30
  have z50 := pz_50
  have z60 := pz_60
  have z80 := pz_80
  have z300 := pz_300
  have zm1 := pz_m1
  have hn12 := hw.1
  have hnT : (A 28 j).toInt = (n : Int) := by rw [hn]; exact pw_T (by omega)
  refine pr_push (v := 0) rfl rfl ?_
  refine pr_istore_n rfl (Nat.le_of_ble_eq_true rfl) rfl ?_
  refine pr_iload_n rfl rfl ?_
  refine pr_push (v := 2) rfl rfl ?_
  refine pr_step rfl rfl rfl rfl ?_
  refine pr_push (v := 0) rfl rfl ?_
  refine pr_istore_n rfl (Nat.le_of_ble_eq_true rfl) rfl ?_
  refine pr_iload_n rfl rfl ?_
  refine pr_aload_n rfl rfl ?_
  refine pr_iload_n rfl rfl ?_
  refine pr_push (v := 0) rfl rfl ?_
  refine pr_iload_n rfl rfl ?_
  refine pr_vi3 rfl (by decide) (Nat.le_of_ble_eq_true rfl) rfl (Nat.le_of_ble_eq_true rfl) (c_77 _ j n hj hn hw _ 0 (by omega)) (fun r_14 h_14 q_14 => ?_)
  obtain ⟨ea_14, rfl⟩ := q_14
  rw [Nat.sub_zero] at ea_14
  refine pr_aload_n rfl rfl ?_
  refine pr_iload_n rfl rfl ?_
  refine pr_push (v := 0) rfl rfl ?_
  refine pr_iload_n rfl rfl ?_
  refine pr_vi3 rfl (by decide) (Nat.le_of_ble_eq_true rfl) rfl (Nat.le_of_ble_eq_true rfl) (c_78 _ j n hj hn hw _ 0 (by omega)) (fun r_21 h_21 q_21 => ?_)
  obtain ⟨ea_21, rfl⟩ := q_21
  rw [Nat.sub_zero] at ea_21
  refine pr_si3 rfl (by decide) (Nat.le_of_ble_eq_true rfl) (Nat.le_of_ble_eq_true rfl) (c_69 _ _ _ _ _) (fun r_24 h_24 q_24 => ?_)
  obtain ⟨rfl, rfl⟩ := q_24
  refine pr_b_ne rfl (fun c_27 => ?_) (fun c_27 => ?_)
  · skip
    refine pr_push (v := 0) rfl rfl ?_
    refine pr_istore rfl (Nat.le_of_ble_eq_true rfl) rfl ?_
    have hf0 : wl_feas (md_D A j) (md_L A j) (md_U A j) n ((0 : Nat) : Int) := by
      have e1 : wl_s (wl_mn (md_D A j) (md_L A j) (md_U A j) (Int32.toInt 0)) n 0 = wl_s (wl_mn (md_D A j) (md_L A j) (md_U A j) ((0 : Nat) : Int)) n 0 := rfl
      have e2 : wl_s (wl_mx (md_D A j) (md_L A j) (md_U A j) (Int32.toInt 0)) n 0 = wl_s (wl_mx (md_D A j) (md_L A j) (md_U A j) ((0 : Nat) : Int)) n 0 := rfl
      exact ⟨by omega, by omega⟩
    refine pr_heap (show (hp_h N xs zc e3 e11 e18 zm A g gh dy) = (hp_h N xs zc e3 e11 e18 zm (uA A 52 (A 52)) g gh dy) by rw [uA_self]) ?_
    refine c_79_for d j n hj hn hw 0 (by decide) hf0 (A 52) _ (fun f1 s1 i1 g5 g6 g7 hp1 => ?_) n 0 (A 52) 0 _ _ _ (by omega) rfl (fun k => ⟨fun h => absurd h (Nat.not_lt_zero k), fun _ => rfl⟩)
    refine pr_iinc rfl rfl (show nI 0 + Int32.ofInt 1 = 1 from rfl) rfl ?_
    refine pr_step rfl rfl rfl rfl ?_
    refine pr_iload_n rfl rfl ?_
    refine pr_push (v := 2) rfl rfl ?_
    refine pr_step rfl rfl rfl rfl ?_
    refine pr_push (v := 0) rfl rfl ?_
    refine pr_istore_n rfl (Nat.le_of_ble_eq_true rfl) rfl ?_
    refine pr_iload_n rfl rfl ?_
    refine pr_aload_n rfl rfl ?_
    refine pr_iload_n rfl rfl ?_
    refine pr_push (v := 0) rfl rfl ?_
    refine pr_iload_n rfl rfl ?_
    refine pr_vi3 rfl (by decide) (Nat.le_of_ble_eq_true rfl) rfl (Nat.le_of_ble_eq_true rfl) (c_77 (A := uA A 52 f1) _ j n hj hn hw _ 0 (by omega)) (fun r_14 h_14 q_14 => ?_)
    obtain ⟨ea, rfl⟩ := q_14
    rw [Nat.sub_zero] at ea
    have ea_14 : r_14.toInt = wl_s (wl_mn (md_D A j) (md_L A j) (md_U A j) (Int32.toInt 1)) n 0 := ea
    clear ea
    refine pr_aload_n rfl rfl ?_
    refine pr_iload_n rfl rfl ?_
    refine pr_push (v := 0) rfl rfl ?_
    refine pr_iload_n rfl rfl ?_
    refine pr_vi3 rfl (by decide) (Nat.le_of_ble_eq_true rfl) rfl (Nat.le_of_ble_eq_true rfl) (c_78 (A := uA A 52 f1) _ j n hj hn hw _ 0 (by omega)) (fun r_21 h_21 q_21 => ?_)
    obtain ⟨ea, rfl⟩ := q_21
    rw [Nat.sub_zero] at ea
    have ea_21 : r_21.toInt = wl_s (wl_mx (md_D A j) (md_L A j) (md_U A j) (Int32.toInt 1)) n 0 := ea
    clear ea
    refine pr_si3 rfl (by decide) (Nat.le_of_ble_eq_true rfl) (Nat.le_of_ble_eq_true rfl) (c_69 _ _ _ _ _) (fun r_24 h_24 q_24 => ?_)
    obtain ⟨rfl, rfl⟩ := q_24
    refine pr_b_ne rfl (fun c_27 => ?_) (fun c_27 => ?_)
    · skip
      refine pr_push (v := 0) rfl rfl ?_
      refine pr_istore rfl (Nat.le_of_ble_eq_true rfl) rfl ?_
      have hf1 : wl_feas (md_D A j) (md_L A j) (md_U A j) n ((1 : Nat) : Int) := by
        have e1 : wl_s (wl_mn (md_D A j) (md_L A j) (md_U A j) (Int32.toInt 1)) n 0 = wl_s (wl_mn (md_D A j) (md_L A j) (md_U A j) ((1 : Nat) : Int)) n 0 := rfl
        have e2 : wl_s (wl_mx (md_D A j) (md_L A j) (md_U A j) (Int32.toInt 1)) n 0 = wl_s (wl_mx (md_D A j) (md_L A j) (md_U A j) ((1 : Nat) : Int)) n 0 := rfl
        exact ⟨by omega, by omega⟩
      refine c_79_for d j n hj hn hw 1 (by decide) hf1 f1 _ (fun f2 s2 i2 g5 g6 g7 hp2 => ?_) n 0 f1 0 _ _ _ (by omega) rfl (fun k => ⟨fun h => absurd h (Nat.not_lt_zero k), fun _ => rfl⟩)
      refine pr_iinc rfl rfl (show nI 1 + Int32.ofInt 1 = 2 from rfl) rfl ?_
      refine pr_step rfl rfl rfl rfl ?_
      refine pr_iload_n rfl rfl ?_
      refine pr_push (v := 2) rfl rfl ?_
      refine pr_step rfl rfl rfl rfl ?_
      refine pr_push (v := 1) rfl rfl ?_
      exact pr_retb rfl rfl rfl (⟨by rw [pw_b1 ⟨hf0, hf1⟩], f2, rfl, fun _ k hk => by
        have hwk : (0 ≤ (A 29 (12 * j + k)).toInt ∧ (A 29 (12 * j + k)).toInt ≤ 3) ∧ _ := hw.2 k hk
        by_cases h1 : md_D A j k % 2 = ((1 : Nat) : Int)
        · exact (hp2 k).1 hk h1
        · rw [(hp2 k).2 (fun hh => h1 hh.2)]
          exact (hp1 k).1 hk (by
            have h1 : ¬ (A 29 (12 * j + k)).toInt % 2 = ((1 : Nat) : Int) := h1
            show (A 29 (12 * j + k)).toInt % 2 = ((0 : Nat) : Int)
            omega)⟩)
    · skip
      refine pr_push (v := 0) rfl rfl ?_
      exact pr_retb rfl rfl rfl (⟨by rw [pw_b0 (fun hh => by have h2 := hh.2; have e1 : wl_s (wl_mn (md_D A j) (md_L A j) (md_U A j) (Int32.toInt 1)) n 0 = wl_s (wl_mn (md_D A j) (md_L A j) (md_U A j) 1) n 0 := rfl; have e2 : wl_s (wl_mx (md_D A j) (md_L A j) (md_U A j) (Int32.toInt 1)) n 0 = wl_s (wl_mx (md_D A j) (md_L A j) (md_U A j) 1) n 0 := rfl; omega)], f1, rfl, fun hh => absurd hh.2 (fun h2 => by have e1 : wl_s (wl_mn (md_D A j) (md_L A j) (md_U A j) (Int32.toInt 1)) n 0 = wl_s (wl_mn (md_D A j) (md_L A j) (md_U A j) 1) n 0 := rfl; have e2 : wl_s (wl_mx (md_D A j) (md_L A j) (md_U A j) (Int32.toInt 1)) n 0 = wl_s (wl_mx (md_D A j) (md_L A j) (md_U A j) 1) n 0 := rfl; omega)⟩)
  · skip
    refine pr_push (v := 0) rfl rfl ?_
    exact pr_retb rfl rfl rfl (⟨by rw [pw_b0 (fun hh => by have h2 := hh.1; have e1 : wl_s (wl_mn (md_D A j) (md_L A j) (md_U A j) (Int32.toInt 0)) n 0 = wl_s (wl_mn (md_D A j) (md_L A j) (md_U A j) 0) n 0 := rfl; have e2 : wl_s (wl_mx (md_D A j) (md_L A j) (md_U A j) (Int32.toInt 0)) n 0 = wl_s (wl_mx (md_D A j) (md_L A j) (md_U A j) 0) n 0 := rfl; omega)], A 52, by rw [uA_self], fun hh => absurd hh.1 (fun h2 => by have e1 : wl_s (wl_mn (md_D A j) (md_L A j) (md_U A j) (Int32.toInt 0)) n 0 = wl_s (wl_mn (md_D A j) (md_L A j) (md_U A j) 0) n 0 := rfl; have e2 : wl_s (wl_mx (md_D A j) (md_L A j) (md_U A j) (Int32.toInt 0)) n 0 = wl_s (wl_mx (md_D A j) (md_L A j) (md_U A j) 0) n 0 := rfl; omega)⟩)
