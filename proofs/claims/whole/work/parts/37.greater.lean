def gp_add (c : Nat → Int32) (v : Int32) : Nat → Int32 := if v = -1 then c else upd c v.toNatClampNeg (c v.toNatClampNeg + 1)
/-- a row of fields, its owners counted -/
def gp_row (own : Nat → Int32) (c : Nat → Int32) (f : Nat) : Nat → (Nat → Int32)
  | 0 => c
  | k + 1 => gp_add (gp_row own c f k) (own (f + k))
def gp_all (own : Nat → Int32) (hx hy w : Nat) : Nat → (Nat → Int32)
  | 0 => fun _ => 0
  | k + 1 => gp_row own (gp_all own hx hy w k) (12 * (hy + k) + hx) w
def gp_ok (own : Nat → Int32) : Prop := ∀ f, f < 144 → own f = -1 ∨ ∃ p, p < 4 ∧ own f = nI p
/-- who has most so far, and whether alone -/
def gp_st (c : Nat → Int32) : Nat → Nat × Bool
  | 0 => (0, decide (0 < (c 0).toInt))
  | p + 1 => (if (c (gp_st c p).1).toInt < (c (p + 1)).toInt then p + 1 else (gp_st c p).1, decide ((c (gp_st c p).1).toInt < (c (p + 1)).toInt) || (decide ((c (p + 1)).toInt < (c (gp_st c p).1).toInt) && (gp_st c p).2))
theorem gp_st_le (c : Nat → Int32) : ∀ p, (gp_st c p).1 ≤ p
  | 0 => Nat.le_refl 0
  | p + 1 => by
    have h := gp_st_le c p
    unfold gp_st
    dsimp only
    split <;> omega
theorem gp_st_eq (c c2 : Nat → Int32) : ∀ p, (∀ i, i ≤ p → c i = c2 i) → gp_st c p = gp_st c2 p
  | 0, h => by
    unfold gp_st
    rw [h 0 (Nat.le_refl 0)]
  | p + 1, h => by
    have e := gp_st_eq c c2 p (fun i hi => h i (by omega))
    have hl := gp_st_le c2 p
    unfold gp_st
    rw [e, h (p + 1) (Nat.le_refl _), h _ (by omega)]
def gp_of (c : Nat → Int32) : Int32 := if (gp_st c 3).2 = true then nI (gp_st c 3).1 else -1
theorem gp_add_no {c c0 : Nat → Int32} {v : Int32} (h : ∀ i, i < 4 → c i = c0 i) (hv : v = -1) : ∀ i, i < 4 → c i = gp_add c0 v i := by
  intro i hi
  rw [gp_add, if_pos hv]
  exact h i hi
theorem gp_add_yes {c c0 : Nat → Int32} {v : Int32} {p : Nat} (h : ∀ i, i < 4 → c i = c0 i) (hv : ¬ v = -1) (hp : p < 4) (e : v = nI p) : ∀ i, i < 4 → upd c p (c p + 1) i = gp_add c0 v i := by
  intro i hi
  rw [gp_add, if_neg hv, e, nI_clamp (by omega), upd, upd, h p hp]
  split
  · rfl
  · exact h i hi
section HR6
variable {N : Nat} {xs : Nat → Int32} {zc zm : Nat → Int32} {e3 e11 e18 : Nat} {A : Nat → Nat → Int32} {g gh : Nat → Option Nat} {dy : pw_H} {c : Nat → Int32}
theorem hx_55 : (hp_h N xs zc e3 e11 e18 zm (uA A 55 c) g gh dy)[55]? = some (.inl (0, 4, c)) := rfl
end HR6
theorem c_105_z (d : Nat) {N : Nat} {xs : Nat → Int32} {zc zm : Nat → Int32} {e3 e11 e18 : Nat} {A : Nat → Nat → Int32} {g gh : Nat → Option Nat} {dy : pw_H} (j : Nat) (yr : Int32) (g4 g5 : Option pw_V) (Q : Option pw_V → pw_H → Prop) (K : ∀ (c : Nat → Int32) (g3 : Option pw_V), (∀ i, i < 4 → c i = 0) → pw_W (d + 1) 105 20 [some (.inr (some 25)), some (.inl (nI j)), some (.inl yr), g3, g4, g5] [] (hp_h N xs zc e3 e11 e18 zm (uA A 55 c) g gh dy) Q) : ∀ (n k : Nat) (c : Nat → Int32), k + n = 4 → (∀ i, i < k → c i = 0) → pw_W (d + 1) 105 2 [some (.inr (some 25)), some (.inl (nI j)), some (.inl yr), some (.inl (nI k)), g4, g5] [] (hp_h N xs zc e3 e11 e18 zm (uA A 55 c) g gh dy) Q := by
  have z4 := pz_4
  intro n
  induction n with
  | zero =>
    intro k c hk hc
    obtain rfl : k = 4 := by omega
    have hkT := pw_T (n := 4) (by omega)
    refine pr_iload_n rfl rfl ?_
    refine pr_push (v := 4) rfl rfl ?_
    refine pr_c_ge rfl (fun c_4 => ?_) (fun c_4 => ?_)
    · skip
      exact K c _ hc
    · skip
      exact absurd c_4 (by omega)
  | succ n ih =>
    intro k c hk hc
    have hkT := pw_T (n := k) (by omega)
    refine pr_iload_n rfl rfl ?_
    refine pr_push (v := 4) rfl rfl ?_
    refine pr_c_ge rfl (fun c_4 => ?_) (fun c_4 => ?_)
    · skip
      exact absurd c_4 (by omega)
    · skip
      refine pr_aload_n rfl rfl ?_
      refine pr_getf rfl rfl rfl ?_
      refine pr_iload_n rfl rfl ?_
      refine pr_push (v := 0) rfl rfl ?_
      refine pr_iast (k) rfl hx_55 (by decide) rfl (by omega) ht_a55 ?_
      refine pr_iinc rfl rfl (pw_inc k) rfl ?_
      refine pr_step rfl rfl rfl rfl ?_
      exact ih (k + 1) (upd c k 0) (by omega) (fun i hi => by
        unfold upd
        split
        · rfl
        · exact hc i (by omega))
theorem c_105_x (d : Nat) {N : Nat} {xs : Nat → Int32} {zc zm : Nat → Int32} {e3 e11 e18 : Nat} {A : Nat → Nat → Int32} {g gh : Nat → Option Nat} {dy : pw_H} (P : Nat) (hP : zm 0 = nI P) (hPb : P ≤ 4) (E : Nat) (hE : zm 7 = nI E) (hEb : E ≤ 12) (hf : ∀ i, i < E → 0 ≤ (A 32 i).toInt) (j : Nat) (hj : j < 6) (yr : Int32) (hx hy w hh : Nat) (hhx : A 43 j = nI hx) (hhy : A 44 j = nI hy) (hhw : A 45 j = nI w) (hhh : A 46 j = nI hh) (hxw : hx + w ≤ 12) (hyh : hy + hh ≤ 12) (ho : gp_ok (fun f => ow_of A E P f yr)) (y : Nat) (hy12 : y < 12) (c0 : Nat → Int32) (Q : Option pw_V → pw_H → Prop) (K : ∀ (c : Nat → Int32) (g4 g5 : Option pw_V), (∀ i, i < 4 → c i = gp_row (fun f => ow_of A E P f yr) c0 (12 * y + hx) w i) → pw_W (d + 1) 105 107 [some (.inr (some 25)), some (.inl (nI j)), some (.inl yr), some (.inl (nI y)), g4, g5] [] (hp_h N xs zc e3 e11 e18 zm (uA A 55 c) g gh dy) Q) : ∀ (n k : Nat) (c : Nat → Int32) (g5 : Option pw_V), k + n = w → (∀ i, i < 4 → c i = gp_row (fun f => ow_of A E P f yr) c0 (12 * y + hx) k i) → pw_W (d + 1) 105 52 [some (.inr (some 25)), some (.inl (nI j)), some (.inl yr), some (.inl (nI y)), some (.inl (nI (hx + k))), g5] [] (hp_h N xs zc e3 e11 e18 zm (uA A 55 c) g gh dy) Q := by
  have z4 := pz_4
  have zxw := pw_T (n := hx + w) (by omega)
  intro n
  induction n with
  | zero =>
    intro k c g5 hk hc
    obtain rfl : k = w := by omega
    have hkT := pw_T (n := hx + k) (by omega)
    refine pr_iload rfl rfl ?_
    refine pr_aload_n rfl rfl ?_
    refine pr_getf rfl rfl rfl ?_
    refine pr_iload_n rfl rfl ?_
    refine pr_iald (j) rfl rfl (by decide) (by decide) rfl (by omega) ?_
    refine pr_aload_n rfl rfl ?_
    refine pr_getf rfl rfl rfl ?_
    refine pr_iload_n rfl rfl ?_
    refine pr_iald (j) rfl rfl (by decide) (by decide) rfl (by omega) ?_
    refine pr_step rfl rfl rfl rfl ?_
    refine pr_top ((by rw [hhx, hhw]; exact nI_add hx k : A 43 j + A 45 j = nI (hx + k))) ?_
    refine pr_c_ge rfl (fun c_67 => ?_) (fun c_67 => ?_)
    · skip
      exact K c _ _ hc
    · skip
      exact absurd c_67 (by omega)
  | succ n ih =>
    intro k c g5 hk hc
    have hkT := pw_T (n := hx + k) (by omega)
    refine pr_iload rfl rfl ?_
    refine pr_aload_n rfl rfl ?_
    refine pr_getf rfl rfl rfl ?_
    refine pr_iload_n rfl rfl ?_
    refine pr_iald (j) rfl rfl (by decide) (by decide) rfl (by omega) ?_
    refine pr_aload_n rfl rfl ?_
    refine pr_getf rfl rfl rfl ?_
    refine pr_iload_n rfl rfl ?_
    refine pr_iald (j) rfl rfl (by decide) (by decide) rfl (by omega) ?_
    refine pr_step rfl rfl rfl rfl ?_
    refine pr_top ((by rw [hhx, hhw]; exact nI_add hx w : A 43 j + A 45 j = nI (hx + w))) ?_
    refine pr_c_ge rfl (fun c_67 => ?_) (fun c_67 => ?_)
    · skip
      exact absurd c_67 (by omega)
    · skip
      refine pr_aload_n rfl rfl ?_
      refine pr_push (v := 12) rfl rfl ?_
      refine pr_iload_n rfl rfl ?_
      refine pr_step rfl rfl rfl rfl ?_
      refine pr_iload rfl rfl ?_
      refine pr_step rfl rfl rfl rfl ?_
      refine pr_top ((show 12 * nI y + nI (hx + k) = nI (12 * y + hx + k) from by rw [pw_at, Nat.add_assoc])) ?_
      refine pr_iload_n rfl rfl ?_
      refine pr_vi2 rfl (by decide) (Nat.le_of_ble_eq_true rfl) rfl (Nat.le_of_ble_eq_true rfl) (c_87 (A := (uA A 55 c)) _ P hP hPb E hE hEb hf (12 * y + hx + k) (by omega) yr) (fun r_79 h_79 q_79 => ?_)
      obtain ⟨e_79, rfl⟩ := q_79
      have e2 : r_79 = ow_of A E P (12 * y + hx + k) yr := e_79
      have hor := ho (12 * y + hx + k) (by omega)
      dsimp only at hor
      rw [← e2] at hor
      refine pr_istore rfl (Nat.le_of_ble_eq_true rfl) rfl ?_
      refine pr_iload rfl rfl ?_
      refine pr_push (v := (-1)) rfl rfl ?_
      refine pr_c_eq rfl (fun c_87 => ?_) (fun c_87 => ?_)
      · skip
        refine pr_iinc rfl rfl (pw_inc (hx + k)) rfl ?_
        refine pr_step rfl rfl rfl rfl ?_
        first
          | exact ih (k + 1) c _ (by omega) (fun i hi => by
              have h2 := gp_add_no (v := r_79) hc (by assumption) i hi
              rw [e2] at h2
              exact h2)
          | exact ih (k + 1) (upd c p (c p + 1)) _ (by omega) (fun i hi => by
              have h2 := gp_add_yes (v := r_79) hc (by assumption) hp4 ep i hi
              rw [e2] at h2
              exact h2)
      · skip
        obtain ⟨p, hp4, ep⟩ := hor.resolve_left c_87
        refine pr_aload_n rfl rfl ?_
        refine pr_getf rfl rfl rfl ?_
        refine pr_iload rfl rfl ?_
        refine pr_step rfl rfl rfl rfl ?_
        refine pr_iald (p) rfl hx_55 (by decide) (by decide) ep (by omega) ?_
        refine pr_push (v := 1) rfl rfl ?_
        refine pr_step rfl rfl rfl rfl ?_
        refine pr_iast (p) rfl hx_55 (by decide) ep (by omega) ht_a55 ?_
        refine pr_iinc rfl rfl (pw_inc (hx + k)) rfl ?_
        refine pr_step rfl rfl rfl rfl ?_
        first
          | exact ih (k + 1) c _ (by omega) (fun i hi => by
              have h2 := gp_add_no (v := r_79) hc (by assumption) i hi
              rw [e2] at h2
              exact h2)
          | exact ih (k + 1) (upd c p (c p + 1)) _ (by omega) (fun i hi => by
              have h2 := gp_add_yes (v := r_79) hc (by assumption) hp4 ep i hi
              rw [e2] at h2
              exact h2)
theorem c_105_y (d : Nat) {N : Nat} {xs : Nat → Int32} {zc zm : Nat → Int32} {e3 e11 e18 : Nat} {A : Nat → Nat → Int32} {g gh : Nat → Option Nat} {dy : pw_H} (P : Nat) (hP : zm 0 = nI P) (hPb : P ≤ 4) (E : Nat) (hE : zm 7 = nI E) (hEb : E ≤ 12) (hf : ∀ i, i < E → 0 ≤ (A 32 i).toInt) (j : Nat) (hj : j < 6) (yr : Int32) (hx hy w hh : Nat) (hhx : A 43 j = nI hx) (hhy : A 44 j = nI hy) (hhw : A 45 j = nI w) (hhh : A 46 j = nI hh) (hxw : hx + w ≤ 12) (hyh : hy + hh ≤ 12) (ho : gp_ok (fun f => ow_of A E P f yr)) (Q : Option pw_V → pw_H → Prop) (K : ∀ (c : Nat → Int32) (g3 g4 g5 : Option pw_V), (∀ i, i < 4 → c i = gp_all (fun f => ow_of A E P f yr) hx hy w hh i) → pw_W (d + 1) 105 113 [some (.inr (some 25)), some (.inl (nI j)), some (.inl yr), g3, g4, g5] [] (hp_h N xs zc e3 e11 e18 zm (uA A 55 c) g gh dy) Q) : ∀ (n k : Nat) (c : Nat → Int32) (g4 g5 : Option pw_V), k + n = hh → (∀ i, i < 4 → c i = gp_all (fun f => ow_of A E P f yr) hx hy w k i) → pw_W (d + 1) 105 27 [some (.inr (some 25)), some (.inl (nI j)), some (.inl yr), some (.inl (nI (hy + k))), g4, g5] [] (hp_h N xs zc e3 e11 e18 zm (uA A 55 c) g gh dy) Q := by
  have zyh := pw_T (n := hy + hh) (by omega)
  intro n
  induction n with
  | zero =>
    intro k c g4 g5 hk hc
    obtain rfl : k = hh := by omega
    have hkT := pw_T (n := hy + k) (by omega)
    refine pr_iload_n rfl rfl ?_
    refine pr_aload_n rfl rfl ?_
    refine pr_getf rfl rfl rfl ?_
    refine pr_iload_n rfl rfl ?_
    refine pr_iald (j) rfl rfl (by decide) (by decide) rfl (by omega) ?_
    refine pr_aload_n rfl rfl ?_
    refine pr_getf rfl rfl rfl ?_
    refine pr_iload_n rfl rfl ?_
    refine pr_iald (j) rfl rfl (by decide) (by decide) rfl (by omega) ?_
    refine pr_step rfl rfl rfl rfl ?_
    refine pr_top ((by rw [hhy, hhh]; exact nI_add hy k : A 44 j + A 46 j = nI (hy + k))) ?_
    refine pr_c_ge rfl (fun c_41 => ?_) (fun c_41 => ?_)
    · skip
      exact K c _ _ _ hc
    · skip
      exact absurd c_41 (by omega)
  | succ n ih =>
    intro k c g4 g5 hk hc
    have hkT := pw_T (n := hy + k) (by omega)
    refine pr_iload_n rfl rfl ?_
    refine pr_aload_n rfl rfl ?_
    refine pr_getf rfl rfl rfl ?_
    refine pr_iload_n rfl rfl ?_
    refine pr_iald (j) rfl rfl (by decide) (by decide) rfl (by omega) ?_
    refine pr_aload_n rfl rfl ?_
    refine pr_getf rfl rfl rfl ?_
    refine pr_iload_n rfl rfl ?_
    refine pr_iald (j) rfl rfl (by decide) (by decide) rfl (by omega) ?_
    refine pr_step rfl rfl rfl rfl ?_
    refine pr_top ((by rw [hhy, hhh]; exact nI_add hy hh : A 44 j + A 46 j = nI (hy + hh))) ?_
    refine pr_c_ge rfl (fun c_41 => ?_) (fun c_41 => ?_)
    · skip
      exact absurd c_41 (by omega)
    · skip
      refine pr_aload_n rfl rfl ?_
      refine pr_getf rfl rfl rfl ?_
      refine pr_iload_n rfl rfl ?_
      refine pr_iald (j) rfl rfl (by decide) (by decide) rfl (by omega) ?_
      refine pr_top (show A 43 j = nI (hx + 0) from hhx) ?_
      refine pr_istore rfl (Nat.le_of_ble_eq_true rfl) rfl ?_
      refine c_105_x d P hP hPb E hE hEb hf j hj yr hx hy w hh hhx hhy hhw hhh hxw hyh ho (hy + k) (by omega) (gp_all (fun f => ow_of A E P f yr) hx hy w k) Q (fun c2 h4 h5 hc2 => ?_) w 0 c _ (by omega) hc
      refine pr_iinc rfl rfl (pw_inc (hy + k)) rfl ?_
      refine pr_step rfl rfl rfl rfl ?_
      exact ih (k + 1) c2 _ _ (by omega) hc2
theorem c_105_e (d : Nat) {N : Nat} {xs : Nat → Int32} {zc zm : Nat → Int32} {e3 e11 e18 : Nat} {A : Nat → Nat → Int32} {g gh : Nat → Option Nat} {dy : pw_H} (j : Nat) (yr : Int32) (c : Nat → Int32) : ∀ (n p b : Nat) (a : Bool), p + n = 3 → gp_st c p = (b, a) → pw_W (d + 1) 105 134 [some (.inr (some 25)), some (.inl (nI j)), some (.inl yr), some (.inl (nI b)), some (.inl (pw_bo a)), some (.inl (nI (p + 1)))] [] (hp_h N xs zc e3 e11 e18 zm (uA A 55 c) g gh dy) (pw_qi (fun r h' => r = gp_of c ∧ h' = (hp_h N xs zc e3 e11 e18 zm (uA A 55 c) g gh dy))) := by
  have z4 := pz_4
  intro n
  induction n with
  | zero =>
    intro p b a hp hs
    obtain rfl : p = 3 := by omega
    have hkT := pw_T (n := 3 + 1) (by omega)
    refine pr_iload rfl rfl ?_
    refine pr_push (v := 4) rfl rfl ?_
    refine pr_c_ge rfl (fun c_137 => ?_) (fun c_137 => ?_)
    · skip
      refine pr_iload rfl rfl ?_
      refine pr_t_eq rfl (fun c_215 => ?_) (fun c_215 => ?_)
      · skip
        refine pr_push (v := (-1)) rfl rfl ?_
        exact pr_reti rfl rfl (by
    refine ⟨?_, rfl⟩
    unfold gp_of
    rw [hs]
    dsimp only
    first
    | rw [if_neg (by rw [pw_bo_0 c_215]; exact Bool.false_ne_true)]
    | rw [if_pos (pw_bo_1 c_215)])
      · skip
        refine pr_iload_n rfl rfl ?_
        refine pr_step rfl rfl rfl rfl ?_
        exact pr_reti rfl rfl (by
    refine ⟨?_, rfl⟩
    unfold gp_of
    rw [hs]
    dsimp only
    first
    | rw [if_neg (by rw [pw_bo_0 c_215]; exact Bool.false_ne_true)]
    | rw [if_pos (pw_bo_1 c_215)])
    · skip
      exact absurd c_137 (by omega)
  | succ n ih =>
    intro p b a hp hs
    have hkT := pw_T (n := p + 1) (by omega)
    have hb : b ≤ p := by have := gp_st_le c p; rw [hs] at this; exact this
    refine pr_iload rfl rfl ?_
    refine pr_push (v := 4) rfl rfl ?_
    refine pr_c_ge rfl (fun c_137 => ?_) (fun c_137 => ?_)
    · skip
      exact absurd c_137 (by omega)
    · skip
      refine pr_aload_n rfl rfl ?_
      refine pr_getf rfl rfl rfl ?_
      refine pr_iload rfl rfl ?_
      refine pr_iald (p + 1) rfl hx_55 (by decide) (by decide) rfl (by omega) ?_
      refine pr_aload_n rfl rfl ?_
      refine pr_getf rfl rfl rfl ?_
      refine pr_iload_n rfl rfl ?_
      refine pr_iald (b) rfl hx_55 (by decide) (by decide) rfl (by omega) ?_
      refine pr_c_gt rfl (fun c_153 => ?_) (fun c_153 => ?_)
      · skip
        refine pr_push (v := 1) rfl rfl ?_
        refine pr_step rfl rfl rfl rfl ?_
        refine pr_istore rfl (Nat.le_of_ble_eq_true rfl) rfl ?_
        refine pr_aload_n rfl rfl ?_
        refine pr_getf rfl rfl rfl ?_
        refine pr_iload rfl rfl ?_
        refine pr_iald (p + 1) rfl hx_55 (by decide) (by decide) rfl (by omega) ?_
        refine pr_aload_n rfl rfl ?_
        refine pr_getf rfl rfl rfl ?_
        refine pr_iload_n rfl rfl ?_
        refine pr_iald (b) rfl hx_55 (by decide) (by decide) rfl (by omega) ?_
        refine pr_c_le rfl (fun c_197 => ?_) (fun c_197 => ?_)
        · skip
          refine pr_iload_n rfl rfl ?_
          refine pr_istore_n rfl (Nat.le_of_ble_eq_true rfl) rfl ?_
          refine pr_iinc rfl rfl (pw_inc (p + 1)) rfl ?_
          refine pr_step rfl rfl rfl rfl ?_
          first
            | exact ih (p + 1) (p + 1) true (by omega) (by rw [gp_st, hs]; dsimp only; rw [if_pos (by omega), decide_eq_true (by omega)]; rfl)
            | exact ih (p + 1) b true (by omega) (by rw [gp_st, hs]; dsimp only; rw [if_neg (by omega), decide_eq_false (by omega), decide_eq_true (by omega), pw_bo_1 c_174]; rfl)
            | exact ih (p + 1) b false (by omega) (by rw [gp_st, hs]; dsimp only; rw [if_neg (by omega), decide_eq_false (by omega), decide_eq_true (by omega), pw_bo_0 c_174]; rfl)
            | exact ih (p + 1) b false (by omega) (by rw [gp_st, hs]; dsimp only; rw [if_neg (by omega), decide_eq_false (by omega), decide_eq_false (by omega)]; rfl)
            | (exfalso; omega)
        · skip
          refine pr_iload rfl rfl ?_
          refine pr_step rfl rfl rfl rfl ?_
          refine pr_istore_n rfl (Nat.le_of_ble_eq_true rfl) rfl ?_
          refine pr_iinc rfl rfl (pw_inc (p + 1)) rfl ?_
          refine pr_step rfl rfl rfl rfl ?_
          first
            | exact ih (p + 1) (p + 1) true (by omega) (by rw [gp_st, hs]; dsimp only; rw [if_pos (by omega), decide_eq_true (by omega)]; rfl)
            | exact ih (p + 1) b true (by omega) (by rw [gp_st, hs]; dsimp only; rw [if_neg (by omega), decide_eq_false (by omega), decide_eq_true (by omega), pw_bo_1 c_174]; rfl)
            | exact ih (p + 1) b false (by omega) (by rw [gp_st, hs]; dsimp only; rw [if_neg (by omega), decide_eq_false (by omega), decide_eq_true (by omega), pw_bo_0 c_174]; rfl)
            | exact ih (p + 1) b false (by omega) (by rw [gp_st, hs]; dsimp only; rw [if_neg (by omega), decide_eq_false (by omega), decide_eq_false (by omega)]; rfl)
            | (exfalso; omega)
      · skip
        refine pr_aload_n rfl rfl ?_
        refine pr_getf rfl rfl rfl ?_
        refine pr_iload rfl rfl ?_
        refine pr_iald (p + 1) rfl hx_55 (by decide) (by decide) rfl (by omega) ?_
        refine pr_aload_n rfl rfl ?_
        refine pr_getf rfl rfl rfl ?_
        refine pr_iload_n rfl rfl ?_
        refine pr_iald (b) rfl hx_55 (by decide) (by decide) rfl (by omega) ?_
        refine pr_c_ge rfl (fun c_169 => ?_) (fun c_169 => ?_)
        · skip
          refine pr_push (v := 0) rfl rfl ?_
          refine pr_istore rfl (Nat.le_of_ble_eq_true rfl) rfl ?_
          refine pr_aload_n rfl rfl ?_
          refine pr_getf rfl rfl rfl ?_
          refine pr_iload rfl rfl ?_
          refine pr_iald (p + 1) rfl hx_55 (by decide) (by decide) rfl (by omega) ?_
          refine pr_aload_n rfl rfl ?_
          refine pr_getf rfl rfl rfl ?_
          refine pr_iload_n rfl rfl ?_
          refine pr_iald (b) rfl hx_55 (by decide) (by decide) rfl (by omega) ?_
          refine pr_c_le rfl (fun c_197 => ?_) (fun c_197 => ?_)
          · skip
            refine pr_iload_n rfl rfl ?_
            refine pr_istore_n rfl (Nat.le_of_ble_eq_true rfl) rfl ?_
            refine pr_iinc rfl rfl (pw_inc (p + 1)) rfl ?_
            refine pr_step rfl rfl rfl rfl ?_
            first
              | exact ih (p + 1) (p + 1) true (by omega) (by rw [gp_st, hs]; dsimp only; rw [if_pos (by omega), decide_eq_true (by omega)]; rfl)
              | exact ih (p + 1) b true (by omega) (by rw [gp_st, hs]; dsimp only; rw [if_neg (by omega), decide_eq_false (by omega), decide_eq_true (by omega), pw_bo_1 c_174]; rfl)
              | exact ih (p + 1) b false (by omega) (by rw [gp_st, hs]; dsimp only; rw [if_neg (by omega), decide_eq_false (by omega), decide_eq_true (by omega), pw_bo_0 c_174]; rfl)
              | exact ih (p + 1) b false (by omega) (by rw [gp_st, hs]; dsimp only; rw [if_neg (by omega), decide_eq_false (by omega), decide_eq_false (by omega)]; rfl)
              | (exfalso; omega)
          · skip
            refine pr_iload rfl rfl ?_
            refine pr_step rfl rfl rfl rfl ?_
            refine pr_istore_n rfl (Nat.le_of_ble_eq_true rfl) rfl ?_
            refine pr_iinc rfl rfl (pw_inc (p + 1)) rfl ?_
            refine pr_step rfl rfl rfl rfl ?_
            first
              | exact ih (p + 1) (p + 1) true (by omega) (by rw [gp_st, hs]; dsimp only; rw [if_pos (by omega), decide_eq_true (by omega)]; rfl)
              | exact ih (p + 1) b true (by omega) (by rw [gp_st, hs]; dsimp only; rw [if_neg (by omega), decide_eq_false (by omega), decide_eq_true (by omega), pw_bo_1 c_174]; rfl)
              | exact ih (p + 1) b false (by omega) (by rw [gp_st, hs]; dsimp only; rw [if_neg (by omega), decide_eq_false (by omega), decide_eq_true (by omega), pw_bo_0 c_174]; rfl)
              | exact ih (p + 1) b false (by omega) (by rw [gp_st, hs]; dsimp only; rw [if_neg (by omega), decide_eq_false (by omega), decide_eq_false (by omega)]; rfl)
              | (exfalso; omega)
        · skip
          refine pr_iload rfl rfl ?_
          refine pr_t_eq rfl (fun c_174 => ?_) (fun c_174 => ?_)
          · skip
            refine pr_push (v := 0) rfl rfl ?_
            refine pr_istore rfl (Nat.le_of_ble_eq_true rfl) rfl ?_
            refine pr_aload_n rfl rfl ?_
            refine pr_getf rfl rfl rfl ?_
            refine pr_iload rfl rfl ?_
            refine pr_iald (p + 1) rfl hx_55 (by decide) (by decide) rfl (by omega) ?_
            refine pr_aload_n rfl rfl ?_
            refine pr_getf rfl rfl rfl ?_
            refine pr_iload_n rfl rfl ?_
            refine pr_iald (b) rfl hx_55 (by decide) (by decide) rfl (by omega) ?_
            refine pr_c_le rfl (fun c_197 => ?_) (fun c_197 => ?_)
            · skip
              refine pr_iload_n rfl rfl ?_
              refine pr_istore_n rfl (Nat.le_of_ble_eq_true rfl) rfl ?_
              refine pr_iinc rfl rfl (pw_inc (p + 1)) rfl ?_
              refine pr_step rfl rfl rfl rfl ?_
              first
                | exact ih (p + 1) (p + 1) true (by omega) (by rw [gp_st, hs]; dsimp only; rw [if_pos (by omega), decide_eq_true (by omega)]; rfl)
                | exact ih (p + 1) b true (by omega) (by rw [gp_st, hs]; dsimp only; rw [if_neg (by omega), decide_eq_false (by omega), decide_eq_true (by omega), pw_bo_1 c_174]; rfl)
                | exact ih (p + 1) b false (by omega) (by rw [gp_st, hs]; dsimp only; rw [if_neg (by omega), decide_eq_false (by omega), decide_eq_true (by omega), pw_bo_0 c_174]; rfl)
                | exact ih (p + 1) b false (by omega) (by rw [gp_st, hs]; dsimp only; rw [if_neg (by omega), decide_eq_false (by omega), decide_eq_false (by omega)]; rfl)
                | (exfalso; omega)
            · skip
              refine pr_iload rfl rfl ?_
              refine pr_step rfl rfl rfl rfl ?_
              refine pr_istore_n rfl (Nat.le_of_ble_eq_true rfl) rfl ?_
              refine pr_iinc rfl rfl (pw_inc (p + 1)) rfl ?_
              refine pr_step rfl rfl rfl rfl ?_
              first
                | exact ih (p + 1) (p + 1) true (by omega) (by rw [gp_st, hs]; dsimp only; rw [if_pos (by omega), decide_eq_true (by omega)]; rfl)
                | exact ih (p + 1) b true (by omega) (by rw [gp_st, hs]; dsimp only; rw [if_neg (by omega), decide_eq_false (by omega), decide_eq_true (by omega), pw_bo_1 c_174]; rfl)
                | exact ih (p + 1) b false (by omega) (by rw [gp_st, hs]; dsimp only; rw [if_neg (by omega), decide_eq_false (by omega), decide_eq_true (by omega), pw_bo_0 c_174]; rfl)
                | exact ih (p + 1) b false (by omega) (by rw [gp_st, hs]; dsimp only; rw [if_neg (by omega), decide_eq_false (by omega), decide_eq_false (by omega)]; rfl)
                | (exfalso; omega)
          · skip
            refine pr_push (v := 1) rfl rfl ?_
            refine pr_step rfl rfl rfl rfl ?_
            refine pr_istore rfl (Nat.le_of_ble_eq_true rfl) rfl ?_
            refine pr_aload_n rfl rfl ?_
            refine pr_getf rfl rfl rfl ?_
            refine pr_iload rfl rfl ?_
            refine pr_iald (p + 1) rfl hx_55 (by decide) (by decide) rfl (by omega) ?_
            refine pr_aload_n rfl rfl ?_
            refine pr_getf rfl rfl rfl ?_
            refine pr_iload_n rfl rfl ?_
            refine pr_iald (b) rfl hx_55 (by decide) (by decide) rfl (by omega) ?_
            refine pr_c_le rfl (fun c_197 => ?_) (fun c_197 => ?_)
            · skip
              refine pr_iload_n rfl rfl ?_
              refine pr_istore_n rfl (Nat.le_of_ble_eq_true rfl) rfl ?_
              refine pr_iinc rfl rfl (pw_inc (p + 1)) rfl ?_
              refine pr_step rfl rfl rfl rfl ?_
              first
                | exact ih (p + 1) (p + 1) true (by omega) (by rw [gp_st, hs]; dsimp only; rw [if_pos (by omega), decide_eq_true (by omega)]; rfl)
                | exact ih (p + 1) b true (by omega) (by rw [gp_st, hs]; dsimp only; rw [if_neg (by omega), decide_eq_false (by omega), decide_eq_true (by omega), pw_bo_1 c_174]; rfl)
                | exact ih (p + 1) b false (by omega) (by rw [gp_st, hs]; dsimp only; rw [if_neg (by omega), decide_eq_false (by omega), decide_eq_true (by omega), pw_bo_0 c_174]; rfl)
                | exact ih (p + 1) b false (by omega) (by rw [gp_st, hs]; dsimp only; rw [if_neg (by omega), decide_eq_false (by omega), decide_eq_false (by omega)]; rfl)
                | (exfalso; omega)
            · skip
              refine pr_iload rfl rfl ?_
              refine pr_step rfl rfl rfl rfl ?_
              refine pr_istore_n rfl (Nat.le_of_ble_eq_true rfl) rfl ?_
              refine pr_iinc rfl rfl (pw_inc (p + 1)) rfl ?_
              refine pr_step rfl rfl rfl rfl ?_
              first
                | exact ih (p + 1) (p + 1) true (by omega) (by rw [gp_st, hs]; dsimp only; rw [if_pos (by omega), decide_eq_true (by omega)]; rfl)
                | exact ih (p + 1) b true (by omega) (by rw [gp_st, hs]; dsimp only; rw [if_neg (by omega), decide_eq_false (by omega), decide_eq_true (by omega), pw_bo_1 c_174]; rfl)
                | exact ih (p + 1) b false (by omega) (by rw [gp_st, hs]; dsimp only; rw [if_neg (by omega), decide_eq_false (by omega), decide_eq_true (by omega), pw_bo_0 c_174]; rfl)
                | exact ih (p + 1) b false (by omega) (by rw [gp_st, hs]; dsimp only; rw [if_neg (by omega), decide_eq_false (by omega), decide_eq_false (by omega)]; rfl)
                | (exfalso; omega)
theorem c_105 (d : Nat) {N : Nat} {xs : Nat → Int32} {zc zm : Nat → Int32} {e3 e11 e18 : Nat} {A : Nat → Nat → Int32} {g gh : Nat → Option Nat} {dy : pw_H} (P : Nat) (hP : zm 0 = nI P) (hPb : P ≤ 4) (E : Nat) (hE : zm 7 = nI E) (hEb : E ≤ 12) (hf : ∀ i, i < E → 0 ≤ (A 32 i).toInt) (j : Nat) (hj : j < 6) (yr : Int32) (hx hy w hh : Nat) (hhx : A 43 j = nI hx) (hhy : A 44 j = nI hy) (hhw : A 45 j = nI w) (hhh : A 46 j = nI hh) (hxw : hx + w ≤ 12) (hyh : hy + hh ≤ 12) (ho : gp_ok (fun f => ow_of A E P f yr)) : pw_M (d + 1) 105 [.inr (some 25), .inl (nI j), .inl yr] (hp_h N xs zc e3 e11 e18 zm A g gh dy) (pw_qi (fun r h' => r = gp_of (gp_all (fun f => ow_of A E P f yr) hx hy w hh) ∧ ∃ c : Nat → Int32, h' = (hp_h N xs zc e3 e11 e18 zm (uA A 55 c) g gh dy))) := by
  refine pr_push (v := 0) rfl rfl ?_
  refine pr_istore_n rfl (Nat.le_of_ble_eq_true rfl) rfl ?_
  refine pr_heap (show (hp_h N xs zc e3 e11 e18 zm A g gh dy) = (hp_h N xs zc e3 e11 e18 zm (uA A 55 (A 55)) g gh dy) by rw [uA_self]) ?_
  refine c_105_z d j yr none none _ (fun c g3 hc => ?_) 4 0 (A 55) (by omega) (fun i hi => absurd hi (Nat.not_lt_zero i))
  refine pr_aload_n rfl rfl ?_
  refine pr_getf rfl rfl rfl ?_
  refine pr_iload_n rfl rfl ?_
  refine pr_iald (j) rfl rfl (by decide) (by decide) rfl (by omega) ?_
  refine pr_top (show A 44 j = nI (hy + 0) from hhy) ?_
  refine pr_istore_n rfl (Nat.le_of_ble_eq_true rfl) rfl ?_
  refine c_105_y d P hP hPb E hE hEb hf j hj yr hx hy w hh hhx hhy hhw hhh hxw hyh ho _ (fun c2 h3 h4 h5 hc2 => ?_) hh 0 c _ _ (by omega) hc
  refine pr_push (v := 0) rfl rfl ?_
  refine pr_istore_n rfl (Nat.le_of_ble_eq_true rfl) rfl ?_
  refine pr_aload_n rfl rfl ?_
  refine pr_getf rfl rfl rfl ?_
  refine pr_push (v := 0) rfl rfl ?_
  refine pr_iald 0 rfl hx_55 (by decide) (by decide) rfl (by omega) ?_
  refine pr_z_le rfl (fun c_121 => ?_) (fun c_121 => ?_)
  · skip
    refine pr_push (v := 0) rfl rfl ?_
    refine pr_istore rfl (Nat.le_of_ble_eq_true rfl) rfl ?_
    refine pr_push (v := 1) rfl rfl ?_
    refine pr_istore rfl (Nat.le_of_ble_eq_true rfl) rfl ?_
    first
      | (have hz := c_121
         refine pr_post (c_105_e d j yr c2 3 0 0 false (by omega) (by unfold gp_st; rw [decide_eq_false (by omega)])) (fun r h1 hq => ?_)
         obtain ⟨x, e1, e2, e3⟩ := hq
         refine ⟨x, e1, ?_, c2, e3⟩
         rw [e2]
         unfold gp_of
         rw [gp_st_eq c2 (gp_all (fun f => ow_of A E P f yr) hx hy w hh) 3 (fun i hi => hc2 i (by omega))])
      | (have hz := c_121
         refine pr_post (c_105_e d j yr c2 3 0 0 true (by omega) (by unfold gp_st; rw [decide_eq_true (by omega)])) (fun r h1 hq => ?_)
         obtain ⟨x, e1, e2, e3⟩ := hq
         refine ⟨x, e1, ?_, c2, e3⟩
         rw [e2]
         unfold gp_of
         rw [gp_st_eq c2 (gp_all (fun f => ow_of A E P f yr) hx hy w hh) 3 (fun i hi => hc2 i (by omega))])
  · skip
    refine pr_push (v := 1) rfl rfl ?_
    refine pr_step rfl rfl rfl rfl ?_
    refine pr_istore rfl (Nat.le_of_ble_eq_true rfl) rfl ?_
    refine pr_push (v := 1) rfl rfl ?_
    refine pr_istore rfl (Nat.le_of_ble_eq_true rfl) rfl ?_
    first
      | (have hz := c_121
         refine pr_post (c_105_e d j yr c2 3 0 0 false (by omega) (by unfold gp_st; rw [decide_eq_false (by omega)])) (fun r h1 hq => ?_)
         obtain ⟨x, e1, e2, e3⟩ := hq
         refine ⟨x, e1, ?_, c2, e3⟩
         rw [e2]
         unfold gp_of
         rw [gp_st_eq c2 (gp_all (fun f => ow_of A E P f yr) hx hy w hh) 3 (fun i hi => hc2 i (by omega))])
      | (have hz := c_121
         refine pr_post (c_105_e d j yr c2 3 0 0 true (by omega) (by unfold gp_st; rw [decide_eq_true (by omega)])) (fun r h1 hq => ?_)
         obtain ⟨x, e1, e2, e3⟩ := hq
         refine ⟨x, e1, ?_, c2, e3⟩
         rw [e2]
         unfold gp_of
         rw [gp_st_eq c2 (gp_all (fun f => ow_of A E P f yr) hx hy w hh) 3 (fun i hi => hc2 i (by omega))])
