abbrev lc_55 := @c_55
section HP4
variable {N : Nat} {xs : Nat → Int32} {zc zm : Nat → Int32} {e3 e11 e18 : Nat} {A : Nat → Nat → Int32} {g gh : Nat → Option Nat} {dy : pw_H} {c c2 : Nat → Int32}
theorem ht_a23 : (hp_h N xs zc e3 e11 e18 zm (uA A 23 c) g gh dy).set 23 (.inl (0, 4, c2)) = (hp_h N xs zc e3 e11 e18 zm (uA A 23 c2) g gh dy) := rfl
theorem hx_23 : (hp_h N xs zc e3 e11 e18 zm (uA A 23 c) g gh dy)[23]? = some (.inl (0, 4, c)) := rfl
end HP4
/-- the most so far, and who has it alone -/
def gc_st (c : Nat → Int32) : Nat → Int32 × Int32
  | 0 => (0, -1)
  | p + 1 => if (gc_st c p).1.toInt < (c p).toInt then (c p, nI p) else if (c p).toInt = (gc_st c p).1.toInt then ((gc_st c p).1, -1) else gc_st c p
theorem gc_st_eq (c c2 : Nat → Int32) : ∀ p, (∀ i, i < p → c i = c2 i) → gc_st c p = gc_st c2 p
  | 0, _ => rfl
  | p + 1, h => by
    rw [gc_st, gc_st, gc_st_eq c c2 p (fun i hi => h i (by omega)), h p (by omega)]
theorem c_61_z (d : Nat) {N : Nat} {xs : Nat → Int32} {zc zm : Nat → Int32} {e3 e11 e18 : Nat} {A : Nat → Nat → Int32} {g gh : Nat → Option Nat} {dy : pw_H} {k : Nat} (yr : Int32) (g4 g5 : Option pw_V) (Q : Option pw_V → pw_H → Prop) (K : ∀ (c : Nat → Int32) (g3 : Option pw_V), (∀ i, i < 4 → c i = 0) → pw_W (d + 5) 61 20 [some (.inr (some 1)), some (.inr (some (57 + k))), some (.inl yr), g3, g4, g5] [] (hp_h N xs zc e3 e11 e18 zm (uA A 23 c) g gh dy) Q) : ∀ (n a : Nat) (c : Nat → Int32), a + n = 4 → (∀ i, i < a → c i = 0) → pw_W (d + 5) 61 2 [some (.inr (some 1)), some (.inr (some (57 + k))), some (.inl yr), some (.inl (nI a)), g4, g5] [] (hp_h N xs zc e3 e11 e18 zm (uA A 23 c) g gh dy) Q := by
  have z4 := pz_4
  intro n
  induction n with
  | zero =>
    intro a c ha hc
    obtain rfl : a = 4 := by omega
    have haT := pw_T (n := 4) (by omega)
    refine pr_iload_n rfl rfl ?_
    refine pr_push (v := 4) rfl rfl ?_
    refine pr_c_ge rfl (fun c_4 => ?_) (fun c_4 => ?_)
    · skip
      exact K c _ hc
    · skip
      exact absurd c_4 (by omega)
  | succ n ih =>
    intro a c ha hc
    have haT := pw_T (n := a) (by omega)
    refine pr_iload_n rfl rfl ?_
    refine pr_push (v := 4) rfl rfl ?_
    refine pr_c_ge rfl (fun c_4 => ?_) (fun c_4 => ?_)
    · skip
      exact absurd c_4 (by omega)
    · skip
      refine pr_aload_n rfl rfl ?_
      refine pr_getf rfl rfl rfl ?_
      refine pr_iload_n rfl rfl ?_
      refine pr_push (v := 0) rfl rfl ?_
      refine pr_iast (a) rfl hx_23 (by decide) rfl (by omega) ht_a23 ?_
      refine pr_iinc rfl rfl (pw_inc a) rfl ?_
      refine pr_step rfl rfl rfl rfl ?_
      exact ih (a + 1) (upd c a 0) (by omega) (fun i hi => by
        unfold upd
        split
        · rfl
        · exact hc i (by omega))
theorem c_61_x (d : Nat) {N : Nat} {xs : Nat → Int32} {zc zm : Nat → Int32} {e3 e11 e18 : Nat} {A : Nat → Nat → Int32} {g gh : Nat → Option Nat} {dy : pw_H} (b : Nat → Nat → Nat → Bool) (hsr : sr_ok g dy b) (he3 : e3 ≤ 12) {k : Nat} {dr he : Int32} (hx hy w hh : Nat) (hho : dy[k]? = some (.inr (.inr (0, [.inl (nI hx), .inl (nI hy), .inl (nI w), .inl (nI hh), .inl dr, .inl he])))) (hxw : hx + w ≤ 12) (hyh : hy + hh ≤ 12) (yr : Int32) (ho : gp_ok (co_of A e3 b yr)) (y : Nat) (hy12 : y < 12) (c0 : Nat → Int32) (Q : Option pw_V → pw_H → Prop) (K : ∀ (c : Nat → Int32) (g4 g5 : Option pw_V), (∀ i, i < 4 → c i = gp_row (co_of A e3 b yr) c0 (12 * y + hx) w i) → pw_W (d + 5) 61 98 [some (.inr (some 1)), some (.inr (some (57 + k))), some (.inl yr), some (.inl (nI y)), g4, g5] [] (hp_h N xs zc e3 e11 e18 zm (uA A 23 c) g gh dy) Q) : ∀ (n a : Nat) (c : Nat → Int32) (g5 : Option pw_V), a + n = w → (∀ i, i < 4 → c i = gp_row (co_of A e3 b yr) c0 (12 * y + hx) a i) → pw_W (d + 5) 61 44 [some (.inr (some 1)), some (.inr (some (57 + k))), some (.inl yr), some (.inl (nI y)), some (.inl (nI (hx + a))), g5] [] (hp_h N xs zc e3 e11 e18 zm (uA A 23 c) g gh dy) Q := by
  have z0 := pz_0
  have z3 := pz_3
  have zm1 := pz_m1
  have zxw := pw_T (n := hx + w) (by omega)
  intro n
  induction n with
  | zero =>
    intro a c g5 ha hc
    obtain rfl : a = w := by omega
    have haT := pw_T (n := hx + a) (by omega)
    refine pr_iload rfl rfl ?_
    refine pr_aload_n rfl rfl ?_
    refine pr_getf rfl (hp_dy.trans hho) rfl ?_
    refine pr_aload_n rfl rfl ?_
    refine pr_getf rfl (hp_dy.trans hho) rfl ?_
    refine pr_step rfl rfl rfl rfl ?_
    refine pr_top ((nI_add hx a)) ?_
    refine pr_c_ge rfl (fun c_55 => ?_) (fun c_55 => ?_)
    · skip
      exact K c _ _ hc
    · skip
      exact absurd c_55 (by omega)
  | succ n ih =>
    intro a c g5 ha hc
    have haT := pw_T (n := hx + a) (by omega)
    refine pr_iload rfl rfl ?_
    refine pr_aload_n rfl rfl ?_
    refine pr_getf rfl (hp_dy.trans hho) rfl ?_
    refine pr_aload_n rfl rfl ?_
    refine pr_getf rfl (hp_dy.trans hho) rfl ?_
    refine pr_step rfl rfl rfl rfl ?_
    refine pr_top ((nI_add hx w)) ?_
    refine pr_c_ge rfl (fun c_55 => ?_) (fun c_55 => ?_)
    · skip
      exact absurd c_55 (by omega)
    · skip
      refine pr_aload_n rfl rfl ?_
      refine pr_iload rfl rfl ?_
      refine pr_iload_n rfl rfl ?_
      refine pr_si2 rfl (by decide) (Nat.le_of_ble_eq_true rfl) (Nat.le_of_ble_eq_true rfl) (lc_55 _ _ _ _) (fun r_62 h_62 q_62 => ?_)
      obtain ⟨rfl, rfl⟩ := q_62
      refine pr_top (show 12 * nI y + nI (hx + a) = nI (12 * y + hx + a) from by rw [pw_at, Nat.add_assoc]) ?_
      refine pr_iload_n rfl rfl ?_
      refine pr_vi2 rfl (by decide) (Nat.le_of_ble_eq_true rfl) rfl (Nat.le_of_ble_eq_true rfl) (c_59 (A := (uA A 23 c)) _ b hsr he3 (12 * y + hx + a) (by omega) yr) (fun r_66 h_66 q_66 => ?_)
      obtain ⟨e_66, rfl⟩ := q_66
      have e2 : r_66 = co_of A e3 b yr (12 * y + hx + a) := e_66
      have hor := ho (12 * y + hx + a) (by omega)
      rw [← e2] at hor
      refine pr_istore rfl (Nat.le_of_ble_eq_true rfl) rfl ?_
      refine pr_iload rfl rfl ?_
      refine pr_push (v := 0) rfl rfl ?_
      refine pr_push (v := 3) rfl rfl ?_
      refine pr_si3 rfl (by decide) (Nat.le_of_ble_eq_true rfl) (Nat.le_of_ble_eq_true rfl) (c_48 _ _ _ _ _) (fun r_75 h_75 q_75 => ?_)
      obtain ⟨rfl, rfl⟩ := q_75
      refine pr_b_eq rfl (fun c_78 => ?_) (fun c_78 => ?_)
      · skip
        have hno : r_66 = -1 := by
          rcases hor with h | ⟨p, hp4, ep⟩
          · exact h
          · exfalso
            have e := pw_T (n := p) (by omega)
            rw [ep] at c_78
            exact c_78 ⟨by omega, by omega⟩
        refine pr_iinc rfl rfl (pw_inc (hx + a)) rfl ?_
        refine pr_step rfl rfl rfl rfl ?_
        first
        | exact ih (a + 1) (upd c p (c p + 1)) _ (by omega) (fun i hi => by
            have h2 := gp_add_yes (v := r_66) hc hne hp4 ep i hi
            rw [e2] at h2
            exact h2)
        | exact ih (a + 1) c _ (by omega) (fun i hi => by
            have h2 := gp_add_no (v := r_66) hc hno i hi
            rw [e2] at h2
            exact h2)
      · skip
        have hne : ¬ r_66 = -1 := fun h => by
          rw [h] at c_78
          have h9 := c_78.1
          omega
        obtain ⟨p, hp4, ep⟩ := hor.resolve_left hne
        refine pr_aload_n rfl rfl ?_
        refine pr_getf rfl rfl rfl ?_
        refine pr_iload rfl rfl ?_
        refine pr_step rfl rfl rfl rfl ?_
        refine pr_iald (p) rfl hx_23 (by decide) (by decide) ep (by omega) ?_
        refine pr_push (v := 1) rfl rfl ?_
        refine pr_step rfl rfl rfl rfl ?_
        refine pr_iast (p) rfl hx_23 (by decide) ep (by omega) ht_a23 ?_
        refine pr_iinc rfl rfl (pw_inc (hx + a)) rfl ?_
        refine pr_step rfl rfl rfl rfl ?_
        first
        | exact ih (a + 1) (upd c p (c p + 1)) _ (by omega) (fun i hi => by
            have h2 := gp_add_yes (v := r_66) hc hne hp4 ep i hi
            rw [e2] at h2
            exact h2)
        | exact ih (a + 1) c _ (by omega) (fun i hi => by
            have h2 := gp_add_no (v := r_66) hc hno i hi
            rw [e2] at h2
            exact h2)
theorem c_61_y (d : Nat) {N : Nat} {xs : Nat → Int32} {zc zm : Nat → Int32} {e3 e11 e18 : Nat} {A : Nat → Nat → Int32} {g gh : Nat → Option Nat} {dy : pw_H} (b : Nat → Nat → Nat → Bool) (hsr : sr_ok g dy b) (he3 : e3 ≤ 12) {k : Nat} {dr he : Int32} (hx hy w hh : Nat) (hho : dy[k]? = some (.inr (.inr (0, [.inl (nI hx), .inl (nI hy), .inl (nI w), .inl (nI hh), .inl dr, .inl he])))) (hxw : hx + w ≤ 12) (hyh : hy + hh ≤ 12) (yr : Int32) (ho : gp_ok (co_of A e3 b yr)) (Q : Option pw_V → pw_H → Prop) (K : ∀ (c : Nat → Int32) (g3 g4 g5 : Option pw_V), (∀ i, i < 4 → c i = gp_all (co_of A e3 b yr) hx hy w hh i) → pw_W (d + 5) 61 104 [some (.inr (some 1)), some (.inr (some (57 + k))), some (.inl yr), g3, g4, g5] [] (hp_h N xs zc e3 e11 e18 zm (uA A 23 c) g gh dy) Q) : ∀ (n a : Nat) (c : Nat → Int32) (g4 g5 : Option pw_V), a + n = hh → (∀ i, i < 4 → c i = gp_all (co_of A e3 b yr) hx hy w a i) → pw_W (d + 5) 61 25 [some (.inr (some 1)), some (.inr (some (57 + k))), some (.inl yr), some (.inl (nI (hy + a))), g4, g5] [] (hp_h N xs zc e3 e11 e18 zm (uA A 23 c) g gh dy) Q := by
  have zyh := pw_T (n := hy + hh) (by omega)
  intro n
  induction n with
  | zero =>
    intro a c g4 g5 ha hc
    obtain rfl : a = hh := by omega
    have haT := pw_T (n := hy + a) (by omega)
    refine pr_iload_n rfl rfl ?_
    refine pr_aload_n rfl rfl ?_
    refine pr_getf rfl (hp_dy.trans hho) rfl ?_
    refine pr_aload_n rfl rfl ?_
    refine pr_getf rfl (hp_dy.trans hho) rfl ?_
    refine pr_step rfl rfl rfl rfl ?_
    refine pr_top ((nI_add hy a)) ?_
    refine pr_c_ge rfl (fun c_35 => ?_) (fun c_35 => ?_)
    · skip
      exact K c _ _ _ hc
    · skip
      exact absurd c_35 (by omega)
  | succ n ih =>
    intro a c g4 g5 ha hc
    have haT := pw_T (n := hy + a) (by omega)
    refine pr_iload_n rfl rfl ?_
    refine pr_aload_n rfl rfl ?_
    refine pr_getf rfl (hp_dy.trans hho) rfl ?_
    refine pr_aload_n rfl rfl ?_
    refine pr_getf rfl (hp_dy.trans hho) rfl ?_
    refine pr_step rfl rfl rfl rfl ?_
    refine pr_top ((nI_add hy hh)) ?_
    refine pr_c_ge rfl (fun c_35 => ?_) (fun c_35 => ?_)
    · skip
      exact absurd c_35 (by omega)
    · skip
      refine pr_aload_n rfl rfl ?_
      refine pr_getf rfl (hp_dy.trans hho) rfl ?_
      refine pr_top (show nI hx = nI (hx + 0) from rfl) ?_
      refine pr_istore rfl (Nat.le_of_ble_eq_true rfl) rfl ?_
      refine c_61_x d b hsr he3 hx hy w hh hho hxw hyh yr ho (hy + a) (by omega) (gp_all (co_of A e3 b yr) hx hy w a) Q (fun c2 h4 h5 hc2 => ?_) w 0 c _ (by omega) hc
      refine pr_iinc rfl rfl (pw_inc (hy + a)) rfl ?_
      refine pr_step rfl rfl rfl rfl ?_
      exact ih (a + 1) c2 _ _ (by omega) hc2
theorem c_61_e (d : Nat) {N : Nat} {xs : Nat → Int32} {zc zm : Nat → Int32} {e3 e11 e18 : Nat} {A : Nat → Nat → Int32} {g gh : Nat → Option Nat} {dy : pw_H} {k : Nat} (yr : Int32) (c : Nat → Int32) : ∀ (n p : Nat) (m v : Int32), p + n = 4 → gc_st c p = (m, v) → pw_W (d + 5) 61 112 [some (.inr (some 1)), some (.inr (some (57 + k))), some (.inl yr), some (.inl m), some (.inl v), some (.inl (nI p))] [] (hp_h N xs zc e3 e11 e18 zm (uA A 23 c) g gh dy) (pw_qi (fun r h' => r = (gc_st c 4).2 ∧ h' = (hp_h N xs zc e3 e11 e18 zm (uA A 23 c) g gh dy))) := by
  have z4 := pz_4
  intro n
  induction n with
  | zero =>
    intro p m v hp hs
    obtain rfl : p = 4 := by omega
    have hpT := pw_T (n := 4) (by omega)
    refine pr_iload rfl rfl ?_
    refine pr_push (v := 4) rfl rfl ?_
    refine pr_c_ge rfl (fun c_115 => ?_) (fun c_115 => ?_)
    · skip
      refine pr_iload rfl rfl ?_
      exact pr_reti rfl rfl (⟨by rw [hs], rfl⟩)
    · skip
      exact absurd c_115 (by omega)
  | succ n ih =>
    intro p m v hp hs
    have hpT := pw_T (n := p) (by omega)
    refine pr_iload rfl rfl ?_
    refine pr_push (v := 4) rfl rfl ?_
    refine pr_c_ge rfl (fun c_115 => ?_) (fun c_115 => ?_)
    · skip
      exact absurd c_115 (by omega)
    · skip
      refine pr_aload_n rfl rfl ?_
      refine pr_getf rfl rfl rfl ?_
      refine pr_iload rfl rfl ?_
      refine pr_iald (p) rfl hx_23 (by decide) (by decide) rfl (by omega) ?_
      refine pr_iload_n rfl rfl ?_
      refine pr_c_le rfl (fun c_126 => ?_) (fun c_126 => ?_)
      · skip
        refine pr_aload_n rfl rfl ?_
        refine pr_getf rfl rfl rfl ?_
        refine pr_iload rfl rfl ?_
        refine pr_iald (p) rfl hx_23 (by decide) (by decide) rfl (by omega) ?_
        refine pr_iload_n rfl rfl ?_
        refine pr_u_ne rfl (fun c_152 => ?_) (fun c_152 => ?_)
        · skip
          refine pr_iinc rfl rfl (pw_inc p) rfl ?_
          refine pr_step rfl rfl rfl rfl ?_
          exact ih (p + 1) _ _ (by omega) (by
            rw [gc_st, hs]
            dsimp only
            first
            | rw [if_pos (by omega)]
            | rw [if_neg (by omega), if_pos (by omega)]
            | rw [if_neg (by omega), if_neg (by omega)])
        · skip
          refine pr_push (v := (-1)) rfl rfl ?_
          refine pr_istore rfl (Nat.le_of_ble_eq_true rfl) rfl ?_
          refine pr_iinc rfl rfl (pw_inc p) rfl ?_
          refine pr_step rfl rfl rfl rfl ?_
          exact ih (p + 1) _ _ (by omega) (by
            rw [gc_st, hs]
            dsimp only
            first
            | rw [if_pos (by omega)]
            | rw [if_neg (by omega), if_pos (by omega)]
            | rw [if_neg (by omega), if_neg (by omega)])
      · skip
        refine pr_aload_n rfl rfl ?_
        refine pr_getf rfl rfl rfl ?_
        refine pr_iload rfl rfl ?_
        refine pr_iald (p) rfl hx_23 (by decide) (by decide) rfl (by omega) ?_
        refine pr_istore_n rfl (Nat.le_of_ble_eq_true rfl) rfl ?_
        refine pr_iload rfl rfl ?_
        refine pr_istore rfl (Nat.le_of_ble_eq_true rfl) rfl ?_
        refine pr_step rfl rfl rfl rfl ?_
        refine pr_iinc rfl rfl (pw_inc p) rfl ?_
        refine pr_step rfl rfl rfl rfl ?_
        exact ih (p + 1) _ _ (by omega) (by
          rw [gc_st, hs]
          dsimp only
          first
          | rw [if_pos (by omega)]
          | rw [if_neg (by omega), if_pos (by omega)]
          | rw [if_neg (by omega), if_neg (by omega)])
theorem c_61 (d : Nat) {N : Nat} {xs : Nat → Int32} {zc zm : Nat → Int32} {e3 e11 e18 : Nat} {A : Nat → Nat → Int32} {g gh : Nat → Option Nat} {dy : pw_H} (b : Nat → Nat → Nat → Bool) (hsr : sr_ok g dy b) (he3 : e3 ≤ 12) {k : Nat} {dr he : Int32} (hx hy w hh : Nat) (hho : dy[k]? = some (.inr (.inr (0, [.inl (nI hx), .inl (nI hy), .inl (nI w), .inl (nI hh), .inl dr, .inl he])))) (hxw : hx + w ≤ 12) (hyh : hy + hh ≤ 12) (yr : Int32) (ho : gp_ok (co_of A e3 b yr)) : pw_M (d + 5) 61 [.inr (some 1), .inr (some (57 + k)), .inl yr] (hp_h N xs zc e3 e11 e18 zm A g gh dy) (pw_qi (fun r h' => r = (gc_st (gp_all (co_of A e3 b yr) hx hy w hh) 4).2 ∧ ∃ c : Nat → Int32, h' = (hp_h N xs zc e3 e11 e18 zm (uA A 23 c) g gh dy))) := by
  refine pr_push (v := 0) rfl rfl ?_
  refine pr_istore_n rfl (Nat.le_of_ble_eq_true rfl) rfl ?_
  refine pr_heap (show (hp_h N xs zc e3 e11 e18 zm A g gh dy) = (hp_h N xs zc e3 e11 e18 zm (uA A 23 (A 23)) g gh dy) by rw [uA_self]) ?_
  refine c_61_z d yr none none _ (fun c g3 hc => ?_) 4 0 (A 23) (by omega) (fun i hi => absurd hi (Nat.not_lt_zero i))
  refine pr_aload_n rfl rfl ?_
  refine pr_getf rfl (hp_dy.trans hho) rfl ?_
  refine pr_top (show nI hy = nI (hy + 0) from rfl) ?_
  refine pr_istore_n rfl (Nat.le_of_ble_eq_true rfl) rfl ?_
  refine c_61_y d b hsr he3 hx hy w hh hho hxw hyh yr ho _ (fun c2 h3 h4 h5 hc2 => ?_) hh 0 c _ _ (by omega) hc
  refine pr_push (v := 0) rfl rfl ?_
  refine pr_istore_n rfl (Nat.le_of_ble_eq_true rfl) rfl ?_
  refine pr_push (v := (-1)) rfl rfl ?_
  refine pr_istore rfl (Nat.le_of_ble_eq_true rfl) rfl ?_
  refine pr_push (v := 0) rfl rfl ?_
  refine pr_istore rfl (Nat.le_of_ble_eq_true rfl) rfl ?_
  refine pr_post (c_61_e d yr c2 4 0 0 (-1) (by omega) rfl) (fun r h1 hq => ?_)
  obtain ⟨x, e1, e2, e9⟩ := hq
  refine ⟨x, e1, ?_, c2, e9⟩
  rw [e2, gc_st_eq c2 (gp_all (co_of A e3 b yr) hx hy w hh) 4 hc2]
