section PWG
variable {d M pc : Nat} {L : pw_L} {st : List pw_V} {h : pw_H} {Q : Option pw_V → pw_H → Prop}
/-- a number on top, known by what holds of it -/
theorem pr_gen {x : Int32} (F : Int32 → Prop) (hx : F x) (k : ∀ y, F y → pw_W d M pc L (.inl y :: st) h Q) : pw_W d M pc L (.inl x :: st) h Q := k x hx
end PWG
abbrev iT (f : Nat → Int32) : Nat → Int := fun k => (f k).toInt
theorem pw_b_iff {P Q : Prop} [Decidable P] [Decidable Q] : pw_b P = pw_b Q ↔ (P ↔ Q) := by
  unfold pw_b
  by_cases h1 : P <;> by_cases h2 : Q
  · simp only [if_pos h1, if_pos h2, h1, h2]
  · rw [if_pos h1, if_neg h2]
    exact ⟨fun h => absurd h (by decide), fun h => absurd (h.mp h1) h2⟩
  · rw [if_neg h1, if_pos h2]
    exact ⟨fun h => absurd h (by decide), fun h => absurd (h.mpr h2) h1⟩
  · simp only [if_neg h1, if_neg h2, h1, h2]
theorem sg_le {e : Int32} (h : (sg_of e).toInt ≤ 0) : ¬ e.toInt < 2 := by
  intro h2
  rw [sg_of, if_pos h2] at h
  exact absurd h (by decide)
theorem sg_gt {e : Int32} (h : 0 < (sg_of e).toInt) : e.toInt < 2 := by
  by_cases h2 : e.toInt < 2
  · exact h2
  · rw [sg_of, if_neg h2] at h
    exact absurd h (by decide)
abbrev ll_ok (dr lo hi nd l : Int) : Prop := (dr < 2 ∧ lo ≤ nd - l ∧ nd - l ≤ hi) ∨ (¬ dr < 2 ∧ lo ≤ nd + l ∧ nd + l ≤ hi)
def ll_is (dr lo hi nd a b : Int) (r : Int32) : Prop := (∃ l, a ≤ l ∧ l ≤ b ∧ ll_ok dr lo hi nd l ∧ (∀ l2, a ≤ l2 → l2 < l → ¬ ll_ok dr lo hi nd l2) ∧ r.toInt = l) ∨ ((∀ l, a ≤ l → l ≤ b → ¬ ll_ok dr lo hi nd l) ∧ r = -1)
theorem ll_pick {D L U : Nat → Int} {n : Nat} (hw : wl_ok D L U n) {ax nd : Int} {i : Nat} (hi : i < n) (hd : D i % 2 = ax) {r : Int32} (hr : ll_is (D i) (wl_s (wl_mn D L U ax) (n - (i + 1)) (i + 1)) (wl_s (wl_mx D L U ax) (n - (i + 1)) (i + 1)) nd (L i) (U i) r) :
    ((wl_s (wl_mn D L U ax) (n - i) i ≤ nd ∧ nd ≤ wl_s (wl_mx D L U ax) (n - i) i) → r.toInt = wl_pick D L U n ax nd i) ∧ (¬ (wl_s (wl_mn D L U ax) (n - i) i ≤ nd ∧ nd ≤ wl_s (wl_mx D L U ax) (n - i) i) → r = -1) := by
  obtain ⟨c, hc⟩ : ∃ c, c = n - (i + 1) := ⟨_, rfl⟩
  rw [← hc] at hr
  rw [show n - i = c + 1 by omega]
  constructor
  · intro hf
    obtain ⟨h1, h2, h3⟩ := wl_step hw (ax := ax) (nd := nd) (i := i) (c := c) (by omega) hf hd
    generalize wl_pick D L U n ax nd i = pk at *
    have h4 := (h3 pk h1 (Int.le_refl pk)).mpr rfl
    rcases hr with ⟨l, g1, g2, g3, g4, g5⟩ | ⟨g1, g2⟩
    · rw [g5]
      rcases Int.lt_trichotomy l pk with hl | hl | hl
      · exfalso
        have h5 := (h3 l g1 (by omega)).mp (by
          rcases g3 with ⟨e1, e2⟩ | ⟨e1, e2⟩
          · rw [if_pos e1]; omega
          · rw [if_neg e1]; omega)
        omega
      · exact hl
      · exfalso
        refine g4 pk h1 hl ?_
        by_cases e1 : D i < 2
        · rw [if_pos e1] at h4
          exact Or.inl ⟨e1, by omega, by omega⟩
        · rw [if_neg e1] at h4
          exact Or.inr ⟨e1, by omega, by omega⟩
    · exfalso
      refine g1 pk h1 h2 ?_
      by_cases e1 : D i < 2
      · rw [if_pos e1] at h4
        exact Or.inl ⟨e1, by omega, by omega⟩
      · rw [if_neg e1] at h4
        exact Or.inr ⟨e1, by omega, by omega⟩
  · intro hf
    rcases hr with ⟨l, g1, g2, g3, g4, g5⟩ | ⟨g1, g2⟩
    · exfalso
      apply hf
      rw [wl_s, wl_s]
      generalize wl_s (wl_mn D L U ax) c (i + 1) = lo at *
      generalize wl_s (wl_mx D L U ax) c (i + 1) = hi2 at *
      rw [wl_mn, wl_mx, if_pos hd, if_pos hd]
      rcases g3 with ⟨e1, e2⟩ | ⟨e1, e2⟩
      · rw [if_pos e1, if_pos e1]; omega
      · rw [if_neg e1, if_neg e1]; omega
    · exact g2
theorem c_16_s (d : Nat) {H pst : pw_H} {x0 y0 : Int32} {D L U C R : Nat → Int32} {n : Nat} {hl hr : Int32} (hw : wl_ok (iT D) (iT L) (iT U) n) (i : Nat) (hi : i < n) (off : Int32) (TL TM : Int) (Q : Option pw_V → pw_H → Prop) (K : ∀ (l m : Int32) (g5 : Option pw_V), l.toInt = TL → m.toInt = TM → pw_W (d + 1) 16 101 [some (.inr (some H.length)), some (.inl (nI i)), some (.inl off), some (.inl l), some (.inl m), g5] [] (wk_h H pst x0 y0 D L U C R n hl hr) Q) : ∀ (c j : Nat) (l m : Int32), j + c = n → (-(12 * (j : Int)) ≤ l.toInt ∧ l.toInt ≤ 12 * (j : Int)) → (-(12 * (j : Int)) ≤ m.toInt ∧ m.toInt ≤ 12 * (j : Int)) → l.toInt + wl_s (wl_mn (iT D) (iT L) (iT U) ((D i).toInt % 2)) c j = TL → m.toInt + wl_s (wl_mx (iT D) (iT L) (iT U) ((D i).toInt % 2)) c j = TM → pw_W (d + 1) 16 10 [some (.inr (some H.length)), some (.inl (nI i)), some (.inl off), some (.inl l), some (.inl m), some (.inl (nI j))] [] (wk_h H pst x0 y0 D L U C R n hl hr) Q := by
  have hn12 := hw.1
  have hi2 := hw.2 i hi
  dsimp only [iT] at hi2
  have hnT := pw_T (n := n) (by omega)
  intro c
  induction c with
  | zero =>
    intro j l m hj hl1 hm1 hl hm
    obtain rfl : j = n := by omega
    rw [wl_s, Int.add_zero] at hl hm
    refine pr_iload rfl rfl ?_
    refine pr_aload_n rfl rfl ?_
    refine pr_getf rfl wr_100 rfl ?_
    refine pr_c_ge rfl (fun c_16 => ?_) (fun c_16 => ?_)
    · skip
      exact K l m _ hl hm
    · skip
      exact absurd c_16 (by omega)
  | succ c ih =>
    intro j l m hj hl1 hm1 hl hm
    have hjT := pw_T (n := j) (by omega)
    have hj2 := hw.2 j (by omega)
    dsimp only [iT] at hj2
    rw [wl_s, ← Int.add_assoc] at hl hm
    refine pr_iload rfl rfl ?_
    refine pr_aload_n rfl rfl ?_
    refine pr_getf rfl wr_100 rfl ?_
    refine pr_c_ge rfl (fun c_16 => ?_) (fun c_16 => ?_)
    · skip
      exact absurd c_16 (by omega)
    · skip
      refine pr_aload_n rfl rfl ?_
      refine pr_iload rfl rfl ?_
      refine pr_vi1 rfl (by decide) (Nat.le_of_ble_eq_true rfl) wr_100 (Nat.le_of_ble_eq_true rfl) (c_19 _ j (by omega) (by omega)) (fun r_22 h_22 q_22 => ?_)
      obtain ⟨rfl, rfl⟩ := q_22
      refine pr_aload_n rfl rfl ?_
      refine pr_iload_n rfl rfl ?_
      refine pr_vi1 rfl (by decide) (Nat.le_of_ble_eq_true rfl) wr_100 (Nat.le_of_ble_eq_true rfl) (c_19 _ i (by omega) (by omega)) (fun r_27 h_27 q_27 => ?_)
      obtain ⟨rfl, rfl⟩ := q_27
      refine pr_c_ne rfl (fun c_30 => ?_) (fun c_30 => ?_)
      · skip
        have hne : ¬ iT D j % 2 = ((D i).toInt % 2) := fun z => c_30 (pw_b_iff.mpr (by dsimp only [iT] at z; omega))
        have hz1 : wl_mn (iT D) (iT L) (iT U) ((D i).toInt % 2) j = 0 := by rw [wl_mn, if_neg hne]
        have hz2 : wl_mx (iT D) (iT L) (iT U) ((D i).toInt % 2) j = 0 := by rw [wl_mx, if_neg hne]
        clear c_30 hne
        refine pr_iinc rfl rfl (pw_inc j) rfl ?_
        refine pr_step rfl rfl rfl rfl ?_
        first
        | exact ih (j + 1) l2 m2 (by omega) (by omega) (by omega) (by rw [hl2]; exact hl) (by rw [hm2]; exact hm)
        | exact ih (j + 1) l m (by omega) (by omega) (by omega) (by rw [hz1, Int.add_zero] at hl; exact hl) (by rw [hz2, Int.add_zero] at hm; exact hm)
      · skip
        have heq : iT D j % 2 = ((D i).toInt % 2) := by
          have z := pw_b_iff.mp c_30
          dsimp only [iT]
          omega
        clear c_30
        refine pr_iload_n rfl rfl ?_
        refine pr_aload_n rfl rfl ?_
        refine pr_iload rfl rfl ?_
        refine pr_vi1 rfl (by decide) (Nat.le_of_ble_eq_true rfl) wr_100 (Nat.le_of_ble_eq_true rfl) (c_20 _ j (by omega)) (fun r_37 h_37 q_37 => ?_)
        obtain ⟨rfl, rfl⟩ := q_37
        refine pr_z_le rfl (fun c_40 => ?_) (fun c_40 => ?_)
        · skip
          have s40 := sg_le c_40
          clear c_40
          refine pr_aload_n rfl rfl ?_
          refine pr_getf rfl wr_100 rfl ?_
          refine pr_iload rfl rfl ?_
          refine pr_iald (j) rfl wr_103 (by decide) (by decide) rfl (by omega) ?_
          refine pr_step rfl rfl rfl rfl ?_
          refine pr_step rfl rfl rfl rfl ?_
          refine pr_gen (fun w => w.toInt = l.toInt + wl_mn (iT D) (iT L) (iT U) ((D i).toInt % 2) j) (by
            rw [wl_mn, if_pos (by assumption)]
            dsimp only [iT]
            first
            | rw [if_pos (by assumption), pw_addT (by omega) (by omega)]
            | rw [if_neg (by assumption), pw_addT (by omega) (by rw [pw_negT (by omega)]; omega), pw_negT (by omega)]) (fun l2 hl2 => ?_)
          have hbl2 := wl_mn_le hw (ax := ((D i).toInt % 2)) (k := j) (by omega)
          refine pr_istore_n rfl (Nat.le_of_ble_eq_true rfl) rfl ?_
          refine pr_iload rfl rfl ?_
          refine pr_aload_n rfl rfl ?_
          refine pr_iload rfl rfl ?_
          refine pr_vi1 rfl (by decide) (Nat.le_of_ble_eq_true rfl) wr_100 (Nat.le_of_ble_eq_true rfl) (c_20 _ j (by omega)) (fun r_68 h_68 q_68 => ?_)
          obtain ⟨rfl, rfl⟩ := q_68
          refine pr_z_le rfl (fun c_71 => ?_) (fun c_71 => ?_)
          · skip
            have s71 := sg_le c_71
            clear c_71
            refine pr_aload_n rfl rfl ?_
            refine pr_getf rfl wr_100 rfl ?_
            refine pr_iload rfl rfl ?_
            refine pr_iald (j) rfl wr_102 (by decide) (by decide) rfl (by omega) ?_
            refine pr_step rfl rfl rfl rfl ?_
            refine pr_step rfl rfl rfl rfl ?_
            refine pr_gen (fun w => w.toInt = m.toInt + wl_mx (iT D) (iT L) (iT U) ((D i).toInt % 2) j) (by
              rw [wl_mx, if_pos (by assumption)]
              dsimp only [iT]
              first
              | exact absurd s40 s71
              | exact absurd s71 s40
              | rw [if_pos (by assumption), pw_addT (by omega) (by omega)]
              | rw [if_neg (by assumption), pw_addT (by omega) (by rw [pw_negT (by omega)]; omega), pw_negT (by omega)]) (fun m2 hm2 => ?_)
            have hbm2 := wl_mn_le hw (ax := ((D i).toInt % 2)) (k := j) (by omega)
            refine pr_istore rfl (Nat.le_of_ble_eq_true rfl) rfl ?_
            refine pr_iinc rfl rfl (pw_inc j) rfl ?_
            refine pr_step rfl rfl rfl rfl ?_
            first
            | exact ih (j + 1) l2 m2 (by omega) (by omega) (by omega) (by rw [hl2]; exact hl) (by rw [hm2]; exact hm)
            | exact ih (j + 1) l m (by omega) (by omega) (by omega) (by rw [hz1, Int.add_zero] at hl; exact hl) (by rw [hz2, Int.add_zero] at hm; exact hm)
          · skip
            have s71 := sg_gt c_71
            clear c_71
            refine pr_aload_n rfl rfl ?_
            refine pr_getf rfl wr_100 rfl ?_
            refine pr_iload rfl rfl ?_
            refine pr_iald (j) rfl wr_103 (by decide) (by decide) rfl (by omega) ?_
            refine pr_step rfl rfl rfl rfl ?_
            refine pr_step rfl rfl rfl rfl ?_
            refine pr_gen (fun w => w.toInt = m.toInt + wl_mx (iT D) (iT L) (iT U) ((D i).toInt % 2) j) (by
              rw [wl_mx, if_pos (by assumption)]
              dsimp only [iT]
              first
              | exact absurd s40 s71
              | exact absurd s71 s40
              | rw [if_pos (by assumption), pw_addT (by omega) (by omega)]
              | rw [if_neg (by assumption), pw_addT (by omega) (by rw [pw_negT (by omega)]; omega), pw_negT (by omega)]) (fun m2 hm2 => ?_)
            have hbm2 := wl_mn_le hw (ax := ((D i).toInt % 2)) (k := j) (by omega)
            refine pr_istore rfl (Nat.le_of_ble_eq_true rfl) rfl ?_
            refine pr_iinc rfl rfl (pw_inc j) rfl ?_
            refine pr_step rfl rfl rfl rfl ?_
            first
            | exact ih (j + 1) l2 m2 (by omega) (by omega) (by omega) (by rw [hl2]; exact hl) (by rw [hm2]; exact hm)
            | exact ih (j + 1) l m (by omega) (by omega) (by omega) (by rw [hz1, Int.add_zero] at hl; exact hl) (by rw [hz2, Int.add_zero] at hm; exact hm)
        · skip
          have s40 := sg_gt c_40
          clear c_40
          refine pr_aload_n rfl rfl ?_
          refine pr_getf rfl wr_100 rfl ?_
          refine pr_iload rfl rfl ?_
          refine pr_iald (j) rfl wr_102 (by decide) (by decide) rfl (by omega) ?_
          refine pr_step rfl rfl rfl rfl ?_
          refine pr_step rfl rfl rfl rfl ?_
          refine pr_gen (fun w => w.toInt = l.toInt + wl_mn (iT D) (iT L) (iT U) ((D i).toInt % 2) j) (by
            rw [wl_mn, if_pos (by assumption)]
            dsimp only [iT]
            first
            | rw [if_pos (by assumption), pw_addT (by omega) (by omega)]
            | rw [if_neg (by assumption), pw_addT (by omega) (by rw [pw_negT (by omega)]; omega), pw_negT (by omega)]) (fun l2 hl2 => ?_)
          have hbl2 := wl_mn_le hw (ax := ((D i).toInt % 2)) (k := j) (by omega)
          refine pr_istore_n rfl (Nat.le_of_ble_eq_true rfl) rfl ?_
          refine pr_iload rfl rfl ?_
          refine pr_aload_n rfl rfl ?_
          refine pr_iload rfl rfl ?_
          refine pr_vi1 rfl (by decide) (Nat.le_of_ble_eq_true rfl) wr_100 (Nat.le_of_ble_eq_true rfl) (c_20 _ j (by omega)) (fun r_68 h_68 q_68 => ?_)
          obtain ⟨rfl, rfl⟩ := q_68
          refine pr_z_le rfl (fun c_71 => ?_) (fun c_71 => ?_)
          · skip
            have s71 := sg_le c_71
            clear c_71
            refine pr_aload_n rfl rfl ?_
            refine pr_getf rfl wr_100 rfl ?_
            refine pr_iload rfl rfl ?_
            refine pr_iald (j) rfl wr_102 (by decide) (by decide) rfl (by omega) ?_
            refine pr_step rfl rfl rfl rfl ?_
            refine pr_step rfl rfl rfl rfl ?_
            refine pr_gen (fun w => w.toInt = m.toInt + wl_mx (iT D) (iT L) (iT U) ((D i).toInt % 2) j) (by
              rw [wl_mx, if_pos (by assumption)]
              dsimp only [iT]
              first
              | exact absurd s40 s71
              | exact absurd s71 s40
              | rw [if_pos (by assumption), pw_addT (by omega) (by omega)]
              | rw [if_neg (by assumption), pw_addT (by omega) (by rw [pw_negT (by omega)]; omega), pw_negT (by omega)]) (fun m2 hm2 => ?_)
            have hbm2 := wl_mn_le hw (ax := ((D i).toInt % 2)) (k := j) (by omega)
            refine pr_istore rfl (Nat.le_of_ble_eq_true rfl) rfl ?_
            refine pr_iinc rfl rfl (pw_inc j) rfl ?_
            refine pr_step rfl rfl rfl rfl ?_
            first
            | exact ih (j + 1) l2 m2 (by omega) (by omega) (by omega) (by rw [hl2]; exact hl) (by rw [hm2]; exact hm)
            | exact ih (j + 1) l m (by omega) (by omega) (by omega) (by rw [hz1, Int.add_zero] at hl; exact hl) (by rw [hz2, Int.add_zero] at hm; exact hm)
          · skip
            have s71 := sg_gt c_71
            clear c_71
            refine pr_aload_n rfl rfl ?_
            refine pr_getf rfl wr_100 rfl ?_
            refine pr_iload rfl rfl ?_
            refine pr_iald (j) rfl wr_103 (by decide) (by decide) rfl (by omega) ?_
            refine pr_step rfl rfl rfl rfl ?_
            refine pr_step rfl rfl rfl rfl ?_
            refine pr_gen (fun w => w.toInt = m.toInt + wl_mx (iT D) (iT L) (iT U) ((D i).toInt % 2) j) (by
              rw [wl_mx, if_pos (by assumption)]
              dsimp only [iT]
              first
              | exact absurd s40 s71
              | exact absurd s71 s40
              | rw [if_pos (by assumption), pw_addT (by omega) (by omega)]
              | rw [if_neg (by assumption), pw_addT (by omega) (by rw [pw_negT (by omega)]; omega), pw_negT (by omega)]) (fun m2 hm2 => ?_)
            have hbm2 := wl_mn_le hw (ax := ((D i).toInt % 2)) (k := j) (by omega)
            refine pr_istore rfl (Nat.le_of_ble_eq_true rfl) rfl ?_
            refine pr_iinc rfl rfl (pw_inc j) rfl ?_
            refine pr_step rfl rfl rfl rfl ?_
            first
            | exact ih (j + 1) l2 m2 (by omega) (by omega) (by omega) (by rw [hl2]; exact hl) (by rw [hm2]; exact hm)
            | exact ih (j + 1) l m (by omega) (by omega) (by omega) (by rw [hz1, Int.add_zero] at hl; exact hl) (by rw [hz2, Int.add_zero] at hm; exact hm)
theorem c_16_f (d : Nat) {H pst : pw_H} {x0 y0 : Int32} {D L U C R : Nat → Int32} {n : Nat} {hl hr : Int32} (hw : wl_ok (iT D) (iT L) (iT U) n) (i : Nat) (hi : i < n) (off : Int32) (hoff : -1000 ≤ off.toInt ∧ off.toInt ≤ 1000) (l m : Int32) : ∀ (c : Nat) (v : Int32), v.toInt + c = (U i).toInt + 1 → (L i).toInt ≤ v.toInt → (∀ l2, (L i).toInt ≤ l2 → l2 < v.toInt → ¬ ll_ok (D i).toInt l.toInt m.toInt (-off.toInt) l2) → pw_W (d + 1) 16 109 [some (.inr (some H.length)), some (.inl (nI i)), some (.inl off), some (.inl l), some (.inl m), some (.inl v)] [] (wk_h H pst x0 y0 D L U C R n hl hr) (pw_qi (fun r h' => ll_is (D i).toInt l.toInt m.toInt (-off.toInt) (L i).toInt (U i).toInt r ∧ h' = (wk_h H pst x0 y0 D L U C R n hl hr))) := by
  have hn12 := hw.1
  have hi2 := hw.2 i hi
  dsimp only [iT] at hi2
  have z1 := pz_1
  intro c
  induction c with
  | zero =>
    intro v hv hv1 hno
    refine pr_iload rfl rfl ?_
    refine pr_aload_n rfl rfl ?_
    refine pr_getf rfl wr_100 rfl ?_
    refine pr_iload_n rfl rfl ?_
    refine pr_iald (i) rfl wr_103 (by decide) (by decide) rfl (by omega) ?_
    refine pr_c_gt rfl (fun c_117 => ?_) (fun c_117 => ?_)
    · skip
      refine pr_push (v := (-1)) rfl rfl ?_
      exact pr_reti rfl rfl (⟨Or.inr ⟨fun l2 h1 h2 => hno l2 h1 (by omega), rfl⟩, rfl⟩)
    · skip
      exact absurd c_117 (by omega)
  | succ c ih =>
    intro v hv hv1 hno
    obtain ⟨v2, hv2, hv2T⟩ : ∃ v2 : Int32, v + Int32.ofInt 1 = v2 ∧ v2.toInt = v.toInt + 1 := ⟨_, rfl, by rw [show Int32.ofInt 1 = 1 from rfl, pw_addT (by omega) (by omega), z1]⟩
    refine pr_iload rfl rfl ?_
    refine pr_aload_n rfl rfl ?_
    refine pr_getf rfl wr_100 rfl ?_
    refine pr_iload_n rfl rfl ?_
    refine pr_iald (i) rfl wr_103 (by decide) (by decide) rfl (by omega) ?_
    refine pr_c_gt rfl (fun c_117 => ?_) (fun c_117 => ?_)
    · skip
      exact absurd c_117 (by omega)
    · skip
      refine pr_iload_n rfl rfl ?_
      refine pr_aload_n rfl rfl ?_
      refine pr_iload_n rfl rfl ?_
      refine pr_vi1 rfl (by decide) (Nat.le_of_ble_eq_true rfl) wr_100 (Nat.le_of_ble_eq_true rfl) (c_20 _ i (by omega)) (fun r_123 h_123 q_123 => ?_)
      obtain ⟨rfl, rfl⟩ := q_123
      refine pr_iload rfl rfl ?_
      refine pr_step rfl rfl rfl rfl ?_
      refine pr_step rfl rfl rfl rfl ?_
      refine pr_step rfl rfl rfl rfl ?_
      have hsm := sg_mul (e := D i) (c := v) (by omega)
      refine pr_gen (fun w => ((D i).toInt < 2 ∧ w.toInt = -off.toInt - v.toInt) ∨ (¬ (D i).toInt < 2 ∧ w.toInt = -off.toInt + v.toInt)) (by
        by_cases e1 : (D i).toInt < 2
        · rw [if_pos e1] at hsm
          have e2 := pw_addT (a := off) (b := sg_of (D i) * v) (by omega) (by omega)
          rw [pw_negT (by omega), e2]
          exact Or.inl ⟨e1, by omega⟩
        · rw [if_neg e1] at hsm
          have e2 := pw_addT (a := off) (b := sg_of (D i) * v) (by omega) (by omega)
          rw [pw_negT (by omega), e2]
          exact Or.inr ⟨e1, by omega⟩) (fun w hw1 => ?_)
      clear hsm
      refine pr_iload_n rfl rfl ?_
      refine pr_iload rfl rfl ?_
      refine pr_si3 rfl (by decide) (Nat.le_of_ble_eq_true rfl) (Nat.le_of_ble_eq_true rfl) (c_48 _ _ _ _ _) (fun r_134 h_134 q_134 => ?_)
      obtain ⟨rfl, rfl⟩ := q_134
      refine pr_b_eq rfl (fun c_137 => ?_) (fun c_137 => ?_)
      · skip
        refine pr_iinc rfl rfl hv2 rfl ?_
        refine pr_step rfl rfl rfl rfl ?_
        exact ih v2 (by omega) (by omega) (fun l2 h1 h2 => by
          by_cases h3 : l2 < v.toInt
          · exact hno l2 h1 h3
          · intro h4
            obtain rfl : l2 = v.toInt := by omega
            exact c_137 (by omega))
      · skip
        refine pr_iload rfl rfl ?_
        exact pr_reti rfl rfl (⟨Or.inl ⟨v.toInt, hv1, by omega, by omega, hno, rfl⟩, rfl⟩)
theorem c_16 (d : Nat) {H pst : pw_H} {x0 y0 : Int32} {D L U C R : Nat → Int32} {n : Nat} {hl hr : Int32} (hw : wl_ok (iT D) (iT L) (iT U) n) (i : Nat) (hi : i < n) (off : Int32) (hoff : -1000 ≤ off.toInt ∧ off.toInt ≤ 1000) : pw_M (d + 1) 16 [.inr (some H.length), .inl (nI i), .inl off] (wk_h H pst x0 y0 D L U C R n hl hr) (pw_qi (fun r h' => ll_is (D i).toInt (wl_s (wl_mn (iT D) (iT L) (iT U) ((D i).toInt % 2)) (n - (i + 1)) (i + 1)) (wl_s (wl_mx (iT D) (iT L) (iT U) ((D i).toInt % 2)) (n - (i + 1)) (i + 1)) (-off.toInt) (L i).toInt (U i).toInt r ∧ h' = (wk_h H pst x0 y0 D L U C R n hl hr))) := by
  have hn12 := hw.1
  have hi2 := hw.2 i hi
  dsimp only [iT] at hi2
  have z0 := pz_0
  refine pr_push (v := 0) rfl rfl ?_
  refine pr_istore_n rfl (Nat.le_of_ble_eq_true rfl) rfl ?_
  refine pr_push (v := 0) rfl rfl ?_
  refine pr_istore rfl (Nat.le_of_ble_eq_true rfl) rfl ?_
  refine pr_iload_n rfl rfl ?_
  refine pr_push (v := 1) rfl rfl ?_
  refine pr_step rfl rfl rfl rfl ?_
  refine pr_top (nI_1 i) ?_
  refine pr_istore rfl (Nat.le_of_ble_eq_true rfl) rfl ?_
  refine c_16_s d hw i hi off (wl_s (wl_mn (iT D) (iT L) (iT U) ((D i).toInt % 2)) (n - (i + 1)) (i + 1)) (wl_s (wl_mx (iT D) (iT L) (iT U) ((D i).toInt % 2)) (n - (i + 1)) (i + 1)) _ (fun l m g5 hl hm => ?_) (n - (i + 1)) (i + 1) 0 0 (by omega) (by omega) (by omega) (by rw [z0, Int.zero_add]) (by rw [z0, Int.zero_add])
  rw [← hl, ← hm]
  refine pr_aload_n rfl rfl ?_
  refine pr_getf rfl wr_100 rfl ?_
  refine pr_iload_n rfl rfl ?_
  refine pr_iald (i) rfl wr_102 (by decide) (by decide) rfl (by omega) ?_
  refine pr_istore rfl (Nat.le_of_ble_eq_true rfl) rfl ?_
  exact c_16_f d hw i hi off hoff l m ((U i).toInt + 1 - (L i).toInt).toNat (L i) (by omega) (by omega) (fun l2 h1 h2 => absurd h2 (by omega))
