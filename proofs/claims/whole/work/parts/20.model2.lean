theorem pw_subT {a b : Int32} (h1 : -1000000000 ≤ a.toInt ∧ a.toInt ≤ 1000000000) (h2 : -1000000000 ≤ b.toInt ∧ b.toInt ≤ 1000000000) : (a - b).toInt = a.toInt - b.toInt := by
  rw [Int32.toInt_sub]
  exact Int.bmod_eq_of_le (by omega) (by omega)
/-- the best entry so far, by its place, and what the ledger's run gives -/
def md_inv (bi : Int32) (s : Int32 × Int32) (ot : Int32) (f2 f4 : Nat → Int32) (i : Nat) : Prop := (bi = -1 ∧ s = (-1, ot)) ∨ ∃ b, b < i ∧ bi = nI b ∧ s = (f2 b, f4 b)
section MD
variable {th yr kn ot bi : Int32} {f1 f2 f3 f4 : Nat → Int32} {i : Nat}
theorem md_no (hv : md_inv bi (ld_run th yr kn ot f1 f2 f3 f4 i) ot f2 f4 i) (hc : ¬ (f1 i = th ∧ (f2 i).toInt ≤ yr.toInt ∧ (f3 i).toInt ≤ kn.toInt)) : md_inv bi (ld_run th yr kn ot f1 f2 f3 f4 (i + 1)) ot f2 f4 (i + 1) := by
  have e : ld_run th yr kn ot f1 f2 f3 f4 (i + 1) = ld_run th yr kn ot f1 f2 f3 f4 i := if_neg (fun hh => hc ⟨hh.1, hh.2.1, hh.2.2.1⟩)
  rw [e]
  rcases hv with h | ⟨b, h1, h2⟩
  · exact Or.inl h
  · exact Or.inr ⟨b, by omega, h2⟩
theorem md_yes (hc : f1 i = th ∧ (f2 i).toInt ≤ yr.toInt ∧ (f3 i).toInt ≤ kn.toInt) (hs : (ld_run th yr kn ot f1 f2 f3 f4 i).1.toInt ≤ (f2 i).toInt) : md_inv (nI i) (ld_run th yr kn ot f1 f2 f3 f4 (i + 1)) ot f2 f4 (i + 1) := by
  have e : ld_run th yr kn ot f1 f2 f3 f4 (i + 1) = (f2 i, f4 i) := if_pos ⟨hc.1, hc.2.1, hc.2.2, hs⟩
  rw [e]
  exact Or.inr ⟨i, by omega, rfl, rfl⟩
theorem md_lt (hv : md_inv bi (ld_run th yr kn ot f1 f2 f3 f4 i) ot f2 f4 i) (hs : ¬ (ld_run th yr kn ot f1 f2 f3 f4 i).1.toInt ≤ (f2 i).toInt) : md_inv bi (ld_run th yr kn ot f1 f2 f3 f4 (i + 1)) ot f2 f4 (i + 1) := by
  have e : ld_run th yr kn ot f1 f2 f3 f4 (i + 1) = ld_run th yr kn ot f1 f2 f3 f4 i := if_neg (fun hh => hs hh.2.2.2)
  rw [e]
  rcases hv with h | ⟨b, h1, h2⟩
  · exact Or.inl h
  · exact Or.inr ⟨b, by omega, h2⟩
end MD
def wh_of (A : Nat → Nat → Int32) (T j : Nat) (yr kn : Int32) : Int32 :=
  if yr.toInt < (A 35 j).toInt ∨ kn.toInt < (A 35 j).toInt then -1 else (ld_run (nI j) yr kn (A 36 j) (A 38) (A 39) (A 40) (A 41) T).2
theorem c_98_loop (d : Nat) {N : Nat} {xs : Nat → Int32} {zc zm : Nat → Int32} {e3 e11 e18 : Nat} {A : Nat → Nat → Int32} {g gh : Nat → Option Nat} {dy : pw_H} (T : Nat) (hT : zm 16 = nI T) (hTb : T ≤ 60) (j : Nat) (hj : j < 12) (yr kn : Int32) (hf : ∀ i, i < T → 0 ≤ ((A 39) i).toInt) : ∀ (k i : Nat) (bi : Int32), i + k = T → md_inv bi (ld_run (nI j) yr kn (A 36 j) (A 38) (A 39) (A 40) (A 41) i) (A 36 j) ((A 39)) ((A 41)) i → pw_W (d + 0) 98 28 [some (.inr (some 25)), some (.inl (nI j)), some (.inl yr), some (.inl kn), some (.inl bi), some (.inl (nI i))] [] (hp_h N xs zc e3 e11 e18 zm A g gh dy) (pw_qi (fun r h' => r = (ld_run (nI j) yr kn (A 36 j) (A 38) (A 39) (A 40) (A 41) T).2 ∧ h' = (hp_h N xs zc e3 e11 e18 zm A g gh dy))) := by
  have z0 := pz_0
  have z1 := pz_1
  have z2 := pz_2
  have z3 := pz_3
  have z4 := pz_4
  have z6 := pz_6
  have z7 := pz_7
  have z10 := pz_10
  have z11 := pz_11
  have z12 := pz_12
  have z20 := pz_20
  have z30 := pz_30
  have z50 := pz_50
  have z60 := pz_60
  have z80 := pz_80
  have z300 := pz_300
  have zm1 := pz_m1
  have hTT : (zm 16).toInt = (T : Int) := by rw [hT]; exact pw_T (by omega)
  have hTP : (zm 16 - 1).toInt = (T : Int) - 1 := by rw [hT]; exact pw_pred (by omega)
  intro k
  induction k with
  | zero =>
    intro i bi hi hv
    obtain rfl : i = T := by omega
    have hiT := pw_T (n := i) (by omega)
    rcases hv with ⟨rfl, hs⟩ | ⟨b, hb, rfl, hs⟩
    · skip
      refine pr_iload rfl rfl ?_
      refine pr_aload_n rfl rfl ?_
      refine pr_getf rfl rfl rfl ?_
      refine pr_c_ge rfl (fun c_34 => ?_) (fun c_34 => ?_)
      · skip
        refine pr_iload rfl rfl ?_
        refine pr_push (v := (-1)) rfl rfl ?_
        refine pr_step rfl rfl rfl rfl ?_
        refine pr_aload_n rfl rfl ?_
        refine pr_getf rfl rfl rfl ?_
        refine pr_iload_n rfl rfl ?_
        refine pr_iald (j) rfl rfl (by decide) (by decide) rfl (by omega) ?_
        refine pr_step rfl rfl rfl rfl ?_
        exact pr_reti rfl rfl (⟨by rw [hs], rfl⟩)
      · skip
        exact absurd c_34 (by omega)
    · have hbT := pw_T (n := b) (by omega)
      refine pr_iload rfl rfl ?_
      refine pr_aload_n rfl rfl ?_
      refine pr_getf rfl rfl rfl ?_
      refine pr_c_ge rfl (fun c_34 => ?_) (fun c_34 => ?_)
      · skip
        refine pr_iload rfl rfl ?_
        refine pr_push (v := (-1)) rfl rfl ?_
        refine pr_u_ne rfl (fun c_111 => ?_) (fun c_111 => ?_)
        · skip
          refine pr_aload_n rfl rfl ?_
          refine pr_getf rfl rfl rfl ?_
          refine pr_iload rfl rfl ?_
          refine pr_iald (b) rfl rfl (by decide) (by decide) rfl (by omega) ?_
          exact pr_reti rfl rfl (⟨by rw [hs], rfl⟩)
        · skip
          exact absurd c_111 (by omega)
      · skip
        exact absurd c_34 (by omega)
  | succ k ih =>
    intro i bi hi hv
    have hiT := pw_T (n := i) (by omega)
    have hfi := hf i (by omega)
    have hv0 := hv
    rcases hv with ⟨rfl, hs⟩ | ⟨b, hb, rfl, hs⟩
    · skip
      refine pr_iload rfl rfl ?_
      refine pr_aload_n rfl rfl ?_
      refine pr_getf rfl rfl rfl ?_
      refine pr_c_ge rfl (fun c_34 => ?_) (fun c_34 => ?_)
      · skip
        exact absurd c_34 (by omega)
      · skip
        refine pr_aload_n rfl rfl ?_
        refine pr_getf rfl rfl rfl ?_
        refine pr_iload rfl rfl ?_
        refine pr_iald (i) rfl rfl (by decide) (by decide) rfl (by omega) ?_
        refine pr_iload_n rfl rfl ?_
        refine pr_c_ne rfl (fun c_45 => ?_) (fun c_45 => ?_)
        · skip
          refine pr_iinc rfl rfl (pw_inc i) rfl ?_
          refine pr_step rfl rfl rfl rfl ?_
          first
            | exact ih (i + 1) _ (by omega) (md_no hv0 (by rintro ⟨q1, q2, q3⟩; first | (exact absurd q1 (by assumption)) | omega))
            | exact ih (i + 1) _ (by omega) (md_yes ⟨by assumption, by omega, by first | omega | decide⟩ (by rw [hs]; dsimp only; omega))
        · skip
          refine pr_aload_n rfl rfl ?_
          refine pr_getf rfl rfl rfl ?_
          refine pr_iload rfl rfl ?_
          refine pr_iald (i) rfl rfl (by decide) (by decide) rfl (by omega) ?_
          refine pr_iload_n rfl rfl ?_
          refine pr_c_gt rfl (fun c_56 => ?_) (fun c_56 => ?_)
          · skip
            refine pr_iinc rfl rfl (pw_inc i) rfl ?_
            refine pr_step rfl rfl rfl rfl ?_
            first
              | exact ih (i + 1) _ (by omega) (md_no hv0 (by rintro ⟨q1, q2, q3⟩; first | (exact absurd q1 (by assumption)) | omega))
              | exact ih (i + 1) _ (by omega) (md_yes ⟨by assumption, by omega, by first | omega | decide⟩ (by rw [hs]; dsimp only; omega))
          · skip
            refine pr_aload_n rfl rfl ?_
            refine pr_getf rfl rfl rfl ?_
            refine pr_iload rfl rfl ?_
            refine pr_iald (i) rfl rfl (by decide) (by decide) rfl (by omega) ?_
            refine pr_iload_n rfl rfl ?_
            refine pr_c_gt rfl (fun c_67 => ?_) (fun c_67 => ?_)
            · skip
              refine pr_iinc rfl rfl (pw_inc i) rfl ?_
              refine pr_step rfl rfl rfl rfl ?_
              first
                | exact ih (i + 1) _ (by omega) (md_no hv0 (by rintro ⟨q1, q2, q3⟩; first | (exact absurd q1 (by assumption)) | omega))
                | exact ih (i + 1) _ (by omega) (md_yes ⟨by assumption, by omega, by first | omega | decide⟩ (by rw [hs]; dsimp only; omega))
            · skip
              refine pr_iload rfl rfl ?_
              refine pr_push (v := (-1)) rfl rfl ?_
              refine pr_step rfl rfl rfl rfl ?_
              refine pr_iload rfl rfl ?_
              refine pr_step rfl rfl rfl rfl ?_
              refine pr_istore rfl (Nat.le_of_ble_eq_true rfl) rfl ?_
              refine pr_iinc rfl rfl (pw_inc i) rfl ?_
              refine pr_step rfl rfl rfl rfl ?_
              first
                | exact ih (i + 1) _ (by omega) (md_no hv0 (by rintro ⟨q1, q2, q3⟩; first | (exact absurd q1 (by assumption)) | omega))
                | exact ih (i + 1) _ (by omega) (md_yes ⟨by assumption, by omega, by first | omega | decide⟩ (by rw [hs]; dsimp only; omega))
    · have hbT := pw_T (n := b) (by omega)
      have hfb := hf b (by omega)
      refine pr_iload rfl rfl ?_
      refine pr_aload_n rfl rfl ?_
      refine pr_getf rfl rfl rfl ?_
      refine pr_c_ge rfl (fun c_34 => ?_) (fun c_34 => ?_)
      · skip
        exact absurd c_34 (by omega)
      · skip
        refine pr_aload_n rfl rfl ?_
        refine pr_getf rfl rfl rfl ?_
        refine pr_iload rfl rfl ?_
        refine pr_iald (i) rfl rfl (by decide) (by decide) rfl (by omega) ?_
        refine pr_iload_n rfl rfl ?_
        refine pr_c_ne rfl (fun c_45 => ?_) (fun c_45 => ?_)
        · skip
          refine pr_iinc rfl rfl (pw_inc i) rfl ?_
          refine pr_step rfl rfl rfl rfl ?_
          first
            | exact ih (i + 1) _ (by omega) (md_no hv0 (by rintro ⟨q1, q2, q3⟩; first | (exact absurd q1 (by assumption)) | omega))
            | exact ih (i + 1) _ (by omega) (md_lt hv0 (by rw [hs]; dsimp only; omega))
            | exact ih (i + 1) _ (by omega) (md_yes ⟨by assumption, by omega, by first | omega | decide⟩ (by rw [hs]; dsimp only; omega))
        · skip
          refine pr_aload_n rfl rfl ?_
          refine pr_getf rfl rfl rfl ?_
          refine pr_iload rfl rfl ?_
          refine pr_iald (i) rfl rfl (by decide) (by decide) rfl (by omega) ?_
          refine pr_iload_n rfl rfl ?_
          refine pr_c_gt rfl (fun c_56 => ?_) (fun c_56 => ?_)
          · skip
            refine pr_iinc rfl rfl (pw_inc i) rfl ?_
            refine pr_step rfl rfl rfl rfl ?_
            first
              | exact ih (i + 1) _ (by omega) (md_no hv0 (by rintro ⟨q1, q2, q3⟩; first | (exact absurd q1 (by assumption)) | omega))
              | exact ih (i + 1) _ (by omega) (md_lt hv0 (by rw [hs]; dsimp only; omega))
              | exact ih (i + 1) _ (by omega) (md_yes ⟨by assumption, by omega, by first | omega | decide⟩ (by rw [hs]; dsimp only; omega))
          · skip
            refine pr_aload_n rfl rfl ?_
            refine pr_getf rfl rfl rfl ?_
            refine pr_iload rfl rfl ?_
            refine pr_iald (i) rfl rfl (by decide) (by decide) rfl (by omega) ?_
            refine pr_iload_n rfl rfl ?_
            refine pr_c_gt rfl (fun c_67 => ?_) (fun c_67 => ?_)
            · skip
              refine pr_iinc rfl rfl (pw_inc i) rfl ?_
              refine pr_step rfl rfl rfl rfl ?_
              first
                | exact ih (i + 1) _ (by omega) (md_no hv0 (by rintro ⟨q1, q2, q3⟩; first | (exact absurd q1 (by assumption)) | omega))
                | exact ih (i + 1) _ (by omega) (md_lt hv0 (by rw [hs]; dsimp only; omega))
                | exact ih (i + 1) _ (by omega) (md_yes ⟨by assumption, by omega, by first | omega | decide⟩ (by rw [hs]; dsimp only; omega))
            · skip
              refine pr_iload rfl rfl ?_
              refine pr_push (v := (-1)) rfl rfl ?_
              refine pr_u_eq rfl (fun c_73 => ?_) (fun c_73 => ?_)
              · skip
                exact absurd c_73 (by omega)
              · skip
                refine pr_aload_n rfl rfl ?_
                refine pr_getf rfl rfl rfl ?_
                refine pr_iload rfl rfl ?_
                refine pr_iald (i) rfl rfl (by decide) (by decide) rfl (by omega) ?_
                refine pr_aload_n rfl rfl ?_
                refine pr_getf rfl rfl rfl ?_
                refine pr_iload rfl rfl ?_
                refine pr_iald (b) rfl rfl (by decide) (by decide) rfl (by omega) ?_
                refine pr_c_lt rfl (fun c_90 => ?_) (fun c_90 => ?_)
                · skip
                  refine pr_iload rfl rfl ?_
                  refine pr_istore rfl (Nat.le_of_ble_eq_true rfl) rfl ?_
                  refine pr_iinc rfl rfl (pw_inc i) rfl ?_
                  refine pr_step rfl rfl rfl rfl ?_
                  first
                    | exact ih (i + 1) _ (by omega) (md_no hv0 (by rintro ⟨q1, q2, q3⟩; first | (exact absurd q1 (by assumption)) | omega))
                    | exact ih (i + 1) _ (by omega) (md_lt hv0 (by rw [hs]; dsimp only; omega))
                    | exact ih (i + 1) _ (by omega) (md_yes ⟨by assumption, by omega, by first | omega | decide⟩ (by rw [hs]; dsimp only; omega))
                · skip
                  refine pr_iload rfl rfl ?_
                  refine pr_step rfl rfl rfl rfl ?_
                  refine pr_istore rfl (Nat.le_of_ble_eq_true rfl) rfl ?_
                  refine pr_iinc rfl rfl (pw_inc i) rfl ?_
                  refine pr_step rfl rfl rfl rfl ?_
                  first
                    | exact ih (i + 1) _ (by omega) (md_no hv0 (by rintro ⟨q1, q2, q3⟩; first | (exact absurd q1 (by assumption)) | omega))
                    | exact ih (i + 1) _ (by omega) (md_lt hv0 (by rw [hs]; dsimp only; omega))
                    | exact ih (i + 1) _ (by omega) (md_yes ⟨by assumption, by omega, by first | omega | decide⟩ (by rw [hs]; dsimp only; omega))
theorem c_98 (d : Nat) {N : Nat} {xs : Nat → Int32} {zc zm : Nat → Int32} {e3 e11 e18 : Nat} {A : Nat → Nat → Int32} {g gh : Nat → Option Nat} {dy : pw_H} (T : Nat) (hT : zm 16 = nI T) (hTb : T ≤ 60) (hf : ∀ i, i < T → 0 ≤ (A 39 i).toInt) (j : Nat) (hj : j < 12) (yr kn : Int32) : pw_M (d + 0) 98 [.inr (some 25), .inl (nI j), .inl yr, .inl kn] (hp_h N xs zc e3 e11 e18 zm A g gh dy) (pw_qi (fun r h' => r = wh_of A T j yr kn ∧ h' = (hp_h N xs zc e3 e11 e18 zm A g gh dy))) := by
  refine pr_aload_n rfl rfl ?_
  refine pr_getf rfl rfl rfl ?_
  refine pr_iload_n rfl rfl ?_
  refine pr_iald (j) rfl rfl (by decide) (by decide) rfl (by omega) ?_
  refine pr_iload_n rfl rfl ?_
  refine pr_c_gt rfl (fun c_7 => ?_) (fun c_7 => ?_)
  · skip
    refine pr_push (v := (-1)) rfl rfl ?_
    exact pr_reti rfl rfl (⟨by unfold wh_of; rw [if_pos (by omega)], rfl⟩)
  · skip
    refine pr_aload_n rfl rfl ?_
    refine pr_getf rfl rfl rfl ?_
    refine pr_iload_n rfl rfl ?_
    refine pr_iald (j) rfl rfl (by decide) (by decide) rfl (by omega) ?_
    refine pr_iload_n rfl rfl ?_
    refine pr_c_le rfl (fun c_17 => ?_) (fun c_17 => ?_)
    · skip
      refine pr_push (v := (-1)) rfl rfl ?_
      refine pr_istore rfl (Nat.le_of_ble_eq_true rfl) rfl ?_
      refine pr_push (v := 0) rfl rfl ?_
      refine pr_istore rfl (Nat.le_of_ble_eq_true rfl) rfl ?_
      unfold wh_of
      rw [if_neg (by omega)]
      exact c_98_loop d T hT hTb j hj yr kn hf T 0 (-1) (by omega) (Or.inl ⟨rfl, rfl⟩)
    · skip
      refine pr_push (v := (-1)) rfl rfl ?_
      exact pr_reti rfl rfl (⟨by unfold wh_of; rw [if_pos (by omega)], rfl⟩)
theorem c_104_loop (d : Nat) {N : Nat} {xs : Nat → Int32} {zc zm : Nat → Int32} {e3 e11 e18 : Nat} {A : Nat → Nat → Int32} {g gh : Nat → Option Nat} {dy : pw_H} (U : Nat) (hU : zm 30 = nI U) (hUb : U ≤ 10) (th yr : Int32) (hf : ∀ i, i < U → 0 ≤ ((A 50) i).toInt) : ∀ (k i : Nat) (bi : Int32), i + k = U → md_inv bi (ld_run th yr 0 0 (A 49) (A 50) (fun _ => 0) (A 51) i) 0 ((A 50)) ((A 51)) i → pw_W (d + 0) 104 5 [some (.inr (some 25)), some (.inl th), some (.inl yr), some (.inl bi), some (.inl (nI i))] [] (hp_h N xs zc e3 e11 e18 zm A g gh dy) (pw_qi (fun r h' => r = (ld_run th yr 0 0 (A 49) (A 50) (fun _ => 0) (A 51) U).2 ∧ h' = (hp_h N xs zc e3 e11 e18 zm A g gh dy))) := by
  have z0 := pz_0
  have z1 := pz_1
  have z2 := pz_2
  have z3 := pz_3
  have z4 := pz_4
  have z6 := pz_6
  have z7 := pz_7
  have z10 := pz_10
  have z11 := pz_11
  have z12 := pz_12
  have z20 := pz_20
  have z30 := pz_30
  have z50 := pz_50
  have z60 := pz_60
  have z80 := pz_80
  have z300 := pz_300
  have zm1 := pz_m1
  have hUT : (zm 30).toInt = (U : Int) := by rw [hU]; exact pw_T (by omega)
  have hUP : (zm 30 - 1).toInt = (U : Int) - 1 := by rw [hU]; exact pw_pred (by omega)
  intro k
  induction k with
  | zero =>
    intro i bi hi hv
    obtain rfl : i = U := by omega
    have hiT := pw_T (n := i) (by omega)
    rcases hv with ⟨rfl, hs⟩ | ⟨b, hb, rfl, hs⟩
    · skip
      refine pr_iload rfl rfl ?_
      refine pr_aload_n rfl rfl ?_
      refine pr_getf rfl rfl rfl ?_
      refine pr_c_ge rfl (fun c_11 => ?_) (fun c_11 => ?_)
      · skip
        refine pr_iload_n rfl rfl ?_
        refine pr_push (v := (-1)) rfl rfl ?_
        refine pr_step rfl rfl rfl rfl ?_
        refine pr_push (v := 0) rfl rfl ?_
        refine pr_step rfl rfl rfl rfl ?_
        exact pr_reti rfl rfl (⟨by rw [hs], rfl⟩)
      · skip
        exact absurd c_11 (by omega)
    · have hbT := pw_T (n := b) (by omega)
      refine pr_iload rfl rfl ?_
      refine pr_aload_n rfl rfl ?_
      refine pr_getf rfl rfl rfl ?_
      refine pr_c_ge rfl (fun c_11 => ?_) (fun c_11 => ?_)
      · skip
        refine pr_iload_n rfl rfl ?_
        refine pr_push (v := (-1)) rfl rfl ?_
        refine pr_u_ne rfl (fun c_72 => ?_) (fun c_72 => ?_)
        · skip
          refine pr_aload_n rfl rfl ?_
          refine pr_getf rfl rfl rfl ?_
          refine pr_iload_n rfl rfl ?_
          refine pr_iald (b) rfl rfl (by decide) (by decide) rfl (by omega) ?_
          exact pr_reti rfl rfl (⟨by rw [hs], rfl⟩)
        · skip
          exact absurd c_72 (by omega)
      · skip
        exact absurd c_11 (by omega)
  | succ k ih =>
    intro i bi hi hv
    have hiT := pw_T (n := i) (by omega)
    have hfi := hf i (by omega)
    have hv0 := hv
    rcases hv with ⟨rfl, hs⟩ | ⟨b, hb, rfl, hs⟩
    · skip
      refine pr_iload rfl rfl ?_
      refine pr_aload_n rfl rfl ?_
      refine pr_getf rfl rfl rfl ?_
      refine pr_c_ge rfl (fun c_11 => ?_) (fun c_11 => ?_)
      · skip
        exact absurd c_11 (by omega)
      · skip
        refine pr_aload_n rfl rfl ?_
        refine pr_getf rfl rfl rfl ?_
        refine pr_iload rfl rfl ?_
        refine pr_iald (i) rfl rfl (by decide) (by decide) rfl (by omega) ?_
        refine pr_iload_n rfl rfl ?_
        refine pr_c_ne rfl (fun c_22 => ?_) (fun c_22 => ?_)
        · skip
          refine pr_iinc rfl rfl (pw_inc i) rfl ?_
          refine pr_step rfl rfl rfl rfl ?_
          first
            | exact ih (i + 1) _ (by omega) (md_no hv0 (by rintro ⟨q1, q2, q3⟩; first | (exact absurd q1 (by assumption)) | omega))
            | exact ih (i + 1) _ (by omega) (md_yes ⟨by assumption, by omega, by first | omega | decide⟩ (by rw [hs]; dsimp only; omega))
        · skip
          refine pr_aload_n rfl rfl ?_
          refine pr_getf rfl rfl rfl ?_
          refine pr_iload rfl rfl ?_
          refine pr_iald (i) rfl rfl (by decide) (by decide) rfl (by omega) ?_
          refine pr_iload_n rfl rfl ?_
          refine pr_c_gt rfl (fun c_33 => ?_) (fun c_33 => ?_)
          · skip
            refine pr_iinc rfl rfl (pw_inc i) rfl ?_
            refine pr_step rfl rfl rfl rfl ?_
            first
              | exact ih (i + 1) _ (by omega) (md_no hv0 (by rintro ⟨q1, q2, q3⟩; first | (exact absurd q1 (by assumption)) | omega))
              | exact ih (i + 1) _ (by omega) (md_yes ⟨by assumption, by omega, by first | omega | decide⟩ (by rw [hs]; dsimp only; omega))
          · skip
            refine pr_iload_n rfl rfl ?_
            refine pr_push (v := (-1)) rfl rfl ?_
            refine pr_step rfl rfl rfl rfl ?_
            refine pr_iload rfl rfl ?_
            refine pr_step rfl rfl rfl rfl ?_
            refine pr_istore_n rfl (Nat.le_of_ble_eq_true rfl) rfl ?_
            refine pr_iinc rfl rfl (pw_inc i) rfl ?_
            refine pr_step rfl rfl rfl rfl ?_
            first
              | exact ih (i + 1) _ (by omega) (md_no hv0 (by rintro ⟨q1, q2, q3⟩; first | (exact absurd q1 (by assumption)) | omega))
              | exact ih (i + 1) _ (by omega) (md_yes ⟨by assumption, by omega, by first | omega | decide⟩ (by rw [hs]; dsimp only; omega))
    · have hbT := pw_T (n := b) (by omega)
      have hfb := hf b (by omega)
      refine pr_iload rfl rfl ?_
      refine pr_aload_n rfl rfl ?_
      refine pr_getf rfl rfl rfl ?_
      refine pr_c_ge rfl (fun c_11 => ?_) (fun c_11 => ?_)
      · skip
        exact absurd c_11 (by omega)
      · skip
        refine pr_aload_n rfl rfl ?_
        refine pr_getf rfl rfl rfl ?_
        refine pr_iload rfl rfl ?_
        refine pr_iald (i) rfl rfl (by decide) (by decide) rfl (by omega) ?_
        refine pr_iload_n rfl rfl ?_
        refine pr_c_ne rfl (fun c_22 => ?_) (fun c_22 => ?_)
        · skip
          refine pr_iinc rfl rfl (pw_inc i) rfl ?_
          refine pr_step rfl rfl rfl rfl ?_
          first
            | exact ih (i + 1) _ (by omega) (md_no hv0 (by rintro ⟨q1, q2, q3⟩; first | (exact absurd q1 (by assumption)) | omega))
            | exact ih (i + 1) _ (by omega) (md_lt hv0 (by rw [hs]; dsimp only; omega))
            | exact ih (i + 1) _ (by omega) (md_yes ⟨by assumption, by omega, by first | omega | decide⟩ (by rw [hs]; dsimp only; omega))
        · skip
          refine pr_aload_n rfl rfl ?_
          refine pr_getf rfl rfl rfl ?_
          refine pr_iload rfl rfl ?_
          refine pr_iald (i) rfl rfl (by decide) (by decide) rfl (by omega) ?_
          refine pr_iload_n rfl rfl ?_
          refine pr_c_gt rfl (fun c_33 => ?_) (fun c_33 => ?_)
          · skip
            refine pr_iinc rfl rfl (pw_inc i) rfl ?_
            refine pr_step rfl rfl rfl rfl ?_
            first
              | exact ih (i + 1) _ (by omega) (md_no hv0 (by rintro ⟨q1, q2, q3⟩; first | (exact absurd q1 (by assumption)) | omega))
              | exact ih (i + 1) _ (by omega) (md_lt hv0 (by rw [hs]; dsimp only; omega))
              | exact ih (i + 1) _ (by omega) (md_yes ⟨by assumption, by omega, by first | omega | decide⟩ (by rw [hs]; dsimp only; omega))
          · skip
            refine pr_iload_n rfl rfl ?_
            refine pr_push (v := (-1)) rfl rfl ?_
            refine pr_u_eq rfl (fun c_38 => ?_) (fun c_38 => ?_)
            · skip
              exact absurd c_38 (by omega)
            · skip
              refine pr_aload_n rfl rfl ?_
              refine pr_getf rfl rfl rfl ?_
              refine pr_iload rfl rfl ?_
              refine pr_iald (i) rfl rfl (by decide) (by decide) rfl (by omega) ?_
              refine pr_aload_n rfl rfl ?_
              refine pr_getf rfl rfl rfl ?_
              refine pr_iload_n rfl rfl ?_
              refine pr_iald (b) rfl rfl (by decide) (by decide) rfl (by omega) ?_
              refine pr_c_lt rfl (fun c_54 => ?_) (fun c_54 => ?_)
              · skip
                refine pr_iload_n rfl rfl ?_
                refine pr_istore_n rfl (Nat.le_of_ble_eq_true rfl) rfl ?_
                refine pr_iinc rfl rfl (pw_inc i) rfl ?_
                refine pr_step rfl rfl rfl rfl ?_
                first
                  | exact ih (i + 1) _ (by omega) (md_no hv0 (by rintro ⟨q1, q2, q3⟩; first | (exact absurd q1 (by assumption)) | omega))
                  | exact ih (i + 1) _ (by omega) (md_lt hv0 (by rw [hs]; dsimp only; omega))
                  | exact ih (i + 1) _ (by omega) (md_yes ⟨by assumption, by omega, by first | omega | decide⟩ (by rw [hs]; dsimp only; omega))
              · skip
                refine pr_iload rfl rfl ?_
                refine pr_step rfl rfl rfl rfl ?_
                refine pr_istore_n rfl (Nat.le_of_ble_eq_true rfl) rfl ?_
                refine pr_iinc rfl rfl (pw_inc i) rfl ?_
                refine pr_step rfl rfl rfl rfl ?_
                first
                  | exact ih (i + 1) _ (by omega) (md_no hv0 (by rintro ⟨q1, q2, q3⟩; first | (exact absurd q1 (by assumption)) | omega))
                  | exact ih (i + 1) _ (by omega) (md_lt hv0 (by rw [hs]; dsimp only; omega))
                  | exact ih (i + 1) _ (by omega) (md_yes ⟨by assumption, by omega, by first | omega | decide⟩ (by rw [hs]; dsimp only; omega))
theorem c_104 (d : Nat) {N : Nat} {xs : Nat → Int32} {zc zm : Nat → Int32} {e3 e11 e18 : Nat} {A : Nat → Nat → Int32} {g gh : Nat → Option Nat} {dy : pw_H} (U : Nat) (hU : zm 30 = nI U) (hUb : U ≤ 10) (hf : ∀ i, i < U → 0 ≤ (A 50 i).toInt) (th yr : Int32) : pw_M (d + 0) 104 [.inr (some 25), .inl th, .inl yr] (hp_h N xs zc e3 e11 e18 zm A g gh dy) (pw_qi (fun r h' => r = (ld_run th yr 0 0 (A 49) (A 50) (fun _ => 0) (A 51) U).2 ∧ h' = (hp_h N xs zc e3 e11 e18 zm A g gh dy))) := by
  refine pr_push (v := (-1)) rfl rfl ?_
  refine pr_istore_n rfl (Nat.le_of_ble_eq_true rfl) rfl ?_
  refine pr_push (v := 0) rfl rfl ?_
  refine pr_istore rfl (Nat.le_of_ble_eq_true rfl) rfl ?_
  exact c_104_loop d U hU hUb th yr hf U 0 (-1) (by omega) (Or.inl ⟨rfl, rfl⟩)
theorem c_95 (d : Nat) {N : Nat} {xs : Nat → Int32} {zc zm : Nat → Int32} {e3 e11 e18 : Nat} {A : Nat → Nat → Int32} {g gh : Nat → Option Nat} {dy : pw_H} (Y : Nat) (hY : zm 11 = nI Y) (hYb : Y ≤ 300) (S : Nat) (hS : zm 12 = nI S) (hSb : S ≤ 12) (s y : Int32) : pw_M (d + 2) 95 [.inr (some 25), .inl s, .inl y] (hp_h N xs zc e3 e11 e18 zm A g gh dy) (pw_qi (fun r h' => ((¬ pw_bt s 0 (zm 12 - 1) ∧ r = 0) ∨ ∃ j : Nat, j < S ∧ s = nI j ∧ r = pw_b (pw_bt y (A 35 j) (zm 11))) ∧ h' = (hp_h N xs zc e3 e11 e18 zm A g gh dy))) := by
  have z0 := pz_0
  have z1 := pz_1
  have z2 := pz_2
  have z3 := pz_3
  have z4 := pz_4
  have z6 := pz_6
  have z7 := pz_7
  have z10 := pz_10
  have z11 := pz_11
  have z12 := pz_12
  have z20 := pz_20
  have z30 := pz_30
  have z50 := pz_50
  have z60 := pz_60
  have z80 := pz_80
  have z300 := pz_300
  have hYT : (zm 11).toInt = (Y : Int) := by rw [hY]; exact pw_T (by omega)
  have hYP : (zm 11 - 1).toInt = (Y : Int) - 1 := by rw [hY]; exact pw_pred (by omega)
  have hST : (zm 12).toInt = (S : Int) := by rw [hS]; exact pw_T (by omega)
  have hSP : (zm 12 - 1).toInt = (S : Int) - 1 := by rw [hS]; exact pw_pred (by omega)
  refine pr_aload_n rfl rfl ?_
  refine pr_iload_n rfl rfl ?_
  refine pr_vi1 rfl (by decide) (Nat.le_of_ble_eq_true rfl) rfl (Nat.le_of_ble_eq_true rfl) (c_92 _ _ 25 (hp_m zm) (zm 12) _ rfl rfl) (fun r_2 h_2 q_2 => ?_)
  obtain ⟨rfl, rfl⟩ := q_2
  refine pr_b_eq rfl (fun c_5 => ?_) (fun c_5 => ?_)
  · skip
    refine pr_push (v := 0) rfl rfl ?_
    exact pr_retb rfl rfl rfl (⟨by first
    | exact Or.inl ⟨by assumption, rfl⟩
    | exact Or.inr ⟨j, by omega, rfl, by first | rw [pw_b1 (by assumption)] | rw [pw_b0 (by assumption)]⟩, rfl⟩)
  · skip
    obtain ⟨j, rfl, hjT, hjl⟩ := pw_nat (x := s) (by omega)
    refine pr_iload_n rfl rfl ?_
    refine pr_aload_n rfl rfl ?_
    refine pr_getf rfl rfl rfl ?_
    refine pr_iload_n rfl rfl ?_
    refine pr_iald (j) rfl rfl (by decide) (by decide) rfl (by omega) ?_
    refine pr_aload_n rfl rfl ?_
    refine pr_getf rfl rfl rfl ?_
    refine pr_si3 rfl (by decide) (Nat.le_of_ble_eq_true rfl) (Nat.le_of_ble_eq_true rfl) (c_69 _ _ _ _ _) (fun r_19 h_19 q_19 => ?_)
    obtain ⟨rfl, rfl⟩ := q_19
    refine pr_b_eq rfl (fun c_22 => ?_) (fun c_22 => ?_)
    · skip
      refine pr_push (v := 0) rfl rfl ?_
      exact pr_retb rfl rfl rfl (⟨by first
    | exact Or.inl ⟨by assumption, rfl⟩
    | exact Or.inr ⟨j, by omega, rfl, by first | rw [pw_b1 (by assumption)] | rw [pw_b0 (by assumption)]⟩, rfl⟩)
    · skip
      refine pr_push (v := 1) rfl rfl ?_
      refine pr_step rfl rfl rfl rfl ?_
      exact pr_retb rfl rfl rfl (⟨by first
    | exact Or.inl ⟨by assumption, rfl⟩
    | exact Or.inr ⟨j, by omega, rfl, by first | rw [pw_b1 (by assumption)] | rw [pw_b0 (by assumption)]⟩, rfl⟩)
theorem c_107 (d : Nat) {N : Nat} {xs : Nat → Int32} {zc zm : Nat → Int32} {e3 e11 e18 : Nat} {A : Nat → Nat → Int32} {g gh : Nat → Option Nat} {dy : pw_H} (T : Nat) (hT : zm 16 = nI T) (hTb : T ≤ 60) (hf : ∀ i, i < T → 0 ≤ (A 39 i).toInt) (j : Nat) (hj : j < 12) : pw_M (d + 1) 107 [.inr (some 25), .inl (nI j)] (hp_h N xs zc e3 e11 e18 zm A g gh dy) (pw_qi (fun r h' => r = pw_b (wh_of A T j (zm 11) (zm 11) = -1) ∧ h' = (hp_h N xs zc e3 e11 e18 zm A g gh dy))) := by
  refine pr_aload_n rfl rfl ?_
  refine pr_iload_n rfl rfl ?_
  refine pr_aload_n rfl rfl ?_
  refine pr_getf rfl rfl rfl ?_
  refine pr_aload_n rfl rfl ?_
  refine pr_getf rfl rfl rfl ?_
  refine pr_vi3 rfl (by decide) (Nat.le_of_ble_eq_true rfl) rfl (Nat.le_of_ble_eq_true rfl) (c_98 _ T hT hTb hf j hj _ _) (fun r_10 h_10 q_10 => ?_)
  obtain ⟨rfl, rfl⟩ := q_10
  refine pr_push (v := (-1)) rfl rfl ?_
  refine pr_c_ne rfl (fun c_14 => ?_) (fun c_14 => ?_)
  · skip
    refine pr_push (v := 0) rfl rfl ?_
    exact pr_retb rfl rfl rfl (⟨by first | rw [pw_b1 (by assumption)] | rw [pw_b0 (by assumption)], rfl⟩)
  · skip
    refine pr_push (v := 1) rfl rfl ?_
    refine pr_step rfl rfl rfl rfl ?_
    exact pr_retb rfl rfl rfl (⟨by first | rw [pw_b1 (by assumption)] | rw [pw_b0 (by assumption)], rfl⟩)
theorem c_99 (d : Nat) {N : Nat} {xs : Nat → Int32} {zc zm : Nat → Int32} {e3 e11 e18 : Nat} {A : Nat → Nat → Int32} {g gh : Nat → Option Nat} {dy : pw_H} (S : Nat) (hS : zm 12 = nI S) (hSb : S ≤ 12) (T : Nat) (hT : zm 16 = nI T) (hTb : T ≤ 60) (hf : ∀ i, i < T → 0 ≤ (A 39 i).toInt) (s y k : Int32) : pw_M (d + 2) 99 [.inr (some 25), .inl s, .inl y, .inl k] (hp_h N xs zc e3 e11 e18 zm A g gh dy) (pw_qi (fun r h' => ((¬ (pw_bt s 0 (zm 12 - 1) ∧ pw_yr y ∧ pw_yr k) ∧ r = -2) ∨ ((pw_yr y ∧ pw_yr k) ∧ ∃ j : Nat, j < S ∧ s = nI j ∧ r = wh_of A T j y k)) ∧ h' = (hp_h N xs zc e3 e11 e18 zm A g gh dy))) := by
  have z0 := pz_0
  have z1 := pz_1
  have z2 := pz_2
  have z3 := pz_3
  have z4 := pz_4
  have z6 := pz_6
  have z7 := pz_7
  have z10 := pz_10
  have z11 := pz_11
  have z12 := pz_12
  have z20 := pz_20
  have z30 := pz_30
  have z50 := pz_50
  have z60 := pz_60
  have z80 := pz_80
  have z300 := pz_300
  have hST : (zm 12).toInt = (S : Int) := by rw [hS]; exact pw_T (by omega)
  have hSP : (zm 12 - 1).toInt = (S : Int) - 1 := by rw [hS]; exact pw_pred (by omega)
  have hTT : (zm 16).toInt = (T : Int) := by rw [hT]; exact pw_T (by omega)
  have hTP : (zm 16 - 1).toInt = (T : Int) - 1 := by rw [hT]; exact pw_pred (by omega)
  refine pr_aload_n rfl rfl ?_
  refine pr_iload_n rfl rfl ?_
  refine pr_vi1 rfl (by decide) (Nat.le_of_ble_eq_true rfl) rfl (Nat.le_of_ble_eq_true rfl) (c_92 _ _ 25 (hp_m zm) (zm 12) _ rfl rfl) (fun r_2 h_2 q_2 => ?_)
  obtain ⟨rfl, rfl⟩ := q_2
  refine pr_b_eq rfl (fun c_5 => ?_) (fun c_5 => ?_)
  · skip
    refine pr_push (v := (-2)) rfl rfl ?_
    exact pr_reti rfl rfl (⟨by first | exact Or.inl ⟨by omega, rfl⟩ | exact Or.inr ⟨⟨by assumption, by assumption⟩, j, by omega, rfl, rfl⟩, rfl⟩)
  · skip
    obtain ⟨j, rfl, hjT, hjl⟩ := pw_nat (x := s) (by omega)
    refine pr_iload_n rfl rfl ?_
    refine pr_si1 rfl (by decide) (Nat.le_of_ble_eq_true rfl) (Nat.le_of_ble_eq_true rfl) (c_72 _ _ _) (fun r_9 h_9 q_9 => ?_)
    obtain ⟨rfl, rfl⟩ := q_9
    refine pr_b_eq rfl (fun c_12 => ?_) (fun c_12 => ?_)
    · skip
      refine pr_push (v := (-2)) rfl rfl ?_
      exact pr_reti rfl rfl (⟨by first | exact Or.inl ⟨by omega, rfl⟩ | exact Or.inr ⟨⟨by assumption, by assumption⟩, j, by omega, rfl, rfl⟩, rfl⟩)
    · skip
      refine pr_iload_n rfl rfl ?_
      refine pr_si1 rfl (by decide) (Nat.le_of_ble_eq_true rfl) (Nat.le_of_ble_eq_true rfl) (c_72 _ _ _) (fun r_16 h_16 q_16 => ?_)
      obtain ⟨rfl, rfl⟩ := q_16
      refine pr_b_eq rfl (fun c_19 => ?_) (fun c_19 => ?_)
      · skip
        refine pr_push (v := (-2)) rfl rfl ?_
        exact pr_reti rfl rfl (⟨by first | exact Or.inl ⟨by omega, rfl⟩ | exact Or.inr ⟨⟨by assumption, by assumption⟩, j, by omega, rfl, rfl⟩, rfl⟩)
      · skip
        refine pr_aload_n rfl rfl ?_
        refine pr_iload_n rfl rfl ?_
        refine pr_iload_n rfl rfl ?_
        refine pr_iload_n rfl rfl ?_
        refine pr_vi3 rfl (by decide) (Nat.le_of_ble_eq_true rfl) rfl (Nat.le_of_ble_eq_true rfl) (c_98 _ T hT hTb hf j (by omega) _ _) (fun r_26 h_26 q_26 => ?_)
        obtain ⟨rfl, rfl⟩ := q_26
        refine pr_step rfl rfl rfl rfl ?_
        exact pr_reti rfl rfl (⟨by first | exact Or.inl ⟨by omega, rfl⟩ | exact Or.inr ⟨⟨by assumption, by assumption⟩, j, by omega, rfl, rfl⟩, rfl⟩)
theorem c_96 (d : Nat) {N : Nat} {xs : Nat → Int32} {zc zm : Nat → Int32} {e3 e11 e18 : Nat} {A : Nat → Nat → Int32} {g gh : Nat → Option Nat} {dy : pw_H} (Y : Nat) (hY : zm 11 = nI Y) (hYb : Y ≤ 300) (S : Nat) (hS : zm 12 = nI S) (hSb : S ≤ 12) (T : Nat) (hT : zm 16 = nI T) (hTb : T ≤ 60) (s y x z : Int32) : pw_M (d + 3) 96 [.inr (some 25), .inl s, .inl y, .inl x, .inl z] (hp_h N xs zc e3 e11 e18 zm A g gh dy) (pw_qi (fun r h' => (¬ ((∃ j : Nat, j < S ∧ s = nI j ∧ pw_bt y (A 35 j) (zm 11)) ∧ pw_pt x z) ∧ r = -2 ∧ h' = (hp_h N xs zc e3 e11 e18 zm A g gh dy)) ∨ (((∃ j : Nat, j < S ∧ s = nI j ∧ pw_bt y (A 35 j) (zm 11)) ∧ pw_pt x z) ∧ T = 60 ∧ r = -4 ∧ h' = (hp_h N xs zc e3 e11 e18 zm A g gh dy)) ∨ (((∃ j : Nat, j < S ∧ s = nI j ∧ pw_bt y (A 35 j) (zm 11)) ∧ pw_pt x z) ∧ ¬ T = 60 ∧ r = 1 ∧ h' = (hp_h N xs zc e3 e11 e18 (upd zm 16 (nI (T + 1))) (uA (uA (uA (uA A 38 (upd (A 38) T s)) 39 (upd (A 39) T y)) 40 (upd (A 40) T (zm 11))) 41 (upd (A 41) T (100 * x + z))) g gh dy)))) := by
  have z0 := pz_0
  have z1 := pz_1
  have z2 := pz_2
  have z3 := pz_3
  have z4 := pz_4
  have z6 := pz_6
  have z7 := pz_7
  have z10 := pz_10
  have z11 := pz_11
  have z12 := pz_12
  have z20 := pz_20
  have z30 := pz_30
  have z50 := pz_50
  have z60 := pz_60
  have z80 := pz_80
  have z300 := pz_300
  have hYT : (zm 11).toInt = (Y : Int) := by rw [hY]; exact pw_T (by omega)
  have hYP : (zm 11 - 1).toInt = (Y : Int) - 1 := by rw [hY]; exact pw_pred (by omega)
  have hST : (zm 12).toInt = (S : Int) := by rw [hS]; exact pw_T (by omega)
  have hSP : (zm 12 - 1).toInt = (S : Int) - 1 := by rw [hS]; exact pw_pred (by omega)
  have hTT : (zm 16).toInt = (T : Int) := by rw [hT]; exact pw_T (by omega)
  have hTP : (zm 16 - 1).toInt = (T : Int) - 1 := by rw [hT]; exact pw_pred (by omega)
  refine pr_aload_n rfl rfl ?_
  refine pr_iload_n rfl rfl ?_
  refine pr_iload_n rfl rfl ?_
  refine pr_vi2 rfl (by decide) (Nat.le_of_ble_eq_true rfl) rfl (Nat.le_of_ble_eq_true rfl) (c_95 _ Y hY hYb S hS hSb _ _) (fun r_3 h_3 q_3 => ?_)
  obtain ⟨q, rfl⟩ := q_3
  rcases q with ⟨nb, rfl⟩ | ⟨j, hj, rfl, rfl⟩
  · have nok : ¬ ((∃ j : Nat, j < S ∧ s = nI j ∧ pw_bt y (A 35 j) (zm 11)) ∧ pw_pt x z) := fun hh => by
      obtain ⟨i, hi, e, -⟩ := hh.1
      have e2 := congrArg Int32.toInt e
      rw [pw_T (by omega)] at e2
      omega
    refine pr_step rfl rfl rfl rfl ?_
    refine pr_push (v := (-2)) rfl rfl ?_
    refine pr_step rfl rfl rfl rfl ?_
    exact pr_reti rfl rfl (Or.inl ⟨nok, rfl, rfl⟩)
  · have hjT := pw_T (n := j) (by omega)
    have jj : ∀ i, i < S → nI j = nI i → i = j := fun i hi e => by
      have e2 := congrArg Int32.toInt e
      rw [hjT, pw_T (by omega)] at e2
      omega
    refine pr_b_eq rfl (fun c_6 => ?_) (fun c_6 => ?_)
    · skip
      refine pr_push (v := (-2)) rfl rfl ?_
      refine pr_step rfl rfl rfl rfl ?_
      exact pr_reti rfl rfl (by
      first
      | exact Or.inl ⟨fun hh => by
      obtain ⟨i, hi, e, e2⟩ := hh.1
      rw [jj i hi e] at e2
      first | exact absurd e2 (by assumption) | exact absurd hh.2 (by assumption), rfl, rfl⟩
      | exact (by
      rcases q_33 with ⟨e1, rfl, rfl⟩ | ⟨e1, rfl, rfl⟩
      · exact Or.inr (Or.inl ⟨⟨⟨j, hj, rfl, by assumption⟩, by assumption⟩, e1, rfl, rfl⟩)
      · exact Or.inr (Or.inr ⟨⟨⟨j, hj, rfl, by assumption⟩, by assumption⟩, e1, rfl, rfl⟩)))
    · skip
      refine pr_iload_n rfl rfl ?_
      refine pr_iload rfl rfl ?_
      refine pr_si2 rfl (by decide) (Nat.le_of_ble_eq_true rfl) (Nat.le_of_ble_eq_true rfl) (c_70 _ _ _ _) (fun r_12 h_12 q_12 => ?_)
      obtain ⟨rfl, rfl⟩ := q_12
      refine pr_b_ne rfl (fun c_15 => ?_) (fun c_15 => ?_)
      · skip
        refine pr_aload_n rfl rfl ?_
        refine pr_iload_n rfl rfl ?_
        refine pr_iload_n rfl rfl ?_
        refine pr_push (v := 100) rfl rfl ?_
        refine pr_iload_n rfl rfl ?_
        refine pr_step rfl rfl rfl rfl ?_
        refine pr_iload rfl rfl ?_
        refine pr_step rfl rfl rfl rfl ?_
        refine pr_vi3 rfl (by decide) (Nat.le_of_ble_eq_true rfl) rfl (Nat.le_of_ble_eq_true rfl) (c_94 _ T hT hTb _ _ _) (fun r_33 h_33 q_33 => ?_)
        skip
        exact pr_reti rfl rfl (by
      first
      | exact Or.inl ⟨fun hh => by
      obtain ⟨i, hi, e, e2⟩ := hh.1
      rw [jj i hi e] at e2
      first | exact absurd e2 (by assumption) | exact absurd hh.2 (by assumption), rfl, rfl⟩
      | exact (by
      rcases q_33 with ⟨e1, rfl, rfl⟩ | ⟨e1, rfl, rfl⟩
      · exact Or.inr (Or.inl ⟨⟨⟨j, hj, rfl, by assumption⟩, by assumption⟩, e1, rfl, rfl⟩)
      · exact Or.inr (Or.inr ⟨⟨⟨j, hj, rfl, by assumption⟩, by assumption⟩, e1, rfl, rfl⟩)))
      · skip
        refine pr_push (v := (-2)) rfl rfl ?_
        refine pr_step rfl rfl rfl rfl ?_
        exact pr_reti rfl rfl (by
      first
      | exact Or.inl ⟨fun hh => by
      obtain ⟨i, hi, e, e2⟩ := hh.1
      rw [jj i hi e] at e2
      first | exact absurd e2 (by assumption) | exact absurd hh.2 (by assumption), rfl, rfl⟩
      | exact (by
      rcases q_33 with ⟨e1, rfl, rfl⟩ | ⟨e1, rfl, rfl⟩
      · exact Or.inr (Or.inl ⟨⟨⟨j, hj, rfl, by assumption⟩, by assumption⟩, e1, rfl, rfl⟩)
      · exact Or.inr (Or.inr ⟨⟨⟨j, hj, rfl, by assumption⟩, by assumption⟩, e1, rfl, rfl⟩)))
theorem c_97 (d : Nat) {N : Nat} {xs : Nat → Int32} {zc zm : Nat → Int32} {e3 e11 e18 : Nat} {A : Nat → Nat → Int32} {g gh : Nat → Option Nat} {dy : pw_H} (Y : Nat) (hY : zm 11 = nI Y) (hYb : Y ≤ 300) (S : Nat) (hS : zm 12 = nI S) (hSb : S ≤ 12) (T : Nat) (hT : zm 16 = nI T) (hTb : T ≤ 60) (s y : Int32) : pw_M (d + 3) 97 [.inr (some 25), .inl s, .inl y] (hp_h N xs zc e3 e11 e18 zm A g gh dy) (pw_qi (fun r h' => (¬ ((∃ j : Nat, j < S ∧ s = nI j ∧ pw_bt y (A 35 j) (zm 11)) ) ∧ r = -2 ∧ h' = (hp_h N xs zc e3 e11 e18 zm A g gh dy)) ∨ (((∃ j : Nat, j < S ∧ s = nI j ∧ pw_bt y (A 35 j) (zm 11)) ) ∧ T = 60 ∧ r = -4 ∧ h' = (hp_h N xs zc e3 e11 e18 zm A g gh dy)) ∨ (((∃ j : Nat, j < S ∧ s = nI j ∧ pw_bt y (A 35 j) (zm 11)) ) ∧ ¬ T = 60 ∧ r = 1 ∧ h' = (hp_h N xs zc e3 e11 e18 (upd zm 16 (nI (T + 1))) (uA (uA (uA (uA A 38 (upd (A 38) T s)) 39 (upd (A 39) T y)) 40 (upd (A 40) T (zm 11))) 41 (upd (A 41) T (-1))) g gh dy)))) := by
  have z0 := pz_0
  have z1 := pz_1
  have z2 := pz_2
  have z3 := pz_3
  have z4 := pz_4
  have z6 := pz_6
  have z7 := pz_7
  have z10 := pz_10
  have z11 := pz_11
  have z12 := pz_12
  have z20 := pz_20
  have z30 := pz_30
  have z50 := pz_50
  have z60 := pz_60
  have z80 := pz_80
  have z300 := pz_300
  have hYT : (zm 11).toInt = (Y : Int) := by rw [hY]; exact pw_T (by omega)
  have hYP : (zm 11 - 1).toInt = (Y : Int) - 1 := by rw [hY]; exact pw_pred (by omega)
  have hST : (zm 12).toInt = (S : Int) := by rw [hS]; exact pw_T (by omega)
  have hSP : (zm 12 - 1).toInt = (S : Int) - 1 := by rw [hS]; exact pw_pred (by omega)
  have hTT : (zm 16).toInt = (T : Int) := by rw [hT]; exact pw_T (by omega)
  have hTP : (zm 16 - 1).toInt = (T : Int) - 1 := by rw [hT]; exact pw_pred (by omega)
  refine pr_aload_n rfl rfl ?_
  refine pr_iload_n rfl rfl ?_
  refine pr_iload_n rfl rfl ?_
  refine pr_vi2 rfl (by decide) (Nat.le_of_ble_eq_true rfl) rfl (Nat.le_of_ble_eq_true rfl) (c_95 _ Y hY hYb S hS hSb _ _) (fun r_3 h_3 q_3 => ?_)
  obtain ⟨q, rfl⟩ := q_3
  rcases q with ⟨nb, rfl⟩ | ⟨j, hj, rfl, rfl⟩
  · have nok : ¬ ((∃ j : Nat, j < S ∧ s = nI j ∧ pw_bt y (A 35 j) (zm 11)) ) := fun hh => by
      obtain ⟨i, hi, e, -⟩ := hh
      have e2 := congrArg Int32.toInt e
      rw [pw_T (by omega)] at e2
      omega
    refine pr_step rfl rfl rfl rfl ?_
    refine pr_push (v := (-2)) rfl rfl ?_
    exact pr_reti rfl rfl (Or.inl ⟨nok, rfl, rfl⟩)
  · have hjT := pw_T (n := j) (by omega)
    have jj : ∀ i, i < S → nI j = nI i → i = j := fun i hi e => by
      have e2 := congrArg Int32.toInt e
      rw [hjT, pw_T (by omega)] at e2
      omega
    refine pr_b_eq rfl (fun c_6 => ?_) (fun c_6 => ?_)
    · skip
      refine pr_push (v := (-2)) rfl rfl ?_
      exact pr_reti rfl rfl (by
      first
      | exact Or.inl ⟨fun hh => by
      obtain ⟨i, hi, e, e2⟩ := hh
      rw [jj i hi e] at e2
      first | exact absurd e2 (by assumption) | exact absurd hh.2 (by assumption), rfl, rfl⟩
      | exact (by
      rcases q_13 with ⟨e1, rfl, rfl⟩ | ⟨e1, rfl, rfl⟩
      · exact Or.inr (Or.inl ⟨⟨j, hj, rfl, by assumption⟩, e1, rfl, rfl⟩)
      · exact Or.inr (Or.inr ⟨⟨j, hj, rfl, by assumption⟩, e1, rfl, rfl⟩)))
    · skip
      refine pr_aload_n rfl rfl ?_
      refine pr_iload_n rfl rfl ?_
      refine pr_iload_n rfl rfl ?_
      refine pr_push (v := (-1)) rfl rfl ?_
      refine pr_vi3 rfl (by decide) (Nat.le_of_ble_eq_true rfl) rfl (Nat.le_of_ble_eq_true rfl) (c_94 _ T hT hTb _ _ _) (fun r_13 h_13 q_13 => ?_)
      skip
      refine pr_step rfl rfl rfl rfl ?_
      exact pr_reti rfl rfl (by
      first
      | exact Or.inl ⟨fun hh => by
      obtain ⟨i, hi, e, e2⟩ := hh
      rw [jj i hi e] at e2
      first | exact absurd e2 (by assumption) | exact absurd hh.2 (by assumption), rfl, rfl⟩
      | exact (by
      rcases q_13 with ⟨e1, rfl, rfl⟩ | ⟨e1, rfl, rfl⟩
      · exact Or.inr (Or.inl ⟨⟨j, hj, rfl, by assumption⟩, e1, rfl, rfl⟩)
      · exact Or.inr (Or.inr ⟨⟨j, hj, rfl, by assumption⟩, e1, rfl, rfl⟩)))
theorem c_108 (d : Nat) {N : Nat} {xs : Nat → Int32} {zc zm : Nat → Int32} {e3 e11 e18 : Nat} {A : Nat → Nat → Int32} {g gh : Nat → Option Nat} {dy : pw_H} (Y : Nat) (hY : zm 11 = nI Y) (hYb : Y ≤ 300) (S : Nat) (hS : zm 12 = nI S) (hSb : S ≤ 12) (T : Nat) (hT : zm 16 = nI T) (hTb : T ≤ 60) (hf : ∀ i, i < T → 0 ≤ (A 39 i).toInt) (s : Int32) : pw_M (d + 2) 108 [.inr (some 25), .inl s] (hp_h N xs zc e3 e11 e18 zm A g gh dy) (pw_qi (fun r h' => (¬ pw_bt s 0 (zm 12 - 1) ∧ r = -2 ∧ h' = (hp_h N xs zc e3 e11 e18 zm A g gh dy)) ∨ ∃ j : Nat, j < S ∧ s = nI j ∧ ((wh_of A T j (zm 11) (zm 11) = -1 ∧ r = -3 ∧ h' = (hp_h N xs zc e3 e11 e18 zm A g gh dy)) ∨ (¬ wh_of A T j (zm 11) (zm 11) = -1 ∧ r = zm 11 - A 37 j ∧ h' = (hp_h N xs zc e3 e11 e18 zm (uA A 37 (upd (A 37) j (zm 11))) g gh dy))))) := by
  have z0 := pz_0
  have z1 := pz_1
  have z2 := pz_2
  have z3 := pz_3
  have z4 := pz_4
  have z6 := pz_6
  have z7 := pz_7
  have z10 := pz_10
  have z11 := pz_11
  have z12 := pz_12
  have z20 := pz_20
  have z30 := pz_30
  have z50 := pz_50
  have z60 := pz_60
  have z80 := pz_80
  have z300 := pz_300
  have hYT : (zm 11).toInt = (Y : Int) := by rw [hY]; exact pw_T (by omega)
  have hYP : (zm 11 - 1).toInt = (Y : Int) - 1 := by rw [hY]; exact pw_pred (by omega)
  have hST : (zm 12).toInt = (S : Int) := by rw [hS]; exact pw_T (by omega)
  have hSP : (zm 12 - 1).toInt = (S : Int) - 1 := by rw [hS]; exact pw_pred (by omega)
  have hTT : (zm 16).toInt = (T : Int) := by rw [hT]; exact pw_T (by omega)
  have hTP : (zm 16 - 1).toInt = (T : Int) - 1 := by rw [hT]; exact pw_pred (by omega)
  refine pr_aload_n rfl rfl ?_
  refine pr_iload_n rfl rfl ?_
  refine pr_vi1 rfl (by decide) (Nat.le_of_ble_eq_true rfl) rfl (Nat.le_of_ble_eq_true rfl) (c_92 _ _ 25 (hp_m zm) (zm 12) _ rfl rfl) (fun r_2 h_2 q_2 => ?_)
  obtain ⟨rfl, rfl⟩ := q_2
  refine pr_b_ne rfl (fun c_5 => ?_) (fun c_5 => ?_)
  · skip
    obtain ⟨j, rfl, hjT, hjl⟩ := pw_nat (x := s) (by omega)
    refine pr_aload_n rfl rfl ?_
    refine pr_iload_n rfl rfl ?_
    refine pr_vi1 rfl (by decide) (Nat.le_of_ble_eq_true rfl) rfl (Nat.le_of_ble_eq_true rfl) (c_107 _ T hT hTb hf j (by omega)) (fun r_13 h_13 q_13 => ?_)
    obtain ⟨rfl, rfl⟩ := q_13
    refine pr_b_eq rfl (fun c_16 => ?_) (fun c_16 => ?_)
    · skip
      refine pr_aload_n rfl rfl ?_
      refine pr_getf rfl rfl rfl ?_
      refine pr_aload_n rfl rfl ?_
      refine pr_getf rfl rfl rfl ?_
      refine pr_iload_n rfl rfl ?_
      refine pr_iald (j) rfl rfl (by decide) (by decide) rfl (by omega) ?_
      refine pr_step rfl rfl rfl rfl ?_
      refine pr_istore_n rfl (Nat.le_of_ble_eq_true rfl) rfl ?_
      refine pr_aload_n rfl rfl ?_
      refine pr_getf rfl rfl rfl ?_
      refine pr_iload_n rfl rfl ?_
      refine pr_aload_n rfl rfl ?_
      refine pr_getf rfl rfl rfl ?_
      refine pr_iast (j) rfl rfl (by decide) rfl (by omega) hs_a37 ?_
      refine pr_iload_n rfl rfl ?_
      exact pr_reti rfl rfl (Or.inr ⟨j, by omega, rfl, Or.inr ⟨by assumption, rfl, rfl⟩⟩)
    · skip
      refine pr_push (v := (-3)) rfl rfl ?_
      exact pr_reti rfl rfl (Or.inr ⟨j, by omega, rfl, Or.inl ⟨by assumption, rfl, rfl⟩⟩)
  · skip
    refine pr_push (v := (-2)) rfl rfl ?_
    exact pr_reti rfl rfl (Or.inl ⟨by assumption, rfl, rfl⟩)
theorem c_109 (d : Nat) {N : Nat} {xs : Nat → Int32} {zc zm : Nat → Int32} {e3 e11 e18 : Nat} {A : Nat → Nat → Int32} {g gh : Nat → Option Nat} {dy : pw_H}   (v : Int32) : pw_M (d + 2) 109 [.inr (some 25), .inl v] (hp_h N xs zc e3 e11 e18 zm A g gh dy) (pw_qi (fun r h' => (¬ pw_bt v 1 20 ∧ r = -2 ∧ h' = (hp_h N xs zc e3 e11 e18 zm A g gh dy)) ∨ (pw_bt v 1 20 ∧ r = zm 34 ∧ h' = (hp_h N xs zc e3 e11 e18 (upd zm 34 v) A g gh dy)))) := by
  have z0 := pz_0
  have z1 := pz_1
  have z2 := pz_2
  have z3 := pz_3
  have z4 := pz_4
  have z6 := pz_6
  have z7 := pz_7
  have z10 := pz_10
  have z11 := pz_11
  have z12 := pz_12
  have z20 := pz_20
  have z30 := pz_30
  have z50 := pz_50
  have z60 := pz_60
  have z80 := pz_80
  have z300 := pz_300

  refine pr_iload_n rfl rfl ?_
  refine pr_push (v := 1) rfl rfl ?_
  refine pr_push (v := 20) rfl rfl ?_
  refine pr_si3 rfl (by decide) (Nat.le_of_ble_eq_true rfl) (Nat.le_of_ble_eq_true rfl) (c_69 _ _ _ _ _) (fun r_4 h_4 q_4 => ?_)
  obtain ⟨rfl, rfl⟩ := q_4
  refine pr_b_ne rfl (fun c_7 => ?_) (fun c_7 => ?_)
  · skip
    refine pr_aload_n rfl rfl ?_
    refine pr_getf rfl rfl rfl ?_
    refine pr_istore_n rfl (Nat.le_of_ble_eq_true rfl) rfl ?_
    refine pr_aload_n rfl rfl ?_
    refine pr_iload_n rfl rfl ?_
    refine pr_putf rfl rfl (Nat.le_of_ble_eq_true rfl) rfl hs_m34 ?_
    refine pr_iload_n rfl rfl ?_
    exact pr_reti rfl rfl (Or.inr ⟨by assumption, rfl, rfl⟩)
  · skip
    refine pr_push (v := (-2)) rfl rfl ?_
    exact pr_reti rfl rfl (Or.inl ⟨by assumption, rfl, rfl⟩)
theorem c_103 (d : Nat) {N : Nat} {xs : Nat → Int32} {zc zm : Nat → Int32} {e3 e11 e18 : Nat} {A : Nat → Nat → Int32} {g gh : Nat → Option Nat} {dy : pw_H} (U : Nat) (hU : zm 30 = nI U) (hUb : U ≤ 10)  (u y b : Int32) : pw_M (d + 2) 103 [.inr (some 25), .inl u, .inl y, .inl b] (hp_h N xs zc e3 e11 e18 zm A g gh dy) (pw_qi (fun r h' => (¬ (pw_bt u 0 3 ∧ pw_yr y ∧ pw_bt b 0 2) ∧ r = -2 ∧ h' = (hp_h N xs zc e3 e11 e18 zm A g gh dy)) ∨ (¬ (¬ (pw_bt u 0 3 ∧ pw_yr y ∧ pw_bt b 0 2)) ∧ U = 10 ∧ r = -4 ∧ h' = (hp_h N xs zc e3 e11 e18 zm A g gh dy)) ∨ (¬ (¬ (pw_bt u 0 3 ∧ pw_yr y ∧ pw_bt b 0 2)) ∧ ¬ (U = 10) ∧ r = nI U ∧ h' = (hp_h N xs zc e3 e11 e18 (upd zm 30 (nI (U + 1))) (uA (uA (uA A 49 (upd (A 49) U u)) 50 (upd (A 50) U y)) 51 (upd (A 51) U b)) g gh dy)))) := by
  have z0 := pz_0
  have z1 := pz_1
  have z2 := pz_2
  have z3 := pz_3
  have z4 := pz_4
  have z6 := pz_6
  have z7 := pz_7
  have z10 := pz_10
  have z11 := pz_11
  have z12 := pz_12
  have z20 := pz_20
  have z30 := pz_30
  have z50 := pz_50
  have z60 := pz_60
  have z80 := pz_80
  have z300 := pz_300
  have hUT : (zm 30).toInt = (U : Int) := by rw [hU]; exact pw_T (by omega)
  have hUP : (zm 30 - 1).toInt = (U : Int) - 1 := by rw [hU]; exact pw_pred (by omega)
  refine pr_iload_n rfl rfl ?_
  refine pr_push (v := 0) rfl rfl ?_
  refine pr_push (v := 3) rfl rfl ?_
  refine pr_si3 rfl (by decide) (Nat.le_of_ble_eq_true rfl) (Nat.le_of_ble_eq_true rfl) (c_69 _ _ _ _ _) (fun r_3 h_3 q_3 => ?_)
  obtain ⟨rfl, rfl⟩ := q_3
  refine pr_b_eq rfl (fun c_6 => ?_) (fun c_6 => ?_)
  · skip
    refine pr_push (v := (-2)) rfl rfl ?_
    exact pr_reti rfl rfl (Or.inl ⟨by omega, rfl, rfl⟩)
  · skip
    refine pr_iload_n rfl rfl ?_
    refine pr_si1 rfl (by decide) (Nat.le_of_ble_eq_true rfl) (Nat.le_of_ble_eq_true rfl) (c_72 _ _ _) (fun r_10 h_10 q_10 => ?_)
    obtain ⟨rfl, rfl⟩ := q_10
    refine pr_b_eq rfl (fun c_13 => ?_) (fun c_13 => ?_)
    · skip
      refine pr_push (v := (-2)) rfl rfl ?_
      exact pr_reti rfl rfl (Or.inl ⟨by omega, rfl, rfl⟩)
    · skip
      refine pr_iload_n rfl rfl ?_
      refine pr_push (v := 0) rfl rfl ?_
      refine pr_push (v := 2) rfl rfl ?_
      refine pr_si3 rfl (by decide) (Nat.le_of_ble_eq_true rfl) (Nat.le_of_ble_eq_true rfl) (c_69 _ _ _ _ _) (fun r_19 h_19 q_19 => ?_)
      obtain ⟨rfl, rfl⟩ := q_19
      refine pr_b_ne rfl (fun c_22 => ?_) (fun c_22 => ?_)
      · skip
        refine pr_aload_n rfl rfl ?_
        refine pr_getf rfl rfl rfl ?_
        refine pr_push (v := 10) rfl rfl ?_
        refine pr_u_ne rfl (fun c_34 => ?_) (fun c_34 => ?_)
        · skip
          refine pr_aload_n rfl rfl ?_
          refine pr_getf rfl rfl rfl ?_
          refine pr_aload_n rfl rfl ?_
          refine pr_getf rfl rfl rfl ?_
          refine pr_iload_n rfl rfl ?_
          refine pr_iast (U) rfl rfl (by decide) hU (by omega) hs_a49 ?_
          refine pr_aload_n rfl rfl ?_
          refine pr_getf rfl rfl rfl ?_
          refine pr_aload_n rfl rfl ?_
          refine pr_getf rfl rfl rfl ?_
          refine pr_iload_n rfl rfl ?_
          refine pr_iast (U) rfl rfl (by decide) hU (by omega) hs_a50 ?_
          refine pr_aload_n rfl rfl ?_
          refine pr_getf rfl rfl rfl ?_
          refine pr_aload_n rfl rfl ?_
          refine pr_getf rfl rfl rfl ?_
          refine pr_iload_n rfl rfl ?_
          refine pr_iast (U) rfl rfl (by decide) hU (by omega) hs_a51 ?_
          refine pr_aload_n rfl rfl ?_
          refine pr_step rfl rfl rfl rfl ?_
          refine pr_getf rfl rfl rfl ?_
          refine pr_push (v := 1) rfl rfl ?_
          refine pr_step rfl rfl rfl rfl ?_
          refine pr_top (pw_s hU) ?_
          refine pr_putf rfl rfl (Nat.le_of_ble_eq_true rfl) rfl hs_m30 ?_
          refine pr_aload_n rfl rfl ?_
          refine pr_getf rfl rfl rfl ?_
          refine pr_push (v := 1) rfl rfl ?_
          refine pr_step rfl rfl rfl rfl ?_
          refine pr_top (nI_pred U) ?_
          exact pr_reti rfl rfl (Or.inr (Or.inr ⟨by omega, by omega, rfl, rfl⟩))
        · skip
          refine pr_push (v := (-4)) rfl rfl ?_
          exact pr_reti rfl rfl (Or.inr (Or.inl ⟨by omega, by omega, rfl, rfl⟩))
      · skip
        refine pr_push (v := (-2)) rfl rfl ?_
        exact pr_reti rfl rfl (Or.inl ⟨by omega, rfl, rfl⟩)
theorem c_86 (d : Nat) {N : Nat} {xs : Nat → Int32} {zc zm : Nat → Int32} {e3 e11 e18 : Nat} {A : Nat → Nat → Int32} {g gh : Nat → Option Nat} {dy : pw_H} (P : Nat) (hP : zm 0 = nI P) (hPb : P ≤ 4) (E : Nat) (hE : zm 7 = nI E) (hEb : E ≤ 12)  (one two y x z to : Int32) : pw_M (d + 2) 86 [.inr (some 25), .inl one, .inl two, .inl y, .inl x, .inl z, .inl to] (hp_h N xs zc e3 e11 e18 zm A g gh dy) (pw_qi (fun r h' => (¬ (pw_bt one 0 (zm 0 - 1) ∧ pw_bt two 0 (zm 0 - 1) ∧ ¬ one.toInt = two.toInt ∧ pw_yr y ∧ pw_fd x z ∧ (to.toInt = one.toInt ∨ to.toInt = two.toInt)) ∧ r = -2 ∧ h' = (hp_h N xs zc e3 e11 e18 zm A g gh dy)) ∨ (¬ (¬ (pw_bt one 0 (zm 0 - 1) ∧ pw_bt two 0 (zm 0 - 1) ∧ ¬ one.toInt = two.toInt ∧ pw_yr y ∧ pw_fd x z ∧ (to.toInt = one.toInt ∨ to.toInt = two.toInt))) ∧ E = 12 ∧ r = -4 ∧ h' = (hp_h N xs zc e3 e11 e18 zm A g gh dy)) ∨ (¬ (¬ (pw_bt one 0 (zm 0 - 1) ∧ pw_bt two 0 (zm 0 - 1) ∧ ¬ one.toInt = two.toInt ∧ pw_yr y ∧ pw_fd x z ∧ (to.toInt = one.toInt ∨ to.toInt = two.toInt))) ∧ ¬ (E = 12) ∧ r = nI E ∧ h' = (hp_h N xs zc e3 e11 e18 (upd zm 7 (nI (E + 1))) (uA (uA (uA A 32 (upd (A 32) E y)) 33 (upd (A 33) E (12 * z + x))) 34 (upd (A 34) E to)) g gh dy)))) := by
  have z0 := pz_0
  have z1 := pz_1
  have z2 := pz_2
  have z3 := pz_3
  have z4 := pz_4
  have z6 := pz_6
  have z7 := pz_7
  have z10 := pz_10
  have z11 := pz_11
  have z12 := pz_12
  have z20 := pz_20
  have z30 := pz_30
  have z50 := pz_50
  have z60 := pz_60
  have z80 := pz_80
  have z300 := pz_300
  have hPT : (zm 0).toInt = (P : Int) := by rw [hP]; exact pw_T (by omega)
  have hPP : (zm 0 - 1).toInt = (P : Int) - 1 := by rw [hP]; exact pw_pred (by omega)
  have hET : (zm 7).toInt = (E : Int) := by rw [hE]; exact pw_T (by omega)
  have hEP : (zm 7 - 1).toInt = (E : Int) - 1 := by rw [hE]; exact pw_pred (by omega)
  refine pr_aload_n rfl rfl ?_
  refine pr_iload_n rfl rfl ?_
  refine pr_vi1 rfl (by decide) (Nat.le_of_ble_eq_true rfl) rfl (Nat.le_of_ble_eq_true rfl) (c_73 _ _ 25 (hp_m zm) (zm 0) _ rfl rfl) (fun r_2 h_2 q_2 => ?_)
  obtain ⟨rfl, rfl⟩ := q_2
  refine pr_b_eq rfl (fun c_5 => ?_) (fun c_5 => ?_)
  · skip
    refine pr_push (v := (-2)) rfl rfl ?_
    exact pr_reti rfl rfl (Or.inl ⟨by omega, rfl, rfl⟩)
  · skip
    refine pr_aload_n rfl rfl ?_
    refine pr_iload_n rfl rfl ?_
    refine pr_vi1 rfl (by decide) (Nat.le_of_ble_eq_true rfl) rfl (Nat.le_of_ble_eq_true rfl) (c_73 _ _ 25 (hp_m zm) (zm 0) _ rfl rfl) (fun r_10 h_10 q_10 => ?_)
    obtain ⟨rfl, rfl⟩ := q_10
    refine pr_b_eq rfl (fun c_13 => ?_) (fun c_13 => ?_)
    · skip
      refine pr_push (v := (-2)) rfl rfl ?_
      exact pr_reti rfl rfl (Or.inl ⟨by omega, rfl, rfl⟩)
    · skip
      refine pr_iload_n rfl rfl ?_
      refine pr_iload_n rfl rfl ?_
      refine pr_u_eq rfl (fun c_18 => ?_) (fun c_18 => ?_)
      · skip
        refine pr_push (v := (-2)) rfl rfl ?_
        exact pr_reti rfl rfl (Or.inl ⟨by omega, rfl, rfl⟩)
      · skip
        refine pr_iload_n rfl rfl ?_
        refine pr_si1 rfl (by decide) (Nat.le_of_ble_eq_true rfl) (Nat.le_of_ble_eq_true rfl) (c_72 _ _ _) (fun r_22 h_22 q_22 => ?_)
        obtain ⟨rfl, rfl⟩ := q_22
        refine pr_b_eq rfl (fun c_25 => ?_) (fun c_25 => ?_)
        · skip
          refine pr_push (v := (-2)) rfl rfl ?_
          exact pr_reti rfl rfl (Or.inl ⟨by omega, rfl, rfl⟩)
        · skip
          refine pr_iload rfl rfl ?_
          refine pr_iload rfl rfl ?_
          refine pr_si2 rfl (by decide) (Nat.le_of_ble_eq_true rfl) (Nat.le_of_ble_eq_true rfl) (c_71 _ _ _ _) (fun r_32 h_32 q_32 => ?_)
          obtain ⟨rfl, rfl⟩ := q_32
          refine pr_b_eq rfl (fun c_35 => ?_) (fun c_35 => ?_)
          · skip
            refine pr_push (v := (-2)) rfl rfl ?_
            exact pr_reti rfl rfl (Or.inl ⟨by omega, rfl, rfl⟩)
          · skip
            refine pr_iload rfl rfl ?_
            refine pr_iload_n rfl rfl ?_
            refine pr_u_eq rfl (fun c_41 => ?_) (fun c_41 => ?_)
            · skip
              refine pr_aload_n rfl rfl ?_
              refine pr_getf rfl rfl rfl ?_
              refine pr_push (v := 12) rfl rfl ?_
              refine pr_u_ne rfl (fun c_59 => ?_) (fun c_59 => ?_)
              · skip
                refine pr_aload_n rfl rfl ?_
                refine pr_getf rfl rfl rfl ?_
                refine pr_aload_n rfl rfl ?_
                refine pr_getf rfl rfl rfl ?_
                refine pr_iload_n rfl rfl ?_
                refine pr_iast (E) rfl rfl (by decide) hE (by omega) hs_a32 ?_
                refine pr_aload_n rfl rfl ?_
                refine pr_getf rfl rfl rfl ?_
                refine pr_aload_n rfl rfl ?_
                refine pr_getf rfl rfl rfl ?_
                refine pr_push (v := 12) rfl rfl ?_
                refine pr_iload rfl rfl ?_
                refine pr_step rfl rfl rfl rfl ?_
                refine pr_iload rfl rfl ?_
                refine pr_step rfl rfl rfl rfl ?_
                refine pr_iast (E) rfl rfl (by decide) hE (by omega) hs_a33 ?_
                refine pr_aload_n rfl rfl ?_
                refine pr_getf rfl rfl rfl ?_
                refine pr_aload_n rfl rfl ?_
                refine pr_getf rfl rfl rfl ?_
                refine pr_iload rfl rfl ?_
                refine pr_iast (E) rfl rfl (by decide) hE (by omega) hs_a34 ?_
                refine pr_aload_n rfl rfl ?_
                refine pr_step rfl rfl rfl rfl ?_
                refine pr_getf rfl rfl rfl ?_
                refine pr_push (v := 1) rfl rfl ?_
                refine pr_step rfl rfl rfl rfl ?_
                refine pr_top (pw_s hE) ?_
                refine pr_putf rfl rfl (Nat.le_of_ble_eq_true rfl) rfl hs_m7 ?_
                refine pr_aload_n rfl rfl ?_
                refine pr_getf rfl rfl rfl ?_
                refine pr_push (v := 1) rfl rfl ?_
                refine pr_step rfl rfl rfl rfl ?_
                refine pr_top (nI_pred E) ?_
                exact pr_reti rfl rfl (Or.inr (Or.inr ⟨by omega, by omega, rfl, rfl⟩))
              · skip
                refine pr_push (v := (-4)) rfl rfl ?_
                exact pr_reti rfl rfl (Or.inr (Or.inl ⟨by omega, by omega, rfl, rfl⟩))
            · skip
              refine pr_iload rfl rfl ?_
              refine pr_iload_n rfl rfl ?_
              refine pr_u_eq rfl (fun c_47 => ?_) (fun c_47 => ?_)
              · skip
                refine pr_aload_n rfl rfl ?_
                refine pr_getf rfl rfl rfl ?_
                refine pr_push (v := 12) rfl rfl ?_
                refine pr_u_ne rfl (fun c_59 => ?_) (fun c_59 => ?_)
                · skip
                  refine pr_aload_n rfl rfl ?_
                  refine pr_getf rfl rfl rfl ?_
                  refine pr_aload_n rfl rfl ?_
                  refine pr_getf rfl rfl rfl ?_
                  refine pr_iload_n rfl rfl ?_
                  refine pr_iast (E) rfl rfl (by decide) hE (by omega) hs_a32 ?_
                  refine pr_aload_n rfl rfl ?_
                  refine pr_getf rfl rfl rfl ?_
                  refine pr_aload_n rfl rfl ?_
                  refine pr_getf rfl rfl rfl ?_
                  refine pr_push (v := 12) rfl rfl ?_
                  refine pr_iload rfl rfl ?_
                  refine pr_step rfl rfl rfl rfl ?_
                  refine pr_iload rfl rfl ?_
                  refine pr_step rfl rfl rfl rfl ?_
                  refine pr_iast (E) rfl rfl (by decide) hE (by omega) hs_a33 ?_
                  refine pr_aload_n rfl rfl ?_
                  refine pr_getf rfl rfl rfl ?_
                  refine pr_aload_n rfl rfl ?_
                  refine pr_getf rfl rfl rfl ?_
                  refine pr_iload rfl rfl ?_
                  refine pr_iast (E) rfl rfl (by decide) hE (by omega) hs_a34 ?_
                  refine pr_aload_n rfl rfl ?_
                  refine pr_step rfl rfl rfl rfl ?_
                  refine pr_getf rfl rfl rfl ?_
                  refine pr_push (v := 1) rfl rfl ?_
                  refine pr_step rfl rfl rfl rfl ?_
                  refine pr_top (pw_s hE) ?_
                  refine pr_putf rfl rfl (Nat.le_of_ble_eq_true rfl) rfl hs_m7 ?_
                  refine pr_aload_n rfl rfl ?_
                  refine pr_getf rfl rfl rfl ?_
                  refine pr_push (v := 1) rfl rfl ?_
                  refine pr_step rfl rfl rfl rfl ?_
                  refine pr_top (nI_pred E) ?_
                  exact pr_reti rfl rfl (Or.inr (Or.inr ⟨by omega, by omega, rfl, rfl⟩))
                · skip
                  refine pr_push (v := (-4)) rfl rfl ?_
                  exact pr_reti rfl rfl (Or.inr (Or.inl ⟨by omega, by omega, rfl, rfl⟩))
              · skip
                refine pr_push (v := (-2)) rfl rfl ?_
                exact pr_reti rfl rfl (Or.inl ⟨by omega, rfl, rfl⟩)
theorem c_102 (d : Nat) {N : Nat} {xs : Nat → Int32} {zc zm : Nat → Int32} {e3 e11 e18 : Nat} {A : Nat → Nat → Int32} {g gh : Nat → Option Nat} {dy : pw_H} (K : Nat) (hK : zm 23 = nI K) (hKb : K ≤ 6)  (x y w h dx dz ex ez : Int32) : pw_M (d + 2) 102 [.inr (some 25), .inl x, .inl y, .inl w, .inl h, .inl dx, .inl dz, .inl ex, .inl ez] (hp_h N xs zc e3 e11 e18 zm A g gh dy) (pw_qi (fun r h' => (¬ (pw_bt w 1 4 ∧ pw_bt h 1 4 ∧ (0 ≤ x.toInt ∧ x.toInt + w.toInt ≤ 12) ∧ (0 ≤ y.toInt ∧ y.toInt + h.toInt ≤ 12) ∧ (x.toInt ≤ dx.toInt ∧ dx.toInt < x.toInt + w.toInt) ∧ (y.toInt ≤ dz.toInt ∧ dz.toInt < y.toInt + h.toInt) ∧ (x.toInt ≤ ex.toInt ∧ ex.toInt < x.toInt + w.toInt) ∧ (y.toInt ≤ ez.toInt ∧ ez.toInt < y.toInt + h.toInt)) ∧ r = -2 ∧ h' = (hp_h N xs zc e3 e11 e18 zm A g gh dy)) ∨ (¬ (¬ (pw_bt w 1 4 ∧ pw_bt h 1 4 ∧ (0 ≤ x.toInt ∧ x.toInt + w.toInt ≤ 12) ∧ (0 ≤ y.toInt ∧ y.toInt + h.toInt ≤ 12) ∧ (x.toInt ≤ dx.toInt ∧ dx.toInt < x.toInt + w.toInt) ∧ (y.toInt ≤ dz.toInt ∧ dz.toInt < y.toInt + h.toInt) ∧ (x.toInt ≤ ex.toInt ∧ ex.toInt < x.toInt + w.toInt) ∧ (y.toInt ≤ ez.toInt ∧ ez.toInt < y.toInt + h.toInt))) ∧ K = 6 ∧ r = -4 ∧ h' = (hp_h N xs zc e3 e11 e18 zm A g gh dy)) ∨ (¬ (¬ (pw_bt w 1 4 ∧ pw_bt h 1 4 ∧ (0 ≤ x.toInt ∧ x.toInt + w.toInt ≤ 12) ∧ (0 ≤ y.toInt ∧ y.toInt + h.toInt ≤ 12) ∧ (x.toInt ≤ dx.toInt ∧ dx.toInt < x.toInt + w.toInt) ∧ (y.toInt ≤ dz.toInt ∧ dz.toInt < y.toInt + h.toInt) ∧ (x.toInt ≤ ex.toInt ∧ ex.toInt < x.toInt + w.toInt) ∧ (y.toInt ≤ ez.toInt ∧ ez.toInt < y.toInt + h.toInt))) ∧ ¬ (K = 6) ∧ r = nI K ∧ h' = (hp_h N xs zc e3 e11 e18 (upd zm 23 (nI (K + 1))) (uA (uA (uA (uA (uA (uA A 43 (upd (A 43) K x)) 44 (upd (A 44) K y)) 45 (upd (A 45) K w)) 46 (upd (A 46) K h)) 47 (upd (A 47) K (12 * dz + dx))) 48 (upd (A 48) K (12 * ez + ex))) g gh dy)))) := by
  have z0 := pz_0
  have z1 := pz_1
  have z2 := pz_2
  have z3 := pz_3
  have z4 := pz_4
  have z6 := pz_6
  have z7 := pz_7
  have z10 := pz_10
  have z11 := pz_11
  have z12 := pz_12
  have z20 := pz_20
  have z30 := pz_30
  have z50 := pz_50
  have z60 := pz_60
  have z80 := pz_80
  have z300 := pz_300
  have hKT : (zm 23).toInt = (K : Int) := by rw [hK]; exact pw_T (by omega)
  have hKP : (zm 23 - 1).toInt = (K : Int) - 1 := by rw [hK]; exact pw_pred (by omega)
  refine pr_iload_n rfl rfl ?_
  refine pr_push (v := 1) rfl rfl ?_
  refine pr_push (v := 4) rfl rfl ?_
  refine pr_si3 rfl (by decide) (Nat.le_of_ble_eq_true rfl) (Nat.le_of_ble_eq_true rfl) (c_69 _ _ _ _ _) (fun r_3 h_3 q_3 => ?_)
  obtain ⟨rfl, rfl⟩ := q_3
  refine pr_b_eq rfl (fun c_6 => ?_) (fun c_6 => ?_)
  · skip
    refine pr_push (v := (-2)) rfl rfl ?_
    exact pr_reti rfl rfl (Or.inl ⟨by omega, rfl, rfl⟩)
  · skip
    refine pr_iload rfl rfl ?_
    refine pr_push (v := 1) rfl rfl ?_
    refine pr_push (v := 4) rfl rfl ?_
    refine pr_si3 rfl (by decide) (Nat.le_of_ble_eq_true rfl) (Nat.le_of_ble_eq_true rfl) (c_69 _ _ _ _ _) (fun r_13 h_13 q_13 => ?_)
    obtain ⟨rfl, rfl⟩ := q_13
    refine pr_b_eq rfl (fun c_16 => ?_) (fun c_16 => ?_)
    · skip
      refine pr_push (v := (-2)) rfl rfl ?_
      exact pr_reti rfl rfl (Or.inl ⟨by omega, rfl, rfl⟩)
    · skip
      refine pr_iload_n rfl rfl ?_
      refine pr_push (v := 0) rfl rfl ?_
      refine pr_push (v := 12) rfl rfl ?_
      refine pr_iload_n rfl rfl ?_
      refine pr_step rfl rfl rfl rfl ?_
      have s1 : (12 - w).toInt = 12 - w.toInt := by
        rw [pw_subT (by omega) (by omega)]
        omega
      refine pr_si3 rfl (by decide) (Nat.le_of_ble_eq_true rfl) (Nat.le_of_ble_eq_true rfl) (c_69 _ _ _ _ _) (fun r_25 h_25 q_25 => ?_)
      obtain ⟨rfl, rfl⟩ := q_25
      refine pr_b_eq rfl (fun c_28 => ?_) (fun c_28 => ?_)
      · skip
        refine pr_push (v := (-2)) rfl rfl ?_
        exact pr_reti rfl rfl (Or.inl ⟨by omega, rfl, rfl⟩)
      · skip
        refine pr_iload_n rfl rfl ?_
        refine pr_push (v := 0) rfl rfl ?_
        refine pr_push (v := 12) rfl rfl ?_
        refine pr_iload rfl rfl ?_
        refine pr_step rfl rfl rfl rfl ?_
        have s2 : (12 - h).toInt = 12 - h.toInt := by
          rw [pw_subT (by omega) (by omega)]
          omega
        refine pr_si3 rfl (by decide) (Nat.le_of_ble_eq_true rfl) (Nat.le_of_ble_eq_true rfl) (c_69 _ _ _ _ _) (fun r_38 h_38 q_38 => ?_)
        obtain ⟨rfl, rfl⟩ := q_38
        refine pr_b_eq rfl (fun c_41 => ?_) (fun c_41 => ?_)
        · skip
          refine pr_push (v := (-2)) rfl rfl ?_
          exact pr_reti rfl rfl (Or.inl ⟨by omega, rfl, rfl⟩)
        · skip
          refine pr_iload rfl rfl ?_
          refine pr_iload_n rfl rfl ?_
          refine pr_iload_n rfl rfl ?_
          refine pr_iload_n rfl rfl ?_
          refine pr_step rfl rfl rfl rfl ?_
          refine pr_push (v := 1) rfl rfl ?_
          refine pr_step rfl rfl rfl rfl ?_
          have s3 : (x + w - 1).toInt = x.toInt + w.toInt - 1 := by
            have e := pw_addT (a := x) (b := w) (by omega) (by omega)
            rw [pw_subT (by omega) (by omega)]
            omega
          refine pr_si3 rfl (by decide) (Nat.le_of_ble_eq_true rfl) (Nat.le_of_ble_eq_true rfl) (c_69 _ _ _ _ _) (fun r_52 h_52 q_52 => ?_)
          obtain ⟨rfl, rfl⟩ := q_52
          refine pr_b_eq rfl (fun c_55 => ?_) (fun c_55 => ?_)
          · skip
            refine pr_push (v := (-2)) rfl rfl ?_
            exact pr_reti rfl rfl (Or.inl ⟨by omega, rfl, rfl⟩)
          · skip
            refine pr_iload rfl rfl ?_
            refine pr_iload_n rfl rfl ?_
            refine pr_iload_n rfl rfl ?_
            refine pr_iload rfl rfl ?_
            refine pr_step rfl rfl rfl rfl ?_
            refine pr_push (v := 1) rfl rfl ?_
            refine pr_step rfl rfl rfl rfl ?_
            have s4 : (y + h - 1).toInt = y.toInt + h.toInt - 1 := by
              have e := pw_addT (a := y) (b := h) (by omega) (by omega)
              rw [pw_subT (by omega) (by omega)]
              omega
            refine pr_si3 rfl (by decide) (Nat.le_of_ble_eq_true rfl) (Nat.le_of_ble_eq_true rfl) (c_69 _ _ _ _ _) (fun r_67 h_67 q_67 => ?_)
            obtain ⟨rfl, rfl⟩ := q_67
            refine pr_b_eq rfl (fun c_70 => ?_) (fun c_70 => ?_)
            · skip
              refine pr_push (v := (-2)) rfl rfl ?_
              exact pr_reti rfl rfl (Or.inl ⟨by omega, rfl, rfl⟩)
            · skip
              refine pr_iload rfl rfl ?_
              refine pr_iload_n rfl rfl ?_
              refine pr_iload_n rfl rfl ?_
              refine pr_iload_n rfl rfl ?_
              refine pr_step rfl rfl rfl rfl ?_
              refine pr_push (v := 1) rfl rfl ?_
              refine pr_step rfl rfl rfl rfl ?_
              refine pr_si3 rfl (by decide) (Nat.le_of_ble_eq_true rfl) (Nat.le_of_ble_eq_true rfl) (c_69 _ _ _ _ _) (fun r_81 h_81 q_81 => ?_)
              obtain ⟨rfl, rfl⟩ := q_81
              refine pr_b_eq rfl (fun c_84 => ?_) (fun c_84 => ?_)
              · skip
                refine pr_push (v := (-2)) rfl rfl ?_
                exact pr_reti rfl rfl (Or.inl ⟨by omega, rfl, rfl⟩)
              · skip
                refine pr_iload rfl rfl ?_
                refine pr_iload_n rfl rfl ?_
                refine pr_iload_n rfl rfl ?_
                refine pr_iload rfl rfl ?_
                refine pr_step rfl rfl rfl rfl ?_
                refine pr_push (v := 1) rfl rfl ?_
                refine pr_step rfl rfl rfl rfl ?_
                refine pr_si3 rfl (by decide) (Nat.le_of_ble_eq_true rfl) (Nat.le_of_ble_eq_true rfl) (c_69 _ _ _ _ _) (fun r_96 h_96 q_96 => ?_)
                obtain ⟨rfl, rfl⟩ := q_96
                refine pr_b_ne rfl (fun c_99 => ?_) (fun c_99 => ?_)
                · skip
                  refine pr_aload_n rfl rfl ?_
                  refine pr_getf rfl rfl rfl ?_
                  refine pr_push (v := 6) rfl rfl ?_
                  refine pr_u_ne rfl (fun c_111 => ?_) (fun c_111 => ?_)
                  · skip
                    refine pr_aload_n rfl rfl ?_
                    refine pr_getf rfl rfl rfl ?_
                    refine pr_aload_n rfl rfl ?_
                    refine pr_getf rfl rfl rfl ?_
                    refine pr_iload_n rfl rfl ?_
                    refine pr_iast (K) rfl rfl (by decide) hK (by omega) hs_a43 ?_
                    refine pr_aload_n rfl rfl ?_
                    refine pr_getf rfl rfl rfl ?_
                    refine pr_aload_n rfl rfl ?_
                    refine pr_getf rfl rfl rfl ?_
                    refine pr_iload_n rfl rfl ?_
                    refine pr_iast (K) rfl rfl (by decide) hK (by omega) hs_a44 ?_
                    refine pr_aload_n rfl rfl ?_
                    refine pr_getf rfl rfl rfl ?_
                    refine pr_aload_n rfl rfl ?_
                    refine pr_getf rfl rfl rfl ?_
                    refine pr_iload_n rfl rfl ?_
                    refine pr_iast (K) rfl rfl (by decide) hK (by omega) hs_a45 ?_
                    refine pr_aload_n rfl rfl ?_
                    refine pr_getf rfl rfl rfl ?_
                    refine pr_aload_n rfl rfl ?_
                    refine pr_getf rfl rfl rfl ?_
                    refine pr_iload rfl rfl ?_
                    refine pr_iast (K) rfl rfl (by decide) hK (by omega) hs_a46 ?_
                    refine pr_aload_n rfl rfl ?_
                    refine pr_getf rfl rfl rfl ?_
                    refine pr_aload_n rfl rfl ?_
                    refine pr_getf rfl rfl rfl ?_
                    refine pr_push (v := 12) rfl rfl ?_
                    refine pr_iload rfl rfl ?_
                    refine pr_step rfl rfl rfl rfl ?_
                    refine pr_iload rfl rfl ?_
                    refine pr_step rfl rfl rfl rfl ?_
                    refine pr_iast (K) rfl rfl (by decide) hK (by omega) hs_a47 ?_
                    refine pr_aload_n rfl rfl ?_
                    refine pr_getf rfl rfl rfl ?_
                    refine pr_aload_n rfl rfl ?_
                    refine pr_getf rfl rfl rfl ?_
                    refine pr_push (v := 12) rfl rfl ?_
                    refine pr_iload rfl rfl ?_
                    refine pr_step rfl rfl rfl rfl ?_
                    refine pr_iload rfl rfl ?_
                    refine pr_step rfl rfl rfl rfl ?_
                    refine pr_iast (K) rfl rfl (by decide) hK (by omega) hs_a48 ?_
                    refine pr_aload_n rfl rfl ?_
                    refine pr_step rfl rfl rfl rfl ?_
                    refine pr_getf rfl rfl rfl ?_
                    refine pr_push (v := 1) rfl rfl ?_
                    refine pr_step rfl rfl rfl rfl ?_
                    refine pr_top (pw_s hK) ?_
                    refine pr_putf rfl rfl (Nat.le_of_ble_eq_true rfl) rfl hs_m23 ?_
                    refine pr_aload_n rfl rfl ?_
                    refine pr_getf rfl rfl rfl ?_
                    refine pr_push (v := 1) rfl rfl ?_
                    refine pr_step rfl rfl rfl rfl ?_
                    refine pr_top (nI_pred K) ?_
                    exact pr_reti rfl rfl (Or.inr (Or.inr ⟨by omega, by omega, rfl, rfl⟩))
                  · skip
                    refine pr_push (v := (-4)) rfl rfl ?_
                    exact pr_reti rfl rfl (Or.inr (Or.inl ⟨by omega, by omega, rfl, rfl⟩))
                · skip
                  refine pr_push (v := (-2)) rfl rfl ?_
                  exact pr_reti rfl rfl (Or.inl ⟨by omega, rfl, rfl⟩)
