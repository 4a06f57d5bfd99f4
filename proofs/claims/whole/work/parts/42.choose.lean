section CH
variable {D L U : Nat → Int} {n : Nat}
theorem wl_skip {f : Nat → Int} : ∀ i, i ≤ n → (∀ k, k < i → f k = 0) → wl_s f (n - i) i = wl_s f n 0
  | 0, _, _ => rfl
  | i + 1, hi, h => by
    have h1 := wl_skip (f := f) i (by omega) (fun k hk => h k (by omega))
    rw [show n - i = (n - (i + 1)) + 1 by omega, wl_s, h i (by omega), Int.zero_add] at h1
    exact h1
/-- how far one axis is, going along the legs -/
def ch_ax (D L U : Nat → Int) (n : Nat) (ax : Int) (i : Nat) (off : Int) : Prop := (wl_feas D L U n ax ∧ off = -(wl_nd D L U n ax i)) ∨ ((∀ k, k < i → ¬ D k % 2 = ax) ∧ off = 0)
theorem ch_nd0 {ax : Int} : ∀ i, (∀ k, k < i → ¬ D k % 2 = ax) → wl_nd D L U n ax i = 0
  | 0, _ => rfl
  | i + 1, h => by
    rw [wl_nd, if_neg (h i (by omega))]
    exact ch_nd0 i (fun k hk => h k (by omega))
theorem ch_skip {ax : Int} {i : Nat} (hi : i ≤ n) (h : ∀ k, k < i → ¬ D k % 2 = ax) : wl_s (wl_mn D L U ax) (n - i) i = wl_s (wl_mn D L U ax) n 0 ∧ wl_s (wl_mx D L U ax) (n - i) i = wl_s (wl_mx D L U ax) n 0 :=
  ⟨wl_skip i hi (fun k hk => if_neg (h k hk)), wl_skip i hi (fun k hk => if_neg (h k hk))⟩
theorem ch_b (hw : wl_ok D L U n) {ax : Int} {i : Nat} {off : Int} (hi : i ≤ n) (h : ch_ax D L U n ax i off) : -144 ≤ off ∧ off ≤ 144 := by
  rcases h with ⟨h1, h2⟩ | ⟨h1, h2⟩
  · have h3 := wl_nd_b hw hi h1
    omega
  · omega
theorem wl_len_a (hw : wl_ok D L U n) {i : Nat} (hi : i < n) (hf : wl_feas D L U n (D i % 2)) : L i ≤ wl_len D L U n i ∧ wl_len D L U n i ≤ U i := by
  have h1 := wl_keep hw (ax := D i % 2) i (by omega) hf
  rw [show n - i = (n - (i + 1)) + 1 by omega] at h1
  have h2 := wl_step hw (ax := D i % 2) (i := i) (c := n - (i + 1)) (by omega) h1 rfl
  exact ⟨h2.1, h2.2.1⟩
theorem ch_step (hw : wl_ok D L U n) {i : Nat} (hi : i < n) {off : Int} (h : ch_ax D L U n (D i % 2) i off) {r : Int32} (hr : ll_is (D i) (wl_s (wl_mn D L U (D i % 2)) (n - (i + 1)) (i + 1)) (wl_s (wl_mx D L U (D i % 2)) (n - (i + 1)) (i + 1)) (-off) (L i) (U i) r) : (wl_feas D L U n (D i % 2) ∧ off = -(wl_nd D L U n (D i % 2) i) ∧ r.toInt = wl_len D L U n i) ∨ (¬ wl_feas D L U n (D i % 2) ∧ r = -1) := by
  obtain ⟨h1, h2⟩ := ll_pick hw hi rfl hr
  by_cases hf : wl_feas D L U n (D i % 2)
  · have ho : off = -(wl_nd D L U n (D i % 2) i) := by
      rcases h with h | ⟨h3, h4⟩
      · exact h.2
      · rw [ch_nd0 i h3, h4]; rfl
    have hk := wl_keep hw (ax := D i % 2) i (by omega) hf
    have e : -off = wl_nd D L U n (D i % 2) i := by omega
    rw [e] at h1
    exact Or.inl ⟨hf, ho, h1 hk⟩
  · refine Or.inr ⟨hf, h2 ?_⟩
    rcases h with h | ⟨h3, h4⟩
    · exact absurd h.1 hf
    · obtain ⟨e1, e2⟩ := ch_skip (D := D) (L := L) (U := U) (n := n) (by omega) h3
      rw [e1, e2, h4]
      exact hf
theorem ch_same {ax : Int} {i : Nat} {off : Int} (h : ch_ax D L U n ax i off) (hne : ¬ D i % 2 = ax) : ch_ax D L U n ax (i + 1) off := by
  rcases h with ⟨h1, h2⟩ | ⟨h1, h2⟩
  · refine Or.inl ⟨h1, ?_⟩
    rw [wl_nd, if_neg hne]
    exact h2
  · refine Or.inr ⟨fun k hk => ?_, h2⟩
    by_cases e : k = i
    · rw [e]; exact hne
    · exact h1 k (by omega)
theorem ch_take {i : Nat} {off off2 : Int} (hf : wl_feas D L U n (D i % 2)) (ho : off = -(wl_nd D L U n (D i % 2) i)) (h2 : off2 = off + (if D i < 2 then wl_len D L U n i else -(wl_len D L U n i))) : ch_ax D L U n (D i % 2) (i + 1) off2 := by
  refine Or.inl ⟨hf, ?_⟩
  rw [wl_nd, if_pos rfl, h2, ho]
  show _ = -(wl_nd D L U n (D i % 2) i - (if D i < 2 then 1 else -1) * wl_len D L U n i)
  split <;> omega
theorem ch_end {ax : Int} {off : Int} (h : ch_ax D L U n ax n off) : wl_feas D L U n ax := by
  rcases h with h | ⟨h1, h2⟩
  · exact h.1
  · obtain ⟨e1, e2⟩ := ch_skip (D := D) (L := L) (U := U) (n := n) (Nat.le_refl n) h1
    rw [Nat.sub_self, wl_s] at e1 e2
    exact ⟨by omega, by omega⟩
end CH
theorem c_15_loop (d : Nat) {H pst : pw_H} {x0 y0 : Int32} {D L U R : Nat → Int32} {n : Nat} {hl hr : Int32} (hw : wl_ok (iT D) (iT L) (iT U) n) : ∀ (c i : Nat) (C : Nat → Int32) (x y : Int32) (g4 : Option pw_V), i + c = n → ch_ax (iT D) (iT L) (iT U) n 0 i x.toInt → ch_ax (iT D) (iT L) (iT U) n 1 i y.toInt → (∀ k, k < i → (C k).toInt = wl_len (iT D) (iT L) (iT U) n k) → pw_W (d + 2) 15 6 [some (.inr (some H.length)), some (.inl x), some (.inl y), some (.inl (nI i)), g4] [] (wk_h H pst x0 y0 D L U C R n hl hr) (pw_qi (fun r h' => r = pw_b (wl_feas (iT D) (iT L) (iT U) n 0 ∧ wl_feas (iT D) (iT L) (iT U) n 1) ∧ ∃ C2 : Nat → Int32, h' = (wk_h H pst x0 y0 D L U C2 R n hl hr) ∧ ((wl_feas (iT D) (iT L) (iT U) n 0 ∧ wl_feas (iT D) (iT L) (iT U) n 1) → ∀ k, k < n → (C2 k).toInt = wl_len (iT D) (iT L) (iT U) n k))) := by
  have hn12 := hw.1
  have zm1 := pz_m1
  have hnT := pw_T (n := n) (by omega)
  intro c
  induction c with
  | zero =>
    intro i C x y g4 hi hx hy hC
    obtain rfl : i = n := by omega
    refine pr_iload_n rfl rfl ?_
    refine pr_aload_n rfl rfl ?_
    refine pr_getf rfl wr_100 rfl ?_
    refine pr_c_ge rfl (fun c_11 => ?_) (fun c_11 => ?_)
    · skip
      refine pr_push (v := 1) rfl rfl ?_
      exact pr_retb rfl rfl rfl (⟨(pw_b1 ⟨ch_end hx, ch_end hy⟩).symm, C, rfl, fun _ => hC⟩)
    · skip
      exact absurd c_11 (by omega)
  | succ c ih =>
    intro i C x y g4 hi hx hy hC
    have hiT := pw_T (n := i) (by omega)
    have hin : i < n := by omega
    have hi2 := hw.2 i hin
    dsimp only [iT] at hi2
    have hxb := ch_b hw (by omega) hx
    have hyb := ch_b hw (by omega) hy
    refine pr_iload_n rfl rfl ?_
    refine pr_aload_n rfl rfl ?_
    refine pr_getf rfl wr_100 rfl ?_
    refine pr_c_ge rfl (fun c_11 => ?_) (fun c_11 => ?_)
    · skip
      exact absurd c_11 (by omega)
    · skip
      refine pr_aload_n rfl rfl ?_
      refine pr_iload_n rfl rfl ?_
      refine pr_aload_n rfl rfl ?_
      refine pr_iload_n rfl rfl ?_
      refine pr_vi1 rfl (by decide) (Nat.le_of_ble_eq_true rfl) wr_100 (Nat.le_of_ble_eq_true rfl) (c_19 _ i (by omega) (by omega)) (fun r_18 h_18 q_18 => ?_)
      obtain ⟨rfl, rfl⟩ := q_18
      refine pr_b_eq rfl (fun c_21 => ?_) (fun c_21 => ?_)
      · skip
        refine pr_iload_n rfl rfl ?_
        refine pr_vi2 rfl (by decide) (Nat.le_of_ble_eq_true rfl) wr_100 (Nat.le_of_ble_eq_true rfl) (c_16 _ hw i hin _ (by omega)) (fun r_29 h_29 q_29 => ?_)
        obtain ⟨q29, rfl⟩ := q_29
        first
        | (have st := ch_step hw hin (h := by rw [show iT D i % 2 = 0 by dsimp only [iT]; omega]; exact hx) q29)
        | (have st := ch_step hw hin (h := by rw [show iT D i % 2 = 1 by dsimp only [iT]; omega]; exact hy) q29)
        clear q29
        refine pr_istore rfl (Nat.le_of_ble_eq_true rfl) rfl ?_
        refine pr_iload rfl rfl ?_
        refine pr_push (v := (-1)) rfl rfl ?_
        refine pr_c_ne rfl (fun c_37 => ?_) (fun c_37 => ?_)
        · skip
          obtain ⟨sf, so, sr⟩ := st.resolve_right (fun z => c_37 z.2)
          have hlb := wl_len_a hw hin sf
          dsimp only [iT] at hlb
          rw [← sr] at hlb
          clear st
          have k21 := c_21
          clear c_21
          refine pr_aload_n rfl rfl ?_
          refine pr_getf rfl wr_100 rfl ?_
          refine pr_iload_n rfl rfl ?_
          refine pr_iload rfl rfl ?_
          refine pr_iast (i) rfl wr_104 (by decide) rfl (by omega) ht_a104 ?_
          refine pr_iload_n rfl rfl ?_
          refine pr_aload_n rfl rfl ?_
          refine pr_iload_n rfl rfl ?_
          refine pr_vi1 rfl (by decide) (Nat.le_of_ble_eq_true rfl) wr_100 (Nat.le_of_ble_eq_true rfl) (c_21 (C := upd C i r_29) _ i (by omega) (by omega) (by rw [show upd C i r_29 i = r_29 from if_pos rfl]; omega)) (fun r_53 h_53 q_53 => ?_)
          obtain ⟨q53, rfl⟩ := q_53
          rw [show upd C i r_29 i = r_29 from if_pos rfl] at q53
          have b53 : -12 ≤ r_53.toInt ∧ r_53.toInt ≤ 12 := by rw [q53]; split <;> (try split) <;> omega
          refine pr_step rfl rfl rfl rfl ?_
          refine pr_gen (fun w => w.toInt = x.toInt + r_53.toInt) (pw_addT (by omega) (by omega)) (fun x2 hx2 => ?_)
          refine pr_istore_n rfl (Nat.le_of_ble_eq_true rfl) rfl ?_
          refine pr_iload_n rfl rfl ?_
          refine pr_aload_n rfl rfl ?_
          refine pr_iload_n rfl rfl ?_
          refine pr_vi1 rfl (by decide) (Nat.le_of_ble_eq_true rfl) wr_100 (Nat.le_of_ble_eq_true rfl) (c_22 (C := upd C i r_29) _ i (by omega) (by omega) (by rw [show upd C i r_29 i = r_29 from if_pos rfl]; omega)) (fun r_61 h_61 q_61 => ?_)
          obtain ⟨q61, rfl⟩ := q_61
          rw [show upd C i r_29 i = r_29 from if_pos rfl] at q61
          have b61 : -12 ≤ r_61.toInt ∧ r_61.toInt ≤ 12 := by rw [q61]; split <;> (try split) <;> omega
          refine pr_step rfl rfl rfl rfl ?_
          refine pr_gen (fun w => w.toInt = y.toInt + r_61.toInt) (pw_addT (by omega) (by omega)) (fun y2 hy2 => ?_)
          refine pr_istore_n rfl (Nat.le_of_ble_eq_true rfl) rfl ?_
          refine pr_iinc rfl rfl (pw_inc i) rfl ?_
          refine pr_step rfl rfl rfl rfl ?_
          first
          | exact ih (i + 1) (upd C i r_29) x2 y2 _ (by omega) (by
              have e := ch_take (off2 := x2.toInt) sf so (by
                rw [hx2, q53, ← sr]
                dsimp only [iT]
                rcases (show (D i).toInt = 0 ∨ (D i).toInt = 2 by omega) with e | e
                · rw [if_pos e, if_pos (by omega)]
                · rw [if_neg (by omega), if_pos e, if_neg (by omega)])
              rw [show iT D i % 2 = 0 by dsimp only [iT]; omega] at e
              exact e) (by
              have e : y2.toInt = y.toInt := by rw [hy2, q61, if_neg (by omega), if_neg (by omega), Int.add_zero]
              rw [e]
              exact ch_same hy (by dsimp only [iT]; omega)) (fun k hk => by
              unfold upd
              split
              · rename_i e; rw [e]; exact sr
              · exact hC k (by omega))
          | exact ih (i + 1) (upd C i r_29) x2 y2 _ (by omega) (by
              have e : x2.toInt = x.toInt := by rw [hx2, q53, if_neg (by omega), if_neg (by omega), Int.add_zero]
              rw [e]
              exact ch_same hx (by dsimp only [iT]; omega)) (by
              have e := ch_take (off2 := y2.toInt) sf so (by
                rw [hy2, q61, ← sr]
                dsimp only [iT]
                rcases (show (D i).toInt = 1 ∨ (D i).toInt = 3 by omega) with e | e
                · rw [if_pos e, if_pos (by omega)]
                · rw [if_neg (by omega), if_pos e, if_neg (by omega)])
              rw [show iT D i % 2 = 1 by dsimp only [iT]; omega] at e
              exact e) (fun k hk => by
              unfold upd
              split
              · rename_i e; rw [e]; exact sr
              · exact hC k (by omega))
        · skip
          refine pr_push (v := 0) rfl rfl ?_
          exact pr_retb rfl rfl rfl (by
    rcases st with ⟨s1, s2, s3⟩ | ⟨s1, s2⟩
    · exfalso
      have hlb := wl_len_a hw hin s1
      dsimp only [iT] at hlb
      rw [c_37] at s3
      rw [← s3] at hlb
      omega
    · refine ⟨(pw_b0 (fun hh => s1 ?_)).symm, C, rfl, fun hh => absurd ?_ s1⟩
      · rcases (show (D i).toInt % 2 = 0 ∨ (D i).toInt % 2 = 1 by omega) with e | e
        · dsimp only [iT]; rw [e]; exact hh.1
        · dsimp only [iT]; rw [e]; exact hh.2
      · rcases (show (D i).toInt % 2 = 0 ∨ (D i).toInt % 2 = 1 by omega) with e | e
        · dsimp only [iT]; rw [e]; exact hh.1
        · dsimp only [iT]; rw [e]; exact hh.2)
      · skip
        refine pr_iload_n rfl rfl ?_
        refine pr_step rfl rfl rfl rfl ?_
        refine pr_vi2 rfl (by decide) (Nat.le_of_ble_eq_true rfl) wr_100 (Nat.le_of_ble_eq_true rfl) (c_16 _ hw i hin _ (by omega)) (fun r_29 h_29 q_29 => ?_)
        obtain ⟨q29, rfl⟩ := q_29
        first
        | (have st := ch_step hw hin (h := by rw [show iT D i % 2 = 0 by dsimp only [iT]; omega]; exact hx) q29)
        | (have st := ch_step hw hin (h := by rw [show iT D i % 2 = 1 by dsimp only [iT]; omega]; exact hy) q29)
        clear q29
        refine pr_istore rfl (Nat.le_of_ble_eq_true rfl) rfl ?_
        refine pr_iload rfl rfl ?_
        refine pr_push (v := (-1)) rfl rfl ?_
        refine pr_c_ne rfl (fun c_37 => ?_) (fun c_37 => ?_)
        · skip
          obtain ⟨sf, so, sr⟩ := st.resolve_right (fun z => c_37 z.2)
          have hlb := wl_len_a hw hin sf
          dsimp only [iT] at hlb
          rw [← sr] at hlb
          clear st
          have k21 := c_21
          clear c_21
          refine pr_aload_n rfl rfl ?_
          refine pr_getf rfl wr_100 rfl ?_
          refine pr_iload_n rfl rfl ?_
          refine pr_iload rfl rfl ?_
          refine pr_iast (i) rfl wr_104 (by decide) rfl (by omega) ht_a104 ?_
          refine pr_iload_n rfl rfl ?_
          refine pr_aload_n rfl rfl ?_
          refine pr_iload_n rfl rfl ?_
          refine pr_vi1 rfl (by decide) (Nat.le_of_ble_eq_true rfl) wr_100 (Nat.le_of_ble_eq_true rfl) (c_21 (C := upd C i r_29) _ i (by omega) (by omega) (by rw [show upd C i r_29 i = r_29 from if_pos rfl]; omega)) (fun r_53 h_53 q_53 => ?_)
          obtain ⟨q53, rfl⟩ := q_53
          rw [show upd C i r_29 i = r_29 from if_pos rfl] at q53
          have b53 : -12 ≤ r_53.toInt ∧ r_53.toInt ≤ 12 := by rw [q53]; split <;> (try split) <;> omega
          refine pr_step rfl rfl rfl rfl ?_
          refine pr_gen (fun w => w.toInt = x.toInt + r_53.toInt) (pw_addT (by omega) (by omega)) (fun x2 hx2 => ?_)
          refine pr_istore_n rfl (Nat.le_of_ble_eq_true rfl) rfl ?_
          refine pr_iload_n rfl rfl ?_
          refine pr_aload_n rfl rfl ?_
          refine pr_iload_n rfl rfl ?_
          refine pr_vi1 rfl (by decide) (Nat.le_of_ble_eq_true rfl) wr_100 (Nat.le_of_ble_eq_true rfl) (c_22 (C := upd C i r_29) _ i (by omega) (by omega) (by rw [show upd C i r_29 i = r_29 from if_pos rfl]; omega)) (fun r_61 h_61 q_61 => ?_)
          obtain ⟨q61, rfl⟩ := q_61
          rw [show upd C i r_29 i = r_29 from if_pos rfl] at q61
          have b61 : -12 ≤ r_61.toInt ∧ r_61.toInt ≤ 12 := by rw [q61]; split <;> (try split) <;> omega
          refine pr_step rfl rfl rfl rfl ?_
          refine pr_gen (fun w => w.toInt = y.toInt + r_61.toInt) (pw_addT (by omega) (by omega)) (fun y2 hy2 => ?_)
          refine pr_istore_n rfl (Nat.le_of_ble_eq_true rfl) rfl ?_
          refine pr_iinc rfl rfl (pw_inc i) rfl ?_
          refine pr_step rfl rfl rfl rfl ?_
          first
          | exact ih (i + 1) (upd C i r_29) x2 y2 _ (by omega) (by
              have e := ch_take (off2 := x2.toInt) sf so (by
                rw [hx2, q53, ← sr]
                dsimp only [iT]
                rcases (show (D i).toInt = 0 ∨ (D i).toInt = 2 by omega) with e | e
                · rw [if_pos e, if_pos (by omega)]
                · rw [if_neg (by omega), if_pos e, if_neg (by omega)])
              rw [show iT D i % 2 = 0 by dsimp only [iT]; omega] at e
              exact e) (by
              have e : y2.toInt = y.toInt := by rw [hy2, q61, if_neg (by omega), if_neg (by omega), Int.add_zero]
              rw [e]
              exact ch_same hy (by dsimp only [iT]; omega)) (fun k hk => by
              unfold upd
              split
              · rename_i e; rw [e]; exact sr
              · exact hC k (by omega))
          | exact ih (i + 1) (upd C i r_29) x2 y2 _ (by omega) (by
              have e : x2.toInt = x.toInt := by rw [hx2, q53, if_neg (by omega), if_neg (by omega), Int.add_zero]
              rw [e]
              exact ch_same hx (by dsimp only [iT]; omega)) (by
              have e := ch_take (off2 := y2.toInt) sf so (by
                rw [hy2, q61, ← sr]
                dsimp only [iT]
                rcases (show (D i).toInt = 1 ∨ (D i).toInt = 3 by omega) with e | e
                · rw [if_pos e, if_pos (by omega)]
                · rw [if_neg (by omega), if_pos e, if_neg (by omega)])
              rw [show iT D i % 2 = 1 by dsimp only [iT]; omega] at e
              exact e) (fun k hk => by
              unfold upd
              split
              · rename_i e; rw [e]; exact sr
              · exact hC k (by omega))
        · skip
          refine pr_push (v := 0) rfl rfl ?_
          exact pr_retb rfl rfl rfl (by
    rcases st with ⟨s1, s2, s3⟩ | ⟨s1, s2⟩
    · exfalso
      have hlb := wl_len_a hw hin s1
      dsimp only [iT] at hlb
      rw [c_37] at s3
      rw [← s3] at hlb
      omega
    · refine ⟨(pw_b0 (fun hh => s1 ?_)).symm, C, rfl, fun hh => absurd ?_ s1⟩
      · rcases (show (D i).toInt % 2 = 0 ∨ (D i).toInt % 2 = 1 by omega) with e | e
        · dsimp only [iT]; rw [e]; exact hh.1
        · dsimp only [iT]; rw [e]; exact hh.2
      · rcases (show (D i).toInt % 2 = 0 ∨ (D i).toInt % 2 = 1 by omega) with e | e
        · dsimp only [iT]; rw [e]; exact hh.1
        · dsimp only [iT]; rw [e]; exact hh.2)
theorem c_15 (d : Nat) {H pst : pw_H} {x0 y0 : Int32} {D L U C R : Nat → Int32} {n : Nat} {hl hr : Int32} (hw : wl_ok (iT D) (iT L) (iT U) n) : pw_M (d + 2) 15 [.inr (some H.length)] (wk_h H pst x0 y0 D L U C R n hl hr) (pw_qi (fun r h' => r = pw_b (wl_feas (iT D) (iT L) (iT U) n 0 ∧ wl_feas (iT D) (iT L) (iT U) n 1) ∧ ∃ C2 : Nat → Int32, h' = (wk_h H pst x0 y0 D L U C2 R n hl hr) ∧ ((wl_feas (iT D) (iT L) (iT U) n 0 ∧ wl_feas (iT D) (iT L) (iT U) n 1) → ∀ k, k < n → (C2 k).toInt = wl_len (iT D) (iT L) (iT U) n k))) := by
  refine pr_push (v := 0) rfl rfl ?_
  refine pr_istore_n rfl (Nat.le_of_ble_eq_true rfl) rfl ?_
  refine pr_push (v := 0) rfl rfl ?_
  refine pr_istore_n rfl (Nat.le_of_ble_eq_true rfl) rfl ?_
  refine pr_push (v := 0) rfl rfl ?_
  refine pr_istore_n rfl (Nat.le_of_ble_eq_true rfl) rfl ?_
  exact c_15_loop d hw n 0 C 0 0 _ (by omega) (Or.inr ⟨fun k hk => absurd hk (Nat.not_lt_zero k), rfl⟩) (Or.inr ⟨fun k hk => absurd hk (Nat.not_lt_zero k), rfl⟩) (fun k hk => absurd hk (Nat.not_lt_zero k))
