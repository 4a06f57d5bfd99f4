abbrev wk_fe (D L U : Nat → Int32) (n : Nat) : Prop := wl_feas (iT D) (iT L) (iT U) n 0 ∧ wl_feas (iT D) (iT L) (iT U) n 1
abbrev wk_rg (D L U : Nat → Int32) (n : Nat) (x0 y0 : Int32) : Prop := wk_fe D L U n ∧ wl_land (iT D) (wl_len (iT D) (iT L) (iT U) n) x0.toInt y0.toInt n
abbrev wk_V (D L U : Nat → Int32) (n : Nat) (x0 y0 : Int32) : Int → Int → Bool := wl_V (iT D) (wl_len (iT D) (iT L) (iT U) n) x0.toInt y0.toInt n
/-- what a settled walk has in its rows -/
def wk_res (D L U C R : Nat → Int32) (n : Nat) (x0 y0 : Int32) : Prop := (wk_fe D L U n → ∀ k, k < n → (C k).toInt = wl_len (iT D) (iT L) (iT U) n k) ∧ ∀ y : Nat, y < 12 → rb_is (R y) (fun x => decide (wk_rg D L U n x0 y0) && wl_pf (wk_V D L U n x0 y0) y (x + 1))
theorem rb_sm : ∀ x, x < 12 → ((nI x &&& 31).toBitVec.smod 32).toNat = x := by decide +kernel
theorem rb_one (i : Nat) : (Int32.toBitVec 1).getLsbD i = decide (i = 0) := by
  show (1#32).getLsbD i = _
  rw [BitVec.getLsbD_one]
  rfl
theorem rb_bit {r : Int32} {p : Nat → Bool} (h : rb_is r p) {x : Nat} (hx : x < 12) : ((r >>> (nI x &&& 31)) &&& 1 = 1) ↔ p x = true := by
  have h1 := h x (by omega)
  rw [decide_eq_true hx, Bool.true_and] at h1
  have h2 : ∀ i, ((r >>> (nI x &&& 31)) &&& 1).toBitVec.getLsbD i = (decide (i = 0) && p x) := by
    intro i
    rw [Int32.toBitVec_and, Int32.toBitVec_shiftRight, BitVec.getLsbD_and, BitVec.getLsbD_sshiftRight', rb_sm x hx, rb_one]
    by_cases hi : i = 0
    · rw [hi, if_pos (by omega), Nat.add_zero, h1]
      simp
    · rw [decide_eq_false hi, Bool.and_false, Bool.false_and]
  constructor
  · intro h3
    have h4 := h2 0
    rw [h3] at h4
    rw [decide_eq_true rfl, Bool.true_and] at h4
    exact h4.symm
  · intro h3
    rw [← Int32.toBitVec_inj]
    apply BitVec.eq_of_getLsbD_eq
    intro i hi
    rw [h2 i, h3, Bool.and_true, rb_one]
theorem c_14_z (d : Nat) {H pst : pw_H} {x0 y0 : Int32} {D L U C : Nat → Int32} {n : Nat} {hl hr : Int32} (Q : Option pw_V → pw_H → Prop) (K : ∀ (R : Nat → Int32) (g1 : Option pw_V), (∀ y, y < 12 → R y = 0) → pw_W (d + 3) 14 21 [some (.inr (some H.length)), g1] [] (wk_h H pst x0 y0 D L U C R n hl hr) Q) : ∀ (c k : Nat) (R : Nat → Int32), k + c = 12 → (∀ y, y < k → R y = 0) → pw_W (d + 3) 14 2 [some (.inr (some H.length)), some (.inl (nI k))] [] (wk_h H pst x0 y0 D L U C R n hl hr) Q := by
  have z12 := pz_12
  intro c
  induction c with
  | zero =>
    intro k R hk hR
    obtain rfl : k = 12 := by omega
    have hkT := pw_T (n := 12) (by omega)
    refine pr_iload_n rfl rfl ?_
    refine pr_push (v := 12) rfl rfl ?_
    refine pr_c_ge rfl (fun c_5 => ?_) (fun c_5 => ?_)
    · skip
      exact K R _ hR
    · skip
      exact absurd c_5 (by omega)
  | succ c ih =>
    intro k R hk hR
    have hkT := pw_T (n := k) (by omega)
    refine pr_iload_n rfl rfl ?_
    refine pr_push (v := 12) rfl rfl ?_
    refine pr_c_ge rfl (fun c_5 => ?_) (fun c_5 => ?_)
    · skip
      exact absurd c_5 (by omega)
    · skip
      refine pr_aload_n rfl rfl ?_
      refine pr_getf rfl wr_100 rfl ?_
      refine pr_iload_n rfl rfl ?_
      refine pr_push (v := 0) rfl rfl ?_
      refine pr_iast (k) rfl wr_105 (by decide) rfl (by omega) ht_a105 ?_
      refine pr_iinc rfl rfl (pw_inc k) rfl ?_
      refine pr_step rfl rfl rfl rfl ?_
      exact ih (k + 1) _ (by omega) (fun y hy => by
        unfold upd
        split
        · rfl
        · exact hR y (by omega))
theorem c_14 (d : Nat) {H pst : pw_H} {x0 y0 : Int32} {D L U C R : Nat → Int32} {n : Nat} {hl hr : Int32} (hw : wl_ok (iT D) (iT L) (iT U) n) (hx0 : 0 ≤ x0.toInt ∧ x0.toInt ≤ 12) (hy0 : 0 ≤ y0.toInt ∧ y0.toInt ≤ 12) : pw_M (d + 3) 14 [.inr (some H.length)] (wk_h H pst x0 y0 D L U C R n hl hr) (pw_qv (fun h' => ∃ C2 R2 : Nat → Int32, h' = (wk_h H pst x0 y0 D L U C2 R2 n (pw_b (wk_fe D L U n)) (pw_b (wk_rg D L U n x0 y0))) ∧ wk_res D L U C2 R2 n x0 y0)) := by
  refine pr_push (v := 0) rfl rfl ?_
  refine pr_istore_n rfl (Nat.le_of_ble_eq_true rfl) rfl ?_
  refine c_14_z d _ (fun R2 g1 hR2 => ?_) 12 0 R (by omega) (fun y hy => absurd hy (Nat.not_lt_zero y))
  refine pr_aload_n rfl rfl ?_
  refine pr_aload_n rfl rfl ?_
  refine pr_vi0 rfl (by decide) (Nat.le_of_ble_eq_true rfl) wr_100 (Nat.le_of_ble_eq_true rfl) (c_15 _ hw) (fun r_23 h_23 q_23 => ?_)
  obtain ⟨e_23, C2, rfl, hC2⟩ := q_23
  subst e_23
  refine pr_putf rfl wr_100 (Nat.le_of_ble_eq_true rfl) pw_bb ht_o100_8 ?_
  refine pr_aload_n rfl rfl ?_
  refine pr_aload_n rfl rfl ?_
  refine pr_getf rfl wr_100 rfl ?_
  refine pr_b_eq rfl (fun c_34 => ?_) (fun c_34 => ?_)
  · skip
    have hno : ¬ wk_rg D L U n x0 y0 := fun hh => c_34 hh.1
    refine pr_push (v := 0) rfl rfl ?_
    refine pr_putf rfl wr_100 (Nat.le_of_ble_eq_true rfl) rfl ht_o100_9 ?_
    refine pr_aload_n rfl rfl ?_
    refine pr_getf rfl wr_100 rfl ?_
    refine pr_step rfl rfl rfl rfl ?_
    exact pr_retv rfl rfl (by
        refine ⟨C2, R2, ?_, hC2, fun y hy => ?_⟩
        · rw [pw_b0 hno]
        · rw [hR2 y hy]
          refine rb_eq rb_0 (fun x _ => ?_)
          rw [decide_eq_false hno]
          rfl)
  · skip
    refine pr_aload_n rfl rfl ?_
    refine pr_vi0 rfl (by decide) (Nat.le_of_ble_eq_true rfl) wr_100 (Nat.le_of_ble_eq_true rfl) (c_17 (C := C2) _ hw c_34 (hC2 c_34) hx0 hy0) (fun r_38 h_38 q_38 => ?_)
    obtain ⟨rfl, rfl⟩ := q_38
    refine pr_b_eq rfl (fun c_41 => ?_) (fun c_41 => ?_)
    · skip
      have hno : ¬ wk_rg D L U n x0 y0 := fun hh => c_41 hh.2
      refine pr_push (v := 0) rfl rfl ?_
      refine pr_putf rfl wr_100 (Nat.le_of_ble_eq_true rfl) rfl ht_o100_9 ?_
      refine pr_aload_n rfl rfl ?_
      refine pr_getf rfl wr_100 rfl ?_
      refine pr_step rfl rfl rfl rfl ?_
      exact pr_retv rfl rfl (by
          refine ⟨C2, R2, ?_, hC2, fun y hy => ?_⟩
          · rw [pw_b0 hno]
          · rw [hR2 y hy]
            refine rb_eq rb_0 (fun x _ => ?_)
            rw [decide_eq_false hno]
            rfl)
    · skip
      refine pr_push (v := 1) rfl rfl ?_
      refine pr_step rfl rfl rfl rfl ?_
      refine pr_putf rfl wr_100 (Nat.le_of_ble_eq_true rfl) rfl ht_o100_9 ?_
      refine pr_aload_n rfl rfl ?_
      refine pr_getf rfl wr_100 rfl ?_
      refine pr_step rfl rfl rfl rfl ?_
      refine pr_aload_n rfl rfl ?_
      refine pr_vv0 rfl (by decide) (Nat.le_of_ble_eq_true rfl) wr_100 (Nat.le_of_ble_eq_true rfl) (c_18 (C := C2) (R := R2) _ hw c_34 (hC2 c_34) hx0 hy0 c_41 hR2) (fun h_60 q_60 => ?_)
      skip
      exact pr_retv rfl rfl (by
          obtain ⟨R3, rfl, hR3⟩ := q_60
          refine ⟨C2, R3, ?_, hC2, fun y hy => ?_⟩
          · rw [pw_b1 (P := wk_rg D L U n x0 y0) ⟨c_34, c_41⟩]
          · refine rb_eq (hR3 y hy) (fun x _ => ?_)
            rw [decide_eq_true ⟨c_34, c_41⟩]
            rfl)
theorem c_9 (d : Nat) {H pst : pw_H} {x0 y0 : Int32} {D L U C R : Nat → Int32} {n : Nat} {hl hr : Int32} (e l u : Int32) (hn : n < 12) (hw : wl_ok (iT (upd D n e)) (iT (upd L n l)) (iT (upd U n u)) (n + 1)) (hx0 : 0 ≤ x0.toInt ∧ x0.toInt ≤ 12) (hy0 : 0 ≤ y0.toInt ∧ y0.toInt ≤ 12) : pw_M (d + 4) 9 [.inr (some H.length), .inl e, .inl l, .inl u] (wk_h H pst x0 y0 D L U C R n hl hr) (pw_qv (fun h' => ∃ C2 R2 : Nat → Int32, h' = (wk_h H pst x0 y0 (upd D n e) (upd L n l) (upd U n u) C2 R2 (n + 1) (pw_b (wk_fe (upd D n e) (upd L n l) (upd U n u) (n + 1))) (pw_b (wk_rg (upd D n e) (upd L n l) (upd U n u) (n + 1) x0 y0))) ∧ wk_res (upd D n e) (upd L n l) (upd U n u) C2 R2 (n + 1) x0 y0)) := by
  have z12 := pz_12
  have hnT := pw_T (n := n) (by omega)
  refine pr_aload_n rfl rfl ?_
  refine pr_getf rfl wr_100 rfl ?_
  refine pr_push (v := 12) rfl rfl ?_
  refine pr_c_ge rfl (fun c_6 => ?_) (fun c_6 => ?_)
  · skip
    exact absurd c_6 (by omega)
  · skip
    refine pr_aload_n rfl rfl ?_
    refine pr_getf rfl wr_100 rfl ?_
    refine pr_aload_n rfl rfl ?_
    refine pr_getf rfl wr_100 rfl ?_
    refine pr_iload_n rfl rfl ?_
    refine pr_iast (n) rfl wr_101 (by decide) rfl (by omega) ht_a101 ?_
    refine pr_aload_n rfl rfl ?_
    refine pr_getf rfl wr_100 rfl ?_
    refine pr_aload_n rfl rfl ?_
    refine pr_getf rfl wr_100 rfl ?_
    refine pr_iload_n rfl rfl ?_
    refine pr_iast (n) rfl wr_102 (by decide) rfl (by omega) ht_a102 ?_
    refine pr_aload_n rfl rfl ?_
    refine pr_getf rfl wr_100 rfl ?_
    refine pr_aload_n rfl rfl ?_
    refine pr_getf rfl wr_100 rfl ?_
    refine pr_iload_n rfl rfl ?_
    refine pr_iast (n) rfl wr_103 (by decide) rfl (by omega) ht_a103 ?_
    refine pr_aload_n rfl rfl ?_
    refine pr_step rfl rfl rfl rfl ?_
    refine pr_getf rfl wr_100 rfl ?_
    refine pr_push (v := 1) rfl rfl ?_
    refine pr_step rfl rfl rfl rfl ?_
    refine pr_top (nI_1 n) ?_
    refine pr_putf rfl wr_100 (Nat.le_of_ble_eq_true rfl) rfl ht_o100_7 ?_
    refine pr_aload_n rfl rfl ?_
    refine pr_vv0 rfl (by decide) (Nat.le_of_ble_eq_true rfl) wr_100 (Nat.le_of_ble_eq_true rfl) (c_14 (D := (upd D n e)) (L := (upd L n l)) (U := (upd U n u)) (n := n + 1) _ hw hx0 hy0) (fun h_50 q_50 => ?_)
    skip
    exact pr_retv rfl rfl (q_50)
theorem c_10 (d : Nat) {H pst : pw_H} {x0 y0 : Int32} {D L U C R : Nat → Int32} {n : Nat} {hl hr : Int32} (hn : 0 < n) (hn2 : n ≤ 12) (hw : wl_ok (iT D) (iT L) (iT U) (n - 1)) (hx0 : 0 ≤ x0.toInt ∧ x0.toInt ≤ 12) (hy0 : 0 ≤ y0.toInt ∧ y0.toInt ≤ 12) : pw_M (d + 4) 10 [.inr (some H.length)] (wk_h H pst x0 y0 D L U C R n hl hr) (pw_qv (fun h' => ∃ C2 R2 : Nat → Int32, h' = (wk_h H pst x0 y0 D L U C2 R2 (n - 1) (pw_b (wk_fe D L U (n - 1))) (pw_b (wk_rg D L U (n - 1) x0 y0))) ∧ wk_res D L U C2 R2 (n - 1) x0 y0)) := by
  have hnT := pw_T (n := n) (by omega)
  obtain ⟨m, rfl⟩ : ∃ m, n = m + 1 := ⟨n - 1, by omega⟩
  refine pr_aload_n rfl rfl ?_
  refine pr_getf rfl wr_100 rfl ?_
  refine pr_z_le rfl (fun c_4 => ?_) (fun c_4 => ?_)
  · skip
    exact absurd c_4 (by omega)
  · skip
    refine pr_aload_n rfl rfl ?_
    refine pr_step rfl rfl rfl rfl ?_
    refine pr_getf rfl wr_100 rfl ?_
    refine pr_push (v := 1) rfl rfl ?_
    refine pr_step rfl rfl rfl rfl ?_
    refine pr_top (nI_pred m) ?_
    refine pr_putf rfl wr_100 (Nat.le_of_ble_eq_true rfl) rfl ht_o100_7 ?_
    refine pr_aload_n rfl rfl ?_
    refine pr_vv0 rfl (by decide) (Nat.le_of_ble_eq_true rfl) wr_100 (Nat.le_of_ble_eq_true rfl) (c_14 (n := m) _ hw hx0 hy0) (fun h_18 q_18 => ?_)
    skip
    exact pr_retv rfl rfl (q_18)
theorem rb_lt {r : Int32} {p : Nat → Bool} (h : rb_is r p) : r.toBitVec.toNat < 4096 := by
  apply Nat.lt_pow_two_of_testBit (n := 12)
  intro i hi
  rw [BitVec.testBit_toNat]
  by_cases h2 : i < 32
  · rw [h i h2, decide_eq_false (by omega)]; rfl
  · exact BitVec.getLsbD_of_ge _ _ (by omega)
def rb_n (n : Nat) : Nat → Nat
  | 0 => 0
  | k + 1 => rb_n n k + (if n.testBit k then 1 else 0)
theorem rb_bc : ∀ a, a < 64 → ∀ b, b < 64 → bc_of (nI (64 * a + b)) = nI (rb_n (64 * a + b) 12) := by decide +kernel
theorem rb_os : ∀ a, a < 16 → os_run (nI a) 12 = bc_of (nI a) := by decide +kernel
theorem rb_ct {r : Int32} {V : Int → Int → Bool} {y : Int} (h : rb_is r (fun x => wl_pf V y (x + 1))) : bc_of r = nI (wl_rc V y 12) := by
  have h1 := rb_lt h
  obtain ⟨m, hm⟩ : ∃ m, m = r.toBitVec.toNat := ⟨_, rfl⟩
  have h2 : r.toInt = (m : Int) := by
    rw [← Int32.toInt_toBitVec, BitVec.toInt_eq_toNat_of_lt (by omega), hm]
  have h3 : r = nI m := by
    apply Int32.toInt_inj.mp
    rw [h2, pw_T (by omega)]
  have h4 : ∀ k, k ≤ 12 → rb_n m k = wl_rc V y k := by
    intro k
    induction k with
    | zero => intro _; rfl
    | succ k ih =>
      intro hk
      rw [rb_n, wl_rc, ih (by omega), hm, BitVec.testBit_toNat, h k (by omega), decide_eq_true (by omega), Bool.true_and]
  rw [h3, ← h4 12 (by omega)]
  have h5 := rb_bc (m / 64) (by omega) (m % 64) (by omega)
  rw [show 64 * (m / 64) + m % 64 = m by omega] at h5
  exact h5
theorem fi_ct {R : Nat → Int32} {V : Int → Int → Bool} (h : ∀ y : Nat, y < 12 → rb_is (R y) (fun x => wl_pf V y (x + 1))) : ∀ y, y ≤ 12 → fi_run R y = nI (wl_ct V y)
  | 0, _ => rfl
  | y + 1, hy => by
    rw [fi_run, fi_ct h y (by omega), rb_ct (h y (by omega)), nI_add]
    rfl
