def wk_o (a : Nat) (x0 y0 : Int32) (n : Nat) (hl hr : Int32) : List pw_V := [.inl x0, .inl y0, .inr (some (a + 1)), .inr (some (a + 2)), .inr (some (a + 3)), .inr (some (a + 4)), .inr (some (a + 5)), .inl (nI n), .inl hl, .inl hr]
def wk_c (a : Nat) (x0 y0 : Int32) (D L U C R : Nat → Int32) (n : Nat) (hl hr : Int32) (pst : pw_H) : pw_H := .inr (.inr (2, wk_o a x0 y0 n hl hr)) :: .inl (0, 12, D) :: .inl (0, 12, L) :: .inl (0, 12, U) :: .inl (0, 12, C) :: .inl (0, 12, R) :: pst
/-- a heap with a walk in it -/
def wk_h (H pst : pw_H) (x0 y0 : Int32) (D L U C R : Nat → Int32) (n : Nat) (hl hr : Int32) : pw_H := H ++ wk_c H.length x0 y0 D L U C R n hl hr pst
theorem wk_get (H l : pw_H) (i : Nat) : (H ++ l)[H.length + i]? = l[i]? := by
  rw [List.getElem?_append_right (by omega), Nat.add_sub_cancel_left]
theorem wk_set (H l : pw_H) (i : Nat) (x : pw_C) : (H ++ l).set (H.length + i) x = H ++ l.set i x := by
  rw [List.set_append_right (H.length + i) x (by omega), Nat.add_sub_cancel_left]
section WK
variable {H pst : pw_H} {x0 y0 : Int32} {D L U C R : Nat → Int32} {n : Nat} {hl hr : Int32}
theorem wr_100 : (wk_h H pst x0 y0 D L U C R n hl hr)[H.length]? = some (.inr (.inr (2, wk_o H.length x0 y0 n hl hr))) := wk_get H _ 0
theorem wr_101 : (wk_h H pst x0 y0 D L U C R n hl hr)[H.length + 1]? = some (.inl (0, 12, D)) := wk_get H _ 1
theorem wr_102 : (wk_h H pst x0 y0 D L U C R n hl hr)[H.length + 2]? = some (.inl (0, 12, L)) := wk_get H _ 2
theorem wr_103 : (wk_h H pst x0 y0 D L U C R n hl hr)[H.length + 3]? = some (.inl (0, 12, U)) := wk_get H _ 3
theorem wr_104 : (wk_h H pst x0 y0 D L U C R n hl hr)[H.length + 4]? = some (.inl (0, 12, C)) := wk_get H _ 4
theorem wr_105 : (wk_h H pst x0 y0 D L U C R n hl hr)[H.length + 5]? = some (.inl (0, 12, R)) := wk_get H _ 5
theorem ht_a101 {f : Nat → Int32} : (wk_h H pst x0 y0 D L U C R n hl hr).set (H.length + 1) (.inl (0, 12, f)) = (wk_h H pst x0 y0 f L U C R n hl hr) := wk_set H _ 1 _
theorem ht_a102 {f : Nat → Int32} : (wk_h H pst x0 y0 D L U C R n hl hr).set (H.length + 2) (.inl (0, 12, f)) = (wk_h H pst x0 y0 D f U C R n hl hr) := wk_set H _ 2 _
theorem ht_a103 {f : Nat → Int32} : (wk_h H pst x0 y0 D L U C R n hl hr).set (H.length + 3) (.inl (0, 12, f)) = (wk_h H pst x0 y0 D L f C R n hl hr) := wk_set H _ 3 _
theorem ht_a104 {f : Nat → Int32} : (wk_h H pst x0 y0 D L U C R n hl hr).set (H.length + 4) (.inl (0, 12, f)) = (wk_h H pst x0 y0 D L U f R n hl hr) := wk_set H _ 4 _
theorem ht_a105 {f : Nat → Int32} : (wk_h H pst x0 y0 D L U C R n hl hr).set (H.length + 5) (.inl (0, 12, f)) = (wk_h H pst x0 y0 D L U C f n hl hr) := wk_set H _ 5 _
theorem ht_o100_7 {m : Nat} : (wk_h H pst x0 y0 D L U C R n hl hr).set H.length (.inr (.inr (2, (wk_o H.length x0 y0 n hl hr).set 7 (.inl (nI m))))) = (wk_h H pst x0 y0 D L U C R m hl hr) := wk_set H _ 0 _
theorem ht_o100_8 {v : Int32} : (wk_h H pst x0 y0 D L U C R n hl hr).set H.length (.inr (.inr (2, (wk_o H.length x0 y0 n hl hr).set 8 (.inl v)))) = (wk_h H pst x0 y0 D L U C R n v hr) := wk_set H _ 0 _
theorem ht_o100_9 {v : Int32} : (wk_h H pst x0 y0 D L U C R n hl hr).set H.length (.inr (.inr (2, (wk_o H.length x0 y0 n hl hr).set 9 (.inl v)))) = (wk_h H pst x0 y0 D L U C R n hl v) := wk_set H _ 0 _
end WK
def sg_of (e : Int32) : Int32 := if e.toInt < 2 then 1 else -1
theorem c_19 (d : Nat) {H pst : pw_H} {x0 y0 : Int32} {D L U C R : Nat → Int32} {n : Nat} {hl hr : Int32} (i : Nat) (hi : i < 12) (hD : 0 ≤ (D i).toInt) : pw_M d 19 [.inr (some H.length), .inl (nI i)] (wk_h H pst x0 y0 D L U C R n hl hr) (pw_qi (pw_is (wk_h H pst x0 y0 D L U C R n hl hr) (pw_b ((D i).toInt % 2 = 0)))) := by
  have hm := pw_rem2 hD
  refine pr_aload_n rfl rfl ?_
  refine pr_getf rfl wr_100 rfl ?_
  refine pr_iload_n rfl rfl ?_
  refine pr_iald (i) rfl wr_101 (by decide) (by decide) rfl (by omega) ?_
  refine pr_push (v := 2) rfl rfl ?_
  refine pr_rem rfl (by decide) ?_
  refine pr_t_ne rfl (fun c_8 => ?_) (fun c_8 => ?_)
  · skip
    refine pr_push (v := 0) rfl rfl ?_
    exact pr_retb rfl rfl rfl (⟨by
    first
    | exact (pw_b0 (by omega)).symm
    | exact (pw_b1 (by omega)).symm, rfl⟩)
  · skip
    refine pr_push (v := 1) rfl rfl ?_
    refine pr_step rfl rfl rfl rfl ?_
    exact pr_retb rfl rfl rfl (⟨by
    first
    | exact (pw_b0 (by omega)).symm
    | exact (pw_b1 (by omega)).symm, rfl⟩)
theorem c_20 (d : Nat) {H pst : pw_H} {x0 y0 : Int32} {D L U C R : Nat → Int32} {n : Nat} {hl hr : Int32} (i : Nat) (hi : i < 12) : pw_M d 20 [.inr (some H.length), .inl (nI i)] (wk_h H pst x0 y0 D L U C R n hl hr) (pw_qi (pw_is (wk_h H pst x0 y0 D L U C R n hl hr) (sg_of (D i)))) := by
  have z2 := pz_2
  refine pr_aload_n rfl rfl ?_
  refine pr_getf rfl wr_100 rfl ?_
  refine pr_iload_n rfl rfl ?_
  refine pr_iald (i) rfl wr_101 (by decide) (by decide) rfl (by omega) ?_
  refine pr_push (v := 2) rfl rfl ?_
  refine pr_c_ge rfl (fun c_7 => ?_) (fun c_7 => ?_)
  · skip
    refine pr_push (v := (-1)) rfl rfl ?_
    exact pr_reti rfl rfl (⟨by
    first
    | exact (if_pos (by omega)).symm
    | exact (if_neg (by omega)).symm, rfl⟩)
  · skip
    refine pr_push (v := 1) rfl rfl ?_
    refine pr_step rfl rfl rfl rfl ?_
    exact pr_reti rfl rfl (⟨by
    first
    | exact (if_pos (by omega)).symm
    | exact (if_neg (by omega)).symm, rfl⟩)
theorem sg_mul {e c : Int32} (hc : -1000 ≤ c.toInt ∧ c.toInt ≤ 1000) : (sg_of e * c).toInt = if e.toInt < 2 then c.toInt else -c.toInt := by
  unfold sg_of
  split
  · rw [pw_x1]
  · rw [pw_xm, pw_negT (by omega)]
theorem c_21 (d : Nat) {H pst : pw_H} {x0 y0 : Int32} {D L U C R : Nat → Int32} {n : Nat} {hl hr : Int32} (i : Nat) (hi : i < 12) (hD : 0 ≤ (D i).toInt ∧ (D i).toInt ≤ 3) (hC : -1000 ≤ (C i).toInt ∧ (C i).toInt ≤ 1000) : pw_M (d + 1) 21 [.inr (some H.length), .inl (nI i)] (wk_h H pst x0 y0 D L U C R n hl hr) (pw_qi (fun r h' => r.toInt = (if (D i).toInt = 0 then (C i).toInt else if (D i).toInt = 2 then -(C i).toInt else 0) ∧ h' = (wk_h H pst x0 y0 D L U C R n hl hr))) := by
  have hm := sg_mul (e := D i) hC
  have z0 := pz_0
  refine pr_aload_n rfl rfl ?_
  refine pr_iload_n rfl rfl ?_
  refine pr_vi1 rfl (by decide) (Nat.le_of_ble_eq_true rfl) wr_100 (Nat.le_of_ble_eq_true rfl) (c_19 _ i hi hD.1) (fun r_2 h_2 q_2 => ?_)
  obtain ⟨rfl, rfl⟩ := q_2
  refine pr_b_eq rfl (fun c_5 => ?_) (fun c_5 => ?_)
  · skip
    refine pr_push (v := 0) rfl rfl ?_
    exact pr_reti rfl rfl (⟨by
    first
    | (rw [hm]; split <;> (try split) <;> (try split) <;> omega)
    | (rw [z0]; split <;> (try split) <;> omega), rfl⟩)
  · skip
    refine pr_aload_n rfl rfl ?_
    refine pr_iload_n rfl rfl ?_
    refine pr_vi1 rfl (by decide) (Nat.le_of_ble_eq_true rfl) wr_100 (Nat.le_of_ble_eq_true rfl) (c_20 _ i hi) (fun r_10 h_10 q_10 => ?_)
    obtain ⟨rfl, rfl⟩ := q_10
    refine pr_aload_n rfl rfl ?_
    refine pr_getf rfl wr_100 rfl ?_
    refine pr_iload_n rfl rfl ?_
    refine pr_iald (i) rfl wr_104 (by decide) (by decide) rfl (by omega) ?_
    refine pr_step rfl rfl rfl rfl ?_
    refine pr_step rfl rfl rfl rfl ?_
    exact pr_reti rfl rfl (⟨by
    first
    | (rw [hm]; split <;> (try split) <;> (try split) <;> omega)
    | (rw [z0]; split <;> (try split) <;> omega), rfl⟩)
theorem c_22 (d : Nat) {H pst : pw_H} {x0 y0 : Int32} {D L U C R : Nat → Int32} {n : Nat} {hl hr : Int32} (i : Nat) (hi : i < 12) (hD : 0 ≤ (D i).toInt ∧ (D i).toInt ≤ 3) (hC : -1000 ≤ (C i).toInt ∧ (C i).toInt ≤ 1000) : pw_M (d + 1) 22 [.inr (some H.length), .inl (nI i)] (wk_h H pst x0 y0 D L U C R n hl hr) (pw_qi (fun r h' => r.toInt = (if (D i).toInt = 1 then (C i).toInt else if (D i).toInt = 3 then -(C i).toInt else 0) ∧ h' = (wk_h H pst x0 y0 D L U C R n hl hr))) := by
  have hm := sg_mul (e := D i) hC
  have z0 := pz_0
  refine pr_aload_n rfl rfl ?_
  refine pr_iload_n rfl rfl ?_
  refine pr_vi1 rfl (by decide) (Nat.le_of_ble_eq_true rfl) wr_100 (Nat.le_of_ble_eq_true rfl) (c_19 _ i hi hD.1) (fun r_2 h_2 q_2 => ?_)
  obtain ⟨rfl, rfl⟩ := q_2
  refine pr_b_eq rfl (fun c_5 => ?_) (fun c_5 => ?_)
  · skip
    refine pr_aload_n rfl rfl ?_
    refine pr_iload_n rfl rfl ?_
    refine pr_vi1 rfl (by decide) (Nat.le_of_ble_eq_true rfl) wr_100 (Nat.le_of_ble_eq_true rfl) (c_20 _ i hi) (fun r_14 h_14 q_14 => ?_)
    obtain ⟨rfl, rfl⟩ := q_14
    refine pr_aload_n rfl rfl ?_
    refine pr_getf rfl wr_100 rfl ?_
    refine pr_iload_n rfl rfl ?_
    refine pr_iald (i) rfl wr_104 (by decide) (by decide) rfl (by omega) ?_
    refine pr_step rfl rfl rfl rfl ?_
    exact pr_reti rfl rfl (⟨by
    first
    | (rw [hm]; split <;> (try split) <;> (try split) <;> omega)
    | (rw [z0]; split <;> (try split) <;> omega), rfl⟩)
  · skip
    refine pr_push (v := 0) rfl rfl ?_
    refine pr_step rfl rfl rfl rfl ?_
    exact pr_reti rfl rfl (⟨by
    first
    | (rw [hm]; split <;> (try split) <;> (try split) <;> omega)
    | (rw [z0]; split <;> (try split) <;> omega), rfl⟩)
theorem c_11 (d : Nat) {H pst : pw_H} {x0 y0 : Int32} {D L U C R : Nat → Int32} {n : Nat} {hr : Int32} (hn : n ≤ 12) (B : Prop) [Decidable B] (i : Nat) (hi : i < n) : pw_M (d + 1) 11 [.inr (some H.length), .inl (nI i)] (wk_h H pst x0 y0 D L U C R n (pw_b B) hr) (pw_qi (pw_is (wk_h H pst x0 y0 D L U C R n (pw_b B) hr) (if B then C i else -1))) := by
  have hnP : (nI n - 1).toInt = (n : Int) - 1 := pw_pred (by omega)
  have hiT := pw_T (n := i) (by omega)
  have z0 := pz_0
  refine pr_aload_n rfl rfl ?_
  refine pr_getf rfl wr_100 rfl ?_
  refine pr_b_eq rfl (fun c_4 => ?_) (fun c_4 => ?_)
  · skip
    refine pr_push (v := (-1)) rfl rfl ?_
    exact pr_reti rfl rfl (⟨by
    first
    | exact (if_pos c_4).symm
    | exact (if_neg c_4).symm, rfl⟩)
  · skip
    refine pr_iload_n rfl rfl ?_
    refine pr_push (v := 0) rfl rfl ?_
    refine pr_aload_n rfl rfl ?_
    refine pr_getf rfl wr_100 rfl ?_
    refine pr_push (v := 1) rfl rfl ?_
    refine pr_step rfl rfl rfl rfl ?_
    refine pr_si3 rfl (by decide) (Nat.le_of_ble_eq_true rfl) (Nat.le_of_ble_eq_true rfl) (c_48 _ _ _ _ _) (fun r_15 h_15 q_15 => ?_)
    obtain ⟨rfl, rfl⟩ := q_15
    refine pr_b_eq rfl (fun c_18 => ?_) (fun c_18 => ?_)
    · skip
      exact absurd (⟨by omega, by omega⟩) c_18
    · skip
      refine pr_aload_n rfl rfl ?_
      refine pr_getf rfl wr_100 rfl ?_
      refine pr_iload_n rfl rfl ?_
      refine pr_iald (i) rfl wr_104 (by decide) (by decide) rfl (by omega) ?_
      refine pr_step rfl rfl rfl rfl ?_
      exact pr_reti rfl rfl (⟨by
    first
    | exact (if_pos c_4).symm
    | exact (if_neg c_4).symm, rfl⟩)
theorem c_12 (d : Nat) {H pst : pw_H} {x0 y0 : Int32} {D L U C R : Nat → Int32} {n : Nat} {hl hr : Int32} (x y : Nat) (hx : x < 12) (hy : y < 12) : pw_M (d + 2) 12 [.inr (some H.length), .inl (nI x), .inl (nI y)] (wk_h H pst x0 y0 D L U C R n hl hr) (pw_qi (pw_is (wk_h H pst x0 y0 D L U C R n hl hr) (pw_b ((R y >>> (nI x &&& 31)) &&& 1 = 1)))) := by
  have hxT := pw_T (n := x) (by omega)
  have hyT := pw_T (n := y) (by omega)
  have z0 := pz_0
  have z11 := pz_11
  refine pr_iload_n rfl rfl ?_
  refine pr_iload_n rfl rfl ?_
  refine pr_si2 rfl (by decide) (Nat.le_of_ble_eq_true rfl) (Nat.le_of_ble_eq_true rfl) (c_50 _ _ _ _) (fun r_2 h_2 q_2 => ?_)
  obtain ⟨rfl, rfl⟩ := q_2
  refine pr_b_eq rfl (fun c_5 => ?_) (fun c_5 => ?_)
  · skip
    exact absurd (⟨⟨by omega, by omega⟩, by omega, by omega⟩) c_5
  · skip
    refine pr_aload_n rfl rfl ?_
    refine pr_getf rfl wr_100 rfl ?_
    refine pr_iload_n rfl rfl ?_
    refine pr_iald (y) rfl wr_105 (by decide) (by decide) rfl (by omega) ?_
    refine pr_iload_n rfl rfl ?_
    refine pr_step rfl rfl rfl rfl ?_
    refine pr_push (v := 1) rfl rfl ?_
    refine pr_step rfl rfl rfl rfl ?_
    refine pr_push (v := 1) rfl rfl ?_
    refine pr_c_ne rfl (fun c_19 => ?_) (fun c_19 => ?_)
    · skip
      refine pr_push (v := 0) rfl rfl ?_
      exact pr_retb rfl rfl rfl (⟨by
    first
    | exact (pw_b0 c_19).symm
    | exact (pw_b1 c_19).symm, rfl⟩)
    · skip
      refine pr_push (v := 1) rfl rfl ?_
      refine pr_step rfl rfl rfl rfl ?_
      exact pr_retb rfl rfl rfl (⟨by
    first
    | exact (pw_b0 c_19).symm
    | exact (pw_b1 c_19).symm, rfl⟩)
def fi_run (R : Nat → Int32) : Nat → Int32
  | 0 => 0
  | y + 1 => fi_run R y + bc_of (R y)
theorem c_13_loop (d : Nat) {H pst : pw_H} {x0 y0 : Int32} {D L U C R : Nat → Int32} {n : Nat} {hl hr : Int32} : ∀ (k y : Nat), y + k = 12 → pw_W (d + 1) 13 13 [some (.inr (some H.length)), some (.inl (fi_run R y)), some (.inl (nI y))] [] (wk_h H pst x0 y0 D L U C R n hl hr) (pw_qi (pw_is (wk_h H pst x0 y0 D L U C R n hl hr) (fi_run R 12))) := by
  have z12 := pz_12
  intro k
  induction k with
  | zero =>
    intro y hy
    obtain rfl : y = 12 := by omega
    have hyT := pw_T (n := 12) (by omega)
    refine pr_iload_n rfl rfl ?_
    refine pr_push (v := 12) rfl rfl ?_
    refine pr_c_ge rfl (fun c_16 => ?_) (fun c_16 => ?_)
    · skip
      refine pr_iload_n rfl rfl ?_
      exact pr_reti rfl rfl (⟨rfl, rfl⟩)
    · skip
      exact absurd c_16 (by omega)
  | succ k ih =>
    intro y hy
    have hyT := pw_T (n := y) (by omega)
    refine pr_iload_n rfl rfl ?_
    refine pr_push (v := 12) rfl rfl ?_
    refine pr_c_ge rfl (fun c_16 => ?_) (fun c_16 => ?_)
    · skip
      exact absurd c_16 (by omega)
    · skip
      refine pr_iload_n rfl rfl ?_
      refine pr_aload_n rfl rfl ?_
      refine pr_getf rfl wr_100 rfl ?_
      refine pr_iload_n rfl rfl ?_
      refine pr_iald (y) rfl wr_105 (by decide) (by decide) rfl (by omega) ?_
      refine pr_si1 rfl (by decide) (Nat.le_of_ble_eq_true rfl) (Nat.le_of_ble_eq_true rfl) (c_114 _ _ _) (fun r_26 h_26 q_26 => ?_)
      obtain ⟨rfl, rfl⟩ := q_26
      refine pr_step rfl rfl rfl rfl ?_
      refine pr_istore_n rfl (Nat.le_of_ble_eq_true rfl) rfl ?_
      refine pr_iinc rfl rfl (pw_inc y) rfl ?_
      refine pr_step rfl rfl rfl rfl ?_
      exact ih (y + 1) (by omega)
theorem c_13 (d : Nat) {H pst : pw_H} {x0 y0 : Int32} {D L U C R : Nat → Int32} {n : Nat} {hl : Int32} (B : Prop) [Decidable B] : pw_M (d + 1) 13 [.inr (some H.length)] (wk_h H pst x0 y0 D L U C R n hl (pw_b B)) (pw_qi (pw_is (wk_h H pst x0 y0 D L U C R n hl (pw_b B)) (if B then fi_run R 12 else -1))) := by
  refine pr_aload_n rfl rfl ?_
  refine pr_getf rfl wr_100 rfl ?_
  refine pr_b_ne rfl (fun c_4 => ?_) (fun c_4 => ?_)
  · skip
    refine pr_push (v := 0) rfl rfl ?_
    refine pr_istore_n rfl (Nat.le_of_ble_eq_true rfl) rfl ?_
    refine pr_push (v := 0) rfl rfl ?_
    refine pr_istore_n rfl (Nat.le_of_ble_eq_true rfl) rfl ?_
    rw [if_pos c_4]
    exact c_13_loop d 12 0 (by omega)
  · skip
    refine pr_push (v := (-1)) rfl rfl ?_
    exact pr_reti rfl rfl (⟨(if_neg c_4).symm, rfl⟩)
