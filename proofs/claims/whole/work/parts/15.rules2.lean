def pw_qi (Q : Int32 → pw_H → Prop) : Option pw_V → pw_H → Prop := fun r h' => ∃ x, r = some (.inl x) ∧ Q x h'
def pw_qr (Q : Option Nat → pw_H → Prop) : Option pw_V → pw_H → Prop := fun r h' => ∃ x, r = some (.inr x) ∧ Q x h'
def pw_qv (Q : pw_H → Prop) : Option pw_V → pw_H → Prop := fun r h' => r = none ∧ Q h'
section PWX
variable {d M pc np t : Nat} {q : List Nat} {L : pw_L} {st : List pw_V} {h : pw_H} {Q : Option pw_V → pw_H → Prop}
theorem pr_reti {v : Int32} {Qi : Int32 → pw_H → Prop} (ho : pw_op M pc = some (.ireturn, np, t, q)) (hm : (pw_inf M).2.2.2 = some .int) (k : Qi v h) : pw_W d M pc L [.inl v] h (pw_qi Qi) := by
  refine pr_ret ho rfl (r := some (.inl v)) ?_ ⟨v, rfl, k⟩
  simp only [pw_ret]
  rw [if_pos (Or.inl hm)]
theorem pr_retb {v : Int32} {Qi : Int32 → pw_H → Prop} (ho : pw_op M pc = some (.ireturn, np, t, q)) (hm : (pw_inf M).2.2.2 = some .boolean) (hv : pw_bit v = true) (k : Qi v h) : pw_W d M pc L [.inl v] h (pw_qi Qi) := by
  refine pr_ret ho rfl (r := some (.inl v)) ?_ ⟨v, rfl, k⟩
  simp only [pw_ret]
  rw [if_pos (Or.inr ⟨hm, hv⟩)]
theorem pr_retr {v : Option Nat} {C : String} {Qr : Option Nat → pw_H → Prop} (ho : pw_op M pc = some (.areturn, np, t, q)) (hm : (pw_inf M).2.2.2 = some (.object C)) (k : Qr v h) : pw_W d M pc L [.inr v] h (pw_qr Qr) := by
  refine pr_ret ho rfl (r := some (.inr v)) ?_ ⟨v, rfl, k⟩
  simp only [pw_ret]
  rw [hm]
theorem pr_retv {Qv : pw_H → Prop} (ho : pw_op M pc = some (.return_, np, t, q)) (hm : (pw_inf M).2.2.2 = none) (k : Qv h) : pw_W d M pc L [] h (pw_qv Qv) := by
  refine pr_ret ho rfl (r := none) ?_ ⟨rfl, k⟩
  simp only [pw_ret]
  rw [if_pos hm]
theorem pr_si1 {ix z : Nat} {a1 : pw_V} {q1 : List Nat} {Qi : Int32 → pw_H → Prop} (ho : pw_op M pc = some (.invokestatic ix, np, t, 1 :: z :: q1)) (hq : 0 < q1.length) (hst : st.length ≤ 9) (hl : 1 ≤ (pw_inf t).2.2.1) (hm : pw_M d t [a1] h (pw_qi Qi)) (k : (∀ (x : Int32) (h1 : pw_H), Qi x h1 → pw_W (d + 1) M np L (.inl x :: st) h1 Q)) : pw_W (d + 1) M pc L (a1 :: st) h Q := by
  refine pr_call (as := [a1]) (rest := st) ho rfl rfl (by simp only [List.length_cons]; omega) ?_ hl hm ?_
  · simp only [pw_args, List.length_cons, List.take_succ_cons, List.take_zero, List.drop_succ_cons, List.drop_zero]
    rw [if_pos (by omega)]
    rfl
  · intro r h1 hq1
    obtain ⟨x, e, e2⟩ := hq1
    subst e
    exact k x h1 e2
theorem pr_si2 {ix z : Nat} {a1 a2 : pw_V} {q1 : List Nat} {Qi : Int32 → pw_H → Prop} (ho : pw_op M pc = some (.invokestatic ix, np, t, 2 :: z :: q1)) (hq : 0 < q1.length) (hst : st.length ≤ 9) (hl : 2 ≤ (pw_inf t).2.2.1) (hm : pw_M d t [a1, a2] h (pw_qi Qi)) (k : (∀ (x : Int32) (h1 : pw_H), Qi x h1 → pw_W (d + 1) M np L (.inl x :: st) h1 Q)) : pw_W (d + 1) M pc L (a2 :: a1 :: st) h Q := by
  refine pr_call (as := [a1, a2]) (rest := st) ho rfl rfl (by simp only [List.length_cons]; omega) ?_ hl hm ?_
  · simp only [pw_args, List.length_cons, List.take_succ_cons, List.take_zero, List.drop_succ_cons, List.drop_zero]
    rw [if_pos (by omega)]
    rfl
  · intro r h1 hq1
    obtain ⟨x, e, e2⟩ := hq1
    subst e
    exact k x h1 e2
theorem pr_si3 {ix z : Nat} {a1 a2 a3 : pw_V} {q1 : List Nat} {Qi : Int32 → pw_H → Prop} (ho : pw_op M pc = some (.invokestatic ix, np, t, 3 :: z :: q1)) (hq : 0 < q1.length) (hst : st.length ≤ 9) (hl : 3 ≤ (pw_inf t).2.2.1) (hm : pw_M d t [a1, a2, a3] h (pw_qi Qi)) (k : (∀ (x : Int32) (h1 : pw_H), Qi x h1 → pw_W (d + 1) M np L (.inl x :: st) h1 Q)) : pw_W (d + 1) M pc L (a3 :: a2 :: a1 :: st) h Q := by
  refine pr_call (as := [a1, a2, a3]) (rest := st) ho rfl rfl (by simp only [List.length_cons]; omega) ?_ hl hm ?_
  · simp only [pw_args, List.length_cons, List.take_succ_cons, List.take_zero, List.drop_succ_cons, List.drop_zero]
    rw [if_pos (by omega)]
    rfl
  · intro r h1 hq1
    obtain ⟨x, e, e2⟩ := hq1
    subst e
    exact k x h1 e2
theorem pr_vi0 {ix b z : Nat} {fs : List pw_V} {q1 : List Nat} {Qi : Int32 → pw_H → Prop} (ho : pw_op M pc = some (.invokevirtual ix, np, t, 0 :: z :: q1)) (hq : 0 < q1.length) (hst : st.length ≤ 7) (hb : h[b]? = some (.inr (.inr (z, fs)))) (hl : 1 ≤ (pw_inf t).2.2.1) (hm : pw_M d t [.inr (some b)] h (pw_qi Qi)) (k : (∀ (x : Int32) (h1 : pw_H), Qi x h1 → pw_W (d + 1) M np L (.inl x :: st) h1 Q)) : pw_W (d + 1) M pc L (.inr (some b) :: st) h Q := by
  refine pr_call (as := [.inr (some b)]) (rest := st) ho rfl rfl (by simp only [List.length_cons]; omega) ?_ hl hm ?_
  · simp only [pw_args, List.length_cons, List.take_succ_cons, List.take_zero, List.drop_succ_cons, List.drop_zero]
    rw [if_pos (by omega), hb]
    dsimp only
    rw [if_pos rfl]
    rfl
  · intro r h1 hq1
    obtain ⟨x, e, e2⟩ := hq1
    subst e
    exact k x h1 e2
theorem pr_vi1 {ix b z : Nat} {a1 : pw_V} {fs : List pw_V} {q1 : List Nat} {Qi : Int32 → pw_H → Prop} (ho : pw_op M pc = some (.invokevirtual ix, np, t, 1 :: z :: q1)) (hq : 0 < q1.length) (hst : st.length ≤ 7) (hb : h[b]? = some (.inr (.inr (z, fs)))) (hl : 2 ≤ (pw_inf t).2.2.1) (hm : pw_M d t [.inr (some b), a1] h (pw_qi Qi)) (k : (∀ (x : Int32) (h1 : pw_H), Qi x h1 → pw_W (d + 1) M np L (.inl x :: st) h1 Q)) : pw_W (d + 1) M pc L (a1 :: .inr (some b) :: st) h Q := by
  refine pr_call (as := [.inr (some b), a1]) (rest := st) ho rfl rfl (by simp only [List.length_cons]; omega) ?_ hl hm ?_
  · simp only [pw_args, List.length_cons, List.take_succ_cons, List.take_zero, List.drop_succ_cons, List.drop_zero]
    rw [if_pos (by omega), hb]
    dsimp only
    rw [if_pos rfl]
    rfl
  · intro r h1 hq1
    obtain ⟨x, e, e2⟩ := hq1
    subst e
    exact k x h1 e2
theorem pr_vi2 {ix b z : Nat} {a1 a2 : pw_V} {fs : List pw_V} {q1 : List Nat} {Qi : Int32 → pw_H → Prop} (ho : pw_op M pc = some (.invokevirtual ix, np, t, 2 :: z :: q1)) (hq : 0 < q1.length) (hst : st.length ≤ 7) (hb : h[b]? = some (.inr (.inr (z, fs)))) (hl : 3 ≤ (pw_inf t).2.2.1) (hm : pw_M d t [.inr (some b), a1, a2] h (pw_qi Qi)) (k : (∀ (x : Int32) (h1 : pw_H), Qi x h1 → pw_W (d + 1) M np L (.inl x :: st) h1 Q)) : pw_W (d + 1) M pc L (a2 :: a1 :: .inr (some b) :: st) h Q := by
  refine pr_call (as := [.inr (some b), a1, a2]) (rest := st) ho rfl rfl (by simp only [List.length_cons]; omega) ?_ hl hm ?_
  · simp only [pw_args, List.length_cons, List.take_succ_cons, List.take_zero, List.drop_succ_cons, List.drop_zero]
    rw [if_pos (by omega), hb]
    dsimp only
    rw [if_pos rfl]
    rfl
  · intro r h1 hq1
    obtain ⟨x, e, e2⟩ := hq1
    subst e
    exact k x h1 e2
theorem pr_vi3 {ix b z : Nat} {a1 a2 a3 : pw_V} {fs : List pw_V} {q1 : List Nat} {Qi : Int32 → pw_H → Prop} (ho : pw_op M pc = some (.invokevirtual ix, np, t, 3 :: z :: q1)) (hq : 0 < q1.length) (hst : st.length ≤ 7) (hb : h[b]? = some (.inr (.inr (z, fs)))) (hl : 4 ≤ (pw_inf t).2.2.1) (hm : pw_M d t [.inr (some b), a1, a2, a3] h (pw_qi Qi)) (k : (∀ (x : Int32) (h1 : pw_H), Qi x h1 → pw_W (d + 1) M np L (.inl x :: st) h1 Q)) : pw_W (d + 1) M pc L (a3 :: a2 :: a1 :: .inr (some b) :: st) h Q := by
  refine pr_call (as := [.inr (some b), a1, a2, a3]) (rest := st) ho rfl rfl (by simp only [List.length_cons]; omega) ?_ hl hm ?_
  · simp only [pw_args, List.length_cons, List.take_succ_cons, List.take_zero, List.drop_succ_cons, List.drop_zero]
    rw [if_pos (by omega), hb]
    dsimp only
    rw [if_pos rfl]
    rfl
  · intro r h1 hq1
    obtain ⟨x, e, e2⟩ := hq1
    subst e
    exact k x h1 e2
theorem pr_vi4 {ix b z : Nat} {a1 a2 a3 a4 : pw_V} {fs : List pw_V} {q1 : List Nat} {Qi : Int32 → pw_H → Prop} (ho : pw_op M pc = some (.invokevirtual ix, np, t, 4 :: z :: q1)) (hq : 0 < q1.length) (hst : st.length ≤ 7) (hb : h[b]? = some (.inr (.inr (z, fs)))) (hl : 5 ≤ (pw_inf t).2.2.1) (hm : pw_M d t [.inr (some b), a1, a2, a3, a4] h (pw_qi Qi)) (k : (∀ (x : Int32) (h1 : pw_H), Qi x h1 → pw_W (d + 1) M np L (.inl x :: st) h1 Q)) : pw_W (d + 1) M pc L (a4 :: a3 :: a2 :: a1 :: .inr (some b) :: st) h Q := by
  refine pr_call (as := [.inr (some b), a1, a2, a3, a4]) (rest := st) ho rfl rfl (by simp only [List.length_cons]; omega) ?_ hl hm ?_
  · simp only [pw_args, List.length_cons, List.take_succ_cons, List.take_zero, List.drop_succ_cons, List.drop_zero]
    rw [if_pos (by omega), hb]
    dsimp only
    rw [if_pos rfl]
    rfl
  · intro r h1 hq1
    obtain ⟨x, e, e2⟩ := hq1
    subst e
    exact k x h1 e2
theorem pr_vi5 {ix b z : Nat} {a1 a2 a3 a4 a5 : pw_V} {fs : List pw_V} {q1 : List Nat} {Qi : Int32 → pw_H → Prop} (ho : pw_op M pc = some (.invokevirtual ix, np, t, 5 :: z :: q1)) (hq : 0 < q1.length) (hst : st.length ≤ 7) (hb : h[b]? = some (.inr (.inr (z, fs)))) (hl : 6 ≤ (pw_inf t).2.2.1) (hm : pw_M d t [.inr (some b), a1, a2, a3, a4, a5] h (pw_qi Qi)) (k : (∀ (x : Int32) (h1 : pw_H), Qi x h1 → pw_W (d + 1) M np L (.inl x :: st) h1 Q)) : pw_W (d + 1) M pc L (a5 :: a4 :: a3 :: a2 :: a1 :: .inr (some b) :: st) h Q := by
  refine pr_call (as := [.inr (some b), a1, a2, a3, a4, a5]) (rest := st) ho rfl rfl (by simp only [List.length_cons]; omega) ?_ hl hm ?_
  · simp only [pw_args, List.length_cons, List.take_succ_cons, List.take_zero, List.drop_succ_cons, List.drop_zero]
    rw [if_pos (by omega), hb]
    dsimp only
    rw [if_pos rfl]
    rfl
  · intro r h1 hq1
    obtain ⟨x, e, e2⟩ := hq1
    subst e
    exact k x h1 e2
theorem pr_vi6 {ix b z : Nat} {a1 a2 a3 a4 a5 a6 : pw_V} {fs : List pw_V} {q1 : List Nat} {Qi : Int32 → pw_H → Prop} (ho : pw_op M pc = some (.invokevirtual ix, np, t, 6 :: z :: q1)) (hq : 0 < q1.length) (hst : st.length ≤ 7) (hb : h[b]? = some (.inr (.inr (z, fs)))) (hl : 7 ≤ (pw_inf t).2.2.1) (hm : pw_M d t [.inr (some b), a1, a2, a3, a4, a5, a6] h (pw_qi Qi)) (k : (∀ (x : Int32) (h1 : pw_H), Qi x h1 → pw_W (d + 1) M np L (.inl x :: st) h1 Q)) : pw_W (d + 1) M pc L (a6 :: a5 :: a4 :: a3 :: a2 :: a1 :: .inr (some b) :: st) h Q := by
  refine pr_call (as := [.inr (some b), a1, a2, a3, a4, a5, a6]) (rest := st) ho rfl rfl (by simp only [List.length_cons]; omega) ?_ hl hm ?_
  · simp only [pw_args, List.length_cons, List.take_succ_cons, List.take_zero, List.drop_succ_cons, List.drop_zero]
    rw [if_pos (by omega), hb]
    dsimp only
    rw [if_pos rfl]
    rfl
  · intro r h1 hq1
    obtain ⟨x, e, e2⟩ := hq1
    subst e
    exact k x h1 e2
theorem pr_vi7 {ix b z : Nat} {a1 a2 a3 a4 a5 a6 a7 : pw_V} {fs : List pw_V} {q1 : List Nat} {Qi : Int32 → pw_H → Prop} (ho : pw_op M pc = some (.invokevirtual ix, np, t, 7 :: z :: q1)) (hq : 0 < q1.length) (hst : st.length ≤ 7) (hb : h[b]? = some (.inr (.inr (z, fs)))) (hl : 8 ≤ (pw_inf t).2.2.1) (hm : pw_M d t [.inr (some b), a1, a2, a3, a4, a5, a6, a7] h (pw_qi Qi)) (k : (∀ (x : Int32) (h1 : pw_H), Qi x h1 → pw_W (d + 1) M np L (.inl x :: st) h1 Q)) : pw_W (d + 1) M pc L (a7 :: a6 :: a5 :: a4 :: a3 :: a2 :: a1 :: .inr (some b) :: st) h Q := by
  refine pr_call (as := [.inr (some b), a1, a2, a3, a4, a5, a6, a7]) (rest := st) ho rfl rfl (by simp only [List.length_cons]; omega) ?_ hl hm ?_
  · simp only [pw_args, List.length_cons, List.take_succ_cons, List.take_zero, List.drop_succ_cons, List.drop_zero]
    rw [if_pos (by omega), hb]
    dsimp only
    rw [if_pos rfl]
    rfl
  · intro r h1 hq1
    obtain ⟨x, e, e2⟩ := hq1
    subst e
    exact k x h1 e2
theorem pr_vi8 {ix b z : Nat} {a1 a2 a3 a4 a5 a6 a7 a8 : pw_V} {fs : List pw_V} {q1 : List Nat} {Qi : Int32 → pw_H → Prop} (ho : pw_op M pc = some (.invokevirtual ix, np, t, 8 :: z :: q1)) (hq : 0 < q1.length) (hst : st.length ≤ 7) (hb : h[b]? = some (.inr (.inr (z, fs)))) (hl : 9 ≤ (pw_inf t).2.2.1) (hm : pw_M d t [.inr (some b), a1, a2, a3, a4, a5, a6, a7, a8] h (pw_qi Qi)) (k : (∀ (x : Int32) (h1 : pw_H), Qi x h1 → pw_W (d + 1) M np L (.inl x :: st) h1 Q)) : pw_W (d + 1) M pc L (a8 :: a7 :: a6 :: a5 :: a4 :: a3 :: a2 :: a1 :: .inr (some b) :: st) h Q := by
  refine pr_call (as := [.inr (some b), a1, a2, a3, a4, a5, a6, a7, a8]) (rest := st) ho rfl rfl (by simp only [List.length_cons]; omega) ?_ hl hm ?_
  · simp only [pw_args, List.length_cons, List.take_succ_cons, List.take_zero, List.drop_succ_cons, List.drop_zero]
    rw [if_pos (by omega), hb]
    dsimp only
    rw [if_pos rfl]
    rfl
  · intro r h1 hq1
    obtain ⟨x, e, e2⟩ := hq1
    subst e
    exact k x h1 e2
theorem pr_vv0 {ix b z : Nat} {fs : List pw_V} {q1 : List Nat} {Qi : pw_H → Prop} (ho : pw_op M pc = some (.invokevirtual ix, np, t, 0 :: z :: q1)) (hq : 0 < q1.length) (hst : st.length ≤ 7) (hb : h[b]? = some (.inr (.inr (z, fs)))) (hl : 1 ≤ (pw_inf t).2.2.1) (hm : pw_M d t [.inr (some b)] h (pw_qv Qi)) (k : (∀ (h1 : pw_H), Qi h1 → pw_W (d + 1) M np L st h1 Q)) : pw_W (d + 1) M pc L (.inr (some b) :: st) h Q := by
  refine pr_call (as := [.inr (some b)]) (rest := st) ho rfl rfl (by simp only [List.length_cons]; omega) ?_ hl hm ?_
  · simp only [pw_args, List.length_cons, List.take_succ_cons, List.take_zero, List.drop_succ_cons, List.drop_zero]
    rw [if_pos (by omega), hb]
    dsimp only
    rw [if_pos rfl]
    rfl
  · intro r h1 hq1
    obtain ⟨e, e2⟩ := hq1
    subst e
    exact k h1 e2
theorem pr_vv3 {ix b z : Nat} {a1 a2 a3 : pw_V} {fs : List pw_V} {q1 : List Nat} {Qi : pw_H → Prop} (ho : pw_op M pc = some (.invokevirtual ix, np, t, 3 :: z :: q1)) (hq : 0 < q1.length) (hst : st.length ≤ 7) (hb : h[b]? = some (.inr (.inr (z, fs)))) (hl : 4 ≤ (pw_inf t).2.2.1) (hm : pw_M d t [.inr (some b), a1, a2, a3] h (pw_qv Qi)) (k : (∀ (h1 : pw_H), Qi h1 → pw_W (d + 1) M np L st h1 Q)) : pw_W (d + 1) M pc L (a3 :: a2 :: a1 :: .inr (some b) :: st) h Q := by
  refine pr_call (as := [.inr (some b), a1, a2, a3]) (rest := st) ho rfl rfl (by simp only [List.length_cons]; omega) ?_ hl hm ?_
  · simp only [pw_args, List.length_cons, List.take_succ_cons, List.take_zero, List.drop_succ_cons, List.drop_zero]
    rw [if_pos (by omega), hb]
    dsimp only
    rw [if_pos rfl]
    rfl
  · intro r h1 hq1
    obtain ⟨e, e2⟩ := hq1
    subst e
    exact k h1 e2
theorem pr_vr1 {ix b z : Nat} {a1 : pw_V} {fs : List pw_V} {q1 : List Nat} {Qi : Option Nat → pw_H → Prop} (ho : pw_op M pc = some (.invokevirtual ix, np, t, 1 :: z :: q1)) (hq : 0 < q1.length) (hst : st.length ≤ 7) (hb : h[b]? = some (.inr (.inr (z, fs)))) (hl : 2 ≤ (pw_inf t).2.2.1) (hm : pw_M d t [.inr (some b), a1] h (pw_qr Qi)) (k : (∀ (x : Option Nat) (h1 : pw_H), Qi x h1 → pw_W (d + 1) M np L (.inr x :: st) h1 Q)) : pw_W (d + 1) M pc L (a1 :: .inr (some b) :: st) h Q := by
  refine pr_call (as := [.inr (some b), a1]) (rest := st) ho rfl rfl (by simp only [List.length_cons]; omega) ?_ hl hm ?_
  · simp only [pw_args, List.length_cons, List.take_succ_cons, List.take_zero, List.drop_succ_cons, List.drop_zero]
    rw [if_pos (by omega), hb]
    dsimp only
    rw [if_pos rfl]
    rfl
  · intro r h1 hq1
    obtain ⟨x, e, e2⟩ := hq1
    subst e
    exact k x h1 e2
theorem pr_xv0 {ix b z : Nat} {fs : List pw_V} {q1 : List Nat} {Qi : pw_H → Prop} (ho : pw_op M pc = some (.invokespecial ix, np, t, 0 :: z :: q1)) (hq : 0 < q1.length) (hst : st.length ≤ 7) (hb : h[b]? = some (.inr (.inr (z, fs)))) (hl : 1 ≤ (pw_inf t).2.2.1) (hm : pw_M d t [.inr (some b)] h (pw_qv Qi)) (k : (∀ (h1 : pw_H), Qi h1 → pw_W (d + 1) M np L st h1 Q)) : pw_W (d + 1) M pc L (.inr (some b) :: st) h Q := by
  refine pr_call (as := [.inr (some b)]) (rest := st) ho rfl rfl (by simp only [List.length_cons]; omega) ?_ hl hm ?_
  · simp only [pw_args, List.length_cons, List.take_succ_cons, List.take_zero, List.drop_succ_cons, List.drop_zero]
    rw [if_pos (by omega), hb]
    dsimp only
    rw [if_pos rfl]
    rfl
  · intro r h1 hq1
    obtain ⟨e, e2⟩ := hq1
    subst e
    exact k h1 e2
theorem pr_xv1 {ix b z : Nat} {a1 : pw_V} {fs : List pw_V} {q1 : List Nat} {Qi : pw_H → Prop} (ho : pw_op M pc = some (.invokespecial ix, np, t, 1 :: z :: q1)) (hq : 0 < q1.length) (hst : st.length ≤ 7) (hb : h[b]? = some (.inr (.inr (z, fs)))) (hl : 2 ≤ (pw_inf t).2.2.1) (hm : pw_M d t [.inr (some b), a1] h (pw_qv Qi)) (k : (∀ (h1 : pw_H), Qi h1 → pw_W (d + 1) M np L st h1 Q)) : pw_W (d + 1) M pc L (a1 :: .inr (some b) :: st) h Q := by
  refine pr_call (as := [.inr (some b), a1]) (rest := st) ho rfl rfl (by simp only [List.length_cons]; omega) ?_ hl hm ?_
  · simp only [pw_args, List.length_cons, List.take_succ_cons, List.take_zero, List.drop_succ_cons, List.drop_zero]
    rw [if_pos (by omega), hb]
    dsimp only
    rw [if_pos rfl]
    rfl
  · intro r h1 hq1
    obtain ⟨e, e2⟩ := hq1
    subst e
    exact k h1 e2
theorem pr_xv2 {ix b z : Nat} {a1 a2 : pw_V} {fs : List pw_V} {q1 : List Nat} {Qi : pw_H → Prop} (ho : pw_op M pc = some (.invokespecial ix, np, t, 2 :: z :: q1)) (hq : 0 < q1.length) (hst : st.length ≤ 7) (hb : h[b]? = some (.inr (.inr (z, fs)))) (hl : 3 ≤ (pw_inf t).2.2.1) (hm : pw_M d t [.inr (some b), a1, a2] h (pw_qv Qi)) (k : (∀ (h1 : pw_H), Qi h1 → pw_W (d + 1) M np L st h1 Q)) : pw_W (d + 1) M pc L (a2 :: a1 :: .inr (some b) :: st) h Q := by
  refine pr_call (as := [.inr (some b), a1, a2]) (rest := st) ho rfl rfl (by simp only [List.length_cons]; omega) ?_ hl hm ?_
  · simp only [pw_args, List.length_cons, List.take_succ_cons, List.take_zero, List.drop_succ_cons, List.drop_zero]
    rw [if_pos (by omega), hb]
    dsimp only
    rw [if_pos rfl]
    rfl
  · intro r h1 hq1
    obtain ⟨e, e2⟩ := hq1
    subst e
    exact k h1 e2
theorem pr_xv6 {ix b z : Nat} {a1 a2 a3 a4 a5 a6 : pw_V} {fs : List pw_V} {q1 : List Nat} {Qi : pw_H → Prop} (ho : pw_op M pc = some (.invokespecial ix, np, t, 6 :: z :: q1)) (hq : 0 < q1.length) (hst : st.length ≤ 7) (hb : h[b]? = some (.inr (.inr (z, fs)))) (hl : 7 ≤ (pw_inf t).2.2.1) (hm : pw_M d t [.inr (some b), a1, a2, a3, a4, a5, a6] h (pw_qv Qi)) (k : (∀ (h1 : pw_H), Qi h1 → pw_W (d + 1) M np L st h1 Q)) : pw_W (d + 1) M pc L (a6 :: a5 :: a4 :: a3 :: a2 :: a1 :: .inr (some b) :: st) h Q := by
  refine pr_call (as := [.inr (some b), a1, a2, a3, a4, a5, a6]) (rest := st) ho rfl rfl (by simp only [List.length_cons]; omega) ?_ hl hm ?_
  · simp only [pw_args, List.length_cons, List.take_succ_cons, List.take_zero, List.drop_succ_cons, List.drop_zero]
    rw [if_pos (by omega), hb]
    dsimp only
    rw [if_pos rfl]
    rfl
  · intro r h1 hq1
    obtain ⟨e, e2⟩ := hq1
    subst e
    exact k h1 e2
end PWX
