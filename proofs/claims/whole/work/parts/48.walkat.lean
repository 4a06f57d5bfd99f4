theorem dr_cons {l : pw_H} {k : Nat} {a : pw_C} (h : l[k]? = some a) : l.drop k = a :: l.drop (k + 1) := by
  obtain ⟨h1, h2⟩ := List.getElem?_eq_some_iff.mp h
  rw [List.drop_eq_getElem_cons h1, h2]
/-- a walk among the dynamic cells -/
def wk_at (dy : pw_H) (k : Nat) (x0 y0 : Int32) (D L U C R : Nat → Int32) (n : Nat) (hl hr : Int32) : Prop := dy[k]? = some (.inr (.inr (2, wk_o (57 + k) x0 y0 n hl hr))) ∧ dy[k + 1]? = some (.inl (0, 12, D)) ∧ dy[k + 2]? = some (.inl (0, 12, L)) ∧ dy[k + 3]? = some (.inl (0, 12, U)) ∧ dy[k + 4]? = some (.inl (0, 12, C)) ∧ dy[k + 5]? = some (.inl (0, 12, R))
section WA
variable {dy : pw_H} {k : Nat} {x0 y0 : Int32} {D L U C R : Nat → Int32} {n : Nat} {hl hr : Int32}
theorem wk_split (h : wk_at dy k x0 y0 D L U C R n hl hr) : ∃ pre pst, dy = pre ++ wk_c (57 + k) x0 y0 D L U C R n hl hr pst ∧ pre.length = k := by
  obtain ⟨h0, h1, h2, h3, h4, h5⟩ := h
  have hk : k < dy.length := (List.getElem?_eq_some_iff.mp h0).1
  refine ⟨dy.take k, dy.drop (k + 6), ?_, by rw [List.length_take]; omega⟩
  have e : dy.drop k = wk_c (57 + k) x0 y0 D L U C R n hl hr (dy.drop (k + 6)) := by
    rw [dr_cons h0, dr_cons h1, dr_cons h2, dr_cons h3, dr_cons h4, dr_cons h5]
    rfl
  rw [← e, List.take_append_drop]
theorem wk_join {pre pst : pw_H} (hk : pre.length = k) : wk_at (pre ++ wk_c (57 + k) x0 y0 D L U C R n hl hr pst) k x0 y0 D L U C R n hl hr := by
  subst hk
  exact ⟨wk_get pre _ 0, wk_get pre _ 1, wk_get pre _ 2, wk_get pre _ 3, wk_get pre _ 4, wk_get pre _ 5⟩
theorem wk_frame {pre pst : pw_H} {x1 y1 : Int32} {D1 L1 U1 C1 R1 : Nat → Int32} {n1 : Nat} {hl1 hr1 : Int32} (hk : pre.length = k) : ∀ b, (b < k ∨ k + 5 < b) → (pre ++ wk_c (57 + k) x0 y0 D L U C R n hl hr pst)[b]? = (pre ++ wk_c (57 + k) x1 y1 D1 L1 U1 C1 R1 n1 hl1 hr1 pst)[b]? := by
  intro b hb
  rcases hb with h | h
  · rw [List.getElem?_append_left (by omega), List.getElem?_append_left (by omega)]
  · obtain ⟨c, rfl⟩ : ∃ c, b = pre.length + (c + 6) := ⟨b - k - 6, by omega⟩
    rw [wk_get, wk_get]
    rfl
end WA
section WB
variable {N : Nat} {xs : Nat → Int32} {zc zm : Nat → Int32} {e3 e11 e18 : Nat} {A : Nat → Nat → Int32} {g gh : Nat → Option Nat} {dy : pw_H} {k : Nat} {x0 y0 : Int32} {D L U C R : Nat → Int32} {n : Nat} {hl hr : Int32}
theorem wk_hp {pre pst : pw_H} (hk : pre.length = k) : (hp_h N xs zc e3 e11 e18 zm A g gh (pre ++ wk_c (57 + k) x0 y0 D L U C R n hl hr pst)) = wk_h (hp_h N xs zc e3 e11 e18 zm A g gh pre) pst x0 y0 D L U C R n hl hr := by
  subst hk
  rw [wk_h, hp_len, hp_app]
theorem hp_ln {pre : pw_H} (hk : pre.length = k) : (hp_h N xs zc e3 e11 e18 zm A g gh pre).length = 57 + k := by rw [hp_len, hk]
end WB
theorem k_11 (d : Nat) {N : Nat} {xs : Nat → Int32} {zc zm : Nat → Int32} {e3 e11 e18 : Nat} {A : Nat → Nat → Int32} {g gh : Nat → Option Nat} {dy : pw_H} {k : Nat} {x0 y0 : Int32} {D L U C R : Nat → Int32} {n : Nat} {hr : Int32} (B : Prop) [Decidable B] (hat : wk_at dy k x0 y0 D L U C R n (pw_b B) hr) (hn : n ≤ 12) (i : Nat) (hi : i < n) : pw_M (d + 1) 11 [.inr (some (57 + k)), .inl (nI i)] (hp_h N xs zc e3 e11 e18 zm A g gh dy) (pw_qi (pw_is (hp_h N xs zc e3 e11 e18 zm A g gh dy) (if B then C i else -1))) := by
  obtain ⟨pre, pst, rfl, hk⟩ := wk_split hat
  rw [wk_hp hk, ← hp_ln (N := N) (xs := xs) (zc := zc) (e3 := e3) (e11 := e11) (e18 := e18) (zm := zm) (A := A) (g := g) (gh := gh) hk]
  exact c_11 d hn B i hi
theorem k_12 (d : Nat) {N : Nat} {xs : Nat → Int32} {zc zm : Nat → Int32} {e3 e11 e18 : Nat} {A : Nat → Nat → Int32} {g gh : Nat → Option Nat} {dy : pw_H} {k : Nat} {x0 y0 : Int32} {D L U C R : Nat → Int32} {n : Nat} {hl hr : Int32} (hat : wk_at dy k x0 y0 D L U C R n hl hr) (x y : Nat) (hx : x < 12) (hy : y < 12) : pw_M (d + 2) 12 [.inr (some (57 + k)), .inl (nI x), .inl (nI y)] (hp_h N xs zc e3 e11 e18 zm A g gh dy) (pw_qi (pw_is (hp_h N xs zc e3 e11 e18 zm A g gh dy) (pw_b ((R y >>> (nI x &&& 31)) &&& 1 = 1)))) := by
  obtain ⟨pre, pst, rfl, hk⟩ := wk_split hat
  rw [wk_hp hk, ← hp_ln (N := N) (xs := xs) (zc := zc) (e3 := e3) (e11 := e11) (e18 := e18) (zm := zm) (A := A) (g := g) (gh := gh) hk]
  exact c_12 d x y hx hy
theorem k_13 (d : Nat) {N : Nat} {xs : Nat → Int32} {zc zm : Nat → Int32} {e3 e11 e18 : Nat} {A : Nat → Nat → Int32} {g gh : Nat → Option Nat} {dy : pw_H} {k : Nat} {x0 y0 : Int32} {D L U C R : Nat → Int32} {n : Nat} {hl : Int32} (B : Prop) [Decidable B] (hat : wk_at dy k x0 y0 D L U C R n hl (pw_b B)) : pw_M (d + 1) 13 [.inr (some (57 + k))] (hp_h N xs zc e3 e11 e18 zm A g gh dy) (pw_qi (pw_is (hp_h N xs zc e3 e11 e18 zm A g gh dy) (if B then fi_run R 12 else -1))) := by
  obtain ⟨pre, pst, rfl, hk⟩ := wk_split hat
  rw [wk_hp hk, ← hp_ln (N := N) (xs := xs) (zc := zc) (e3 := e3) (e11 := e11) (e18 := e18) (zm := zm) (A := A) (g := g) (gh := gh) hk]
  exact c_13 d B
theorem k_9 (d : Nat) {N : Nat} {xs : Nat → Int32} {zc zm : Nat → Int32} {e3 e11 e18 : Nat} {A : Nat → Nat → Int32} {g gh : Nat → Option Nat} {dy : pw_H} {k : Nat} {x0 y0 : Int32} {D L U C R : Nat → Int32} {n : Nat} {hl hr : Int32} (hat : wk_at dy k x0 y0 D L U C R n hl hr) (e l u : Int32) (hn : n < 12) (hw : wl_ok (iT (upd D n e)) (iT (upd L n l)) (iT (upd U n u)) (n + 1)) (hx0 : 0 ≤ x0.toInt ∧ x0.toInt ≤ 12) (hy0 : 0 ≤ y0.toInt ∧ y0.toInt ≤ 12) : pw_M (d + 4) 9 [.inr (some (57 + k)), .inl e, .inl l, .inl u] (hp_h N xs zc e3 e11 e18 zm A g gh dy) (pw_qv (fun h' => ∃ (dy2 : pw_H) (C2 R2 : Nat → Int32), h' = (hp_h N xs zc e3 e11 e18 zm A g gh dy2) ∧ wk_at dy2 k x0 y0 (upd D n e) (upd L n l) (upd U n u) C2 R2 (n + 1) (pw_b (wk_fe (upd D n e) (upd L n l) (upd U n u) (n + 1))) (pw_b (wk_rg (upd D n e) (upd L n l) (upd U n u) (n + 1) x0 y0)) ∧ wk_res (upd D n e) (upd L n l) (upd U n u) C2 R2 (n + 1) x0 y0 ∧ dy2.length = dy.length ∧ ∀ b, (b < k ∨ k + 5 < b) → dy2[b]? = dy[b]?)) := by
  obtain ⟨pre, pst, rfl, hk⟩ := wk_split hat
  have hln := hp_ln (N := N) (xs := xs) (zc := zc) (e3 := e3) (e11 := e11) (e18 := e18) (zm := zm) (A := A) (g := g) (gh := gh) hk
  refine pr_post (Q' := pw_qv (fun h' => ∃ C2 R2 : Nat → Int32, h' = wk_h (hp_h N xs zc e3 e11 e18 zm A g gh pre) pst x0 y0 (upd D n e) (upd L n l) (upd U n u) C2 R2 (n + 1) (pw_b (wk_fe (upd D n e) (upd L n l) (upd U n u) (n + 1))) (pw_b (wk_rg (upd D n e) (upd L n l) (upd U n u) (n + 1) x0 y0)) ∧ wk_res (upd D n e) (upd L n l) (upd U n u) C2 R2 (n + 1) x0 y0)) ?_ (fun r h1 hq => ?_)
  · rw [wk_hp hk, ← hln]
    exact c_9 d e l u hn hw hx0 hy0
  · obtain ⟨e1, C2, R2, e2, e3x⟩ := hq
    refine ⟨e1, _, C2, R2, e2.trans (wk_hp hk).symm, wk_join hk, e3x, ?_, wk_frame hk⟩
    rw [List.length_append, List.length_append]
    rfl
theorem k_10 (d : Nat) {N : Nat} {xs : Nat → Int32} {zc zm : Nat → Int32} {e3 e11 e18 : Nat} {A : Nat → Nat → Int32} {g gh : Nat → Option Nat} {dy : pw_H} {k : Nat} {x0 y0 : Int32} {D L U C R : Nat → Int32} {n : Nat} {hl hr : Int32} (hat : wk_at dy k x0 y0 D L U C R n hl hr) (hn : 0 < n) (hn2 : n ≤ 12) (hw : wl_ok (iT D) (iT L) (iT U) (n - 1)) (hx0 : 0 ≤ x0.toInt ∧ x0.toInt ≤ 12) (hy0 : 0 ≤ y0.toInt ∧ y0.toInt ≤ 12) : pw_M (d + 4) 10 [.inr (some (57 + k))] (hp_h N xs zc e3 e11 e18 zm A g gh dy) (pw_qv (fun h' => ∃ (dy2 : pw_H) (C2 R2 : Nat → Int32), h' = (hp_h N xs zc e3 e11 e18 zm A g gh dy2) ∧ wk_at dy2 k x0 y0 D L U C2 R2 (n - 1) (pw_b (wk_fe D L U (n - 1))) (pw_b (wk_rg D L U (n - 1) x0 y0)) ∧ wk_res D L U C2 R2 (n - 1) x0 y0 ∧ dy2.length = dy.length ∧ ∀ b, (b < k ∨ k + 5 < b) → dy2[b]? = dy[b]?)) := by
  obtain ⟨pre, pst, rfl, hk⟩ := wk_split hat
  have hln := hp_ln (N := N) (xs := xs) (zc := zc) (e3 := e3) (e11 := e11) (e18 := e18) (zm := zm) (A := A) (g := g) (gh := gh) hk
  refine pr_post (Q' := pw_qv (fun h' => ∃ C2 R2 : Nat → Int32, h' = wk_h (hp_h N xs zc e3 e11 e18 zm A g gh pre) pst x0 y0 D L U C2 R2 (n - 1) (pw_b (wk_fe D L U (n - 1))) (pw_b (wk_rg D L U (n - 1) x0 y0)) ∧ wk_res D L U C2 R2 (n - 1) x0 y0)) ?_ (fun r h1 hq => ?_)
  · rw [wk_hp hk, ← hln]
    exact c_10 d hn hn2 hw hx0 hy0
  · obtain ⟨e1, C2, R2, e2, e3x⟩ := hq
    refine ⟨e1, _, C2, R2, e2.trans (wk_hp hk).symm, wk_join hk, e3x, ?_, wk_frame hk⟩
    rw [List.length_append, List.length_append]
    rfl
