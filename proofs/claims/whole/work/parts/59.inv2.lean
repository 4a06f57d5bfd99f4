theorem ge_app {l l2 : pw_H} {k : Nat} {c : pw_C} (h : l[k]? = some c) : (l ++ l2)[k]? = some c := by
  rw [List.getElem?_append_left (List.getElem?_eq_some_iff.mp h).1]
  exact h
section IW
variable {dy : pw_H} {k k2 : Nat} {x0 y0 x1 y1 : Int32} {D L U C R D1 L1 U1 C1 R1 : Nat → Int32} {n n1 : Nat} {hl hr hl1 hr1 : Int32}
theorem wk_at_app {l2 : pw_H} (h : wk_at dy k x0 y0 D L U C R n hl hr) : wk_at (dy ++ l2) k x0 y0 D L U C R n hl hr :=
  ⟨ge_app h.1, ge_app h.2.1, ge_app h.2.2.1, ge_app h.2.2.2.1, ge_app h.2.2.2.2.1, ge_app h.2.2.2.2.2⟩
theorem wk_len (h : wk_at dy k x0 y0 D L U C R n hl hr) : k + 5 < dy.length := (List.getElem?_eq_some_iff.mp h.2.2.2.2.2).1
theorem wk_disj (h : wk_at dy k x0 y0 D L U C R n hl hr) (h1 : wk_at dy k2 x1 y1 D1 L1 U1 C1 R1 n1 hl1 hr1) (hne : k ≠ k2) : k2 + 5 < k ∨ k + 5 < k2 := by
  obtain ⟨a0, a1, a2, a3, a4, a5⟩ := h
  obtain ⟨b0, b1, b2, b3, b4, b5⟩ := h1
  apply Decidable.byContradiction
  intro hc
  rcases (show k2 = k + 1 ∨ k2 = k + 2 ∨ k2 = k + 3 ∨ k2 = k + 4 ∨ k2 = k + 5 ∨ k = k2 + 1 ∨ k = k2 + 2 ∨ k = k2 + 3 ∨ k = k2 + 4 ∨ k = k2 + 5 by omega) with e | e | e | e | e | e | e | e | e | e
  · rw [e, a1] at b0; cases b0
  · rw [e, a2] at b0; cases b0
  · rw [e, a3] at b0; cases b0
  · rw [e, a4] at b0; cases b0
  · rw [e, a5] at b0; cases b0
  · rw [e, b1] at a0; cases a0
  · rw [e, b2] at a0; cases a0
  · rw [e, b3] at a0; cases a0
  · rw [e, b4] at a0; cases a0
  · rw [e, b5] at a0; cases a0
theorem ho_disj {fs : List pw_V} (h : wk_at dy k x0 y0 D L U C R n hl hr) (h1 : dy[k2]? = some (.inr (.inr (0, fs)))) : k2 < k ∨ k + 5 < k2 := by
  obtain ⟨a0, a1, a2, a3, a4, a5⟩ := h
  apply Decidable.byContradiction
  intro hc
  rcases (show k2 = k ∨ k2 = k + 1 ∨ k2 = k + 2 ∨ k2 = k + 3 ∨ k2 = k + 4 ∨ k2 = k + 5 by omega) with e | e | e | e | e | e
  · rw [e, a0] at h1; cases h1
  · rw [e, a1] at h1; cases h1
  · rw [e, a2] at h1; cases h1
  · rw [e, a3] at h1; cases h1
  · rw [e, a4] at h1; cases h1
  · rw [e, a5] at h1; cases h1
theorem wk_at_fr {dy2 : pw_H} (hfr : ∀ b, (b < k ∨ k + 5 < b) → dy2[b]? = dy[b]?) (hd : k2 + 5 < k ∨ k + 5 < k2) (h : wk_at dy k2 x0 y0 D L U C R n hl hr) : wk_at dy2 k2 x0 y0 D L U C R n hl hr := by
  obtain ⟨b0, b1, b2, b3, b4, b5⟩ := h
  exact ⟨(hfr _ (by omega)).trans b0, (hfr _ (by omega)).trans b1, (hfr _ (by omega)).trans b2, (hfr _ (by omega)).trans b3, (hfr _ (by omega)).trans b4, (hfr _ (by omega)).trans b5⟩
theorem wk_sz {dy2 : pw_H} (hfr : ∀ b, (b < k ∨ k + 5 < b) → dy2[b]? = dy[b]?) (h : wk_at dy2 k x0 y0 D L U C R n hl hr) (hz : ∀ c, c ∈ dy → pw_sz c ≤ 12) : ∀ c, c ∈ dy2 → pw_sz c ≤ 12 := by
  intro c hc
  obtain ⟨b, hb⟩ := List.mem_iff_getElem?.mp hc
  by_cases e : b < k ∨ k + 5 < b
  · rw [hfr b e] at hb
    exact hz c (List.mem_of_getElem? hb)
  · obtain ⟨a0, a1, a2, a3, a4, a5⟩ := h
    rcases (show b = k ∨ b = k + 1 ∨ b = k + 2 ∨ b = k + 3 ∨ b = k + 4 ∨ b = k + 5 by omega) with e | e | e | e | e | e
    · rw [e, a0] at hb; cases hb; exact (by decide : 10 ≤ 12)
    · rw [e, a1] at hb; cases hb; exact Nat.le_refl 12
    · rw [e, a2] at hb; cases hb; exact Nat.le_refl 12
    · rw [e, a3] at hb; cases hb; exact Nat.le_refl 12
    · rw [e, a4] at hb; cases hb; exact Nat.le_refl 12
    · rw [e, a5] at hb; cases hb; exact Nat.le_refl 12
end IW
section IV2
variable {zc : Nat → Int32} {e3 e11 e18 : Nat} {zm : Nat → Int32} {A : Nat → Nat → Int32} {g gh : Nat → Option Nat} {dy : pw_H} {P Y S W K : Nat} {ns : Nat → Nat} {vs : Nat → Nat → Nat}
theorem md_par_p {B : Nat → Nat → Int32} {j n : Nat} (h26 : B 26 j = A 26 j) (h27 : B 27 j = A 27 j) (h28 : B 28 j = A 28 j) (h29 : ∀ k, k < n → B 29 (12 * j + k) = A 29 (12 * j + k) ∧ B 30 (12 * j + k) = A 30 (12 * j + k) ∧ B 31 (12 * j + k) = A 31 (12 * j + k)) (h : md_par A j n) : md_par B j n := by
  obtain ⟨h1, h2, h3, h4⟩ := h
  refine ⟨h28.trans h1, ⟨h2.1, fun k hk => ?_⟩, by rw [h26]; exact h3, by rw [h27]; exact h4⟩
  obtain ⟨e1, e2, e3⟩ := h29 k hk
  have h5 := h2.2 k hk
  dsimp only [md_D, md_L, md_U] at h5 ⊢
  rw [e1, e2, e3]
  exact h5
/-- a parish that has no leg yet -/
theorem pa_new {B : Nat → Nat → Int32} {g2 : Nat → Option Nat} {ns2 : Nat → Nat} {dy0 : pw_H} {j : Nat} {x y : Int32} (h26 : B 26 j = x) (h27 : B 27 j = y) (hg : g2 j = some (57 + dy0.length)) (hn : ns2 j = 0) : pa_ok g2 (dy0 ++ wk_z (57 + dy0.length) x y) B ns2 j := by
  have hf : wk_fe (fun _ => 0) (fun _ => 0) (fun _ => 0) 0 := ⟨⟨Int.le_refl 0, Int.le_refl 0⟩, Int.le_refl 0, Int.le_refl 0⟩
  have hr : wk_rg (fun _ => 0) (fun _ => 0) (fun _ => 0) 0 x y := ⟨hf, fun i hi => absurd hi (Nat.not_lt_zero i)⟩
  refine ⟨dy0.length, fun _ => 0, fun _ => 0, fun _ => 0, fun _ => 0, fun _ => 0, hg, ?_, ?_, ?_⟩
  · rw [h26, h27, hn, pw_b1 hf, pw_b1 hr]
    exact wk_join rfl
  · rw [h26, h27, hn]
    refine ⟨fun _ k hk => absurd hk (Nat.not_lt_zero k), fun yy hy => rb_eq rb_0 (fun xx _ => ?_)⟩
    have hz : ∀ m, wl_pf (wk_V (fun _ => 0) (fun _ => 0) (fun _ => 0) 0 x y) yy m = false := fun m => by
      induction m with
      | zero => rfl
      | succ m ih =>
        show (wl_pf (wk_V (fun _ => 0) (fun _ => 0) (fun _ => 0) 0 x y) yy m ^^ false) = false
        rw [ih]
        rfl
    rw [hz, Bool.and_false]
  · intro i hi
    rw [hn] at hi
    exact absurd hi (Nat.not_lt_zero i)
theorem iv_parish {B : Nat → Nat → Int32} {x y : Int32} (hx : 0 ≤ x.toInt ∧ x.toInt ≤ 12) (hy : 0 ≤ y.toInt ∧ y.toInt ≤ 12) (hP4 : P < 4) (n26 : B 26 = upd (A 26) P x) (n27 : B 27 = upd (A 27) P y) (hB : ∀ k, k < 52 → k ≠ 26 → k ≠ 27 → B k = A k) (h : (bw_inv zc e3 e11 e18 zm A g gh dy P Y S W K ns vs)) : (bw_inv (upd zc 1 (nI (P + 1))) e3 e11 e18 (upd zm 0 (nI (P + 1))) B (va_up g P (some (57 + dy.length))) gh (dy ++ wk_z (57 + dy.length) x y) (P + 1) Y S W K (fun j => if j = P then 0 else ns j) vs) := by
  have e4 : B 4 = A 4 := hB 4 (by decide) (by decide) (by decide)
  have e5 : B 5 = A 5 := hB 5 (by decide) (by decide) (by decide)
  have e6 : B 6 = A 6 := hB 6 (by decide) (by decide) (by decide)
  have e7 : B 7 = A 7 := hB 7 (by decide) (by decide) (by decide)
  have e8 : B 8 = A 8 := hB 8 (by decide) (by decide) (by decide)
  have e9 : B 9 = A 9 := hB 9 (by decide) (by decide) (by decide)
  have e10 : B 10 = A 10 := hB 10 (by decide) (by decide) (by decide)
  have e12 : B 12 = A 12 := hB 12 (by decide) (by decide) (by decide)
  have e13 : B 13 = A 13 := hB 13 (by decide) (by decide) (by decide)
  have e14 : B 14 = A 14 := hB 14 (by decide) (by decide) (by decide)
  have e15 : B 15 = A 15 := hB 15 (by decide) (by decide) (by decide)
  have e16 : B 16 = A 16 := hB 16 (by decide) (by decide) (by decide)
  have e19 : B 19 = A 19 := hB 19 (by decide) (by decide) (by decide)
  have e20 : B 20 = A 20 := hB 20 (by decide) (by decide) (by decide)
  have e21 : B 21 = A 21 := hB 21 (by decide) (by decide) (by decide)
  have e22 : B 22 = A 22 := hB 22 (by decide) (by decide) (by decide)
  have e28 : B 28 = A 28 := hB 28 (by decide) (by decide) (by decide)
  have e29 : B 29 = A 29 := hB 29 (by decide) (by decide) (by decide)
  have e30 : B 30 = A 30 := hB 30 (by decide) (by decide) (by decide)
  have e31 : B 31 = A 31 := hB 31 (by decide) (by decide) (by decide)
  have e32 : B 32 = A 32 := hB 32 (by decide) (by decide) (by decide)
  have e33 : B 33 = A 33 := hB 33 (by decide) (by decide) (by decide)
  have e34 : B 34 = A 34 := hB 34 (by decide) (by decide) (by decide)
  have e35 : B 35 = A 35 := hB 35 (by decide) (by decide) (by decide)
  have e36 : B 36 = A 36 := hB 36 (by decide) (by decide) (by decide)
  have e37 : B 37 = A 37 := hB 37 (by decide) (by decide) (by decide)
  have e38 : B 38 = A 38 := hB 38 (by decide) (by decide) (by decide)
  have e39 : B 39 = A 39 := hB 39 (by decide) (by decide) (by decide)
  have e40 : B 40 = A 40 := hB 40 (by decide) (by decide) (by decide)
  have e41 : B 41 = A 41 := hB 41 (by decide) (by decide) (by decide)
  have e42 : B 42 = A 42 := hB 42 (by decide) (by decide) (by decide)
  have e43 : B 43 = A 43 := hB 43 (by decide) (by decide) (by decide)
  have e44 : B 44 = A 44 := hB 44 (by decide) (by decide) (by decide)
  have e45 : B 45 = A 45 := hB 45 (by decide) (by decide) (by decide)
  have e46 : B 46 = A 46 := hB 46 (by decide) (by decide) (by decide)
  have e47 : B 47 = A 47 := hB 47 (by decide) (by decide) (by decide)
  have e48 : B 48 = A 48 := hB 48 (by decide) (by decide) (by decide)
  have e49 : B 49 = A 49 := hB 49 (by decide) (by decide) (by decide)
  have e50 : B 50 = A 50 := hB 50 (by decide) (by decide) (by decide)
  have e51 : B 51 = A 51 := hB 51 (by decide) (by decide) (by decide)
  have p26 : B 26 P = x := by rw [n26]; exact if_pos rfl
  have p27 : B 27 P = y := by rw [n27]; exact if_pos rfl
  have q26 : ∀ j, j ≠ P → B 26 j = A 26 j := fun j hj => by rw [n26]; exact if_neg hj
  have q27 : ∀ j, j ≠ P → B 27 j = A 27 j := fun j hj => by rw [n27]; exact if_neg hj
  have hgl : ∀ j, j < P → ∃ k, g j = some (57 + k) ∧ k < dy.length := fun j hj => by
    obtain ⟨k, D, L, U, C, R, a1, a2, -, -⟩ := h.hwk j hj
    exact ⟨k, a1, by have := wk_len a2; omega⟩
  exact ⟨
    rfl,
    (by omega),
    rfl,
    h.hY,
    h.hYb,
    h.hYc,
    h.hS,
    h.hSb,
    h.hSc,
    h.hT,
    h.hTb,
    h.hW,
    h.hWb,
    h.hWc,
    h.hK,
    h.hKb,
    h.hKc,
    h.hE,
    h.hEb,
    h.hU,
    h.hUb,
    h.hG,
    (by rw [e8, e36]; exact h.r8),
    (by rw [e9, e35]; exact h.r9),
    (by rw [e10, e37]; exact h.r10),
    (by rw [e12, e38]; exact h.r12),
    (by rw [e13, e39]; exact h.r13),
    (by rw [e14, e40]; exact h.r14),
    (by rw [e15, e41]; exact h.r15),
    (by rw [e16, e42]; exact h.r16),
    (by rw [e4, e33]; exact h.r4),
    (by rw [e5, e32]; exact h.r5),
    (by rw [e7, e34]; exact h.r7),
    (by rw [e19, e49]; exact h.r19),
    (by rw [e20, e50]; exact h.r20),
    (by rw [e22, e51]; exact h.r22),
    (fun i hi => by rw [e39]; exact h.b39 i hi),
    (fun i hi => by rw [e35]; exact h.b35 i hi),
    (fun i hi => by rw [e37]; exact h.b37 i hi),
    (fun i hi => by rw [e42]; exact h.b42 i hi),
    (fun i hi => by rw [e32]; exact h.b32 i hi),
    (fun i hi => by rw [e34]; exact h.b34 i hi),
    (fun i hi => by rw [e50]; exact h.b50 i hi),
    (fun i hi => by rw [e6]; exact h.b6 i hi),
    (fun i hi => by rw [e21]; exact h.b21 i hi),
    (fun j hj => by
      show md_par B j (if j = P then 0 else ns j)
      by_cases e : j = P
      · rw [if_pos e, e]
        refine ⟨?_, ⟨by omega, fun k hk => absurd hk (Nat.not_lt_zero k)⟩, by rw [p26]; exact hx, by rw [p27]; exact hy⟩
        rw [e28]
        exact h.h28 P (Nat.le_refl P) hP4
      · rw [if_neg e]
        exact md_par_c (q26 j e) (q27 j e) (by rw [e28]) e29 e30 e31 (h.hpar j (by omega))),
    (fun j hj => by
      by_cases e : j = P
      · rw [e]
        exact pa_new p26 p27 (if_pos rfl) (if_pos rfl)
      · exact pa_ok_c (q26 j e) (q27 j e) (fun i _ => by rw [e29]) (fun i _ => by rw [e30]) (fun i _ => by rw [e31]) (if_neg e) (if_neg e) (fun _ _ _ _ _ _ _ _ _ _ _ _ hh => wk_at_app hh) (h.hwk j (by omega))),
    (fun j h1 h2 => (if_neg (by omega)).trans (h.hgn j (by omega) h2)),
    (fun i j hi hj hij => by
      unfold va_up at hij
      by_cases ei : i = P <;> by_cases ej : j = P
      · omega
      · rw [if_pos ei, if_neg ej] at hij
        obtain ⟨k, a1, a2⟩ := hgl j (by omega)
        rw [a1] at hij
        have := Option.some.inj hij
        omega
      · rw [if_neg ei, if_pos ej] at hij
        obtain ⟨k, a1, a2⟩ := hgl i (by omega)
        rw [a1] at hij
        have := Option.some.inj hij
        omega
      · rw [if_neg ei, if_neg ej] at hij
        exact h.hgi i j (by omega) (by omega) hij),
    (fun j h1 h2 => by rw [e28]; exact h.h28 j (by omega) h2),
    (fun j hj => by
      obtain ⟨k, a1, a2, a3⟩ := h.hhs j hj
      exact ⟨k, a1, ge_app a2, a3⟩),
    (fun j hj => md_hou_c (by rw [e43]) (by rw [e44]) (by rw [e45]) (by rw [e46]) (by rw [e47]) (by rw [e48]) (h.hhm j hj)),
    h.hgh,
    (by
      have h1 := h.hdl
      rw [List.length_append]
      have h2 : (wk_z (57 + dy.length) x y).length = 6 := rfl
      omega),
    (fun c hc => by
      rcases List.mem_append.mp hc with hc | hc
      · exact h.hdz c hc
      · simp only [wk_z, wk_c, List.mem_cons, List.not_mem_nil, or_false] at hc
        rcases hc with rfl | rfl | rfl | rfl | rfl | rfl
        · exact (by decide : 10 ≤ 12)
        · exact Nat.le_refl 12
        · exact Nat.le_refl 12
        · exact Nat.le_refl 12
        · exact Nat.le_refl 12
        · exact Nat.le_refl 12)⟩
theorem iv_legs {B : Nat → Nat → Int32} {j m k : Nat} {dy2 : pw_H} {D L U C R : Nat → Int32} (hj : j < P) (n28 : B 28 = upd (A 28) j (nI m)) (hoth : ∀ i a, i ≠ j → a < 12 → B 29 (12 * i + a) = A 29 (12 * i + a) ∧ B 30 (12 * i + a) = A 30 (12 * i + a) ∧ B 31 (12 * i + a) = A 31 (12 * i + a)) (hw : wl_ok (md_D B j) (md_L B j) (md_U B j) m) (hgk : g j = some (57 + k)) (hat : wk_at dy2 k (A 26 j) (A 27 j) D L U C R m (pw_b (wk_fe D L U m)) (pw_b (wk_rg D L U m (A 26 j) (A 27 j)))) (hres : wk_res D L U C R m (A 26 j) (A 27 j)) (hag : ∀ i, i < m → D i = B 29 (12 * j + i) ∧ L i = B 30 (12 * j + i) ∧ U i = B 31 (12 * j + i)) (hlen : dy2.length = dy.length) (hfr : ∀ b, (b < k ∨ k + 5 < b) → dy2[b]? = dy[b]?) (hB : ∀ k, k < 52 → k ≠ 28 → k ≠ 29 → k ≠ 30 → k ≠ 31 → B k = A k) (h : (bw_inv zc e3 e11 e18 zm A g gh dy P Y S W K ns vs)) : (bw_inv zc e3 e11 e18 zm B g gh dy2 P Y S W K (fun i => if i = j then m else ns i) vs) := by
  have e4 : B 4 = A 4 := hB 4 (by decide) (by decide) (by decide) (by decide) (by decide)
  have e5 : B 5 = A 5 := hB 5 (by decide) (by decide) (by decide) (by decide) (by decide)
  have e6 : B 6 = A 6 := hB 6 (by decide) (by decide) (by decide) (by decide) (by decide)
  have e7 : B 7 = A 7 := hB 7 (by decide) (by decide) (by decide) (by decide) (by decide)
  have e8 : B 8 = A 8 := hB 8 (by decide) (by decide) (by decide) (by decide) (by decide)
  have e9 : B 9 = A 9 := hB 9 (by decide) (by decide) (by decide) (by decide) (by decide)
  have e10 : B 10 = A 10 := hB 10 (by decide) (by decide) (by decide) (by decide) (by decide)
  have e12 : B 12 = A 12 := hB 12 (by decide) (by decide) (by decide) (by decide) (by decide)
  have e13 : B 13 = A 13 := hB 13 (by decide) (by decide) (by decide) (by decide) (by decide)
  have e14 : B 14 = A 14 := hB 14 (by decide) (by decide) (by decide) (by decide) (by decide)
  have e15 : B 15 = A 15 := hB 15 (by decide) (by decide) (by decide) (by decide) (by decide)
  have e16 : B 16 = A 16 := hB 16 (by decide) (by decide) (by decide) (by decide) (by decide)
  have e19 : B 19 = A 19 := hB 19 (by decide) (by decide) (by decide) (by decide) (by decide)
  have e20 : B 20 = A 20 := hB 20 (by decide) (by decide) (by decide) (by decide) (by decide)
  have e21 : B 21 = A 21 := hB 21 (by decide) (by decide) (by decide) (by decide) (by decide)
  have e22 : B 22 = A 22 := hB 22 (by decide) (by decide) (by decide) (by decide) (by decide)
  have e26 : B 26 = A 26 := hB 26 (by decide) (by decide) (by decide) (by decide) (by decide)
  have e27 : B 27 = A 27 := hB 27 (by decide) (by decide) (by decide) (by decide) (by decide)
  have e32 : B 32 = A 32 := hB 32 (by decide) (by decide) (by decide) (by decide) (by decide)
  have e33 : B 33 = A 33 := hB 33 (by decide) (by decide) (by decide) (by decide) (by decide)
  have e34 : B 34 = A 34 := hB 34 (by decide) (by decide) (by decide) (by decide) (by decide)
  have e35 : B 35 = A 35 := hB 35 (by decide) (by decide) (by decide) (by decide) (by decide)
  have e36 : B 36 = A 36 := hB 36 (by decide) (by decide) (by decide) (by decide) (by decide)
  have e37 : B 37 = A 37 := hB 37 (by decide) (by decide) (by decide) (by decide) (by decide)
  have e38 : B 38 = A 38 := hB 38 (by decide) (by decide) (by decide) (by decide) (by decide)
  have e39 : B 39 = A 39 := hB 39 (by decide) (by decide) (by decide) (by decide) (by decide)
  have e40 : B 40 = A 40 := hB 40 (by decide) (by decide) (by decide) (by decide) (by decide)
  have e41 : B 41 = A 41 := hB 41 (by decide) (by decide) (by decide) (by decide) (by decide)
  have e42 : B 42 = A 42 := hB 42 (by decide) (by decide) (by decide) (by decide) (by decide)
  have e43 : B 43 = A 43 := hB 43 (by decide) (by decide) (by decide) (by decide) (by decide)
  have e44 : B 44 = A 44 := hB 44 (by decide) (by decide) (by decide) (by decide) (by decide)
  have e45 : B 45 = A 45 := hB 45 (by decide) (by decide) (by decide) (by decide) (by decide)
  have e46 : B 46 = A 46 := hB 46 (by decide) (by decide) (by decide) (by decide) (by decide)
  have e47 : B 47 = A 47 := hB 47 (by decide) (by decide) (by decide) (by decide) (by decide)
  have e48 : B 48 = A 48 := hB 48 (by decide) (by decide) (by decide) (by decide) (by decide)
  have e49 : B 49 = A 49 := hB 49 (by decide) (by decide) (by decide) (by decide) (by decide)
  have e50 : B 50 = A 50 := hB 50 (by decide) (by decide) (by decide) (by decide) (by decide)
  have e51 : B 51 = A 51 := hB 51 (by decide) (by decide) (by decide) (by decide) (by decide)
  have hold : ∃ (Da La Ua Ca Ra : Nat → Int32), wk_at dy k (A 26 j) (A 27 j) Da La Ua Ca Ra (ns j) (pw_b (wk_fe Da La Ua (ns j))) (pw_b (wk_rg Da La Ua (ns j) (A 26 j) (A 27 j))) := by
    obtain ⟨k0, Da, La, Ua, Ca, Ra, a1, a2, -, -⟩ := h.hwk j hj
    rw [hgk] at a1
    have e : k = k0 := by have := Option.some.inj a1; omega
    rw [← e] at a2
    exact ⟨Da, La, Ua, Ca, Ra, a2⟩
  obtain ⟨Da, La, Ua, Ca, Ra, hold⟩ := hold
  have en : (fun i => if i = j then m else ns i) j = m := if_pos rfl
  exact ⟨
    h.hP,
    h.hPb,
    h.hPc,
    h.hY,
    h.hYb,
    h.hYc,
    h.hS,
    h.hSb,
    h.hSc,
    h.hT,
    h.hTb,
    h.hW,
    h.hWb,
    h.hWc,
    h.hK,
    h.hKb,
    h.hKc,
    h.hE,
    h.hEb,
    h.hU,
    h.hUb,
    h.hG,
    (by rw [e8, e36]; exact h.r8),
    (by rw [e9, e35]; exact h.r9),
    (by rw [e10, e37]; exact h.r10),
    (by rw [e12, e38]; exact h.r12),
    (by rw [e13, e39]; exact h.r13),
    (by rw [e14, e40]; exact h.r14),
    (by rw [e15, e41]; exact h.r15),
    (by rw [e16, e42]; exact h.r16),
    (by rw [e4, e33]; exact h.r4),
    (by rw [e5, e32]; exact h.r5),
    (by rw [e7, e34]; exact h.r7),
    (by rw [e19, e49]; exact h.r19),
    (by rw [e20, e50]; exact h.r20),
    (by rw [e22, e51]; exact h.r22),
    (fun i hi => by rw [e39]; exact h.b39 i hi),
    (fun i hi => by rw [e35]; exact h.b35 i hi),
    (fun i hi => by rw [e37]; exact h.b37 i hi),
    (fun i hi => by rw [e42]; exact h.b42 i hi),
    (fun i hi => by rw [e32]; exact h.b32 i hi),
    (fun i hi => by rw [e34]; exact h.b34 i hi),
    (fun i hi => by rw [e50]; exact h.b50 i hi),
    (fun i hi => by rw [e6]; exact h.b6 i hi),
    (fun i hi => by rw [e21]; exact h.b21 i hi),
    (fun i hi => by
      show md_par B i (if i = j then m else ns i)
      by_cases e : i = j
      · rw [if_pos e, e]
        have h1 := h.hpar j hj
        exact ⟨by rw [n28]; exact if_pos rfl, hw, by rw [e26]; exact h1.2.2.1, by rw [e27]; exact h1.2.2.2⟩
      · rw [if_neg e]
        have h1 := h.hpar i hi
        have h2 := h1.2.1.1
        exact md_par_p (by rw [e26]) (by rw [e27]) (by rw [n28]; exact if_neg e) (fun a ha => hoth i a e (by omega)) h1),
    (fun i hi => by
      by_cases e : i = j
      · subst e
        refine ⟨k, D, L, U, C, R, hgk, ?_, ?_, ?_⟩
        · rw [en, e26, e27]
          exact hat
        · rw [en, e26, e27]
          exact hres
        · intro a ha
          rw [en] at ha
          exact hag a ha
      · have h2 := (h.hpar i hi).2.1.1
        refine pa_ok_c (by rw [e26]) (by rw [e27]) (fun a ha => (hoth i a e (by omega)).1) (fun a ha => (hoth i a e (by omega)).2.1) (fun a ha => (hoth i a e (by omega)).2.2) rfl (if_neg e) (fun k2 _ _ _ _ _ _ _ _ _ _ hg2 hh => wk_at_fr hfr (wk_disj hold hh (fun ek => ?_)) hh) (h.hwk i hi)
        rw [← ek] at hg2
        exact e (h.hgi i j hi hj (hg2.trans hgk.symm))),
    h.hgn,
    h.hgi,
    (fun i h1 h2 => by rw [n28]; exact (if_neg (by omega)).trans (h.h28 i h1 h2)),
    (fun i hi => by
      obtain ⟨k2, a1, a2, a3⟩ := h.hhs i hi
      exact ⟨k2, a1, (hfr k2 (ho_disj hold a2)).trans a2, a3⟩),
    (fun j hj => md_hou_c (by rw [e43]) (by rw [e44]) (by rw [e45]) (by rw [e46]) (by rw [e47]) (by rw [e48]) (h.hhm j hj)),
    h.hgh,
    (by rw [hlen]; exact h.hdl),
    (wk_sz hfr hat h.hdz)⟩
theorem iv_house {B : Nat → Nat → Int32} {v : Nat → Nat} (hK6 : K < 6) (v1 : v 0 + v 2 ≤ 12) (v2 : v 1 + v 3 ≤ 12) (v3 : v 4 < 144) (v4 : v 5 < 144) (n43 : B 43 = upd (A 43) K (nI (v 0))) (n44 : B 44 = upd (A 44) K (nI (v 1))) (n45 : B 45 = upd (A 45) K (nI (v 2))) (n46 : B 46 = upd (A 46) K (nI (v 3))) (n47 : B 47 = upd (A 47) K (nI (v 4))) (n48 : B 48 = upd (A 48) K (nI (v 5))) (hB : ∀ k, k < 52 → k ≠ 43 → k ≠ 44 → k ≠ 45 → k ≠ 46 → k ≠ 47 → k ≠ 48 → B k = A k) (h : (bw_inv zc e3 e11 e18 zm A g gh dy P Y S W K ns vs)) : (bw_inv (upd zc 12 (nI (K + 1))) e3 e11 e18 (upd zm 23 (nI (K + 1))) B g (va_up gh K (some (57 + dy.length))) (dy ++ [.inr (.inr (0, [.inl (nI (v 0)), .inl (nI (v 1)), .inl (nI (v 2)), .inl (nI (v 3)), .inl (nI (v 4)), .inl (nI (v 5))]))]) P Y S W (K + 1) ns (fun j => if j = K then v else vs j)) := by
  have e4 : B 4 = A 4 := hB 4 (by decide) (by decide) (by decide) (by decide) (by decide) (by decide) (by decide)
  have e5 : B 5 = A 5 := hB 5 (by decide) (by decide) (by decide) (by decide) (by decide) (by decide) (by decide)
  have e6 : B 6 = A 6 := hB 6 (by decide) (by decide) (by decide) (by decide) (by decide) (by decide) (by decide)
  have e7 : B 7 = A 7 := hB 7 (by decide) (by decide) (by decide) (by decide) (by decide) (by decide) (by decide)
  have e8 : B 8 = A 8 := hB 8 (by decide) (by decide) (by decide) (by decide) (by decide) (by decide) (by decide)
  have e9 : B 9 = A 9 := hB 9 (by decide) (by decide) (by decide) (by decide) (by decide) (by decide) (by decide)
  have e10 : B 10 = A 10 := hB 10 (by decide) (by decide) (by decide) (by decide) (by decide) (by decide) (by decide)
  have e12 : B 12 = A 12 := hB 12 (by decide) (by decide) (by decide) (by decide) (by decide) (by decide) (by decide)
  have e13 : B 13 = A 13 := hB 13 (by decide) (by decide) (by decide) (by decide) (by decide) (by decide) (by decide)
  have e14 : B 14 = A 14 := hB 14 (by decide) (by decide) (by decide) (by decide) (by decide) (by decide) (by decide)
  have e15 : B 15 = A 15 := hB 15 (by decide) (by decide) (by decide) (by decide) (by decide) (by decide) (by decide)
  have e16 : B 16 = A 16 := hB 16 (by decide) (by decide) (by decide) (by decide) (by decide) (by decide) (by decide)
  have e19 : B 19 = A 19 := hB 19 (by decide) (by decide) (by decide) (by decide) (by decide) (by decide) (by decide)
  have e20 : B 20 = A 20 := hB 20 (by decide) (by decide) (by decide) (by decide) (by decide) (by decide) (by decide)
  have e21 : B 21 = A 21 := hB 21 (by decide) (by decide) (by decide) (by decide) (by decide) (by decide) (by decide)
  have e22 : B 22 = A 22 := hB 22 (by decide) (by decide) (by decide) (by decide) (by decide) (by decide) (by decide)
  have e26 : B 26 = A 26 := hB 26 (by decide) (by decide) (by decide) (by decide) (by decide) (by decide) (by decide)
  have e27 : B 27 = A 27 := hB 27 (by decide) (by decide) (by decide) (by decide) (by decide) (by decide) (by decide)
  have e28 : B 28 = A 28 := hB 28 (by decide) (by decide) (by decide) (by decide) (by decide) (by decide) (by decide)
  have e29 : B 29 = A 29 := hB 29 (by decide) (by decide) (by decide) (by decide) (by decide) (by decide) (by decide)
  have e30 : B 30 = A 30 := hB 30 (by decide) (by decide) (by decide) (by decide) (by decide) (by decide) (by decide)
  have e31 : B 31 = A 31 := hB 31 (by decide) (by decide) (by decide) (by decide) (by decide) (by decide) (by decide)
  have e32 : B 32 = A 32 := hB 32 (by decide) (by decide) (by decide) (by decide) (by decide) (by decide) (by decide)
  have e33 : B 33 = A 33 := hB 33 (by decide) (by decide) (by decide) (by decide) (by decide) (by decide) (by decide)
  have e34 : B 34 = A 34 := hB 34 (by decide) (by decide) (by decide) (by decide) (by decide) (by decide) (by decide)
  have e35 : B 35 = A 35 := hB 35 (by decide) (by decide) (by decide) (by decide) (by decide) (by decide) (by decide)
  have e36 : B 36 = A 36 := hB 36 (by decide) (by decide) (by decide) (by decide) (by decide) (by decide) (by decide)
  have e37 : B 37 = A 37 := hB 37 (by decide) (by decide) (by decide) (by decide) (by decide) (by decide) (by decide)
  have e38 : B 38 = A 38 := hB 38 (by decide) (by decide) (by decide) (by decide) (by decide) (by decide) (by decide)
  have e39 : B 39 = A 39 := hB 39 (by decide) (by decide) (by decide) (by decide) (by decide) (by decide) (by decide)
  have e40 : B 40 = A 40 := hB 40 (by decide) (by decide) (by decide) (by decide) (by decide) (by decide) (by decide)
  have e41 : B 41 = A 41 := hB 41 (by decide) (by decide) (by decide) (by decide) (by decide) (by decide) (by decide)
  have e42 : B 42 = A 42 := hB 42 (by decide) (by decide) (by decide) (by decide) (by decide) (by decide) (by decide)
  have e49 : B 49 = A 49 := hB 49 (by decide) (by decide) (by decide) (by decide) (by decide) (by decide) (by decide)
  have e50 : B 50 = A 50 := hB 50 (by decide) (by decide) (by decide) (by decide) (by decide) (by decide) (by decide)
  have e51 : B 51 = A 51 := hB 51 (by decide) (by decide) (by decide) (by decide) (by decide) (by decide) (by decide)
  have ev : (fun j => if j = K then v else vs j) K = v := if_pos rfl
  have evn : ∀ j, j ≠ K → (fun j => if j = K then v else vs j) j = vs j := fun j hj => if_neg hj
  exact ⟨
    h.hP,
    h.hPb,
    h.hPc,
    h.hY,
    h.hYb,
    h.hYc,
    h.hS,
    h.hSb,
    h.hSc,
    h.hT,
    h.hTb,
    h.hW,
    h.hWb,
    h.hWc,
    rfl,
    (by omega),
    rfl,
    h.hE,
    h.hEb,
    h.hU,
    h.hUb,
    h.hG,
    (by rw [e8, e36]; exact h.r8),
    (by rw [e9, e35]; exact h.r9),
    (by rw [e10, e37]; exact h.r10),
    (by rw [e12, e38]; exact h.r12),
    (by rw [e13, e39]; exact h.r13),
    (by rw [e14, e40]; exact h.r14),
    (by rw [e15, e41]; exact h.r15),
    (by rw [e16, e42]; exact h.r16),
    (by rw [e4, e33]; exact h.r4),
    (by rw [e5, e32]; exact h.r5),
    (by rw [e7, e34]; exact h.r7),
    (by rw [e19, e49]; exact h.r19),
    (by rw [e20, e50]; exact h.r20),
    (by rw [e22, e51]; exact h.r22),
    (fun i hi => by rw [e39]; exact h.b39 i hi),
    (fun i hi => by rw [e35]; exact h.b35 i hi),
    (fun i hi => by rw [e37]; exact h.b37 i hi),
    (fun i hi => by rw [e42]; exact h.b42 i hi),
    (fun i hi => by rw [e32]; exact h.b32 i hi),
    (fun i hi => by rw [e34]; exact h.b34 i hi),
    (fun i hi => by rw [e50]; exact h.b50 i hi),
    (fun i hi => by rw [e6]; exact h.b6 i hi),
    (fun i hi => by rw [e21]; exact h.b21 i hi),
    (fun j hj => md_par_c (by rw [e26]) (by rw [e27]) (by rw [e28]) e29 e30 e31 (h.hpar j hj)),
    (fun j hj => pa_ok_c (by rw [e26]) (by rw [e27]) (fun i _ => by rw [e29]) (fun i _ => by rw [e30]) (fun i _ => by rw [e31]) rfl rfl (fun _ _ _ _ _ _ _ _ _ _ _ _ hh => wk_at_app hh) (h.hwk j hj)),
    h.hgn,
    h.hgi,
    (fun j h1 h2 => by rw [e28]; exact h.h28 j h1 h2),
    (fun j hj => by
      by_cases e : j = K
      · subst e
        refine ⟨dy.length, if_pos rfl, ?_, ?_⟩
        · rw [ev]
          exact wg0b rfl rfl
        · rw [ev]
          exact ⟨v1, v2, v3, v4⟩
      · obtain ⟨k, a1, a2, a3⟩ := h.hhs j (by omega)
        refine ⟨k, (if_neg e).trans a1, ?_, ?_⟩
        · rw [evn j e]
          exact ge_app a2
        · rw [evn j e]
          exact a3),
    (fun j hj => by
      show md_hou B j (if j = K then v else vs j)
      by_cases e : j = K
      · rw [if_pos e, e]
        exact ⟨by rw [n43]; exact if_pos rfl, by rw [n44]; exact if_pos rfl, by rw [n45]; exact if_pos rfl, by rw [n46]; exact if_pos rfl, by rw [n47]; exact if_pos rfl, by rw [n48]; exact if_pos rfl, v1, v2, v3, v4⟩
      · rw [if_neg e]
        exact md_hou_c (by rw [n43]; exact if_neg e) (by rw [n44]; exact if_neg e) (by rw [n45]; exact if_neg e) (by rw [n46]; exact if_neg e) (by rw [n47]; exact if_neg e) (by rw [n48]; exact if_neg e) (h.hhm j (by omega))),
    (fun j h1 h2 => (if_neg (by omega)).trans (h.hgh j (by omega) h2)),
    (by
      have h1 := h.hdl
      rw [List.length_append]
      show dy.length + 1 ≤ _
      omega),
    (fun c hc => by
      rcases List.mem_append.mp hc with hc | hc
      · exact h.hdz c hc
      · rw [List.mem_singleton] at hc
        subst hc
        exact (by decide : 6 ≤ 12))⟩
end IV2
