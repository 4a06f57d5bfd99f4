def bw_st (N : Nat) (xs : Nat → Int32) (h : pw_H) : Prop := ∃ (zc : Nat → Int32) (e3 e11 e18 : Nat) (zm : Nat → Int32) (A : Nat → Nat → Int32) (g gh : Nat → Option Nat) (dy : pw_H) (P Y S W K : Nat) (ns : Nat → Nat) (vs : Nat → Nat → Nat), h = hp_h N xs zc e3 e11 e18 zm A g gh dy ∧ bw_inv zc e3 e11 e18 zm A g gh dy P Y S W K ns vs
/-- the class has answered r; the model answers the same, and both stand alike again -/
def op_q (N : Nat) (xs : Nat → Int32) (Mm : Nat) (as : List pw_V) : Int32 → pw_H → Prop := fun r h1 => h1[0]? = some (.inl (2, N, xs)) ∧ (∃ fs, h1[25]? = some (.inr (.inr (4, fs)))) ∧ pw_M 7 Mm (.inr (some 25) :: as) h1 (pw_qi (fun r2 h2 => r2 = r ∧ bw_st N xs h2))
section OP
variable {N : Nat} {xs : Nat → Int32} {Mc Mm : Nat} {as : List pw_V}
theorem op_of {h : pw_H} {Qc : Int32 → pw_H → Prop} (hc : pw_M 7 Mc (.inr (some 1) :: as) h (pw_qi Qc)) (hk : ∀ r h1, Qc r h1 → h1[0]? = some (.inl (2, N, xs)) ∧ (∃ fs, h1[25]? = some (.inr (.inr (4, fs)))) ∧ ∃ Qm : Int32 → pw_H → Prop, pw_M 7 Mm (.inr (some 25) :: as) h1 (pw_qi Qm) ∧ ∀ r2 h2, Qm r2 h2 → r2 = r ∧ bw_st N xs h2) : pw_M 7 Mc (.inr (some 1) :: as) h (pw_qi (op_q N xs Mm as)) := by
  refine pr_post hc (fun r h1 hq => ?_)
  obtain ⟨x, e, hq⟩ := hq
  obtain ⟨k1, k2, Qm, k3, k4⟩ := hk x h1 hq
  refine ⟨x, e, k1, k2, pr_post k3 (fun r2 h2 hq2 => ?_)⟩
  obtain ⟨x2, e2, hq2⟩ := hq2
  exact ⟨x2, e2, k4 x2 h2 hq2⟩
theorem bw_mk {zc : Nat → Int32} {e3 e11 e18 : Nat} {zm : Nat → Int32} {A : Nat → Nat → Int32} {g gh : Nat → Option Nat} {dy : pw_H} {P Y S W K : Nat} {ns : Nat → Nat} {vs : Nat → Nat → Nat} (h : bw_inv zc e3 e11 e18 zm A g gh dy P Y S W K ns vs) : bw_st N xs (hp_h N xs zc e3 e11 e18 zm A g gh dy) := ⟨_, _, _, _, _, _, _, _, _, _, _, _, _, _, _, _, rfl, h⟩
theorem op_years {h : pw_H} (hs : bw_st N xs h) (n : Int32) : pw_M 7 33 [.inr (some 1), .inl n] h (pw_qi (op_q N xs 91 [.inl n])) := by
  obtain ⟨zc, e3, e11, e18, zm, A, g, gh, dy, P, Y, S, W, K, ns, vs, rfl, hi⟩ := hs
  refine op_of (c_33 5 Y hi.hYc hi.hYb n) (fun r h1 hq => ?_)
  have ey : zc 3 = zm 11 := hi.hYc.trans hi.hY.symm
  have z1 := pz_1
  rcases hq with ⟨hc, rfl, rfl⟩ | ⟨hc, hc2, rfl, rfl⟩
  · refine ⟨rfl, ⟨_, rfl⟩, _, c_91 5 Y hi.hY hi.hYb n, fun r2 h2 hq2 => ?_⟩
    rcases hq2 with ⟨hd, rfl, rfl⟩ | ⟨hd, hd2, rfl, rfl⟩
    · exact ⟨rfl, bw_mk hi⟩
    · exact absurd hc (by omega)
  · refine ⟨rfl, ⟨_, rfl⟩, _, c_91 5 Y hi.hY hi.hYb n, fun r2 h2 hq2 => ?_⟩
    rcases hq2 with ⟨hd, rfl, rfl⟩ | ⟨hd, hd2, rfl, rfl⟩
    · exact absurd hd (by omega)
    · obtain ⟨Y2, hi2⟩ := iv_years (n := n) (by omega) hc2 hi
      exact ⟨by rw [ey], bw_mk hi2⟩
theorem op_gap {h : pw_H} (hs : bw_st N xs h) (v : Int32) : pw_M 7 44 [.inr (some 1), .inl v] h (pw_qi (op_q N xs 109 [.inl v])) := by
  obtain ⟨zc, e3, e11, e18, zm, A, g, gh, dy, P, Y, S, W, K, ns, vs, rfl, hi⟩ := hs
  refine op_of (c_44 5 v) (fun r h1 hq => ?_)
  rcases hq with ⟨hc, rfl, rfl⟩ | ⟨hc, rfl, rfl⟩
  · refine ⟨rfl, ⟨_, rfl⟩, _, c_109 5 v, fun r2 h2 hq2 => ?_⟩
    rcases hq2 with ⟨hd, rfl, rfl⟩ | ⟨hd, rfl, rfl⟩
    · exact ⟨rfl, bw_mk hi⟩
    · exact absurd hd hc
  · refine ⟨rfl, ⟨_, rfl⟩, _, c_109 5 v, fun r2 h2 hq2 => ?_⟩
    rcases hq2 with ⟨hd, rfl, rfl⟩ | ⟨hd, rfl, rfl⟩
    · exact absurd hc hd
    · exact ⟨hi.hG.symm, bw_mk (iv_gap hi)⟩
theorem op_count {h : pw_H} (hs : bw_st N xs h) (x : Int32) : pw_M 7 47 [.inr (some 1), .inl x] h (pw_qi (op_q N xs 113 [.inl x])) := by
  obtain ⟨zc, e3, e11, e18, zm, A, g, gh, dy, P, Y, S, W, K, ns, vs, rfl, hi⟩ := hs
  refine op_of (c_47 6 x) (fun r h1 hq => ?_)
  obtain ⟨rfl, rfl⟩ := hq
  refine ⟨rfl, ⟨_, rfl⟩, _, c_113 7 x, fun r2 h2 hq2 => ?_⟩
  obtain ⟨rfl, rfl⟩ := hq2
  refine ⟨?_, bw_mk hi⟩
  unfold ct_of
  dsimp only
  rw [hi.hP, hi.hPc, hi.hY, hi.hYc, hi.hS, hi.hSc, hi.hT, hi.hW, hi.hWc, hi.hK, hi.hKc, hi.hE, hi.hU]
  rfl
theorem op_witness {h : pw_H} (hs : bw_st N xs h) (y : Int32) : pw_M 7 38 [.inr (some 1), .inl y] h (pw_qi (op_q N xs 100 [.inl y])) := by
  obtain ⟨zc, e3, e11, e18, zm, A, g, gh, dy, P, Y, S, W, K, ns, vs, rfl, hi⟩ := hs
  refine op_of (c_38 5 W hi.hWc hi.hWb y) (fun r h1 hq => ?_)
  have ey : zc 3 = zm 11 := hi.hYc.trans hi.hY.symm
  have yT : (zm 11).toInt = (Y : Int) := by rw [hi.hY]; exact pw_T (by have := hi.hYb; omega)
  have yb := hi.hYb
  have z0 := pz_0
  have z300 := pz_300
  rcases hq with ⟨hc, rfl, rfl⟩ | ⟨hc, hf, rfl, rfl⟩ | ⟨hc, hf, rfl, rfl⟩
  · refine ⟨rfl, ⟨_, rfl⟩, _, c_100 5 W hi.hW hi.hWb y, fun r2 h2 hq2 => ?_⟩
    rcases hq2 with ⟨hd, rfl, rfl⟩ | ⟨hd, hg, rfl, rfl⟩ | ⟨hd, hg, rfl, rfl⟩
    · exact ⟨rfl, bw_mk hi⟩
    · exact absurd hc hd
    · exact absurd hc hd
  · refine ⟨rfl, ⟨_, rfl⟩, _, c_100 5 W hi.hW hi.hWb y, fun r2 h2 hq2 => ?_⟩
    rcases hq2 with ⟨hd, rfl, rfl⟩ | ⟨hd, hg, rfl, rfl⟩ | ⟨hd, hg, rfl, rfl⟩
    · exact absurd hd hc
    · exact ⟨rfl, bw_mk hi⟩
    · exact absurd hf hg
  · refine ⟨rfl, ⟨_, rfl⟩, _, c_100 5 W hi.hW hi.hWb y, fun r2 h2 hq2 => ?_⟩
    rcases hq2 with ⟨hd, rfl, rfl⟩ | ⟨hd, hg, rfl, rfl⟩ | ⟨hd, hg, rfl, rfl⟩
    · exact absurd hd hc
    · exact absurd hg hf
    · refine ⟨rfl, bw_mk (iv_witness (by omega) (by have := hi.hWb; omega) rfl rfl (fun k _ q0 q1 => by simp only [uA, if_neg q0, if_neg q1]) hi)⟩
theorem op_stone {h : pw_H} (hs : bw_st N xs h) (x y : Int32) : pw_M 7 34 [.inr (some 1), .inl x, .inl y] h (pw_qi (op_q N xs 93 [.inl x, .inl y])) := by
  obtain ⟨zc, e3, e11, e18, zm, A, g, gh, dy, P, Y, S, W, K, ns, vs, rfl, hi⟩ := hs
  refine op_of (c_34 5 S hi.hSc hi.hSb x y) (fun r h1 hq => ?_)
  have ey : zc 3 = zm 11 := hi.hYc.trans hi.hY.symm
  have yT : (zm 11).toInt = (Y : Int) := by rw [hi.hY]; exact pw_T (by have := hi.hYb; omega)
  have yb := hi.hYb
  have z0 := pz_0
  have z300 := pz_300
  rcases hq with ⟨hc, rfl, rfl⟩ | ⟨hc, hf, rfl, rfl⟩ | ⟨hc, hf, rfl, rfl⟩
  · refine ⟨rfl, ⟨_, rfl⟩, _, c_93 5 S hi.hS hi.hSb x y, fun r2 h2 hq2 => ?_⟩
    rcases hq2 with ⟨hd, rfl, rfl⟩ | ⟨hd, hg, rfl, rfl⟩ | ⟨hd, hg, rfl, rfl⟩
    · exact ⟨rfl, bw_mk hi⟩
    · exact absurd hc hd
    · exact absurd hc hd
  · refine ⟨rfl, ⟨_, rfl⟩, _, c_93 5 S hi.hS hi.hSb x y, fun r2 h2 hq2 => ?_⟩
    rcases hq2 with ⟨hd, rfl, rfl⟩ | ⟨hd, hg, rfl, rfl⟩ | ⟨hd, hg, rfl, rfl⟩
    · exact absurd hd hc
    · exact ⟨rfl, bw_mk hi⟩
    · exact absurd hf hg
  · refine ⟨rfl, ⟨_, rfl⟩, _, c_93 5 S hi.hS hi.hSb x y, fun r2 h2 hq2 => ?_⟩
    rcases hq2 with ⟨hd, rfl, rfl⟩ | ⟨hd, hg, rfl, rfl⟩ | ⟨hd, hg, rfl, rfl⟩
    · exact absurd hd hc
    · exact absurd hg hf
    · refine ⟨rfl, bw_mk (iv_stone (y := zm 11) hi.hY (by have := hi.hSb; omega) rfl (by rw [← ey]; rfl) (by rw [← ey]; rfl) rfl rfl rfl (fun k _ q0 q1 q2 q3 q4 q5 => by simp only [uA, if_neg q0, if_neg q1, if_neg q2, if_neg q3, if_neg q4, if_neg q5]) hi)⟩
theorem op_law {h : pw_H} (hs : bw_st N xs h) (u y b : Int32) : pw_M 7 41 [.inr (some 1), .inl u, .inl y, .inl b] h (pw_qi (op_q N xs 103 [.inl u, .inl y, .inl b])) := by
  obtain ⟨zc, e3, e11, e18, zm, A, g, gh, dy, P, Y, S, W, K, ns, vs, rfl, hi⟩ := hs
  refine op_of (c_41 5 hi.hUb u y b) (fun r h1 hq => ?_)
  have ey : zc 3 = zm 11 := hi.hYc.trans hi.hY.symm
  have yT : (zm 11).toInt = (Y : Int) := by rw [hi.hY]; exact pw_T (by have := hi.hYb; omega)
  have yb := hi.hYb
  have z0 := pz_0
  have z300 := pz_300
  rcases hq with ⟨hc, rfl, rfl⟩ | ⟨hc, hf, rfl, rfl⟩ | ⟨hc, hf, rfl, rfl⟩
  · refine ⟨rfl, ⟨_, rfl⟩, _, c_103 5 e18 hi.hU hi.hUb u y b, fun r2 h2 hq2 => ?_⟩
    rcases hq2 with ⟨hd, rfl, rfl⟩ | ⟨hd, hg, rfl, rfl⟩ | ⟨hd, hg, rfl, rfl⟩
    · exact ⟨rfl, bw_mk hi⟩
    · exact absurd hc hd
    · exact absurd hc hd
  · refine ⟨rfl, ⟨_, rfl⟩, _, c_103 5 e18 hi.hU hi.hUb u y b, fun r2 h2 hq2 => ?_⟩
    rcases hq2 with ⟨hd, rfl, rfl⟩ | ⟨hd, hg, rfl, rfl⟩ | ⟨hd, hg, rfl, rfl⟩
    · exact absurd hd hc
    · exact ⟨rfl, bw_mk hi⟩
    · exact absurd hf hg
  · refine ⟨rfl, ⟨_, rfl⟩, _, c_103 5 e18 hi.hU hi.hUb u y b, fun r2 h2 hq2 => ?_⟩
    rcases hq2 with ⟨hd, rfl, rfl⟩ | ⟨hd, hg, rfl, rfl⟩ | ⟨hd, hg, rfl, rfl⟩
    · exact absurd hd hc
    · exact absurd hg hf
    · refine ⟨rfl, bw_mk (iv_law (t := zc 3) (by omega) (by rw [ey]; omega) (by have := hi.hUb; omega) rfl rfl rfl rfl rfl rfl rfl (fun k _ q0 q1 q2 q3 q4 q5 q6 => by simp only [uA, if_neg q0, if_neg q1, if_neg q2, if_neg q3, if_neg q4, if_neg q5, if_neg q6]) hi)⟩
theorem op_agree {h : pw_H} (hs : bw_st N xs h) (one two y x z to : Int32) : pw_M 7 30 [.inr (some 1), .inl one, .inl two, .inl y, .inl x, .inl z, .inl to] h (pw_qi (op_q N xs 86 [.inl one, .inl two, .inl y, .inl x, .inl z, .inl to])) := by
  obtain ⟨zc, e3, e11, e18, zm, A, g, gh, dy, P, Y, S, W, K, ns, vs, rfl, hi⟩ := hs
  refine op_of (c_30 5 P hi.hPc hi.hPb hi.hEb one two y x z to) (fun r h1 hq => ?_)
  have ey : zc 3 = zm 11 := hi.hYc.trans hi.hY.symm
  have yT : (zm 11).toInt = (Y : Int) := by rw [hi.hY]; exact pw_T (by have := hi.hYb; omega)
  have yb := hi.hYb
  have z0 := pz_0
  have z300 := pz_300
  have ez : zc 1 = zm 0 := hi.hPc.trans hi.hP.symm
  have pT : (zm 0 - 1).toInt = (P : Int) - 1 := by rw [hi.hP]; exact pw_pred (by have := hi.hPb; omega)
  have pb := hi.hPb
  rw [ez] at hq
  rcases hq with ⟨hc, rfl, rfl⟩ | ⟨hc, hf, rfl, rfl⟩ | ⟨hc, hf, rfl, rfl⟩
  · refine ⟨rfl, ⟨_, rfl⟩, _, c_86 5 P hi.hP hi.hPb e3 hi.hE hi.hEb one two y x z to, fun r2 h2 hq2 => ?_⟩
    rcases hq2 with ⟨hd, rfl, rfl⟩ | ⟨hd, hg, rfl, rfl⟩ | ⟨hd, hg, rfl, rfl⟩
    · exact ⟨rfl, bw_mk hi⟩
    · exact absurd hc hd
    · exact absurd hc hd
  · refine ⟨rfl, ⟨_, rfl⟩, _, c_86 5 P hi.hP hi.hPb e3 hi.hE hi.hEb one two y x z to, fun r2 h2 hq2 => ?_⟩
    rcases hq2 with ⟨hd, rfl, rfl⟩ | ⟨hd, hg, rfl, rfl⟩ | ⟨hd, hg, rfl, rfl⟩
    · exact absurd hd hc
    · exact ⟨rfl, bw_mk hi⟩
    · exact absurd hf hg
  · refine ⟨rfl, ⟨_, rfl⟩, _, c_86 5 P hi.hP hi.hPb e3 hi.hE hi.hEb one two y x z to, fun r2 h2 hq2 => ?_⟩
    rcases hq2 with ⟨hd, rfl, rfl⟩ | ⟨hd, hg, rfl, rfl⟩ | ⟨hd, hg, rfl, rfl⟩
    · exact absurd hd hc
    · exact absurd hg hf
    · refine ⟨rfl, bw_mk (iv_agree (t := zc 3) (by omega) (by rw [ey]; omega) (by
        obtain ⟨p, e1, e2, -⟩ := pw_nat (x := to) (by omega)
        exact ⟨p, by omega, e1⟩) (by have := hi.hEb; omega) rfl rfl rfl rfl rfl rfl rfl (fun k _ q0 q1 q2 q3 q4 q5 q6 => by simp only [uA, if_neg q0, if_neg q1, if_neg q2, if_neg q3, if_neg q4, if_neg q5, if_neg q6]) hi)⟩
end OP
