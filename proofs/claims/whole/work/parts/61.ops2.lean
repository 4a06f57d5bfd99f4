theorem nI_ij {i j : Nat} (h1 : i < 2147483648) (h2 : j < 2147483648) (h : nI i = nI j) : i = j := by
  have e := congrArg Int32.toInt h
  rw [pw_T h1, pw_T h2] at e
  omega
section OP1
variable {zc : Nat → Int32} {e3 e11 e18 : Nat} {zm : Nat → Int32} {A : Nat → Nat → Int32} {g gh : Nat → Option Nat} {dy : pw_H} {P Y S W K : Nat} {ns : Nat → Nat} {vs : Nat → Nat → Nat}
theorem wc_wh (hi : (bw_inv zc e3 e11 e18 zm A g gh dy P Y S W K ns vs)) (j : Nat) (y k : Int32) : wc_of A e11 j y k = wh_of A e11 j y k := by
  unfold wc_of wh_of
  rw [hi.r9, hi.r8, hi.r12, hi.r13, hi.r14, hi.r15]
theorem lt_wh (hi : (bw_inv zc e3 e11 e18 zm A g gh dy P Y S W K ns vs)) {j : Nat} (hj : j < S) : lt_of A e11 j (zm 11) = wh_of A e11 j (zm 11) (zm 11) := by
  have h1 := hi.b35 j hj
  have yT : (zm 11).toInt = (Y : Int) := by rw [hi.hY]; exact pw_T (by have := hi.hYb; omega)
  unfold lt_of wh_of
  rw [if_neg (by omega), hi.r8, hi.r12, hi.r13, hi.r14, hi.r15]
theorem dc_du (hi : (bw_inv zc e3 e11 e18 zm A g gh dy P Y S W K ns vs)) : ∀ i, i ≤ S → dc_run A e11 (zm 11) (zm 34) i = du_run A e11 (zm 11) (zm 34) i
  | 0, _ => rfl
  | i + 1, h => by rw [dc_run, du_run, dc_du hi i (by omega), lt_wh hi (by omega), hi.r10]
end OP1
section OP
variable {N : Nat} {xs : Nat → Int32}
theorem op_moved {h : pw_H} (hs : bw_st N xs h) (s y x z : Int32) : pw_M 7 35 [.inr (some 1), .inl s, .inl y, .inl x, .inl z] h (pw_qi (op_q N xs 96 [.inl s, .inl y, .inl x, .inl z])) := by
  obtain ⟨zc, e3, e11, e18, zm, A, g, gh, dy, P, Y, S, W, K, ns, vs, rfl, hi⟩ := hs
  refine op_of (c_35 4 Y hi.hYc hi.hYb S hi.hSc hi.hSb hi.hTb s y x z) (fun r h1 hq => ?_)
  have ey : zc 3 = zm 11 := hi.hYc.trans hi.hY.symm
  have yT : (zm 11).toInt = (Y : Int) := by rw [hi.hY]; exact pw_T (by have := hi.hYb; omega)
  have yb := hi.hYb
  have z0 := pz_0
  have z300 := pz_300
  rw [ey, hi.r9] at hq
  rcases hq with ⟨hc, rfl, rfl⟩ | ⟨hc, hf, rfl, rfl⟩ | ⟨hc, hf, rfl, rfl⟩
  · refine ⟨rfl, ⟨_, rfl⟩, _, c_96 4 Y hi.hY hi.hYb S hi.hS hi.hSb e11 hi.hT hi.hTb s y x z, fun r2 h2 hq2 => ?_⟩
    rcases hq2 with ⟨hd, rfl, rfl⟩ | ⟨hd, hg, rfl, rfl⟩ | ⟨hd, hg, rfl, rfl⟩
    · exact ⟨rfl, bw_mk hi⟩
    · exact absurd hd hc
    · exact absurd hd hc
  · refine ⟨rfl, ⟨_, rfl⟩, _, c_96 4 Y hi.hY hi.hYb S hi.hS hi.hSb e11 hi.hT hi.hTb s y x z, fun r2 h2 hq2 => ?_⟩
    rcases hq2 with ⟨hd, rfl, rfl⟩ | ⟨hd, hg, rfl, rfl⟩ | ⟨hd, hg, rfl, rfl⟩
    · exact absurd hc hd
    · exact ⟨rfl, bw_mk hi⟩
    · exact absurd hf hg
  · refine ⟨rfl, ⟨_, rfl⟩, _, c_96 4 Y hi.hY hi.hYb S hi.hS hi.hSb e11 hi.hT hi.hTb s y x z, fun r2 h2 hq2 => ?_⟩
    rcases hq2 with ⟨hd, rfl, rfl⟩ | ⟨hd, hg, rfl, rfl⟩ | ⟨hd, hg, rfl, rfl⟩
    · exact absurd hc hd
    · exact absurd hg hf
    · refine ⟨rfl, bw_mk (iv_tell (t := zm 11) ?_ (by have := hi.hTb; omega) rfl rfl rfl rfl rfl rfl rfl rfl (fun k _ q0 q1 q2 q3 q4 q5 q6 q7 => by simp only [uA, if_neg q0, if_neg q1, if_neg q2, if_neg q3, if_neg q4, if_neg q5, if_neg q6, if_neg q7]) hi)⟩
      obtain ⟨j, j1, j2, j3⟩ := hc.1
      have j4 := hi.b35 j j1
      omega
theorem op_lost {h : pw_H} (hs : bw_st N xs h) (s y : Int32) : pw_M 7 36 [.inr (some 1), .inl s, .inl y] h (pw_qi (op_q N xs 97 [.inl s, .inl y])) := by
  obtain ⟨zc, e3, e11, e18, zm, A, g, gh, dy, P, Y, S, W, K, ns, vs, rfl, hi⟩ := hs
  refine op_of (c_36 4 Y hi.hYc hi.hYb S hi.hSc hi.hSb hi.hTb s y) (fun r h1 hq => ?_)
  have ey : zc 3 = zm 11 := hi.hYc.trans hi.hY.symm
  have yT : (zm 11).toInt = (Y : Int) := by rw [hi.hY]; exact pw_T (by have := hi.hYb; omega)
  have yb := hi.hYb
  have z0 := pz_0
  have z300 := pz_300
  rw [ey, hi.r9] at hq
  rcases hq with ⟨hc, rfl, rfl⟩ | ⟨hc, hf, rfl, rfl⟩ | ⟨hc, hf, rfl, rfl⟩
  · refine ⟨rfl, ⟨_, rfl⟩, _, c_97 4 Y hi.hY hi.hYb S hi.hS hi.hSb e11 hi.hT hi.hTb s y, fun r2 h2 hq2 => ?_⟩
    rcases hq2 with ⟨hd, rfl, rfl⟩ | ⟨hd, hg, rfl, rfl⟩ | ⟨hd, hg, rfl, rfl⟩
    · exact ⟨rfl, bw_mk hi⟩
    · exact absurd hd hc
    · exact absurd hd hc
  · refine ⟨rfl, ⟨_, rfl⟩, _, c_97 4 Y hi.hY hi.hYb S hi.hS hi.hSb e11 hi.hT hi.hTb s y, fun r2 h2 hq2 => ?_⟩
    rcases hq2 with ⟨hd, rfl, rfl⟩ | ⟨hd, hg, rfl, rfl⟩ | ⟨hd, hg, rfl, rfl⟩
    · exact absurd hc hd
    · exact ⟨rfl, bw_mk hi⟩
    · exact absurd hf hg
  · refine ⟨rfl, ⟨_, rfl⟩, _, c_97 4 Y hi.hY hi.hYb S hi.hS hi.hSb e11 hi.hT hi.hTb s y, fun r2 h2 hq2 => ?_⟩
    rcases hq2 with ⟨hd, rfl, rfl⟩ | ⟨hd, hg, rfl, rfl⟩ | ⟨hd, hg, rfl, rfl⟩
    · exact absurd hc hd
    · exact absurd hg hf
    · refine ⟨rfl, bw_mk (iv_tell (t := zm 11) ?_ (by have := hi.hTb; omega) rfl rfl rfl rfl rfl rfl rfl rfl (fun k _ q0 q1 q2 q3 q4 q5 q6 q7 => by simp only [uA, if_neg q0, if_neg q1, if_neg q2, if_neg q3, if_neg q4, if_neg q5, if_neg q6, if_neg q7]) hi)⟩
      obtain ⟨j, j1, j2, j3⟩ := hc
      have j4 := hi.b35 j j1
      omega
theorem op_where {h : pw_H} (hs : bw_st N xs h) (s y k : Int32) : pw_M 7 37 [.inr (some 1), .inl s, .inl y, .inl k] h (pw_qi (op_q N xs 99 [.inl s, .inl y, .inl k])) := by
  obtain ⟨zc, e3, e11, e18, zm, A, g, gh, dy, P, Y, S, W, K, ns, vs, rfl, hi⟩ := hs
  refine op_of (c_37 5 S hi.hSc hi.hSb hi.hTb s y k) (fun r h1 hq => ?_)
  have ez : zc 7 = zm 12 := hi.hSc.trans hi.hS.symm
  have sb := hi.hSb
  rw [ez] at hq
  obtain ⟨hq, rfl⟩ := hq
  refine ⟨rfl, ⟨_, rfl⟩, _, c_99 5 S hi.hS hi.hSb e11 hi.hT hi.hTb hi.b39 s y k, fun r2 h2 hq2 => ?_⟩
  obtain ⟨hq2, rfl⟩ := hq2
  have sT : (zm 12 - 1).toInt = (S : Int) - 1 := by rw [hi.hS]; exact pw_pred (by omega)
  have z0 := pz_0
  refine ⟨?_, bw_mk hi⟩
  rcases hq with ⟨hc, rfl⟩ | ⟨hc, j, j1, j2, rfl⟩
  · rcases hq2 with ⟨hd, rfl⟩ | ⟨hd, i, i1, i2, rfl⟩
    · rfl
    · exfalso
      have iT := pw_T (n := i) (by omega)
      rw [i2] at hc
      exact hc ⟨⟨by omega, by omega⟩, hd⟩
  · rcases hq2 with ⟨hd, rfl⟩ | ⟨hd, i, i1, i2, rfl⟩
    · exfalso
      have jT := pw_T (n := j) (by omega)
      rw [j2] at hd
      exact hd ⟨⟨by omega, by omega⟩, hc⟩
    · rw [j2] at i2
      rw [wc_wh hi, nI_ij (by omega) (by omega) i2]
theorem op_remember {h : pw_H} (hs : bw_st N xs h) (y k : Int32) : pw_M 7 39 [.inr (some 1), .inl y, .inl k] h (pw_qi (op_q N xs 101 [.inl y, .inl k])) := by
  obtain ⟨zc, e3, e11, e18, zm, A, g, gh, dy, P, Y, S, W, K, ns, vs, rfl, hi⟩ := hs
  refine op_of (c_39 5 W hi.hWc hi.hWb (by rw [hi.r16]; exact hi.b42) y k) (fun r h1 hq => ?_)
  rw [hi.r16] at hq
  rcases hq with ⟨hc, rfl, rfl⟩ | ⟨hc, rfl, rfl⟩
  · refine ⟨rfl, ⟨_, rfl⟩, _, c_101 5 W hi.hW hi.hWb hi.b42 y k, fun r2 h2 hq2 => ?_⟩
    rcases hq2 with ⟨hd, rfl, rfl⟩ | ⟨hd, rfl, rfl⟩
    · exact ⟨rfl, bw_mk hi⟩
    · exact absurd hd hc
  · refine ⟨rfl, ⟨_, rfl⟩, _, c_101 5 W hi.hW hi.hWb hi.b42 y k, fun r2 h2 hq2 => ?_⟩
    rcases hq2 with ⟨hd, rfl, rfl⟩ | ⟨hd, rfl, rfl⟩
    · exact absurd hc hd
    · exact ⟨rfl, bw_mk hi⟩
theorem op_see {h : pw_H} (hs : bw_st N xs h) (s : Int32) : pw_M 7 43 [.inr (some 1), .inl s] h (pw_qi (op_q N xs 108 [.inl s])) := by
  obtain ⟨zc, e3, e11, e18, zm, A, g, gh, dy, P, Y, S, W, K, ns, vs, rfl, hi⟩ := hs
  refine op_of (c_43 5 S hi.hSc hi.hSb hi.hTb s) (fun r h1 hq => ?_)
  have ey : zc 3 = zm 11 := hi.hYc.trans hi.hY.symm
  have yT : (zm 11).toInt = (Y : Int) := by rw [hi.hY]; exact pw_T (by have := hi.hYb; omega)
  have yb := hi.hYb
  have z0 := pz_0
  have z300 := pz_300
  have ez : zc 7 = zm 12 := hi.hSc.trans hi.hS.symm
  have sb := hi.hSb
  have sT : (zm 12 - 1).toInt = (S : Int) - 1 := by rw [hi.hS]; exact pw_pred (by omega)
  rw [ez, ey, hi.r10] at hq
  rcases hq with ⟨hc, rfl, rfl⟩ | ⟨j, j1, j2, hq⟩
  · refine ⟨rfl, ⟨_, rfl⟩, _, c_108 5 Y hi.hY hi.hYb S hi.hS hi.hSb e11 hi.hT hi.hTb hi.b39 s, fun r2 h2 hq2 => ?_⟩
    rcases hq2 with ⟨hd, rfl, rfl⟩ | ⟨i, i1, i2, hq2⟩
    · exact ⟨rfl, bw_mk hi⟩
    · exfalso
      have iT := pw_T (n := i) (by omega)
      rw [i2] at hc
      exact hc ⟨by omega, by omega⟩
  · have jT := pw_T (n := j) (by omega)
    rw [lt_wh hi j1] at hq
    rcases hq with ⟨hl, rfl, rfl⟩ | ⟨hl, rfl, rfl⟩
    · refine ⟨rfl, ⟨_, rfl⟩, _, c_108 5 Y hi.hY hi.hYb S hi.hS hi.hSb e11 hi.hT hi.hTb hi.b39 s, fun r2 h2 hq2 => ?_⟩
      rcases hq2 with ⟨hd, rfl, rfl⟩ | ⟨i, i1, i2, hq2⟩
      · exfalso
        rw [j2] at hd
        exact hd ⟨by omega, by omega⟩
      · rw [j2] at i2
        rw [← nI_ij (by omega) (by omega) i2] at hq2
        rcases hq2 with ⟨hm, rfl, rfl⟩ | ⟨hm, rfl, rfl⟩
        · exact ⟨rfl, bw_mk hi⟩
        · exact absurd hl hm
    · refine ⟨rfl, ⟨_, rfl⟩, _, c_108 (A := uA A 10 (upd (A 37) j (zm 11))) 5 Y hi.hY hi.hYb S hi.hS hi.hSb e11 hi.hT hi.hTb hi.b39 s, fun r2 h2 hq2 => ?_⟩
      rcases hq2 with ⟨hd, rfl, rfl⟩ | ⟨i, i1, i2, hq2⟩
      · exfalso
        rw [j2] at hd
        exact hd ⟨by omega, by omega⟩
      · rw [j2] at i2
        rw [← nI_ij (by omega) (by omega) i2] at hq2
        rcases hq2 with ⟨hm, rfl, rfl⟩ | ⟨hm, rfl, rfl⟩
        · exact absurd hm hl
        · refine ⟨rfl, bw_mk (iv_see (A := A) (y := zm 11) (j := j) hi.hY ?_ rfl (fun k _ q0 q1 => by simp only [uA, if_neg q0, if_neg q1]) hi)⟩
          rw [hi.r10]
          rfl
theorem op_due {h : pw_H} (hs : bw_st N xs h) : pw_M 7 45 [.inr (some 1)] h (pw_qi (op_q N xs 110 [])) := by
  obtain ⟨zc, e3, e11, e18, zm, A, g, gh, dy, P, Y, S, W, K, ns, vs, rfl, hi⟩ := hs
  refine op_of (c_45 5 S hi.hSc hi.hSb hi.hTb) (fun r h1 hq => ?_)
  have ey : zc 3 = zm 11 := hi.hYc.trans hi.hY.symm
  have yT : (zm 11).toInt = (Y : Int) := by rw [hi.hY]; exact pw_T (by have := hi.hYb; omega)
  have yb := hi.hYb
  have z0 := pz_0
  have z300 := pz_300
  obtain ⟨rfl, rfl⟩ := hq
  refine ⟨rfl, ⟨_, rfl⟩, _, c_110 5 S hi.hS hi.hSb e11 hi.hT hi.hTb hi.b39, fun r2 h2 hq2 => ?_⟩
  obtain ⟨rfl, rfl⟩ := hq2
  refine ⟨?_, bw_mk hi⟩
  rw [ey, hi.hG, dc_du hi S (Nat.le_refl S)]
section R24
variable {A : Nat → Nat → Int32} {T S m : Nat} {now yr gap : Int32} {f : Nat → Int32}
theorem la_24 {u : Nat → Int32} : ∀ i, la_run (uA (uA A 24 f) 56 u) T now yr i = la_run (uA A 56 u) T now yr i
  | 0 => rfl
  | i + 1 => by
    rw [la_run, la_run, la_24 i]
    rfl
theorem rn_in_24 : ∀ k u, rn_in (uA A 24 f) T now yr S k u = rn_in A T now yr S k u
  | 0, _ => rfl
  | k + 1, u => by
    rw [rn_in, rn_in, la_24 S]
    exact rn_in_24 k _
theorem rn_any_24 {u : Nat → Int32} : ∀ i, rn_any (uA A 24 f) T now gap u yr i = rn_any A T now gap u yr i
  | 0 => rfl
  | i + 1 => by
    rw [rn_any, rn_any, rn_any_24 i]
    rfl
theorem rn_run_24 : ∀ k y u, rn_run (uA A 24 f) T now gap S m k y u = rn_run A T now gap S m k y u
  | 0, _, _ => rfl
  | k + 1, y, u => by
    rw [rn_run, rn_run, rn_in_24, rn_any_24, rn_run_24 k]
end R24
theorem iv_24 {zc : Nat → Int32} {e3 e11 e18 : Nat} {zm : Nat → Int32} {A : Nat → Nat → Int32} {g gh : Nat → Option Nat} {dy : pw_H} {P Y S W K : Nat} {ns : Nat → Nat} {vs : Nat → Nat → Nat} {f : Nat → Int32} (h : (bw_inv zc e3 e11 e18 zm A g gh dy P Y S W K ns vs)) : (bw_inv zc e3 e11 e18 zm (uA A 24 f) g gh dy P Y S W K ns vs) := iv_A (fun k _ _ q => uA_ne q) h
theorem iv_23 {zc : Nat → Int32} {e3 e11 e18 : Nat} {zm : Nat → Int32} {A : Nat → Nat → Int32} {g gh : Nat → Option Nat} {dy : pw_H} {P Y S W K : Nat} {ns : Nat → Nat} {vs : Nat → Nat → Nat} {f : Nat → Int32} (h : (bw_inv zc e3 e11 e18 zm A g gh dy P Y S W K ns vs)) : (bw_inv zc e3 e11 e18 zm (uA A 23 f) g gh dy P Y S W K ns vs) := iv_A (fun k _ q _ => uA_ne q) h
theorem iv_5x {zc : Nat → Int32} {e3 e11 e18 : Nat} {zm : Nat → Int32} {A : Nat → Nat → Int32} {g gh : Nat → Option Nat} {dy : pw_H} {P Y S W K : Nat} {ns : Nat → Nat} {vs : Nat → Nat → Nat} {j : Nat} {f : Nat → Int32} (hj : 52 ≤ j) (h : (bw_inv zc e3 e11 e18 zm A g gh dy P Y S W K ns vs)) : (bw_inv zc e3 e11 e18 zm (uA A j f) g gh dy P Y S W K ns vs) := iv_A (fun k q _ _ => uA_ne (by omega)) h
theorem op_round {h : pw_H} (hs : bw_st N xs h) (n m : Int32) : pw_M 7 46 [.inr (some 1), .inl n, .inl m] h (pw_qi (op_q N xs 112 [.inl n, .inl m])) := by
  obtain ⟨zc, e3, e11, e18, zm, A, g, gh, dy, P, Y, S, W, K, ns, vs, rfl, hi⟩ := hs
  refine op_of (c_46 4 Y hi.hYc hi.hYb S hi.hSc hi.hSb hi.hTb n m) (fun r h1 hq => ?_)
  have ey : zc 3 = zm 11 := hi.hYc.trans hi.hY.symm
  have yT : (zm 11).toInt = (Y : Int) := by rw [hi.hY]; exact pw_T (by have := hi.hYb; omega)
  have yb := hi.hYb
  have z0 := pz_0
  have z300 := pz_300
  have sb := hi.hSb
  rw [ey, hi.hG] at hq
  rcases hq with ⟨hc, rfl, rfl⟩ | ⟨hc, nn, mm, hn, hm, hnb, hmb, hr, f, rfl⟩
  · refine ⟨rfl, ⟨_, rfl⟩, _, c_112 4 Y hi.hY hi.hYb S hi.hS hi.hSb e11 hi.hT hi.hTb hi.b39 n m, fun r2 h2 hq2 => ?_⟩
    rcases hq2 with ⟨hd, rfl, rfl⟩ | ⟨hd, hq2⟩
    · exact ⟨rfl, bw_mk hi⟩
    · exact absurd hd hc
  · have hi2 := iv_24 (f := f) hi
    refine ⟨rfl, ⟨_, rfl⟩, _, c_112 (A := uA A 24 f) 4 Y hi.hY hi.hYb S hi.hS hi.hSb e11 hi.hT hi.hTb hi2.b39 n m, fun r2 h2 hq2 => ?_⟩
    rcases hq2 with ⟨hd, rfl, rfl⟩ | ⟨hd, n2, m2, hn2, hm2, hnb2, hmb2, hr2, f2, rfl⟩
    · exact absurd hc hd
    · refine ⟨?_, bw_mk (iv_5x (by omega) hi2)⟩
      rw [hn] at hn2
      rw [hm] at hm2
      have en := nI_ij (by omega) (by omega) hn2
      have em := nI_ij (by omega) (by omega) hm2
      rw [hr2, hr, ← en, ← em]
      have hx := rd_all (A := A) (T := e11) (now := zm 11) (S := S) (m := mm) (gap := zm 34) (fun i hi3 => lt_wh hi hi3) nn Y (fun a => if a < S then A 37 a else A 56 a) (gt_f A e11 (zm 11) S) (by omega) (fun i hi3 hl => by
        have e : (fun a => if a < S then A 37 a else A 56 a) i = A 37 i := if_pos hi3
        rw [gt_at S i hi3 hl, e, hi.r10]) (fun i hi3 hl => by
        have h5 := hi.b37 i hi3
        have h6 := pw_T (n := Y) (by omega)
        have e : (fun a => if a < S then A 37 a else A 56 a) i = A 37 i := if_pos hi3
        rw [e]
        omega)
      rw [hx, rn_run_24]
      rfl
end OP
