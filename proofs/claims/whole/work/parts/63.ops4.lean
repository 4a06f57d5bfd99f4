theorem c_80b (d : Nat) {N : Nat} {xs : Nat → Int32} {zc zm : Nat → Int32} {e3 e11 e18 : Nat} {A : Nat → Nat → Int32} {g gh : Nat → Option Nat} {dy : pw_H} (P : Nat) (hP : zm 0 = nI P) (hPb : P ≤ 4) (ns : Nat → Nat) (hpar : ∀ j, j < P → md_par A j (ns j)) (p i : Int32) : pw_M (d + 3) 80 [.inr (some 25), .inl p, .inl i] (hp_h N xs zc e3 e11 e18 zm A g gh dy) (pw_qi (fun r h' => ((¬ (pw_bt p 0 (zm 0 - 1) ∧ ∀ j : Nat, j < P → p = nI j → pw_bt i 0 (A 28 j - 1)) ∧ r = -2 ∧ h' = (hp_h N xs zc e3 e11 e18 zm A g gh dy)) ∨ ∃ j k : Nat, j < P ∧ p = nI j ∧ k < ns j ∧ i = nI k ∧ (∃ f : Nat → Int32, h' = (hp_h N xs zc e3 e11 e18 zm (uA A 52 f) g gh dy)) ∧ ((¬ (wl_feas (md_D A j) (md_L A j) (md_U A j) (ns j) 0 ∧ wl_feas (md_D A j) (md_L A j) (md_U A j) (ns j) 1) ∧ r = -1) ∨ ((wl_feas (md_D A j) (md_L A j) (md_U A j) (ns j) 0 ∧ wl_feas (md_D A j) (md_L A j) (md_U A j) (ns j) 1) ∧ r.toInt = wl_len (md_D A j) (md_L A j) (md_U A j) (ns j) k))))) := by
  have z0 := pz_0
  have z1 := pz_1
  have z2 := pz_2
  have z3 := pz_3
  have z4 := pz_4
  have z6 := pz_6
  have z7 := pz_7
  have z10 := pz_10
  have z11 := pz_11
  have z12 := pz_12
  have z20 := pz_20
  have z30 := pz_30
  have z50 := pz_50
  have z60 := pz_60
  have z80 := pz_80
  have z300 := pz_300
  have hPT : (zm 0).toInt = (P : Int) := by rw [hP]; exact pw_T (by omega)
  have hPP : (zm 0 - 1).toInt = (P : Int) - 1 := by rw [hP]; exact pw_pred (by omega)
  refine pr_aload_n rfl rfl ?_
  refine pr_iload_n rfl rfl ?_
  refine pr_vi1 rfl (by decide) (Nat.le_of_ble_eq_true rfl) rfl (Nat.le_of_ble_eq_true rfl) (c_73 _ _ 25 (hp_m zm) (zm 0) _ rfl rfl) (fun r_2 h_2 q_2 => ?_)
  obtain ⟨rfl, rfl⟩ := q_2
  refine pr_b_eq rfl (fun c_5 => ?_) (fun c_5 => ?_)
  · skip
    refine pr_push (v := (-2)) rfl rfl ?_
    exact pr_reti rfl rfl (Or.inl ⟨by
    first
    | exact fun hh => absurd hh.1 (by assumption)
    | exact fun hh => absurd (hh.2 j (by omega) rfl) (by assumption), rfl, rfl⟩)
  · skip
    obtain ⟨j, rfl, hjT, hjl⟩ := pw_nat (x := p) (by omega)
    obtain ⟨hn, hw, hx0, hy0⟩ := hpar j (by omega)
    have hn12 := hw.1
    have hnP : (A 28 j - 1).toInt = (ns j : Int) - 1 := by rw [hn]; exact pw_pred (by omega)
    refine pr_iload_n rfl rfl ?_
    refine pr_push (v := 0) rfl rfl ?_
    refine pr_aload_n rfl rfl ?_
    refine pr_getf rfl rfl rfl ?_
    refine pr_iload_n rfl rfl ?_
    refine pr_iald (j) rfl rfl (by decide) (by decide) rfl (by omega) ?_
    refine pr_push (v := 1) rfl rfl ?_
    refine pr_step rfl rfl rfl rfl ?_
    refine pr_si3 rfl (by decide) (Nat.le_of_ble_eq_true rfl) (Nat.le_of_ble_eq_true rfl) (c_69 _ _ _ _ _) (fun r_18 h_18 q_18 => ?_)
    obtain ⟨rfl, rfl⟩ := q_18
    refine pr_b_ne rfl (fun c_21 => ?_) (fun c_21 => ?_)
    · skip
      obtain ⟨k, hk, hkT, hkl⟩ := pw_nat (x := i) (by omega)
      refine pr_aload_n rfl rfl ?_
      refine pr_iload_n rfl rfl ?_
      refine pr_vi1 rfl (by decide) (Nat.le_of_ble_eq_true rfl) rfl (Nat.le_of_ble_eq_true rfl) (c_79 _ j (ns j) (by omega) hn hw) (fun r_29 h_29 q_29 => ?_)
      obtain ⟨e_29, f, eh_29, hfl⟩ := q_29
      subst eh_29
      rw [e_29]
      clear e_29
      refine pr_b_eq rfl (fun c_32 => ?_) (fun c_32 => ?_)
      · skip
        refine pr_push (v := (-1)) rfl rfl ?_
        exact pr_reti rfl rfl (by
    first
    | exact Or.inr ⟨j, k, by omega, rfl, by omega, hk, ⟨f, rfl⟩, Or.inl ⟨c_32, rfl⟩⟩
    | exact Or.inr ⟨j, k, by omega, rfl, by omega, hk, ⟨f, rfl⟩, Or.inr ⟨c_32, hfl c_32 k (by omega)⟩⟩)
      · skip
        refine pr_aload_n rfl rfl ?_
        refine pr_getf rfl rfl rfl ?_
        refine pr_iload_n rfl rfl ?_
        refine pr_iald (f := f) k rfl rfl (by decide) (by decide) hk (by omega) ?_
        refine pr_step rfl rfl rfl rfl ?_
        exact pr_reti rfl rfl (by
    first
    | exact Or.inr ⟨j, k, by omega, rfl, by omega, hk, ⟨f, rfl⟩, Or.inl ⟨c_32, rfl⟩⟩
    | exact Or.inr ⟨j, k, by omega, rfl, by omega, hk, ⟨f, rfl⟩, Or.inr ⟨c_32, hfl c_32 k (by omega)⟩⟩)
    · skip
      refine pr_push (v := (-2)) rfl rfl ?_
      exact pr_reti rfl rfl (Or.inl ⟨by
    first
    | exact fun hh => absurd hh.1 (by assumption)
    | exact fun hh => absurd (hh.2 j (by omega) rfl) (by assumption), rfl, rfl⟩)
section OP
variable {N : Nat} {xs : Nat → Int32}
theorem op_length {h : pw_H} (hs : bw_st N xs h) (p i : Int32) : pw_M 7 27 [.inr (some 1), .inl p, .inl i] h (pw_qi (op_q N xs 80 [.inl p, .inl i])) := by
  obtain ⟨zc, e3, e11, e18, zm, A, g, gh, dy, P, Y, S, W, K, ns, vs, rfl, hi⟩ := hs
  refine op_of (c_27 3 P hi.hPc hi.hPb hi.hgn ns hi.hwk hi.hpar p i) (fun r h1 hq => ?_)
  have ez : zc 1 = zm 0 := hi.hPc.trans hi.hP.symm
  have pb := hi.hPb
  have z0 := pz_0
  have pT : (zm 0 - 1).toInt = (P : Int) - 1 := by rw [hi.hP]; exact pw_pred (by omega)
  rw [ez] at hq
  obtain ⟨hq, rfl⟩ := hq
  refine ⟨rfl, ⟨_, rfl⟩, _, c_80b 4 P hi.hP hi.hPb ns hi.hpar p i, fun r2 h2 hq2 => ?_⟩
  rcases hq with ⟨hc, rfl⟩ | ⟨j, a, j1, j2, a1, a2, D, L, U, C, R, hres, hag, rfl⟩
  · rcases hq2 with ⟨hd, rfl, rfl⟩ | ⟨j, a, j1, j2, a1, a2, -⟩
    · exact ⟨rfl, bw_mk hi⟩
    · exfalso
      have jT := pw_T (n := j) (by omega)
      have nb := (hi.hpar j j1).2.1.1
      have aT := pw_T (n := a) (by omega)
      refine hc ⟨by rw [j2]; exact ⟨by omega, by omega⟩, fun j3 h3 h4 => ?_⟩
      rw [j2] at h4
      rw [← nI_ij (by omega) (by omega) h4, a2]
      have nP : (nI (ns j) - 1).toInt = (ns j : Int) - 1 := pw_pred (by omega)
      exact ⟨by omega, by omega⟩
  · have nb := (hi.hpar j j1).2.1.1
    rcases hq2 with ⟨hd, rfl, rfl⟩ | ⟨j3, a3, j4, j5, a4, a5, ⟨f, rfl⟩, hq2⟩
    · exfalso
      have jT := pw_T (n := j) (by omega)
      have aT := pw_T (n := a) (by omega)
      refine hd ⟨by rw [j2]; exact ⟨by omega, by omega⟩, fun j3 h3 h4 => ?_⟩
      rw [j2] at h4
      rw [← nI_ij (by omega) (by omega) h4, a2, (hi.hpar j j1).1]
      have nP : (nI (ns j) - 1).toInt = (ns j : Int) - 1 := pw_pred (by omega)
      exact ⟨by omega, by omega⟩
    · rw [j2] at j5
      obtain rfl := nI_ij (by omega) (by omega) j5
      rw [a2] at a5
      obtain rfl := nI_ij (by omega) (by omega) a5
      have ag := cm_ag hag
      refine ⟨?_, bw_mk (iv_5x (by omega) hi)⟩
      rcases hq2 with ⟨hf, rfl⟩ | ⟨hf, hr⟩
      · rw [if_neg (fun z => hf ((cm_fe ag).mp z))]
      · have hf2 := (cm_fe ag).mpr hf
        rw [if_pos hf2]
        apply Int32.toInt_inj.mp
        rw [hr, hres.1 hf2 a a1, cg_len ag a1]
theorem op_area {h : pw_H} (hs : bw_st N xs h) (p : Int32) : pw_M 7 28 [.inr (some 1), .inl p] h (pw_qi (op_q N xs 83 [.inl p])) := by
  obtain ⟨zc, e3, e11, e18, zm, A, g, gh, dy, P, Y, S, W, K, ns, vs, rfl, hi⟩ := hs
  refine op_of (c_28 3 P hi.hPc hi.hPb hi.hgn ns hi.hwk hi.hpar p) (fun r h1 hq => ?_)
  have ez : zc 1 = zm 0 := hi.hPc.trans hi.hP.symm
  have pb := hi.hPb
  have z0 := pz_0
  have pT : (zm 0 - 1).toInt = (P : Int) - 1 := by rw [hi.hP]; exact pw_pred (by omega)
  rw [ez] at hq
  obtain ⟨hq, rfl⟩ := hq
  refine ⟨rfl, ⟨_, rfl⟩, _, c_83 3 P hi.hP hi.hPb ns hi.hpar p, fun r2 h2 hq2 => ?_⟩
  rcases hq with ⟨hc, rfl⟩ | ⟨j, j1, j2, D, L, U, C, R, hres, hag, rfl⟩
  · rcases hq2 with ⟨hd, rfl, rfl⟩ | ⟨j, j1, j2, -⟩
    · exact ⟨rfl, bw_mk hi⟩
    · exfalso
      have jT := pw_T (n := j) (by omega)
      rw [j2] at hc
      exact hc ⟨by omega, by omega⟩
  · rcases hq2 with ⟨hd, rfl, rfl⟩ | ⟨j3, j4, j5, hq2, f, s, q, rfl⟩
    · exfalso
      have jT := pw_T (n := j) (by omega)
      rw [j2] at hd
      exact hd ⟨by omega, by omega⟩
    · rw [j2] at j5
      obtain rfl := nI_ij (by omega) (by omega) j5
      have ag := cm_ag hag
      refine ⟨?_, bw_3 hi⟩
      rcases hq2 with ⟨hf, rfl⟩ | ⟨hf, rfl⟩
      · rw [if_neg (fun z => hf ((cm_rg ag).mp z))]
      · have hf2 := (cm_rg ag).mpr hf
        rw [if_pos hf2, ← cm_V ag]
        exact (fi_ct (fun y hy => rb_eq (hres.2 y hy) (fun x _ => by rw [decide_eq_true hf2, Bool.true_and])) 12 (Nat.le_refl 12)).symm
theorem op_house {h : pw_H} (hs : bw_st N xs h) (x y w hh dx dz ex ez : Int32) : pw_M 7 40 [.inr (some 1), .inl x, .inl y, .inl w, .inl hh, .inl dx, .inl dz, .inl ex, .inl ez] h (pw_qi (op_q N xs 102 [.inl x, .inl y, .inl w, .inl hh, .inl dx, .inl dz, .inl ex, .inl ez])) := by
  obtain ⟨zc, e3, e11, e18, zm, A, g, gh, dy, P, Y, S, W, K, ns, vs, rfl, hi⟩ := hs
  refine op_of (c_40 4 K hi.hKc hi.hKb x y w hh dx dz ex ez) (fun r h1 hq => ?_)
  have z0 := pz_0
  have z1 := pz_1
  have z4 := pz_4
  rcases hq with ⟨hc, rfl, rfl⟩ | ⟨hc, hf, rfl, rfl⟩ | ⟨hc, hf, rfl, rfl⟩
  · refine ⟨rfl, ⟨_, rfl⟩, _, c_102 5 K hi.hK hi.hKb x y w hh dx dz ex ez, fun r2 h2 hq2 => ?_⟩
    rcases hq2 with ⟨hd, rfl, rfl⟩ | ⟨hd, hg, rfl, rfl⟩ | ⟨hd, hg, rfl, rfl⟩
    · exact ⟨rfl, bw_mk hi⟩
    · exact absurd hc hd
    · exact absurd hc hd
  · refine ⟨rfl, ⟨_, rfl⟩, _, c_102 5 K hi.hK hi.hKb x y w hh dx dz ex ez, fun r2 h2 hq2 => ?_⟩
    rcases hq2 with ⟨hd, rfl, rfl⟩ | ⟨hd, hg, rfl, rfl⟩ | ⟨hd, hg, rfl, rfl⟩
    · exact absurd hd hc
    · exact ⟨rfl, bw_mk hi⟩
    · exact absurd hf hg
  · refine ⟨rfl, ⟨_, rfl⟩, _, c_102 5 K hi.hK hi.hKb x y w hh dx dz ex ez, fun r2 h2 hq2 => ?_⟩
    rcases hq2 with ⟨hd, rfl, rfl⟩ | ⟨hd, hg, rfl, rfl⟩ | ⟨hd, hg, rfl, rfl⟩
    · exact absurd hd hc
    · exact absurd hg hf
    · have hc2 := Decidable.byContradiction hc
      obtain ⟨X1, rfl, T1, -⟩ := pw_nat (x := x) (by omega)
      obtain ⟨X2, rfl, T2, -⟩ := pw_nat (x := y) (by omega)
      obtain ⟨X3, rfl, T3, -⟩ := pw_nat (x := w) (by omega)
      obtain ⟨X4, rfl, T4, -⟩ := pw_nat (x := hh) (by omega)
      obtain ⟨X5, rfl, T5, -⟩ := pw_nat (x := dx) (by omega)
      obtain ⟨X6, rfl, T6, -⟩ := pw_nat (x := dz) (by omega)
      obtain ⟨X7, rfl, T7, -⟩ := pw_nat (x := ex) (by omega)
      obtain ⟨X8, rfl, T8, -⟩ := pw_nat (x := ez) (by omega)
      rw [pw_at, pw_at]
      have kb := hi.hKb
      exact ⟨rfl, bw_mk (iv_house (A := A) (v := (fun k => match k with | 0 => X1 | 1 => X2 | 2 => X3 | 3 => X4 | 4 => 12 * X6 + X5 | _ => 12 * X8 + X7)) (by omega) (by show X1 + X3 ≤ 12; omega) (by show X2 + X4 ≤ 12; omega) (by show 12 * X6 + X5 < 144; omega) (by show 12 * X8 + X7 < 144; omega) rfl rfl rfl rfl rfl rfl (fun k _ q0 q1 q2 q3 q4 q5 => by simp only [uA, if_neg q0, if_neg q1, if_neg q2, if_neg q3, if_neg q4, if_neg q5]) hi)⟩
section W23
variable {A : Nat → Nat → Int32} {ns : Nat → Nat} {E P : Nat} {c : Nat → Int32}
theorem md_bits_23 {Y X : Nat} : ∀ p, md_bits (uA A 23 c) ns Y X p = md_bits A ns Y X p
  | 0 => rfl
  | p + 1 => by
    rw [md_bits, md_bits, md_bits_23 p]
    rfl
theorem md_of_23 {yr : Int32} {f : Nat} : md_of (uA A 23 c) ns E P yr f = md_of A ns E P yr f := by
  show (ld_run (nI (12 * (f / 12) + f % 12)) yr 0 (on_f (md_bits (uA A 23 c) ns (f / 12) (f % 12) P) P 0) (A 33) (A 32) (fun _ => 0) (A 34) E).2 = _
  rw [md_bits_23]
  rfl
end W23
theorem op_whose {h : pw_H} (hs : bw_st N xs h) (hh u yr : Int32) : pw_M 7 42 [.inr (some 1), .inl hh, .inl u, .inl yr] h (pw_qi (op_q N xs 106 [.inl hh, .inl u, .inl yr])) := by
  obtain ⟨zc, e3, e11, e18, zm, A, g, gh, dy, P, Y, S, W, K, ns, vs, rfl, hi⟩ := hs
  refine op_of (c_42 1 K hi.hKc hi.hKb (bb_of A ns P) (sr_iv hi) hi.hEb hi.hUb vs hi.hhs hi.hgh hh u yr (co_gp hi)) (fun r h1 hq => ?_)
  have ez : zc 12 = zm 23 := hi.hKc.trans hi.hK.symm
  have kb := hi.hKb
  rw [ez] at hq
  rcases hq with ⟨hc, rfl, rfl⟩ | ⟨hc, j, j1, j2, rfl, c, rfl⟩
  · refine ⟨rfl, ⟨_, rfl⟩, _, c_106 2 P hi.hP hi.hPb e3 hi.hE hi.hEb K hi.hK hi.hKb e18 hi.hU hi.hUb ns hi.hpar hi.b32 hi.b50 vs hi.hhm hh u yr (md_gp hi), fun r2 h2 hq2 => ?_⟩
    rcases hq2 with ⟨hd, rfl, rfl⟩ | ⟨hd, hq2⟩
    · exact ⟨rfl, bw_mk hi⟩
    · exact absurd hd hc
  · have hi2 := iv_23 (f := c) hi
    refine ⟨rfl, ⟨_, rfl⟩, _, c_106 (A := uA A 23 c) 2 P hi.hP hi.hPb e3 hi.hE hi.hEb K hi.hK hi.hKb e18 hi.hU hi.hUb ns hi2.hpar hi2.b32 hi2.b50 vs hi2.hhm hh u yr (md_gp hi2), fun r2 h2 hq2 => ?_⟩
    rcases hq2 with ⟨hd, rfl, rfl⟩ | ⟨hd, j3, j4, j5, rfl, f, s, q, c2, rfl⟩
    · exact absurd hc hd
    · rw [j2] at j5
      obtain rfl := nI_ij (by omega) (by omega) j5
      refine ⟨?_, bw_mk (iv_5x (by omega) (iv_5x (by omega) (iv_5x (by omega) (iv_5x (by omega) hi2))))⟩
      obtain ⟨k, g1, g2, g3, g4, g5, g6⟩ := hi.hhs j j1
      rw [ld_300 e18 hi.b21, hi.r19, hi.r20, hi.r22, co_md hi g5, co_md hi g6, gp_all_eq (own2 := md_of A ns e3 P yr) g3 (fun f hf => co_md hi hf) (vs j 3) g4, gc_gp (fun i hi4 => (gp_all_b (by omega) (vs j 3) (by omega) i hi4).1), gp_all_eq (own := md_of (uA A 23 c) ns e3 P yr) (own2 := md_of A ns e3 P yr) g3 (fun f hf => md_of_23) (vs j 3) g4, md_of_23, md_of_23]
      rfl
end OP
