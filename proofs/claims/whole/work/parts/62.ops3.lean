/-- which parish has which field within it, by the model's rows -/
def bb_of (A : Nat → Nat → Int32) (ns : Nat → Nat) (P : Nat) (p Y X : Nat) : Bool := decide (p < P) && (decide (md_ring A p (ns p)) && wl_pf (md_V A p (ns p)) Y (X + 1))
theorem bb_out {A : Nat → Nat → Int32} {ns : Nat → Nat} {P p Y X : Nat} (h : P ≤ p) : bb_of A ns P p Y X = false := by
  rw [bb_of, decide_eq_false (by omega)]
  rfl
theorem bb_bits {A : Nat → Nat → Int32} {ns : Nat → Nat} {P Y X : Nat} : ∀ k, k ≤ P → md_bits A ns Y X k = cl_run (fun p => bb_of A ns P p Y X) k
  | 0, _ => rfl
  | k + 1, h => by
    rw [md_bits, cl_run, bb_bits (P := P) k (by omega)]
    rw [bb_of, decide_eq_true (show k < P by omega), Bool.true_and]
    by_cases e1 : md_ring A k (ns k)
    · by_cases e2 : wl_pf (md_V A k (ns k)) Y (X + 1) = true
      · rw [if_pos ⟨e1, e2⟩, decide_eq_true e1, e2, Bool.true_and, if_pos rfl]
      · rw [if_neg (fun z => e2 z.2), decide_eq_true e1, Bool.true_and, if_neg e2]
    · rw [if_neg (fun z => e1 z.1), decide_eq_false e1, Bool.false_and, if_neg Bool.false_ne_true]
theorem bb_all {A : Nat → Nat → Int32} {ns : Nat → Nat} {P Y X : Nat} (hP : P ≤ 4) : md_bits A ns Y X P = cl_run (fun p => bb_of A ns P p Y X) 4 := by
  rw [bb_bits P (Nat.le_refl P)]
  have h := cl_up (b := fun p => bb_of A ns P p Y X) (P := P) (fun p hp => bb_out hp) (4 - P)
  rw [show P + (4 - P) = 4 by omega] at h
  exact h.symm
section OP2
variable {zc : Nat → Int32} {e3 e11 e18 : Nat} {zm : Nat → Int32} {A : Nat → Nat → Int32} {g gh : Nat → Option Nat} {dy : pw_H} {P Y S W K : Nat} {ns : Nat → Nat} {vs : Nat → Nat → Nat}
theorem sr_iv (hi : (bw_inv zc e3 e11 e18 zm A g gh dy P Y S W K ns vs)) : sr_ok g dy (bb_of A ns P) := by
  intro p hp
  by_cases h : p < P
  · obtain ⟨k, D, L, U, C, R, a1, a2, a3, a4⟩ := hi.hwk p h
    have ag := cm_ag a4
    refine Or.inr ⟨k, _, _, D, L, U, C, R, _, _, _, a1, a2, fun Y X hY hX => ?_⟩
    rw [rb_bit (a3.2 Y hY) hX, bb_of, decide_eq_true h, Bool.true_and, cm_V ag]
    by_cases e : md_ring A p (ns p)
    · rw [decide_eq_true e, decide_eq_true ((cm_rg ag).mpr e)]
    · rw [decide_eq_false e, decide_eq_false (fun z => e ((cm_rg ag).mp z))]
  · exact Or.inl ⟨hi.hgn p (by omega) hp, fun Y X => bb_out (by omega)⟩
theorem co_md (hi : (bw_inv zc e3 e11 e18 zm A g gh dy P Y S W K ns vs)) {yr : Int32} {f : Nat} (hf : f < 144) : co_of A e3 (bb_of A ns P) yr f = md_of A ns e3 P yr f := by
  show (ld_run (nI f) yr 300 (on_f (cl_run (fun p => bb_of A ns P p (f / 12) (f % 12)) 4) 4 0) (A 4) (A 5) (A 6) (A 7) e3).2 = (ld_run (nI (12 * (f / 12) + f % 12)) yr 0 (on_f (md_bits A ns (f / 12) (f % 12) P) P 0) (A 33) (A 32) (fun _ => 0) (A 34) e3).2
  rw [ld_300 e3 hi.b6, hi.r4, hi.r5, hi.r7, show 12 * (f / 12) + f % 12 = f by omega, bb_all hi.hPb, cl_on _ hi.hPb (fun p hp => bb_out hp)]
theorem md_gp (hi : (bw_inv zc e3 e11 e18 zm A g gh dy P Y S W K ns vs)) {yr : Int32} : gp_ok (md_of A ns e3 P yr) := by
  intro f hf
  show md_own A ns e3 P (f / 12) (f % 12) yr = -1 ∨ _
  unfold md_own
  have hb := hi.hPb
  rcases ld_in (th := nI (12 * (f / 12) + f % 12)) (yr := yr) (kn := 0) (ot := on_f (md_bits A ns (f / 12) (f % 12) P) P 0) (f1 := A 33) (f2 := A 32) (f3 := fun _ => 0) (f4 := A 34) e3 with h | ⟨i, h1, h2⟩
  · rw [h]
    rcases on_in (c := md_bits A ns (f / 12) (f % 12) P) P 0 with h3 | ⟨i, h3, h4⟩
    · exact Or.inl h3
    · exact Or.inr ⟨i, by omega, by show (ld_run _ _ _ _ _ _ _ _ _).2 = _; rw [h]; exact h4⟩
  · obtain ⟨p, h3, h4⟩ := hi.b34 i h1
    exact Or.inr ⟨p, h3, by show (ld_run _ _ _ _ _ _ _ _ _).2 = _; rw [h2]; exact h4⟩
theorem co_gp (hi : (bw_inv zc e3 e11 e18 zm A g gh dy P Y S W K ns vs)) {yr : Int32} : gp_ok (co_of A e3 (bb_of A ns P) yr) := by
  intro f hf
  rw [co_md hi hf]
  exact md_gp hi f hf
theorem qc_qr (hi : (bw_inv zc e3 e11 e18 zm A g gh dy P Y S W K ns vs)) {yr : Int32} : ∀ k, k ≤ 144 → qc_run A e3 (bb_of A ns P) yr k = qr_run A ns e3 P yr k
  | 0, _ => rfl
  | k + 1, h => by
    rw [qc_run, qr_run, qc_qr hi k (by omega), co_md hi (by omega), bb_all hi.hPb, cl_os]
    by_cases e : 2 ≤ (bc_of (cl_run (fun p => bb_of A ns P p (k / 12) (k % 12)) 4)).toInt ∧ md_of A ns e3 P yr k = -1
    · rw [if_pos e, if_pos ⟨by have := e.1; omega, e.2⟩]
    · rw [if_neg e, if_neg (fun z => e ⟨by have := z.1; omega, z.2⟩)]
end OP2
section OP
variable {N : Nat} {xs : Nat → Int32}
theorem bw_3 {zc : Nat → Int32} {e3 e11 e18 : Nat} {zm : Nat → Int32} {A : Nat → Nat → Int32} {g gh : Nat → Option Nat} {dy : pw_H} {P Y S W K : Nat} {ns : Nat → Nat} {vs : Nat → Nat → Nat} {f s q : Nat → Int32} (hi : (bw_inv zc e3 e11 e18 zm A g gh dy P Y S W K ns vs)) : bw_st N xs (hp_h N xs zc e3 e11 e18 zm (uA (uA (uA A 52 f) 53 s) 54 q) g gh dy) := bw_mk (iv_5x (by omega) (iv_5x (by omega) (iv_5x (by omega) hi)))
theorem op_claims {h : pw_H} (hs : bw_st N xs h) (x y : Int32) : pw_M 7 29 [.inr (some 1), .inl x, .inl y] h (pw_qi (op_q N xs 85 [.inl x, .inl y])) := by
  obtain ⟨zc, e3, e11, e18, zm, A, g, gh, dy, P, Y, S, W, K, ns, vs, rfl, hi⟩ := hs
  refine op_of (c_29 3 (bb_of A ns P) (sr_iv hi) x y) (fun r h1 hq => ?_)
  obtain ⟨hq, rfl⟩ := hq
  refine ⟨rfl, ⟨_, rfl⟩, _, c_85 2 P hi.hP hi.hPb ns hi.hpar x y, fun r2 h2 hq2 => ?_⟩
  rcases hq with ⟨hc, rfl⟩ | ⟨hc, X, Y2, x1, y1, x2, y2, rfl⟩
  · rcases hq2 with ⟨hd, rfl, rfl⟩ | ⟨hd, hq2⟩
    · exact ⟨rfl, bw_mk hi⟩
    · exact absurd hd hc
  · rcases hq2 with ⟨hd, rfl, rfl⟩ | ⟨hd, X3, Y3, x3, y3, x4, y4, rfl, f, s, q, rfl⟩
    · exact absurd hc hd
    · rw [x2] at x4
      rw [y2] at y4
      rw [← nI_ij (by omega) (by omega) x4, ← nI_ij (by omega) (by omega) y4]
      exact ⟨bb_all hi.hPb, bw_3 hi⟩
theorem op_owner {h : pw_H} (hs : bw_st N xs h) (x y yr : Int32) : pw_M 7 31 [.inr (some 1), .inl x, .inl y, .inl yr] h (pw_qi (op_q N xs 88 [.inl x, .inl y, .inl yr])) := by
  obtain ⟨zc, e3, e11, e18, zm, A, g, gh, dy, P, Y, S, W, K, ns, vs, rfl, hi⟩ := hs
  refine op_of (c_31 2 (bb_of A ns P) (sr_iv hi) hi.hEb x y yr) (fun r h1 hq => ?_)
  obtain ⟨hq, rfl⟩ := hq
  refine ⟨rfl, ⟨_, rfl⟩, _, c_88 2 P hi.hP hi.hPb e3 hi.hE hi.hEb ns hi.hpar hi.b32 x y yr, fun r2 h2 hq2 => ?_⟩
  rcases hq with ⟨hc, rfl⟩ | ⟨hc, X, Y2, x1, y1, x2, y2, rfl⟩
  · rcases hq2 with ⟨hd, rfl, rfl⟩ | ⟨hd, hq2⟩
    · exact ⟨rfl, bw_mk hi⟩
    · exact absurd hd hc
  · rcases hq2 with ⟨hd, rfl, rfl⟩ | ⟨hd, X3, Y3, x3, y3, x4, y4, rfl, f, s, q, rfl⟩
    · exact absurd hc hd
    · rw [x2] at x4
      rw [y2] at y4
      rw [← nI_ij (by omega) (by omega) x4, ← nI_ij (by omega) (by omega) y4, co_md hi (by omega)]
      refine ⟨?_, bw_3 hi⟩
      show _ = md_own A ns e3 P ((12 * Y2 + X) / 12) ((12 * Y2 + X) % 12) yr
      rw [show (12 * Y2 + X) / 12 = Y2 by omega, show (12 * Y2 + X) % 12 = X by omega]
theorem op_quarrel {h : pw_H} (hs : bw_st N xs h) (yr : Int32) : pw_M 7 32 [.inr (some 1), .inl yr] h (pw_qi (op_q N xs 90 [.inl yr])) := by
  obtain ⟨zc, e3, e11, e18, zm, A, g, gh, dy, P, Y, S, W, K, ns, vs, rfl, hi⟩ := hs
  refine op_of (c_32 2 (bb_of A ns P) (sr_iv hi) hi.hEb yr) (fun r h1 hq => ?_)
  obtain ⟨hq, rfl⟩ := hq
  refine ⟨rfl, ⟨_, rfl⟩, _, c_90 2 P hi.hP hi.hPb e3 hi.hE hi.hEb ns hi.hpar hi.b32 yr, fun r2 h2 hq2 => ?_⟩
  rcases hq with ⟨hc, rfl⟩ | ⟨hc, rfl⟩
  · rcases hq2 with ⟨hd, rfl, rfl⟩ | ⟨hd, hq2⟩
    · exact ⟨rfl, bw_mk hi⟩
    · exact absurd hd hc
  · rcases hq2 with ⟨hd, rfl, rfl⟩ | ⟨hd, rfl, f, s, q, rfl⟩
    · exact absurd hc hd
    · exact ⟨(qc_qr hi 144 (Nat.le_refl _)).symm, bw_3 hi⟩
theorem op_parish {h : pw_H} (hs : bw_st N xs h) (x y : Int32) : pw_M 7 24 [.inr (some 1), .inl x, .inl y] h (pw_qi (op_q N xs 74 [.inl x, .inl y])) := by
  obtain ⟨zc, e3, e11, e18, zm, A, g, gh, dy, P, Y, S, W, K, ns, vs, rfl, hi⟩ := hs
  refine op_of (c_24 4 P hi.hPc hi.hPb x y) (fun r h1 hq => ?_)
  have z0 := pz_0
  have z12 := pz_12
  have pb := hi.hPb
  rcases hq with ⟨hc, rfl, rfl⟩ | ⟨hc, hf, rfl, rfl⟩ | ⟨hc, hf, rfl, rfl⟩
  · refine ⟨rfl, ⟨_, rfl⟩, _, c_74 5 P hi.hP hi.hPb x y, fun r2 h2 hq2 => ?_⟩
    rcases hq2 with ⟨hd, rfl, rfl⟩ | ⟨hd, hg, rfl, rfl⟩ | ⟨hd, hg, rfl, rfl⟩
    · exact ⟨rfl, bw_mk hi⟩
    · exact absurd hc hd
    · exact absurd hc hd
  · refine ⟨rfl, ⟨_, rfl⟩, _, c_74 5 P hi.hP hi.hPb x y, fun r2 h2 hq2 => ?_⟩
    rcases hq2 with ⟨hd, rfl, rfl⟩ | ⟨hd, hg, rfl, rfl⟩ | ⟨hd, hg, rfl, rfl⟩
    · exact absurd hd hc
    · exact ⟨rfl, bw_mk hi⟩
    · exact absurd hf hg
  · refine ⟨rfl, ⟨_, rfl⟩, _, c_74 5 P hi.hP hi.hPb x y, fun r2 h2 hq2 => ?_⟩
    rcases hq2 with ⟨hd, rfl, rfl⟩ | ⟨hd, hg, rfl, rfl⟩ | ⟨hd, hg, rfl, rfl⟩
    · exact absurd hd hc
    · exact absurd hg hf
    · refine ⟨rfl, bw_mk (iv_parish (by omega) (by omega) (by omega) rfl rfl (fun k _ q0 q1 => by simp only [uA, if_neg q0, if_neg q1]) hi)⟩
theorem op_leg {h : pw_H} (hs : bw_st N xs h) (p e l u : Int32) : pw_M 7 25 [.inr (some 1), .inl p, .inl e, .inl l, .inl u] h (pw_qi (op_q N xs 75 [.inl p, .inl e, .inl l, .inl u])) := by
  obtain ⟨zc, e3, e11, e18, zm, A, g, gh, dy, P, Y, S, W, K, ns, vs, rfl, hi⟩ := hs
  refine op_of (c_25 1 P hi.hPc hi.hPb hi.hgn ns hi.hwk hi.hpar p e l u) (fun r h1 hq => ?_)
  have ez : zc 1 = zm 0 := hi.hPc.trans hi.hP.symm
  have pb := hi.hPb
  have z0 := pz_0
  have z1 := pz_1
  have z3 := pz_3
  have z12 := pz_12
  rw [ez] at hq
  have hl : ∀ j, j < P → ∃ n : Nat, n ≤ 12 ∧ A 28 j = nI n := fun j hj => ⟨ns j, (hi.hpar j hj).2.1.1, (hi.hpar j hj).1⟩
  rcases hq with ⟨hc, rfl, rfl⟩ | ⟨hc, j, hj, hp, hq⟩
  · refine ⟨rfl, ⟨_, rfl⟩, _, c_75 5 P hi.hP hi.hPb hl p e l u, fun r2 h2 hq2 => ?_⟩
    rcases hq2 with ⟨hd, rfl, rfl⟩ | ⟨hd, hq2⟩
    · exact ⟨rfl, bw_mk hi⟩
    · exact absurd hd hc
  · rcases hq with ⟨hn, rfl, rfl⟩ | ⟨hn, rfl, dy2, k, D, L, U, C2, R2, rfl, hgk, hat, hres, hag, hlen, hfr⟩
    · refine ⟨rfl, ⟨_, rfl⟩, _, c_75 5 P hi.hP hi.hPb hl p e l u, fun r2 h2 hq2 => ?_⟩
      rcases hq2 with ⟨hd, rfl, rfl⟩ | ⟨hd, i, n, i1, i2, i3, i4, hq2⟩
      · exact absurd hc hd
      rw [hp] at i2
      obtain rfl := nI_ij (by omega) (by omega) i2
      have hpj := hi.hpar j hj
      have hnb := hpj.2.1.1
      rw [hpj.1] at i3
      obtain rfl := nI_ij (by omega) (by omega) i3
      rcases hq2 with ⟨hn2, rfl, rfl⟩ | ⟨hn2, rfl, rfl⟩
      · exact ⟨rfl, bw_mk hi⟩
      · exact absurd hn (by omega)
    · refine ⟨rfl, ⟨_, rfl⟩, _, c_75 5 P hi.hP hi.hPb hl p e l u, fun r2 h2 hq2 => ?_⟩
      rcases hq2 with ⟨hd, rfl, rfl⟩ | ⟨hd, i, n, i1, i2, i3, i4, hq2⟩
      · exact absurd hc hd
      rw [hp] at i2
      obtain rfl := nI_ij (by omega) (by omega) i2
      have hpj := hi.hpar j hj
      have hnb := hpj.2.1.1
      rw [hpj.1] at i3
      obtain rfl := nI_ij (by omega) (by omega) i3
      rcases hq2 with ⟨hn2, rfl, rfl⟩ | ⟨hn2, rfl, rfl⟩
      · exact absurd hn (by omega)
      · refine ⟨rfl, bw_mk (iv_legs (A := A) (j := j) (m := ns j + 1) (k := k) (dy2 := dy2) (D := upd D (ns j) e) (L := upd L (ns j) l) (U := upd U (ns j) u) (C := C2) (R := R2) hj rfl (fun i a hij ha => ?_) ⟨by omega, fun a ha => ?_⟩ hgk hat hres (fun a ha => ?_) hlen hfr (fun k _ q0 q1 q2 q3 => by simp only [uA, if_neg q0, if_neg q1, if_neg q2, if_neg q3]) hi)⟩
        · show upd (A 29) (12 * j + ns j) e (12 * i + a) = _ ∧ upd (A 30) (12 * j + ns j) l (12 * i + a) = _ ∧ upd (A 31) (12 * j + ns j) u (12 * i + a) = _
          exact ⟨if_neg (by omega), if_neg (by omega), if_neg (by omega)⟩
        · show (0 ≤ (upd (A 29) (12 * j + ns j) e (12 * j + a)).toInt ∧ (upd (A 29) (12 * j + ns j) e (12 * j + a)).toInt ≤ 3) ∧ 1 ≤ (upd (A 30) (12 * j + ns j) l (12 * j + a)).toInt ∧ (upd (A 30) (12 * j + ns j) l (12 * j + a)).toInt ≤ (upd (A 31) (12 * j + ns j) u (12 * j + a)).toInt ∧ (upd (A 31) (12 * j + ns j) u (12 * j + a)).toInt ≤ 12
          unfold upd
          by_cases ea : a = ns j
          · rw [if_pos (by omega), if_pos (by omega), if_pos (by omega)]
            omega
          · rw [if_neg (by omega), if_neg (by omega), if_neg (by omega)]
            exact hpj.2.1.2 a (by omega)
        · show upd D (ns j) e a = upd (A 29) (12 * j + ns j) e (12 * j + a) ∧ upd L (ns j) l a = upd (A 30) (12 * j + ns j) l (12 * j + a) ∧ upd U (ns j) u a = upd (A 31) (12 * j + ns j) u (12 * j + a)
          unfold upd
          by_cases ea : a = ns j
          · rw [if_pos ea, if_pos ea, if_pos ea, if_pos (by omega), if_pos (by omega), if_pos (by omega)]
            exact ⟨rfl, rfl, rfl⟩
          · rw [if_neg ea, if_neg ea, if_neg ea, if_neg (by omega), if_neg (by omega), if_neg (by omega)]
            exact hag a (by omega)
theorem op_unleg {h : pw_H} (hs : bw_st N xs h) (p : Int32) : pw_M 7 26 [.inr (some 1), .inl p] h (pw_qi (op_q N xs 76 [.inl p])) := by
  obtain ⟨zc, e3, e11, e18, zm, A, g, gh, dy, P, Y, S, W, K, ns, vs, rfl, hi⟩ := hs
  refine op_of (c_26 1 P hi.hPc hi.hPb hi.hgn ns hi.hwk hi.hpar p) (fun r h1 hq => ?_)
  have ez : zc 1 = zm 0 := hi.hPc.trans hi.hP.symm
  have pb := hi.hPb
  have z0 := pz_0
  have z1 := pz_1
  have z3 := pz_3
  have z12 := pz_12
  rw [ez] at hq
  have hl : ∀ j, j < P → ∃ n : Nat, n ≤ 12 ∧ A 28 j = nI n := fun j hj => ⟨ns j, (hi.hpar j hj).2.1.1, (hi.hpar j hj).1⟩
  rcases hq with ⟨hc, rfl, rfl⟩ | ⟨hc, j, hj, hp, hq⟩
  · refine ⟨rfl, ⟨_, rfl⟩, _, c_76 5 P hi.hP hi.hPb hl p, fun r2 h2 hq2 => ?_⟩
    rcases hq2 with ⟨hd, rfl, rfl⟩ | ⟨hd, hq2⟩
    · exact ⟨rfl, bw_mk hi⟩
    · exact absurd hd hc
  · rcases hq with ⟨hn, rfl, rfl⟩ | ⟨hn, rfl, dy2, k, D, L, U, C2, R2, rfl, hgk, hat, hres, hag, hlen, hfr⟩
    · refine ⟨rfl, ⟨_, rfl⟩, _, c_76 5 P hi.hP hi.hPb hl p, fun r2 h2 hq2 => ?_⟩
      rcases hq2 with ⟨hd, rfl, rfl⟩ | ⟨hd, i, n, i1, i2, i3, i4, hq2⟩
      · exact absurd hc hd
      rw [hp] at i2
      obtain rfl := nI_ij (by omega) (by omega) i2
      have hpj := hi.hpar j hj
      have hnb := hpj.2.1.1
      rw [hpj.1] at i3
      obtain rfl := nI_ij (by omega) (by omega) i3
      rcases hq2 with ⟨hn2, rfl, rfl⟩ | ⟨hn2, rfl, rfl⟩
      · exact ⟨rfl, bw_mk hi⟩
      · exact absurd hn (by omega)
    · refine ⟨rfl, ⟨_, rfl⟩, _, c_76 5 P hi.hP hi.hPb hl p, fun r2 h2 hq2 => ?_⟩
      rcases hq2 with ⟨hd, rfl, rfl⟩ | ⟨hd, i, n, i1, i2, i3, i4, hq2⟩
      · exact absurd hc hd
      rw [hp] at i2
      obtain rfl := nI_ij (by omega) (by omega) i2
      have hpj := hi.hpar j hj
      have hnb := hpj.2.1.1
      rw [hpj.1] at i3
      obtain rfl := nI_ij (by omega) (by omega) i3
      rcases hq2 with ⟨hn2, rfl, rfl⟩ | ⟨hn2, rfl, rfl⟩
      · exact absurd hn (by omega)
      · exact ⟨rfl, bw_mk (iv_legs (A := A) (j := j) (m := ns j - 1) (k := k) (dy2 := dy2) (D := D) (L := L) (U := U) (C := C2) (R := R2) hj rfl (fun i a hij ha => ⟨rfl, rfl, rfl⟩) ⟨by omega, fun a ha => hpj.2.1.2 a (by omega)⟩ hgk hat hres (fun a ha => hag a (by omega)) hlen hfr (fun k _ q0 q1 q2 q3 => by simp only [uA, if_neg q0]) hi)⟩
end OP
