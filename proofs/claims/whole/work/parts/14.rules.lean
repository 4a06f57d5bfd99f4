theorem pw_fuel : ∀ (n d M pc : Nat) (L : pw_L) (st : List pw_V) (h : pw_H) (x : Option pw_V × pw_H), pw_run n d M pc L st h = some x → pw_run (n + 1) d M pc L st h = some x := by
  intro n
  induction n with
  | zero =>
    intro d M pc L st h x hr
    cases hr
  | succ n ih =>
    intro d M pc L st h x hr
    rw [pw_run] at hr ⊢
    cases ho : pw_op M pc with
    | none => rw [ho] at hr; cases hr
    | some o =>
      rw [ho] at hr
      dsimp only at hr ⊢
      cases hret : pw_isRet o.1 with
      | true =>
        rw [hret] at hr
        exact hr
      | false =>
        rw [hret] at hr
        dsimp only [cond] at hr ⊢
        cases hcall : pw_isCall o.1 with
        | true =>
          rw [hcall] at hr
          dsimp only at hr ⊢
          cases d with
          | zero => cases hr
          | succ d =>
            dsimp only at hr ⊢
            split at hr
            · split at hr
              · split at hr
                · rename_i hl
                  rw [if_pos hl]
                  exact ih _ _ _ _ _ _ _ hr
                · cases hr
              · cases hr
            · split at hr
              · split at hr
                · rename_i hl
                  rw [if_pos hl]
                  exact ih _ _ _ _ _ _ _ hr
                · cases hr
              · cases hr
            · split at hr
              · cases hr
              · rename_i as rest ha
                split at hr
                · rename_i hl
                  rw [if_pos hl]
                  split at hr
                  · cases hr
                  · rename_i r1 h1 hr1
                    rw [ih _ _ _ _ _ _ _ hr1]
                    exact ih _ _ _ _ _ _ _ hr
                · cases hr
        | false =>
          rw [hcall] at hr
          dsimp only at hr ⊢
          split at hr
          · cases hr
          · exact ih _ _ _ _ _ _ _ hr
theorem pw_fuels {n d M pc : Nat} {L : pw_L} {st : List pw_V} {h : pw_H} {x : Option pw_V × pw_H} (hr : pw_run n d M pc L st h = some x) (k : Nat) : pw_run (n + k) d M pc L st h = some x := by
  induction k with
  | zero => exact hr
  | succ k ih => exact pw_fuel _ _ _ _ _ _ _ _ ih
/-- the pure machine comes to an end with Q -/
def pw_W (d M pc : Nat) (L : pw_L) (st : List pw_V) (h : pw_H) (Q : Option pw_V → pw_H → Prop) : Prop := ∃ (n : Nat) (r : Option pw_V) (h' : pw_H), pw_run n d M pc L st h = some (r, h') ∧ Q r h'
def pw_M (d M : Nat) (as : List pw_V) (h : pw_H) (Q : Option pw_V → pw_H → Prop) : Prop := pw_W d M 0 (pw_ent M as) [] h Q
section PWR
variable {d M pc np t : Nat} {q : List Nat} {L : pw_L} {st : List pw_V} {h : pw_H} {Q : Option pw_V → pw_H → Prop}
theorem pr_post {Q' : Option pw_V → pw_H → Prop} (k : pw_W d M pc L st h Q') (hq : ∀ r h', Q' r h' → Q r h') : pw_W d M pc L st h Q := by
  obtain ⟨n, r, h', h1, h2⟩ := k
  exact ⟨n, r, h', h1, hq r h' h2⟩
theorem pr_step {o : pw_O} {pc' : Nat} {L' : pw_L} {st' : List pw_V} {h1 : pw_H} (ho : pw_op M pc = some o) (hr : pw_isRet o.1 = false) (hc : pw_isCall o.1 = false) (hs : pw_step o L st h = some (pc', L', st', h1)) (k : pw_W d M pc' L' st' h1 Q) : pw_W d M pc L st h Q := by
  obtain ⟨n, r, h', e1, e2⟩ := k
  refine ⟨n + 1, r, h', ?_, e2⟩
  rw [pw_run, ho]
  dsimp only
  rw [hr, hc]
  dsimp only [cond]
  rw [hs]
  exact e1
theorem pr_ret {i : Instr} {r : Option pw_V} (ho : pw_op M pc = some (i, np, t, q)) (hr : pw_isRet i = true) (hs : pw_ret M i st = some r) (k : Q r h) : pw_W d M pc L st h Q := by
  refine ⟨1, r, h, ?_, k⟩
  rw [pw_run, ho]
  dsimp only
  rw [hr]
  dsimp only [cond]
  rw [hs]
theorem pr_call {i : Instr} {as rest : List pw_V} {Q1 : Option pw_V → pw_H → Prop} (ho : pw_op M pc = some (i, np, t, q)) (hr : pw_isRet i = false) (hc : pw_isCall i = true) (hq : 2 < q.length) (ha : pw_args i q st h = some (as, rest)) (hl : as.length ≤ (pw_inf t).2.2.1) (hm : pw_M d t as h Q1) (k : ∀ r h1, Q1 r h1 → pw_W (d + 1) M np L (r.toList ++ rest) h1 Q) : pw_W (d + 1) M pc L st h Q := by
  obtain ⟨n1, r1, h1, e1, e2⟩ := hm
  obtain ⟨n2, r2, h2, f1, f2⟩ := k r1 h1 e2
  refine ⟨n1 + n2 + 1, r2, h2, ?_, f2⟩
  rw [pw_run, ho]
  dsimp only
  rw [hr, hc]
  dsimp only [cond]
  have g1 := pw_fuels e1 n2
  have g2 := pw_fuels f1 n1
  rw [Nat.add_comm n2 n1] at g2
  split
  · simp at hq
  · simp at hq
  · rw [ha]
    dsimp only
    rw [if_pos hl, g1]
    exact g2
theorem pr_obj {i : Instr} {w a : Nat} (ho : pw_op M pc = some (i, np, t, [w])) (hr : pw_isRet i = false) (hc : pw_isCall i = true) (hl : st.length ≤ 8) (k : pw_W (d + 1) M np L st h Q) : pw_W (d + 1) M pc L (.inr (some a) :: st) h Q := by
  obtain ⟨n, r, h', e1, e2⟩ := k
  refine ⟨n + 1, r, h', ?_, e2⟩
  rw [pw_run, ho]
  dsimp only
  rw [hr, hc]
  dsimp only [cond]
  rw [if_pos hl]
  exact e1
theorem pr_math {i : Instr} {w m : Nat} {x y : Int32} (ho : pw_op M pc = some (i, np, t, [w, m])) (hr : pw_isRet i = false) (hc : pw_isCall i = true) (hl : st.length ≤ 8) (k : pw_W (d + 1) M np L (.inl (if m = 0 then (if x < y then y else x) else (if y < x then y else x)) :: st) h Q) : pw_W (d + 1) M pc L (.inl y :: .inl x :: st) h Q := by
  obtain ⟨n, r, h', e1, e2⟩ := k
  refine ⟨n + 1, r, h', ?_, e2⟩
  rw [pw_run, ho]
  dsimp only
  rw [hr, hc]
  dsimp only [cond]
  rw [if_pos hl]
  exact e1
/-- a number on top gets another form -/
theorem pr_top {x y : Int32} (e : x = y) (k : pw_W d M pc L (.inl y :: st) h Q) : pw_W d M pc L (.inl x :: st) h Q := by rw [e]; exact k
theorem pr_push {v : Int32} {i : Instr} (ho : pw_op M pc = some (i, np, t, q)) (hv : (match i with
    | .iconst z => decide (Int32.ofInt z = v)
    | .bipush z => decide ((Int8.ofInt z).toInt32 = v)
    | .sipush z => decide ((Int16.ofInt z).toInt32 = v)
    | .ldc_w _ => decide (Int32.ofNat t = v)
    | _ => false) = true) (k : pw_W d M np L (.inl v :: st) h Q) : pw_W d M pc L st h Q := by
  cases i with
  | iconst z => exact pr_step ho rfl rfl (by rw [← of_decide_eq_true hv]; rfl) k
  | bipush z => exact pr_step ho rfl rfl (by rw [← of_decide_eq_true hv]; rfl) k
  | sipush z => exact pr_step ho rfl rfl (by rw [← of_decide_eq_true hv]; rfl) k
  | ldc_w z => exact pr_step ho rfl rfl (by rw [← of_decide_eq_true hv]; rfl) k
  | _ => cases hv
theorem pr_iload {n : Nat} {x : Int32} (ho : pw_op M pc = some (.iload n, np, t, q)) (hl : L[n]? = some (some (.inl x))) (k : pw_W d M np L (.inl x :: st) h Q) : pw_W d M pc L st h Q := pr_step ho rfl rfl (by simp only [pw_step]; rw [hl]) k
theorem pr_iload_n {n : Fin 4} {x : Int32} (ho : pw_op M pc = some (.iload_n n, np, t, q)) (hl : L[n.val]? = some (some (.inl x))) (k : pw_W d M np L (.inl x :: st) h Q) : pw_W d M pc L st h Q := pr_step ho rfl rfl (by simp only [pw_step]; rw [hl]) k
theorem pr_aload {n : Nat} {x : Option Nat} (ho : pw_op M pc = some (.aload n, np, t, q)) (hl : L[n]? = some (some (.inr x))) (k : pw_W d M np L (.inr x :: st) h Q) : pw_W d M pc L st h Q := pr_step ho rfl rfl (by simp only [pw_step]; rw [hl]) k
theorem pr_aload_n {n : Fin 4} {x : Option Nat} (ho : pw_op M pc = some (.aload_n n, np, t, q)) (hl : L[n.val]? = some (some (.inr x))) (k : pw_W d M np L (.inr x :: st) h Q) : pw_W d M pc L st h Q := pr_step ho rfl rfl (by simp only [pw_step]; rw [hl]) k
theorem pr_istore {n : Nat} {x : Int32} {L' : pw_L} (ho : pw_op M pc = some (.istore n, np, t, q)) (hn : n < L.length) (hl : L.set n (some (.inl x)) = L') (k : pw_W d M np L' st h Q) : pw_W d M pc L (.inl x :: st) h Q := by
  subst hl
  exact pr_step ho rfl rfl (by simp only [pw_step]; rw [if_pos hn]) k
theorem pr_istore_n {n : Fin 4} {x : Int32} {L' : pw_L} (ho : pw_op M pc = some (.istore_n n, np, t, q)) (hn : n.val < L.length) (hl : L.set n.val (some (.inl x)) = L') (k : pw_W d M np L' st h Q) : pw_W d M pc L (.inl x :: st) h Q := by
  subst hl
  exact pr_step ho rfl rfl (by simp only [pw_step]; rw [if_pos hn]) k
theorem pr_astore {n : Nat} {x : Option Nat} {L' : pw_L} (ho : pw_op M pc = some (.astore n, np, t, q)) (hn : n < L.length) (hl : L.set n (some (.inr x)) = L') (k : pw_W d M np L' st h Q) : pw_W d M pc L (.inr x :: st) h Q := by
  subst hl
  exact pr_step ho rfl rfl (by simp only [pw_step]; rw [if_pos hn]) k
theorem pr_astore_n {n : Fin 4} {x : Option Nat} {L' : pw_L} (ho : pw_op M pc = some (.astore_n n, np, t, q)) (hn : n.val < L.length) (hl : L.set n.val (some (.inr x)) = L') (k : pw_W d M np L' st h Q) : pw_W d M pc L (.inr x :: st) h Q := by
  subst hl
  exact pr_step ho rfl rfl (by simp only [pw_step]; rw [if_pos hn]) k
theorem pr_iinc {n : Nat} {z : Int} {x v : Int32} {L' : pw_L} (ho : pw_op M pc = some (.iinc n z, np, t, q)) (hl : L[n]? = some (some (.inl x))) (hv : x + Int32.ofInt z = v) (hL : L.set n (some (.inl v)) = L') (k : pw_W d M np L' st h Q) : pw_W d M pc L st h Q := by
  subst hL
  subst hv
  exact pr_step ho rfl rfl (by simp only [pw_step]; rw [hl]) k
theorem pr_div {x y : Int32} (ho : pw_op M pc = some (.idiv, np, t, q)) (hy : y ≠ 0) (k : pw_W d M np L (.inl (x / y) :: st) h Q) : pw_W d M pc L (.inl y :: .inl x :: st) h Q :=
  pr_step ho rfl rfl (by simp only [pw_step]; rw [if_neg hy]) k
theorem pr_rem {x y : Int32} (ho : pw_op M pc = some (.irem, np, t, q)) (hy : y ≠ 0) (k : pw_W d M np L (.inl (x - x / y * y) :: st) h Q) : pw_W d M pc L (.inl y :: .inl x :: st) h Q :=
  pr_step ho rfl rfl (by simp only [pw_step]; rw [if_neg hy]) k
theorem pr_cmp {c : ClassFile.Cond} {off : Int} {x y : Int32} (ho : pw_op M pc = some (.if_icmp c off, np, t, q)) (kt : pw_cond c x y = true → pw_W d M t L st h Q) (kf : pw_cond c x y = false → pw_W d M np L st h Q) : pw_W d M pc L (.inl y :: .inl x :: st) h Q := by
  cases hc : pw_cond c x y with
  | true => exact pr_step ho rfl rfl (by simp only [pw_step]; rw [hc]; rfl) (kt hc)
  | false => exact pr_step ho rfl rfl (by simp only [pw_step]; rw [hc]; rfl) (kf hc)
theorem pr_if {c : ClassFile.Cond} {off : Int} {x : Int32} (ho : pw_op M pc = some (.ifCond c off, np, t, q)) (kt : pw_cond c x 0 = true → pw_W d M t L st h Q) (kf : pw_cond c x 0 = false → pw_W d M np L st h Q) : pw_W d M pc L (.inl x :: st) h Q := by
  cases hc : pw_cond c x 0 with
  | true => exact pr_step ho rfl rfl (by simp only [pw_step]; rw [hc]; rfl) (kt hc)
  | false => exact pr_step ho rfl rfl (by simp only [pw_step]; rw [hc]; rfl) (kf hc)
theorem pr_c_eq {off : Int} {x y : Int32} (ho : pw_op M pc = some (.if_icmp .eq off, np, t, q)) (kt : x = y → pw_W d M t L st h Q) (kf : ¬ x = y → pw_W d M np L st h Q) : pw_W d M pc L (.inl y :: .inl x :: st) h Q := pr_cmp ho (fun e => kt (by simpa [pw_cond] using e)) (fun e => kf (by simpa [pw_cond] using e))
theorem pr_c_ne {off : Int} {x y : Int32} (ho : pw_op M pc = some (.if_icmp .ne off, np, t, q)) (kt : ¬ x = y → pw_W d M t L st h Q) (kf : x = y → pw_W d M np L st h Q) : pw_W d M pc L (.inl y :: .inl x :: st) h Q := pr_cmp ho (fun e => kt (by simpa [pw_cond] using e)) (fun e => kf (by simpa [pw_cond] using e))
theorem pr_c_lt {off : Int} {x y : Int32} (ho : pw_op M pc = some (.if_icmp .lt off, np, t, q)) (kt : x.toInt < y.toInt → pw_W d M t L st h Q) (kf : y.toInt ≤ x.toInt → pw_W d M np L st h Q) : pw_W d M pc L (.inl y :: .inl x :: st) h Q := pr_cmp ho (fun e => kt (Int32.lt_iff_toInt_lt.mp (of_decide_eq_true e))) (fun e => kf (Int.not_lt.mp fun z => of_decide_eq_false e (Int32.lt_iff_toInt_lt.mpr z)))
theorem pr_c_ge {off : Int} {x y : Int32} (ho : pw_op M pc = some (.if_icmp .ge off, np, t, q)) (kt : y.toInt ≤ x.toInt → pw_W d M t L st h Q) (kf : x.toInt < y.toInt → pw_W d M np L st h Q) : pw_W d M pc L (.inl y :: .inl x :: st) h Q := pr_cmp ho (fun e => kt (Int32.le_iff_toInt_le.mp (of_decide_eq_true e))) (fun e => kf (Int.not_le.mp fun z => of_decide_eq_false e (Int32.le_iff_toInt_le.mpr z)))
theorem pr_c_gt {off : Int} {x y : Int32} (ho : pw_op M pc = some (.if_icmp .gt off, np, t, q)) (kt : y.toInt < x.toInt → pw_W d M t L st h Q) (kf : x.toInt ≤ y.toInt → pw_W d M np L st h Q) : pw_W d M pc L (.inl y :: .inl x :: st) h Q := pr_cmp ho (fun e => kt (Int32.lt_iff_toInt_lt.mp (of_decide_eq_true e))) (fun e => kf (Int.not_lt.mp fun z => of_decide_eq_false e (Int32.lt_iff_toInt_lt.mpr z)))
theorem pr_c_le {off : Int} {x y : Int32} (ho : pw_op M pc = some (.if_icmp .le off, np, t, q)) (kt : x.toInt ≤ y.toInt → pw_W d M t L st h Q) (kf : y.toInt < x.toInt → pw_W d M np L st h Q) : pw_W d M pc L (.inl y :: .inl x :: st) h Q := pr_cmp ho (fun e => kt (Int32.le_iff_toInt_le.mp (of_decide_eq_true e))) (fun e => kf (Int.not_le.mp fun z => of_decide_eq_false e (Int32.le_iff_toInt_le.mpr z)))
theorem pr_z_eq {off : Int} {x : Int32} (ho : pw_op M pc = some (.ifCond .eq off, np, t, q)) (kt : x = 0 → pw_W d M t L st h Q) (kf : ¬ x = 0 → pw_W d M np L st h Q) : pw_W d M pc L (.inl x :: st) h Q := pr_if ho (fun e => kt (by simpa [pw_cond] using e)) (fun e => kf (by simpa [pw_cond] using e))
theorem pr_z_ne {off : Int} {x : Int32} (ho : pw_op M pc = some (.ifCond .ne off, np, t, q)) (kt : ¬ x = 0 → pw_W d M t L st h Q) (kf : x = 0 → pw_W d M np L st h Q) : pw_W d M pc L (.inl x :: st) h Q := pr_if ho (fun e => kt (by simpa [pw_cond] using e)) (fun e => kf (by simpa [pw_cond] using e))
theorem pr_z_le {off : Int} {x : Int32} (ho : pw_op M pc = some (.ifCond .le off, np, t, q)) (kt : x.toInt ≤ 0 → pw_W d M t L st h Q) (kf : 0 < x.toInt → pw_W d M np L st h Q) : pw_W d M pc L (.inl x :: st) h Q := pr_if ho (fun e => kt (Int32.le_iff_toInt_le.mp (of_decide_eq_true e))) (fun e => kf (Int.not_le.mp fun z => of_decide_eq_false e (Int32.le_iff_toInt_le.mpr z)))
def pw_b (P : Prop) [Decidable P] : Int32 := if P then 1 else 0
/-- a method's yes or no, asked at once -/
theorem pr_b_eq {off : Int} {P : Prop} [Decidable P] (ho : pw_op M pc = some (.ifCond .eq off, np, t, q)) (kt : ¬ P → pw_W d M t L st h Q) (kf : P → pw_W d M np L st h Q) : pw_W d M pc L (.inl (pw_b P) :: st) h Q := by
  by_cases hp : P
  · exact pr_z_eq ho (fun e => by simp [pw_b, hp] at e) (fun _ => kf hp)
  · exact pr_z_eq ho (fun _ => kt hp) (fun e => by simp [pw_b, hp] at e)
theorem pr_b_ne {off : Int} {P : Prop} [Decidable P] (ho : pw_op M pc = some (.ifCond .ne off, np, t, q)) (kt : P → pw_W d M t L st h Q) (kf : ¬ P → pw_W d M np L st h Q) : pw_W d M pc L (.inl (pw_b P) :: st) h Q := by
  by_cases hp : P
  · exact pr_z_ne ho (fun _ => kt hp) (fun e => by simp [pw_b, hp] at e)
  · exact pr_z_ne ho (fun e => by simp [pw_b, hp] at e) (fun _ => kf hp)
theorem pr_getf {i a n : Nat} {fs : List pw_V} {v : pw_V} {q' : List Nat} (ho : pw_op M pc = some (.getfield i, np, t, n :: q')) (ha : h[a]? = some (.inr (.inr (t, fs)))) (hv : fs[n]? = some v) (k : pw_W d M np L (v :: st) h Q) : pw_W d M pc L (.inr (some a) :: st) h Q :=
  pr_step ho rfl rfl (by simp only [pw_step]; rw [ha]; dsimp only; rw [if_pos rfl, hv]) k
theorem pr_putf {i a n kd : Nat} {fs : List pw_V} {v : pw_V} {q' : List Nat} {h1 : pw_H} (ho : pw_op M pc = some (.putfield i, np, t, n :: kd :: q')) (ha : h[a]? = some (.inr (.inr (t, fs)))) (hn : n < fs.length) (hv : pw_kind kd v = true) (hh : h.set a (.inr (.inr (t, fs.set n v))) = h1) (k : pw_W d M np L st h1 Q) : pw_W d M pc L (v :: .inr (some a) :: st) h Q := by
  subst hh
  exact pr_step ho rfl rfl (by simp only [pw_step]; rw [ha]; dsimp only; rw [if_pos ⟨rfl, hn, hv⟩]) k
theorem pw_inb_n {i : Int32} {n j : Nat} (hi : i = nI j) (hj : j < n) (hn : n < 2147483648) : pw_inb i n = true ∧ i.toNatClampNeg = j := by
  subst hi
  have h1 := nI_toInt (n := j) (by omega)
  refine ⟨?_, nI_clamp (by omega)⟩
  simp only [pw_inb, h1, Bool.and_eq_true, decide_eq_true_eq]
  omega
theorem pr_iald {a g n : Nat} {f : Nat → Int32} {i : Int32} (j : Nat) (ho : pw_op M pc = some (.iaload, np, t, q)) (ha : h[a]? = some (.inl (g, n, f))) (hg : g ≠ 1) (hn : n < 2147483648) (hi : i = nI j) (hj : j < n) (k : pw_W d M np L (.inl (f j) :: st) h Q) : pw_W d M pc L (.inl i :: .inr (some a) :: st) h Q := by
  obtain ⟨h1, h2⟩ := pw_inb_n hi hj hn
  exact pr_step ho rfl rfl (by simp only [pw_step]; rw [ha]; dsimp only; rw [if_pos ⟨hg, h1⟩, h2]) k
theorem pr_zald {a n : Nat} {f : Nat → Int32} {i : Int32} (j : Nat) (ho : pw_op M pc = some (.baload, np, t, q)) (ha : h[a]? = some (.inl (1, n, f))) (hn : n < 2147483648) (hi : i = nI j) (hj : j < n) (k : pw_W d M np L (.inl (f j) :: st) h Q) : pw_W d M pc L (.inl i :: .inr (some a) :: st) h Q := by
  obtain ⟨h1, h2⟩ := pw_inb_n hi hj hn
  exact pr_step ho rfl rfl (by simp only [pw_step]; rw [ha]; dsimp only; rw [if_pos ⟨rfl, h1⟩, h2]) k
theorem pr_iast {a n : Nat} {f : Nat → Int32} {i x : Int32} {h1 : pw_H} (j : Nat) (ho : pw_op M pc = some (.iastore, np, t, q)) (ha : h[a]? = some (.inl (0, n, f))) (hn : n < 2147483648) (hi : i = nI j) (hj : j < n) (hh : h.set a (.inl (0, n, upd f j x)) = h1) (k : pw_W d M np L st h1 Q) : pw_W d M pc L (.inl x :: .inl i :: .inr (some a) :: st) h Q := by
  obtain ⟨e1, e2⟩ := pw_inb_n hi hj hn
  subst hh
  exact pr_step ho rfl rfl (by simp only [pw_step]; rw [ha]; dsimp only; rw [if_pos ⟨rfl, e1⟩, e2]) k
theorem pr_zast {a n : Nat} {f : Nat → Int32} {i x : Int32} {h1 : pw_H} (j : Nat) (ho : pw_op M pc = some (.bastore, np, t, q)) (ha : h[a]? = some (.inl (1, n, f))) (hn : n < 2147483648) (hi : i = nI j) (hj : j < n) (hx : pw_bit x = true) (hh : h.set a (.inl (1, n, upd f j x)) = h1) (k : pw_W d M np L st h1 Q) : pw_W d M pc L (.inl x :: .inl i :: .inr (some a) :: st) h Q := by
  obtain ⟨e1, e2⟩ := pw_inb_n hi hj hn
  subst hh
  exact pr_step ho rfl rfl (by simp only [pw_step]; rw [ha]; dsimp only; rw [if_pos ⟨rfl, e1, hx⟩, e2]) k
theorem pr_aald {a g n : Nat} {f : Nat → Option Nat} {i : Int32} (j : Nat) (ho : pw_op M pc = some (.aaload, np, t, q)) (ha : h[a]? = some (.inr (.inl (g, n, f)))) (hn : n < 2147483648) (hi : i = nI j) (hj : j < n) (k : pw_W d M np L (.inr (f j) :: st) h Q) : pw_W d M pc L (.inl i :: .inr (some a) :: st) h Q := by
  obtain ⟨h1, h2⟩ := pw_inb_n hi hj hn
  exact pr_step ho rfl rfl (by simp only [pw_step]; rw [ha]; dsimp only; rw [if_pos h1, h2]) k
theorem pr_aast {a g n v : Nat} {f : Nat → Option Nat} {vs : List pw_V} {i : Int32} {h1 : pw_H} (j : Nat) (ho : pw_op M pc = some (.aastore, np, t, q)) (ha : h[a]? = some (.inr (.inl (g, n, f)))) (hv : h[v]? = some (.inr (.inr (g, vs)))) (hn : n < 2147483648) (hi : i = nI j) (hj : j < n) (hh : h.set a (.inr (.inl (g, n, va_up f j (some v)))) = h1) (k : pw_W d M np L st h1 Q) : pw_W d M pc L (.inr (some v) :: .inl i :: .inr (some a) :: st) h Q := by
  obtain ⟨e1, e2⟩ := pw_inb_n hi hj hn
  subst hh
  exact pr_step ho rfl rfl (by simp only [pw_step]; rw [ha, hv]; dsimp only; rw [if_pos ⟨rfl, e1⟩, e2]) k
theorem pr_alen {a g n : Nat} {f : Nat → Int32} (ho : pw_op M pc = some (.arraylength, np, t, q)) (ha : h[a]? = some (.inl (g, n, f))) (k : pw_W d M np L (.inl (nI n) :: st) h Q) : pw_W d M pc L (.inr (some a) :: st) h Q :=
  pr_step ho rfl rfl (by simp only [pw_step]; rw [ha]; rfl) k
theorem pr_newi {ty : ArrayType} {n : Int32} {h1 : pw_H} (m a : Nat) (ho : pw_op M pc = some (.newarray ty, np, t, q)) (hn : n = nI m) (hm : m ≤ 100000) (ha : h.length = a) (hh : h ++ [.inl (t, m, fun _ => 0)] = h1) (k : pw_W d M np L (.inr (some a) :: st) h1 Q) : pw_W d M pc L (.inl n :: st) h Q := by
  subst hn
  subst ha
  subst hh
  have h1 := nI_toInt (n := m) (by omega)
  have h2 := nI_clamp (n := m) (by omega)
  exact pr_step ho rfl rfl (by simp only [pw_step]; rw [if_pos (by rw [h1]; omega), h2]) k
theorem pr_newr {ix : Nat} {n : Int32} {h1 : pw_H} (m a : Nat) (ho : pw_op M pc = some (.anewarray ix, np, t, q)) (hn : n = nI m) (hm : m ≤ 100000) (ha : h.length = a) (hh : h ++ [.inr (.inl (t, m, fun _ => none))] = h1) (k : pw_W d M np L (.inr (some a) :: st) h1 Q) : pw_W d M pc L (.inl n :: st) h Q := by
  subst hn
  subst ha
  subst hh
  have h1 := nI_toInt (n := m) (by omega)
  have h2 := nI_clamp (n := m) (by omega)
  exact pr_step ho rfl rfl (by simp only [pw_step]; rw [if_pos (by rw [h1]; omega), h2]) k
theorem pr_new {ix : Nat} {h1 : pw_H} (a : Nat) (ho : pw_op M pc = some (.new ix, np, t, q)) (ha : h.length = a) (hh : h ++ [.inr (.inr (t, pw_def t))] = h1) (k : pw_W d M np L (.inr (some a) :: st) h1 Q) : pw_W d M pc L st h Q := by
  subst ha
  subst hh
  exact pr_step ho rfl rfl rfl k
theorem pr_switch {x : Int32} {df lo hi : Int} {offs : Array Int} (ho : pw_op M pc = some (.tableswitch df lo hi offs, np, t, q)) (kout : x.toInt < lo ∨ hi < x.toInt → pw_W d M t L st h Q) (kin : ∀ (j u : Nat), x.toInt = lo + j → q[j]? = some u → ¬ (x.toInt < lo ∨ hi < x.toInt) → pw_W d M u L st h Q) (hq : (hi - lo).toNat < q.length) : pw_W d M pc L (.inl x :: st) h Q := by
  by_cases hx : x.toInt < lo ∨ hi < x.toInt
  · exact pr_step ho rfl rfl (by simp only [pw_step]; rw [if_pos hx]) (kout hx)
  · have hj : (x.toInt - lo).toNat < q.length := by omega
    have e1 : q[(x.toInt - lo).toNat]? = some q[(x.toInt - lo).toNat] := List.getElem?_eq_getElem hj
    refine pr_step ho rfl rfl (by simp only [pw_step]; rw [if_neg hx, e1]) (kin (x.toInt - lo).toNat _ (by omega) e1 hx)
end PWR
