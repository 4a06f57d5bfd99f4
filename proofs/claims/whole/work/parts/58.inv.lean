/-- the class's part and the model's part of the heap tell the same -/
def bw_inv (zc : Nat → Int32) (e3 e11 e18 : Nat) (zm : Nat → Int32) (A : Nat → Nat → Int32) (g gh : Nat → Option Nat) (dy : pw_H) (P Y S W K : Nat) (ns : Nat → Nat) (vs : Nat → Nat → Nat) : Prop :=
  (zm 0 = nI P) ∧
  (P ≤ 4) ∧
  (zc 1 = nI P) ∧
  (zm 11 = nI Y) ∧
  (Y ≤ 300) ∧
  (zc 3 = nI Y) ∧
  (zm 12 = nI S) ∧
  (S ≤ 12) ∧
  (zc 7 = nI S) ∧
  (zm 16 = nI e11) ∧
  (e11 ≤ 60) ∧
  (zm 21 = nI W) ∧
  (W ≤ 20) ∧
  (zc 10 = nI W) ∧
  (zm 23 = nI K) ∧
  (K ≤ 6) ∧
  (zc 12 = nI K) ∧
  (zm 7 = nI e3) ∧
  (e3 ≤ 12) ∧
  (zm 30 = nI e18) ∧
  (e18 ≤ 10) ∧
  (zc 14 = zm 34) ∧
  (A 8 = A 36) ∧
  (A 9 = A 35) ∧
  (A 10 = A 37) ∧
  (A 12 = A 38) ∧
  (A 13 = A 39) ∧
  (A 14 = A 40) ∧
  (A 15 = A 41) ∧
  (A 16 = A 42) ∧
  (A 4 = A 33) ∧
  (A 5 = A 32) ∧
  (A 7 = A 34) ∧
  (A 19 = A 49) ∧
  (A 20 = A 50) ∧
  (A 22 = A 51) ∧
  (∀ i, i < e11 → 0 ≤ (A 39 i).toInt) ∧
  (∀ i, i < S → 0 ≤ (A 35 i).toInt ∧ (A 35 i).toInt ≤ (Y : Int)) ∧
  (∀ i, i < S → (A 37 i).toInt ≤ (Y : Int)) ∧
  (∀ i, i < W → 0 ≤ (A 42 i).toInt ∧ (A 42 i).toInt ≤ 300) ∧
  (∀ i, i < e3 → 0 ≤ (A 32 i).toInt) ∧
  (∀ i, i < e3 → ∃ p, p < 4 ∧ A 34 i = nI p) ∧
  (∀ i, i < e18 → 0 ≤ (A 50 i).toInt) ∧
  (∀ i, i < e3 → (A 6 i).toInt ≤ 300) ∧
  (∀ i, i < e18 → (A 21 i).toInt ≤ 300) ∧
  (∀ j, j < P → md_par A j (ns j)) ∧
  (∀ j, j < P → pa_ok g dy A ns j) ∧
  (∀ j, P ≤ j → j < 4 → g j = none) ∧
  (∀ i j, i < P → j < P → g i = g j → i = j) ∧
  (∀ j, P ≤ j → j < 4 → A 28 j = 0) ∧
  (ho_ok gh dy K vs) ∧
  (∀ j, j < K → md_hou A j (vs j)) ∧
  (∀ j, K ≤ j → j < 6 → gh j = none) ∧
  (dy.length ≤ 6 * P + K) ∧
  (∀ c, c ∈ dy → pw_sz c ≤ 12)
theorem bw_inv.hP {zc : Nat → Int32} {e3 e11 e18 : Nat} {zm : Nat → Int32} {A : Nat → Nat → Int32} {g gh : Nat → Option Nat} {dy : pw_H} {P Y S W K : Nat} {ns : Nat → Nat} {vs : Nat → Nat → Nat} (h : bw_inv zc e3 e11 e18 zm A g gh dy P Y S W K ns vs) : zm 0 = nI P := h.1
theorem bw_inv.hPb {zc : Nat → Int32} {e3 e11 e18 : Nat} {zm : Nat → Int32} {A : Nat → Nat → Int32} {g gh : Nat → Option Nat} {dy : pw_H} {P Y S W K : Nat} {ns : Nat → Nat} {vs : Nat → Nat → Nat} (h : bw_inv zc e3 e11 e18 zm A g gh dy P Y S W K ns vs) : P ≤ 4 := h.2.1
theorem bw_inv.hPc {zc : Nat → Int32} {e3 e11 e18 : Nat} {zm : Nat → Int32} {A : Nat → Nat → Int32} {g gh : Nat → Option Nat} {dy : pw_H} {P Y S W K : Nat} {ns : Nat → Nat} {vs : Nat → Nat → Nat} (h : bw_inv zc e3 e11 e18 zm A g gh dy P Y S W K ns vs) : zc 1 = nI P := h.2.2.1
theorem bw_inv.hY {zc : Nat → Int32} {e3 e11 e18 : Nat} {zm : Nat → Int32} {A : Nat → Nat → Int32} {g gh : Nat → Option Nat} {dy : pw_H} {P Y S W K : Nat} {ns : Nat → Nat} {vs : Nat → Nat → Nat} (h : bw_inv zc e3 e11 e18 zm A g gh dy P Y S W K ns vs) : zm 11 = nI Y := h.2.2.2.1
theorem bw_inv.hYb {zc : Nat → Int32} {e3 e11 e18 : Nat} {zm : Nat → Int32} {A : Nat → Nat → Int32} {g gh : Nat → Option Nat} {dy : pw_H} {P Y S W K : Nat} {ns : Nat → Nat} {vs : Nat → Nat → Nat} (h : bw_inv zc e3 e11 e18 zm A g gh dy P Y S W K ns vs) : Y ≤ 300 := h.2.2.2.2.1
theorem bw_inv.hYc {zc : Nat → Int32} {e3 e11 e18 : Nat} {zm : Nat → Int32} {A : Nat → Nat → Int32} {g gh : Nat → Option Nat} {dy : pw_H} {P Y S W K : Nat} {ns : Nat → Nat} {vs : Nat → Nat → Nat} (h : bw_inv zc e3 e11 e18 zm A g gh dy P Y S W K ns vs) : zc 3 = nI Y := h.2.2.2.2.2.1
theorem bw_inv.hS {zc : Nat → Int32} {e3 e11 e18 : Nat} {zm : Nat → Int32} {A : Nat → Nat → Int32} {g gh : Nat → Option Nat} {dy : pw_H} {P Y S W K : Nat} {ns : Nat → Nat} {vs : Nat → Nat → Nat} (h : bw_inv zc e3 e11 e18 zm A g gh dy P Y S W K ns vs) : zm 12 = nI S := h.2.2.2.2.2.2.1
theorem bw_inv.hSb {zc : Nat → Int32} {e3 e11 e18 : Nat} {zm : Nat → Int32} {A : Nat → Nat → Int32} {g gh : Nat → Option Nat} {dy : pw_H} {P Y S W K : Nat} {ns : Nat → Nat} {vs : Nat → Nat → Nat} (h : bw_inv zc e3 e11 e18 zm A g gh dy P Y S W K ns vs) : S ≤ 12 := h.2.2.2.2.2.2.2.1
theorem bw_inv.hSc {zc : Nat → Int32} {e3 e11 e18 : Nat} {zm : Nat → Int32} {A : Nat → Nat → Int32} {g gh : Nat → Option Nat} {dy : pw_H} {P Y S W K : Nat} {ns : Nat → Nat} {vs : Nat → Nat → Nat} (h : bw_inv zc e3 e11 e18 zm A g gh dy P Y S W K ns vs) : zc 7 = nI S := h.2.2.2.2.2.2.2.2.1
theorem bw_inv.hT {zc : Nat → Int32} {e3 e11 e18 : Nat} {zm : Nat → Int32} {A : Nat → Nat → Int32} {g gh : Nat → Option Nat} {dy : pw_H} {P Y S W K : Nat} {ns : Nat → Nat} {vs : Nat → Nat → Nat} (h : bw_inv zc e3 e11 e18 zm A g gh dy P Y S W K ns vs) : zm 16 = nI e11 := h.2.2.2.2.2.2.2.2.2.1
theorem bw_inv.hTb {zc : Nat → Int32} {e3 e11 e18 : Nat} {zm : Nat → Int32} {A : Nat → Nat → Int32} {g gh : Nat → Option Nat} {dy : pw_H} {P Y S W K : Nat} {ns : Nat → Nat} {vs : Nat → Nat → Nat} (h : bw_inv zc e3 e11 e18 zm A g gh dy P Y S W K ns vs) : e11 ≤ 60 := h.2.2.2.2.2.2.2.2.2.2.1
theorem bw_inv.hW {zc : Nat → Int32} {e3 e11 e18 : Nat} {zm : Nat → Int32} {A : Nat → Nat → Int32} {g gh : Nat → Option Nat} {dy : pw_H} {P Y S W K : Nat} {ns : Nat → Nat} {vs : Nat → Nat → Nat} (h : bw_inv zc e3 e11 e18 zm A g gh dy P Y S W K ns vs) : zm 21 = nI W := h.2.2.2.2.2.2.2.2.2.2.2.1
theorem bw_inv.hWb {zc : Nat → Int32} {e3 e11 e18 : Nat} {zm : Nat → Int32} {A : Nat → Nat → Int32} {g gh : Nat → Option Nat} {dy : pw_H} {P Y S W K : Nat} {ns : Nat → Nat} {vs : Nat → Nat → Nat} (h : bw_inv zc e3 e11 e18 zm A g gh dy P Y S W K ns vs) : W ≤ 20 := h.2.2.2.2.2.2.2.2.2.2.2.2.1
theorem bw_inv.hWc {zc : Nat → Int32} {e3 e11 e18 : Nat} {zm : Nat → Int32} {A : Nat → Nat → Int32} {g gh : Nat → Option Nat} {dy : pw_H} {P Y S W K : Nat} {ns : Nat → Nat} {vs : Nat → Nat → Nat} (h : bw_inv zc e3 e11 e18 zm A g gh dy P Y S W K ns vs) : zc 10 = nI W := h.2.2.2.2.2.2.2.2.2.2.2.2.2.1
theorem bw_inv.hK {zc : Nat → Int32} {e3 e11 e18 : Nat} {zm : Nat → Int32} {A : Nat → Nat → Int32} {g gh : Nat → Option Nat} {dy : pw_H} {P Y S W K : Nat} {ns : Nat → Nat} {vs : Nat → Nat → Nat} (h : bw_inv zc e3 e11 e18 zm A g gh dy P Y S W K ns vs) : zm 23 = nI K := h.2.2.2.2.2.2.2.2.2.2.2.2.2.2.1
theorem bw_inv.hKb {zc : Nat → Int32} {e3 e11 e18 : Nat} {zm : Nat → Int32} {A : Nat → Nat → Int32} {g gh : Nat → Option Nat} {dy : pw_H} {P Y S W K : Nat} {ns : Nat → Nat} {vs : Nat → Nat → Nat} (h : bw_inv zc e3 e11 e18 zm A g gh dy P Y S W K ns vs) : K ≤ 6 := h.2.2.2.2.2.2.2.2.2.2.2.2.2.2.2.1
theorem bw_inv.hKc {zc : Nat → Int32} {e3 e11 e18 : Nat} {zm : Nat → Int32} {A : Nat → Nat → Int32} {g gh : Nat → Option Nat} {dy : pw_H} {P Y S W K : Nat} {ns : Nat → Nat} {vs : Nat → Nat → Nat} (h : bw_inv zc e3 e11 e18 zm A g gh dy P Y S W K ns vs) : zc 12 = nI K := h.2.2.2.2.2.2.2.2.2.2.2.2.2.2.2.2.1
theorem bw_inv.hE {zc : Nat → Int32} {e3 e11 e18 : Nat} {zm : Nat → Int32} {A : Nat → Nat → Int32} {g gh : Nat → Option Nat} {dy : pw_H} {P Y S W K : Nat} {ns : Nat → Nat} {vs : Nat → Nat → Nat} (h : bw_inv zc e3 e11 e18 zm A g gh dy P Y S W K ns vs) : zm 7 = nI e3 := h.2.2.2.2.2.2.2.2.2.2.2.2.2.2.2.2.2.1
theorem bw_inv.hEb {zc : Nat → Int32} {e3 e11 e18 : Nat} {zm : Nat → Int32} {A : Nat → Nat → Int32} {g gh : Nat → Option Nat} {dy : pw_H} {P Y S W K : Nat} {ns : Nat → Nat} {vs : Nat → Nat → Nat} (h : bw_inv zc e3 e11 e18 zm A g gh dy P Y S W K ns vs) : e3 ≤ 12 := h.2.2.2.2.2.2.2.2.2.2.2.2.2.2.2.2.2.2.1
theorem bw_inv.hU {zc : Nat → Int32} {e3 e11 e18 : Nat} {zm : Nat → Int32} {A : Nat → Nat → Int32} {g gh : Nat → Option Nat} {dy : pw_H} {P Y S W K : Nat} {ns : Nat → Nat} {vs : Nat → Nat → Nat} (h : bw_inv zc e3 e11 e18 zm A g gh dy P Y S W K ns vs) : zm 30 = nI e18 := h.2.2.2.2.2.2.2.2.2.2.2.2.2.2.2.2.2.2.2.1
theorem bw_inv.hUb {zc : Nat → Int32} {e3 e11 e18 : Nat} {zm : Nat → Int32} {A : Nat → Nat → Int32} {g gh : Nat → Option Nat} {dy : pw_H} {P Y S W K : Nat} {ns : Nat → Nat} {vs : Nat → Nat → Nat} (h : bw_inv zc e3 e11 e18 zm A g gh dy P Y S W K ns vs) : e18 ≤ 10 := h.2.2.2.2.2.2.2.2.2.2.2.2.2.2.2.2.2.2.2.2.1
theorem bw_inv.hG {zc : Nat → Int32} {e3 e11 e18 : Nat} {zm : Nat → Int32} {A : Nat → Nat → Int32} {g gh : Nat → Option Nat} {dy : pw_H} {P Y S W K : Nat} {ns : Nat → Nat} {vs : Nat → Nat → Nat} (h : bw_inv zc e3 e11 e18 zm A g gh dy P Y S W K ns vs) : zc 14 = zm 34 := h.2.2.2.2.2.2.2.2.2.2.2.2.2.2.2.2.2.2.2.2.2.1
theorem bw_inv.r8 {zc : Nat → Int32} {e3 e11 e18 : Nat} {zm : Nat → Int32} {A : Nat → Nat → Int32} {g gh : Nat → Option Nat} {dy : pw_H} {P Y S W K : Nat} {ns : Nat → Nat} {vs : Nat → Nat → Nat} (h : bw_inv zc e3 e11 e18 zm A g gh dy P Y S W K ns vs) : A 8 = A 36 := h.2.2.2.2.2.2.2.2.2.2.2.2.2.2.2.2.2.2.2.2.2.2.1
theorem bw_inv.r9 {zc : Nat → Int32} {e3 e11 e18 : Nat} {zm : Nat → Int32} {A : Nat → Nat → Int32} {g gh : Nat → Option Nat} {dy : pw_H} {P Y S W K : Nat} {ns : Nat → Nat} {vs : Nat → Nat → Nat} (h : bw_inv zc e3 e11 e18 zm A g gh dy P Y S W K ns vs) : A 9 = A 35 := h.2.2.2.2.2.2.2.2.2.2.2.2.2.2.2.2.2.2.2.2.2.2.2.1
theorem bw_inv.r10 {zc : Nat → Int32} {e3 e11 e18 : Nat} {zm : Nat → Int32} {A : Nat → Nat → Int32} {g gh : Nat → Option Nat} {dy : pw_H} {P Y S W K : Nat} {ns : Nat → Nat} {vs : Nat → Nat → Nat} (h : bw_inv zc e3 e11 e18 zm A g gh dy P Y S W K ns vs) : A 10 = A 37 := h.2.2.2.2.2.2.2.2.2.2.2.2.2.2.2.2.2.2.2.2.2.2.2.2.1
theorem bw_inv.r12 {zc : Nat → Int32} {e3 e11 e18 : Nat} {zm : Nat → Int32} {A : Nat → Nat → Int32} {g gh : Nat → Option Nat} {dy : pw_H} {P Y S W K : Nat} {ns : Nat → Nat} {vs : Nat → Nat → Nat} (h : bw_inv zc e3 e11 e18 zm A g gh dy P Y S W K ns vs) : A 12 = A 38 := h.2.2.2.2.2.2.2.2.2.2.2.2.2.2.2.2.2.2.2.2.2.2.2.2.2.1
theorem bw_inv.r13 {zc : Nat → Int32} {e3 e11 e18 : Nat} {zm : Nat → Int32} {A : Nat → Nat → Int32} {g gh : Nat → Option Nat} {dy : pw_H} {P Y S W K : Nat} {ns : Nat → Nat} {vs : Nat → Nat → Nat} (h : bw_inv zc e3 e11 e18 zm A g gh dy P Y S W K ns vs) : A 13 = A 39 := h.2.2.2.2.2.2.2.2.2.2.2.2.2.2.2.2.2.2.2.2.2.2.2.2.2.2.1
theorem bw_inv.r14 {zc : Nat → Int32} {e3 e11 e18 : Nat} {zm : Nat → Int32} {A : Nat → Nat → Int32} {g gh : Nat → Option Nat} {dy : pw_H} {P Y S W K : Nat} {ns : Nat → Nat} {vs : Nat → Nat → Nat} (h : bw_inv zc e3 e11 e18 zm A g gh dy P Y S W K ns vs) : A 14 = A 40 := h.2.2.2.2.2.2.2.2.2.2.2.2.2.2.2.2.2.2.2.2.2.2.2.2.2.2.2.1
theorem bw_inv.r15 {zc : Nat → Int32} {e3 e11 e18 : Nat} {zm : Nat → Int32} {A : Nat → Nat → Int32} {g gh : Nat → Option Nat} {dy : pw_H} {P Y S W K : Nat} {ns : Nat → Nat} {vs : Nat → Nat → Nat} (h : bw_inv zc e3 e11 e18 zm A g gh dy P Y S W K ns vs) : A 15 = A 41 := h.2.2.2.2.2.2.2.2.2.2.2.2.2.2.2.2.2.2.2.2.2.2.2.2.2.2.2.2.1
theorem bw_inv.r16 {zc : Nat → Int32} {e3 e11 e18 : Nat} {zm : Nat → Int32} {A : Nat → Nat → Int32} {g gh : Nat → Option Nat} {dy : pw_H} {P Y S W K : Nat} {ns : Nat → Nat} {vs : Nat → Nat → Nat} (h : bw_inv zc e3 e11 e18 zm A g gh dy P Y S W K ns vs) : A 16 = A 42 := h.2.2.2.2.2.2.2.2.2.2.2.2.2.2.2.2.2.2.2.2.2.2.2.2.2.2.2.2.2.1
theorem bw_inv.r4 {zc : Nat → Int32} {e3 e11 e18 : Nat} {zm : Nat → Int32} {A : Nat → Nat → Int32} {g gh : Nat → Option Nat} {dy : pw_H} {P Y S W K : Nat} {ns : Nat → Nat} {vs : Nat → Nat → Nat} (h : bw_inv zc e3 e11 e18 zm A g gh dy P Y S W K ns vs) : A 4 = A 33 := h.2.2.2.2.2.2.2.2.2.2.2.2.2.2.2.2.2.2.2.2.2.2.2.2.2.2.2.2.2.2.1
theorem bw_inv.r5 {zc : Nat → Int32} {e3 e11 e18 : Nat} {zm : Nat → Int32} {A : Nat → Nat → Int32} {g gh : Nat → Option Nat} {dy : pw_H} {P Y S W K : Nat} {ns : Nat → Nat} {vs : Nat → Nat → Nat} (h : bw_inv zc e3 e11 e18 zm A g gh dy P Y S W K ns vs) : A 5 = A 32 := h.2.2.2.2.2.2.2.2.2.2.2.2.2.2.2.2.2.2.2.2.2.2.2.2.2.2.2.2.2.2.2.1
theorem bw_inv.r7 {zc : Nat → Int32} {e3 e11 e18 : Nat} {zm : Nat → Int32} {A : Nat → Nat → Int32} {g gh : Nat → Option Nat} {dy : pw_H} {P Y S W K : Nat} {ns : Nat → Nat} {vs : Nat → Nat → Nat} (h : bw_inv zc e3 e11 e18 zm A g gh dy P Y S W K ns vs) : A 7 = A 34 := h.2.2.2.2.2.2.2.2.2.2.2.2.2.2.2.2.2.2.2.2.2.2.2.2.2.2.2.2.2.2.2.2.1
theorem bw_inv.r19 {zc : Nat → Int32} {e3 e11 e18 : Nat} {zm : Nat → Int32} {A : Nat → Nat → Int32} {g gh : Nat → Option Nat} {dy : pw_H} {P Y S W K : Nat} {ns : Nat → Nat} {vs : Nat → Nat → Nat} (h : bw_inv zc e3 e11 e18 zm A g gh dy P Y S W K ns vs) : A 19 = A 49 := h.2.2.2.2.2.2.2.2.2.2.2.2.2.2.2.2.2.2.2.2.2.2.2.2.2.2.2.2.2.2.2.2.2.1
theorem bw_inv.r20 {zc : Nat → Int32} {e3 e11 e18 : Nat} {zm : Nat → Int32} {A : Nat → Nat → Int32} {g gh : Nat → Option Nat} {dy : pw_H} {P Y S W K : Nat} {ns : Nat → Nat} {vs : Nat → Nat → Nat} (h : bw_inv zc e3 e11 e18 zm A g gh dy P Y S W K ns vs) : A 20 = A 50 := h.2.2.2.2.2.2.2.2.2.2.2.2.2.2.2.2.2.2.2.2.2.2.2.2.2.2.2.2.2.2.2.2.2.2.1
theorem bw_inv.r22 {zc : Nat → Int32} {e3 e11 e18 : Nat} {zm : Nat → Int32} {A : Nat → Nat → Int32} {g gh : Nat → Option Nat} {dy : pw_H} {P Y S W K : Nat} {ns : Nat → Nat} {vs : Nat → Nat → Nat} (h : bw_inv zc e3 e11 e18 zm A g gh dy P Y S W K ns vs) : A 22 = A 51 := h.2.2.2.2.2.2.2.2.2.2.2.2.2.2.2.2.2.2.2.2.2.2.2.2.2.2.2.2.2.2.2.2.2.2.2.1
theorem bw_inv.b39 {zc : Nat → Int32} {e3 e11 e18 : Nat} {zm : Nat → Int32} {A : Nat → Nat → Int32} {g gh : Nat → Option Nat} {dy : pw_H} {P Y S W K : Nat} {ns : Nat → Nat} {vs : Nat → Nat → Nat} (h : bw_inv zc e3 e11 e18 zm A g gh dy P Y S W K ns vs) : ∀ i, i < e11 → 0 ≤ (A 39 i).toInt := h.2.2.2.2.2.2.2.2.2.2.2.2.2.2.2.2.2.2.2.2.2.2.2.2.2.2.2.2.2.2.2.2.2.2.2.2.1
theorem bw_inv.b35 {zc : Nat → Int32} {e3 e11 e18 : Nat} {zm : Nat → Int32} {A : Nat → Nat → Int32} {g gh : Nat → Option Nat} {dy : pw_H} {P Y S W K : Nat} {ns : Nat → Nat} {vs : Nat → Nat → Nat} (h : bw_inv zc e3 e11 e18 zm A g gh dy P Y S W K ns vs) : ∀ i, i < S → 0 ≤ (A 35 i).toInt ∧ (A 35 i).toInt ≤ (Y : Int) := h.2.2.2.2.2.2.2.2.2.2.2.2.2.2.2.2.2.2.2.2.2.2.2.2.2.2.2.2.2.2.2.2.2.2.2.2.2.1
theorem bw_inv.b37 {zc : Nat → Int32} {e3 e11 e18 : Nat} {zm : Nat → Int32} {A : Nat → Nat → Int32} {g gh : Nat → Option Nat} {dy : pw_H} {P Y S W K : Nat} {ns : Nat → Nat} {vs : Nat → Nat → Nat} (h : bw_inv zc e3 e11 e18 zm A g gh dy P Y S W K ns vs) : ∀ i, i < S → (A 37 i).toInt ≤ (Y : Int) := h.2.2.2.2.2.2.2.2.2.2.2.2.2.2.2.2.2.2.2.2.2.2.2.2.2.2.2.2.2.2.2.2.2.2.2.2.2.2.1
theorem bw_inv.b42 {zc : Nat → Int32} {e3 e11 e18 : Nat} {zm : Nat → Int32} {A : Nat → Nat → Int32} {g gh : Nat → Option Nat} {dy : pw_H} {P Y S W K : Nat} {ns : Nat → Nat} {vs : Nat → Nat → Nat} (h : bw_inv zc e3 e11 e18 zm A g gh dy P Y S W K ns vs) : ∀ i, i < W → 0 ≤ (A 42 i).toInt ∧ (A 42 i).toInt ≤ 300 := h.2.2.2.2.2.2.2.2.2.2.2.2.2.2.2.2.2.2.2.2.2.2.2.2.2.2.2.2.2.2.2.2.2.2.2.2.2.2.2.1
theorem bw_inv.b32 {zc : Nat → Int32} {e3 e11 e18 : Nat} {zm : Nat → Int32} {A : Nat → Nat → Int32} {g gh : Nat → Option Nat} {dy : pw_H} {P Y S W K : Nat} {ns : Nat → Nat} {vs : Nat → Nat → Nat} (h : bw_inv zc e3 e11 e18 zm A g gh dy P Y S W K ns vs) : ∀ i, i < e3 → 0 ≤ (A 32 i).toInt := h.2.2.2.2.2.2.2.2.2.2.2.2.2.2.2.2.2.2.2.2.2.2.2.2.2.2.2.2.2.2.2.2.2.2.2.2.2.2.2.2.1
theorem bw_inv.b34 {zc : Nat → Int32} {e3 e11 e18 : Nat} {zm : Nat → Int32} {A : Nat → Nat → Int32} {g gh : Nat → Option Nat} {dy : pw_H} {P Y S W K : Nat} {ns : Nat → Nat} {vs : Nat → Nat → Nat} (h : bw_inv zc e3 e11 e18 zm A g gh dy P Y S W K ns vs) : ∀ i, i < e3 → ∃ p, p < 4 ∧ A 34 i = nI p := h.2.2.2.2.2.2.2.2.2.2.2.2.2.2.2.2.2.2.2.2.2.2.2.2.2.2.2.2.2.2.2.2.2.2.2.2.2.2.2.2.2.1
theorem bw_inv.b50 {zc : Nat → Int32} {e3 e11 e18 : Nat} {zm : Nat → Int32} {A : Nat → Nat → Int32} {g gh : Nat → Option Nat} {dy : pw_H} {P Y S W K : Nat} {ns : Nat → Nat} {vs : Nat → Nat → Nat} (h : bw_inv zc e3 e11 e18 zm A g gh dy P Y S W K ns vs) : ∀ i, i < e18 → 0 ≤ (A 50 i).toInt := h.2.2.2.2.2.2.2.2.2.2.2.2.2.2.2.2.2.2.2.2.2.2.2.2.2.2.2.2.2.2.2.2.2.2.2.2.2.2.2.2.2.2.1
theorem bw_inv.b6 {zc : Nat → Int32} {e3 e11 e18 : Nat} {zm : Nat → Int32} {A : Nat → Nat → Int32} {g gh : Nat → Option Nat} {dy : pw_H} {P Y S W K : Nat} {ns : Nat → Nat} {vs : Nat → Nat → Nat} (h : bw_inv zc e3 e11 e18 zm A g gh dy P Y S W K ns vs) : ∀ i, i < e3 → (A 6 i).toInt ≤ 300 := h.2.2.2.2.2.2.2.2.2.2.2.2.2.2.2.2.2.2.2.2.2.2.2.2.2.2.2.2.2.2.2.2.2.2.2.2.2.2.2.2.2.2.2.1
theorem bw_inv.b21 {zc : Nat → Int32} {e3 e11 e18 : Nat} {zm : Nat → Int32} {A : Nat → Nat → Int32} {g gh : Nat → Option Nat} {dy : pw_H} {P Y S W K : Nat} {ns : Nat → Nat} {vs : Nat → Nat → Nat} (h : bw_inv zc e3 e11 e18 zm A g gh dy P Y S W K ns vs) : ∀ i, i < e18 → (A 21 i).toInt ≤ 300 := h.2.2.2.2.2.2.2.2.2.2.2.2.2.2.2.2.2.2.2.2.2.2.2.2.2.2.2.2.2.2.2.2.2.2.2.2.2.2.2.2.2.2.2.2.1
theorem bw_inv.hpar {zc : Nat → Int32} {e3 e11 e18 : Nat} {zm : Nat → Int32} {A : Nat → Nat → Int32} {g gh : Nat → Option Nat} {dy : pw_H} {P Y S W K : Nat} {ns : Nat → Nat} {vs : Nat → Nat → Nat} (h : bw_inv zc e3 e11 e18 zm A g gh dy P Y S W K ns vs) : ∀ j, j < P → md_par A j (ns j) := h.2.2.2.2.2.2.2.2.2.2.2.2.2.2.2.2.2.2.2.2.2.2.2.2.2.2.2.2.2.2.2.2.2.2.2.2.2.2.2.2.2.2.2.2.2.1
theorem bw_inv.hwk {zc : Nat → Int32} {e3 e11 e18 : Nat} {zm : Nat → Int32} {A : Nat → Nat → Int32} {g gh : Nat → Option Nat} {dy : pw_H} {P Y S W K : Nat} {ns : Nat → Nat} {vs : Nat → Nat → Nat} (h : bw_inv zc e3 e11 e18 zm A g gh dy P Y S W K ns vs) : ∀ j, j < P → pa_ok g dy A ns j := h.2.2.2.2.2.2.2.2.2.2.2.2.2.2.2.2.2.2.2.2.2.2.2.2.2.2.2.2.2.2.2.2.2.2.2.2.2.2.2.2.2.2.2.2.2.2.1
theorem bw_inv.hgn {zc : Nat → Int32} {e3 e11 e18 : Nat} {zm : Nat → Int32} {A : Nat → Nat → Int32} {g gh : Nat → Option Nat} {dy : pw_H} {P Y S W K : Nat} {ns : Nat → Nat} {vs : Nat → Nat → Nat} (h : bw_inv zc e3 e11 e18 zm A g gh dy P Y S W K ns vs) : ∀ j, P ≤ j → j < 4 → g j = none := h.2.2.2.2.2.2.2.2.2.2.2.2.2.2.2.2.2.2.2.2.2.2.2.2.2.2.2.2.2.2.2.2.2.2.2.2.2.2.2.2.2.2.2.2.2.2.2.1
theorem bw_inv.hgi {zc : Nat → Int32} {e3 e11 e18 : Nat} {zm : Nat → Int32} {A : Nat → Nat → Int32} {g gh : Nat → Option Nat} {dy : pw_H} {P Y S W K : Nat} {ns : Nat → Nat} {vs : Nat → Nat → Nat} (h : bw_inv zc e3 e11 e18 zm A g gh dy P Y S W K ns vs) : ∀ i j, i < P → j < P → g i = g j → i = j := h.2.2.2.2.2.2.2.2.2.2.2.2.2.2.2.2.2.2.2.2.2.2.2.2.2.2.2.2.2.2.2.2.2.2.2.2.2.2.2.2.2.2.2.2.2.2.2.2.1
theorem bw_inv.h28 {zc : Nat → Int32} {e3 e11 e18 : Nat} {zm : Nat → Int32} {A : Nat → Nat → Int32} {g gh : Nat → Option Nat} {dy : pw_H} {P Y S W K : Nat} {ns : Nat → Nat} {vs : Nat → Nat → Nat} (h : bw_inv zc e3 e11 e18 zm A g gh dy P Y S W K ns vs) : ∀ j, P ≤ j → j < 4 → A 28 j = 0 := h.2.2.2.2.2.2.2.2.2.2.2.2.2.2.2.2.2.2.2.2.2.2.2.2.2.2.2.2.2.2.2.2.2.2.2.2.2.2.2.2.2.2.2.2.2.2.2.2.2.1
theorem bw_inv.hhs {zc : Nat → Int32} {e3 e11 e18 : Nat} {zm : Nat → Int32} {A : Nat → Nat → Int32} {g gh : Nat → Option Nat} {dy : pw_H} {P Y S W K : Nat} {ns : Nat → Nat} {vs : Nat → Nat → Nat} (h : bw_inv zc e3 e11 e18 zm A g gh dy P Y S W K ns vs) : ho_ok gh dy K vs := h.2.2.2.2.2.2.2.2.2.2.2.2.2.2.2.2.2.2.2.2.2.2.2.2.2.2.2.2.2.2.2.2.2.2.2.2.2.2.2.2.2.2.2.2.2.2.2.2.2.2.1
theorem bw_inv.hhm {zc : Nat → Int32} {e3 e11 e18 : Nat} {zm : Nat → Int32} {A : Nat → Nat → Int32} {g gh : Nat → Option Nat} {dy : pw_H} {P Y S W K : Nat} {ns : Nat → Nat} {vs : Nat → Nat → Nat} (h : bw_inv zc e3 e11 e18 zm A g gh dy P Y S W K ns vs) : ∀ j, j < K → md_hou A j (vs j) := h.2.2.2.2.2.2.2.2.2.2.2.2.2.2.2.2.2.2.2.2.2.2.2.2.2.2.2.2.2.2.2.2.2.2.2.2.2.2.2.2.2.2.2.2.2.2.2.2.2.2.2.1
theorem bw_inv.hgh {zc : Nat → Int32} {e3 e11 e18 : Nat} {zm : Nat → Int32} {A : Nat → Nat → Int32} {g gh : Nat → Option Nat} {dy : pw_H} {P Y S W K : Nat} {ns : Nat → Nat} {vs : Nat → Nat → Nat} (h : bw_inv zc e3 e11 e18 zm A g gh dy P Y S W K ns vs) : ∀ j, K ≤ j → j < 6 → gh j = none := h.2.2.2.2.2.2.2.2.2.2.2.2.2.2.2.2.2.2.2.2.2.2.2.2.2.2.2.2.2.2.2.2.2.2.2.2.2.2.2.2.2.2.2.2.2.2.2.2.2.2.2.2.1
theorem bw_inv.hdl {zc : Nat → Int32} {e3 e11 e18 : Nat} {zm : Nat → Int32} {A : Nat → Nat → Int32} {g gh : Nat → Option Nat} {dy : pw_H} {P Y S W K : Nat} {ns : Nat → Nat} {vs : Nat → Nat → Nat} (h : bw_inv zc e3 e11 e18 zm A g gh dy P Y S W K ns vs) : dy.length ≤ 6 * P + K := h.2.2.2.2.2.2.2.2.2.2.2.2.2.2.2.2.2.2.2.2.2.2.2.2.2.2.2.2.2.2.2.2.2.2.2.2.2.2.2.2.2.2.2.2.2.2.2.2.2.2.2.2.2.1
theorem bw_inv.hdz {zc : Nat → Int32} {e3 e11 e18 : Nat} {zm : Nat → Int32} {A : Nat → Nat → Int32} {g gh : Nat → Option Nat} {dy : pw_H} {P Y S W K : Nat} {ns : Nat → Nat} {vs : Nat → Nat → Nat} (h : bw_inv zc e3 e11 e18 zm A g gh dy P Y S W K ns vs) : ∀ c, c ∈ dy → pw_sz c ≤ 12 := h.2.2.2.2.2.2.2.2.2.2.2.2.2.2.2.2.2.2.2.2.2.2.2.2.2.2.2.2.2.2.2.2.2.2.2.2.2.2.2.2.2.2.2.2.2.2.2.2.2.2.2.2.2.2
section IV
variable {zc : Nat → Int32} {e3 e11 e18 : Nat} {zm : Nat → Int32} {A : Nat → Nat → Int32} {g gh : Nat → Option Nat} {dy : pw_H} {P Y S W K : Nat} {ns : Nat → Nat} {vs : Nat → Nat → Nat}
theorem md_par_c {B : Nat → Nat → Int32} {j n : Nat} (h26 : B 26 j = A 26 j) (h27 : B 27 j = A 27 j) (h28 : B 28 j = A 28 j) (h29 : B 29 = A 29) (h30 : B 30 = A 30) (h31 : B 31 = A 31) (h : md_par A j n) : md_par B j n := by
  unfold md_par md_D md_L md_U at *
  rw [h26, h27, h28, h29, h30, h31]
  exact h
theorem pa_ok_c {B : Nat → Nat → Int32} {g2 : Nat → Option Nat} {dy2 : pw_H} {ns2 : Nat → Nat} {j : Nat} (h26 : B 26 j = A 26 j) (h27 : B 27 j = A 27 j) (h29 : ∀ i, i < ns j → B 29 (12 * j + i) = A 29 (12 * j + i)) (h30 : ∀ i, i < ns j → B 30 (12 * j + i) = A 30 (12 * j + i)) (h31 : ∀ i, i < ns j → B 31 (12 * j + i) = A 31 (12 * j + i)) (hg : g2 j = g j) (hn : ns2 j = ns j) (hd : ∀ k x0 y0 D L U C R n hl hr, g j = some (57 + k) → wk_at dy k x0 y0 D L U C R n hl hr → wk_at dy2 k x0 y0 D L U C R n hl hr) (h : pa_ok g dy A ns j) : pa_ok g2 dy2 B ns2 j := by
  obtain ⟨k, D, L, U, C, R, h1, h2, h3, h4⟩ := h
  refine ⟨k, D, L, U, C, R, hg.trans h1, ?_, ?_, ?_⟩
  · rw [h26, h27, hn]
    exact hd _ _ _ _ _ _ _ _ _ _ _ h1 h2
  · rw [h26, h27, hn]
    exact h3
  · intro i hi
    rw [hn] at hi
    rw [h29 i hi, h30 i hi, h31 i hi]
    exact h4 i hi
theorem md_hou_c {B : Nat → Nat → Int32} {j : Nat} {v : Nat → Nat} (h43 : B 43 j = A 43 j) (h44 : B 44 j = A 44 j) (h45 : B 45 j = A 45 j) (h46 : B 46 j = A 46 j) (h47 : B 47 j = A 47 j) (h48 : B 48 j = A 48 j) (h : md_hou A j v) : md_hou B j v := by
  unfold md_hou at *
  rw [h43, h44, h45, h46, h47, h48]
  exact h
theorem iv_A {B : Nat → Nat → Int32} (hB : ∀ k, k < 52 → k ≠ 23 → k ≠ 24 → B k = A k) (h : (bw_inv zc e3 e11 e18 zm A g gh dy P Y S W K ns vs)) : (bw_inv zc e3 e11 e18 zm B g gh dy P Y S W K ns vs) := by
  have e4 : B 4 = A 4 := hB 4 (by decide) (by decide) (by decide)
  have e5 : B 5 = A 5 := hB 5 (by decide) (by decide) (by decide)
  have e6 : B 6 = A 6 := hB 6 (by decide) (by decide) (by decide)
  have e7 : B 7 = A 7 := hB 7 (by decide) (by decide) (by decide)
  have e8 : B 8 = A 8 := hB 8 (by decide) (by decide) (by decide)
  have e9 : B 9 = A 9 := hB 9 (by decide) (by decide) (by decide)
  have e10 : B 10 = A 10 := hB 10 (by decide) (by decide) (by decide)
  have e12 : B 12 = A 12 := hB 12 (by decide) (by decide) (by decide)
  have e13 : B 13 = A 13 := hB 13 (by decide) (by decide) (by decide)
  have e14 : B 14 = A 14 := hB 14 (by decide) (by decide) (by decide)
  have e15 : B 15 = A 15 := hB 15 (by decide) (by decide) (by decide)
  have e16 : B 16 = A 16 := hB 16 (by decide) (by decide) (by decide)
  have e19 : B 19 = A 19 := hB 19 (by decide) (by decide) (by decide)
  have e20 : B 20 = A 20 := hB 20 (by decide) (by decide) (by decide)
  have e21 : B 21 = A 21 := hB 21 (by decide) (by decide) (by decide)
  have e22 : B 22 = A 22 := hB 22 (by decide) (by decide) (by decide)
  have e26 : B 26 = A 26 := hB 26 (by decide) (by decide) (by decide)
  have e27 : B 27 = A 27 := hB 27 (by decide) (by decide) (by decide)
  have e28 : B 28 = A 28 := hB 28 (by decide) (by decide) (by decide)
  have e29 : B 29 = A 29 := hB 29 (by decide) (by decide) (by decide)
  have e30 : B 30 = A 30 := hB 30 (by decide) (by decide) (by decide)
  have e31 : B 31 = A 31 := hB 31 (by decide) (by decide) (by decide)
  have e32 : B 32 = A 32 := hB 32 (by decide) (by decide) (by decide)
  have e33 : B 33 = A 33 := hB 33 (by decide) (by decide) (by decide)
  have e34 : B 34 = A 34 := hB 34 (by decide) (by decide) (by decide)
  have e35 : B 35 = A 35 := hB 35 (by decide) (by decide) (by decide)
  have e36 : B 36 = A 36 := hB 36 (by decide) (by decide) (by decide)
  have e37 : B 37 = A 37 := hB 37 (by decide) (by decide) (by decide)
  have e38 : B 38 = A 38 := hB 38 (by decide) (by decide) (by decide)
  have e39 : B 39 = A 39 := hB 39 (by decide) (by decide) (by decide)
  have e40 : B 40 = A 40 := hB 40 (by decide) (by decide) (by decide)
  have e41 : B 41 = A 41 := hB 41 (by decide) (by decide) (by decide)
  have e42 : B 42 = A 42 := hB 42 (by decide) (by decide) (by decide)
  have e43 : B 43 = A 43 := hB 43 (by decide) (by decide) (by decide)
  have e44 : B 44 = A 44 := hB 44 (by decide) (by decide) (by decide)
  have e45 : B 45 = A 45 := hB 45 (by decide) (by decide) (by decide)
  have e46 : B 46 = A 46 := hB 46 (by decide) (by decide) (by decide)
  have e47 : B 47 = A 47 := hB 47 (by decide) (by decide) (by decide)
  have e48 : B 48 = A 48 := hB 48 (by decide) (by decide) (by decide)
  have e49 : B 49 = A 49 := hB 49 (by decide) (by decide) (by decide)
  have e50 : B 50 = A 50 := hB 50 (by decide) (by decide) (by decide)
  have e51 : B 51 = A 51 := hB 51 (by decide) (by decide) (by decide)
  exact ⟨
    h.hP,
    h.hPb,
    h.hPc,
    h.hY,
    h.hYb,
    h.hYc,
    h.hS,
    h.hSb,
    h.hSc,
    h.hT,
    h.hTb,
    h.hW,
    h.hWb,
    h.hWc,
    h.hK,
    h.hKb,
    h.hKc,
    h.hE,
    h.hEb,
    h.hU,
    h.hUb,
    h.hG,
    (by rw [e8, e36]; exact h.r8),
    (by rw [e9, e35]; exact h.r9),
    (by rw [e10, e37]; exact h.r10),
    (by rw [e12, e38]; exact h.r12),
    (by rw [e13, e39]; exact h.r13),
    (by rw [e14, e40]; exact h.r14),
    (by rw [e15, e41]; exact h.r15),
    (by rw [e16, e42]; exact h.r16),
    (by rw [e4, e33]; exact h.r4),
    (by rw [e5, e32]; exact h.r5),
    (by rw [e7, e34]; exact h.r7),
    (by rw [e19, e49]; exact h.r19),
    (by rw [e20, e50]; exact h.r20),
    (by rw [e22, e51]; exact h.r22),
    (fun i hi => by rw [e39]; exact h.b39 i hi),
    (fun i hi => by rw [e35]; exact h.b35 i hi),
    (fun i hi => by rw [e37]; exact h.b37 i hi),
    (fun i hi => by rw [e42]; exact h.b42 i hi),
    (fun i hi => by rw [e32]; exact h.b32 i hi),
    (fun i hi => by rw [e34]; exact h.b34 i hi),
    (fun i hi => by rw [e50]; exact h.b50 i hi),
    (fun i hi => by rw [e6]; exact h.b6 i hi),
    (fun i hi => by rw [e21]; exact h.b21 i hi),
    (fun j hj => md_par_c (by rw [e26]) (by rw [e27]) (by rw [e28]) e29 e30 e31 (h.hpar j hj)),
    (fun j hj => pa_ok_c (by rw [e26]) (by rw [e27]) (fun i _ => by rw [e29]) (fun i _ => by rw [e30]) (fun i _ => by rw [e31]) rfl rfl (fun _ _ _ _ _ _ _ _ _ _ _ _ hh => hh) (h.hwk j hj)),
    h.hgn,
    h.hgi,
    (fun j h1 h2 => by rw [e28]; exact h.h28 j h1 h2),
    h.hhs,
    (fun j hj => md_hou_c (by rw [e43]) (by rw [e44]) (by rw [e45]) (by rw [e46]) (by rw [e47]) (by rw [e48]) (h.hhm j hj)),
    h.hgh,
    h.hdl,
    h.hdz⟩
theorem iv_years {n : Int32} (h1 : 1 ≤ n.toInt) (h2 : (Y : Int) + n.toInt ≤ 300) (h : (bw_inv zc e3 e11 e18 zm A g gh dy P Y S W K ns vs)) : ∃ Y2, (bw_inv (upd zc 3 (zc 3 + n)) e3 e11 e18 (upd zm 11 (zm 11 + n)) A g gh dy P Y2 S W K ns vs) := by
  obtain ⟨m, rfl, hm, -⟩ := pw_nat (x := n) (by omega)
  refine ⟨Y + m, ?_⟩
  have e : zm 11 + nI m = nI (Y + m) := by rw [h.hY, nI_add]
  have ec : zc 3 + nI m = nI (Y + m) := by rw [h.hYc, nI_add]
  rw [e, ec]
  exact ⟨
    h.hP,
    h.hPb,
    h.hPc,
    rfl,
    (by omega),
    rfl,
    h.hS,
    h.hSb,
    h.hSc,
    h.hT,
    h.hTb,
    h.hW,
    h.hWb,
    h.hWc,
    h.hK,
    h.hKb,
    h.hKc,
    h.hE,
    h.hEb,
    h.hU,
    h.hUb,
    h.hG,
    h.r8,
    h.r9,
    h.r10,
    h.r12,
    h.r13,
    h.r14,
    h.r15,
    h.r16,
    h.r4,
    h.r5,
    h.r7,
    h.r19,
    h.r20,
    h.r22,
    h.b39,
    (fun i hi => by have := h.b35 i hi; omega),
    (fun i hi => by have := h.b37 i hi; omega),
    h.b42,
    h.b32,
    h.b34,
    h.b50,
    h.b6,
    h.b21,
    h.hpar,
    h.hwk,
    h.hgn,
    h.hgi,
    h.h28,
    h.hhs,
    h.hhm,
    h.hgh,
    h.hdl,
    h.hdz⟩
theorem iv_gap {v : Int32} (h : (bw_inv zc e3 e11 e18 zm A g gh dy P Y S W K ns vs)) : (bw_inv (upd zc 14 v) e3 e11 e18 (upd zm 34 v) A g gh dy P Y S W K ns vs) := by
  exact ⟨
    h.hP,
    h.hPb,
    h.hPc,
    h.hY,
    h.hYb,
    h.hYc,
    h.hS,
    h.hSb,
    h.hSc,
    h.hT,
    h.hTb,
    h.hW,
    h.hWb,
    h.hWc,
    h.hK,
    h.hKb,
    h.hKc,
    h.hE,
    h.hEb,
    h.hU,
    h.hUb,
    rfl,
    h.r8,
    h.r9,
    h.r10,
    h.r12,
    h.r13,
    h.r14,
    h.r15,
    h.r16,
    h.r4,
    h.r5,
    h.r7,
    h.r19,
    h.r20,
    h.r22,
    h.b39,
    h.b35,
    h.b37,
    h.b42,
    h.b32,
    h.b34,
    h.b50,
    h.b6,
    h.b21,
    h.hpar,
    h.hwk,
    h.hgn,
    h.hgi,
    h.h28,
    h.hhs,
    h.hhm,
    h.hgh,
    h.hdl,
    h.hdz⟩
theorem iv_stone {B : Nat → Nat → Int32} {v y : Int32} (hy : y = nI Y) (hS : S < 12) (n8 : B 8 = upd (A 8) S v) (n9 : B 9 = upd (A 9) S y) (n10 : B 10 = upd (A 10) S y) (n35 : B 35 = upd (A 35) S y) (n36 : B 36 = upd (A 36) S v) (n37 : B 37 = upd (A 37) S y) (hB : ∀ k, k < 52 → k ≠ 8 → k ≠ 9 → k ≠ 10 → k ≠ 35 → k ≠ 36 → k ≠ 37 → B k = A k) (h : (bw_inv zc e3 e11 e18 zm A g gh dy P Y S W K ns vs)) : (bw_inv (upd zc 7 (nI (S + 1))) e3 e11 e18 (upd zm 12 (nI (S + 1))) B g gh dy P Y (S + 1) W K ns vs) := by
  have e4 : B 4 = A 4 := hB 4 (by decide) (by decide) (by decide) (by decide) (by decide) (by decide) (by decide)
  have e5 : B 5 = A 5 := hB 5 (by decide) (by decide) (by decide) (by decide) (by decide) (by decide) (by decide)
  have e6 : B 6 = A 6 := hB 6 (by decide) (by decide) (by decide) (by decide) (by decide) (by decide) (by decide)
  have e7 : B 7 = A 7 := hB 7 (by decide) (by decide) (by decide) (by decide) (by decide) (by decide) (by decide)
  have e12 : B 12 = A 12 := hB 12 (by decide) (by decide) (by decide) (by decide) (by decide) (by decide) (by decide)
  have e13 : B 13 = A 13 := hB 13 (by decide) (by decide) (by decide) (by decide) (by decide) (by decide) (by decide)
  have e14 : B 14 = A 14 := hB 14 (by decide) (by decide) (by decide) (by decide) (by decide) (by decide) (by decide)
  have e15 : B 15 = A 15 := hB 15 (by decide) (by decide) (by decide) (by decide) (by decide) (by decide) (by decide)
  have e16 : B 16 = A 16 := hB 16 (by decide) (by decide) (by decide) (by decide) (by decide) (by decide) (by decide)
  have e19 : B 19 = A 19 := hB 19 (by decide) (by decide) (by decide) (by decide) (by decide) (by decide) (by decide)
  have e20 : B 20 = A 20 := hB 20 (by decide) (by decide) (by decide) (by decide) (by decide) (by decide) (by decide)
  have e21 : B 21 = A 21 := hB 21 (by decide) (by decide) (by decide) (by decide) (by decide) (by decide) (by decide)
  have e22 : B 22 = A 22 := hB 22 (by decide) (by decide) (by decide) (by decide) (by decide) (by decide) (by decide)
  have e26 : B 26 = A 26 := hB 26 (by decide) (by decide) (by decide) (by decide) (by decide) (by decide) (by decide)
  have e27 : B 27 = A 27 := hB 27 (by decide) (by decide) (by decide) (by decide) (by decide) (by decide) (by decide)
  have e28 : B 28 = A 28 := hB 28 (by decide) (by decide) (by decide) (by decide) (by decide) (by decide) (by decide)
  have e29 : B 29 = A 29 := hB 29 (by decide) (by decide) (by decide) (by decide) (by decide) (by decide) (by decide)
  have e30 : B 30 = A 30 := hB 30 (by decide) (by decide) (by decide) (by decide) (by decide) (by decide) (by decide)
  have e31 : B 31 = A 31 := hB 31 (by decide) (by decide) (by decide) (by decide) (by decide) (by decide) (by decide)
  have e32 : B 32 = A 32 := hB 32 (by decide) (by decide) (by decide) (by decide) (by decide) (by decide) (by decide)
  have e33 : B 33 = A 33 := hB 33 (by decide) (by decide) (by decide) (by decide) (by decide) (by decide) (by decide)
  have e34 : B 34 = A 34 := hB 34 (by decide) (by decide) (by decide) (by decide) (by decide) (by decide) (by decide)
  have e38 : B 38 = A 38 := hB 38 (by decide) (by decide) (by decide) (by decide) (by decide) (by decide) (by decide)
  have e39 : B 39 = A 39 := hB 39 (by decide) (by decide) (by decide) (by decide) (by decide) (by decide) (by decide)
  have e40 : B 40 = A 40 := hB 40 (by decide) (by decide) (by decide) (by decide) (by decide) (by decide) (by decide)
  have e41 : B 41 = A 41 := hB 41 (by decide) (by decide) (by decide) (by decide) (by decide) (by decide) (by decide)
  have e42 : B 42 = A 42 := hB 42 (by decide) (by decide) (by decide) (by decide) (by decide) (by decide) (by decide)
  have e43 : B 43 = A 43 := hB 43 (by decide) (by decide) (by decide) (by decide) (by decide) (by decide) (by decide)
  have e44 : B 44 = A 44 := hB 44 (by decide) (by decide) (by decide) (by decide) (by decide) (by decide) (by decide)
  have e45 : B 45 = A 45 := hB 45 (by decide) (by decide) (by decide) (by decide) (by decide) (by decide) (by decide)
  have e46 : B 46 = A 46 := hB 46 (by decide) (by decide) (by decide) (by decide) (by decide) (by decide) (by decide)
  have e47 : B 47 = A 47 := hB 47 (by decide) (by decide) (by decide) (by decide) (by decide) (by decide) (by decide)
  have e48 : B 48 = A 48 := hB 48 (by decide) (by decide) (by decide) (by decide) (by decide) (by decide) (by decide)
  have e49 : B 49 = A 49 := hB 49 (by decide) (by decide) (by decide) (by decide) (by decide) (by decide) (by decide)
  have e50 : B 50 = A 50 := hB 50 (by decide) (by decide) (by decide) (by decide) (by decide) (by decide) (by decide)
  have e51 : B 51 = A 51 := hB 51 (by decide) (by decide) (by decide) (by decide) (by decide) (by decide) (by decide)
  have hyT : y.toInt = (Y : Int) := by rw [hy]; exact pw_T (by have := h.hYb; omega)
  exact ⟨
    h.hP,
    h.hPb,
    h.hPc,
    h.hY,
    h.hYb,
    h.hYc,
    rfl,
    (by omega),
    rfl,
    h.hT,
    h.hTb,
    h.hW,
    h.hWb,
    h.hWc,
    h.hK,
    h.hKb,
    h.hKc,
    h.hE,
    h.hEb,
    h.hU,
    h.hUb,
    h.hG,
    (by rw [n8, n36, h.r8]),
    (by rw [n9, n35, h.r9]),
    (by rw [n10, n37, h.r10]),
    (by rw [e12, e38]; exact h.r12),
    (by rw [e13, e39]; exact h.r13),
    (by rw [e14, e40]; exact h.r14),
    (by rw [e15, e41]; exact h.r15),
    (by rw [e16, e42]; exact h.r16),
    (by rw [e4, e33]; exact h.r4),
    (by rw [e5, e32]; exact h.r5),
    (by rw [e7, e34]; exact h.r7),
    (by rw [e19, e49]; exact h.r19),
    (by rw [e20, e50]; exact h.r20),
    (by rw [e22, e51]; exact h.r22),
    (fun i hi => by rw [e39]; exact h.b39 i hi),
    (fun i hi => by
      rw [n35]
      unfold upd
      split
      · omega
      · exact h.b35 i (by omega)),
    (fun i hi => by
      rw [n37]
      unfold upd
      split
      · omega
      · exact h.b37 i (by omega)),
    (fun i hi => by rw [e42]; exact h.b42 i hi),
    (fun i hi => by rw [e32]; exact h.b32 i hi),
    (fun i hi => by rw [e34]; exact h.b34 i hi),
    (fun i hi => by rw [e50]; exact h.b50 i hi),
    (fun i hi => by rw [e6]; exact h.b6 i hi),
    (fun i hi => by rw [e21]; exact h.b21 i hi),
    (fun j hj => md_par_c (by rw [e26]) (by rw [e27]) (by rw [e28]) e29 e30 e31 (h.hpar j hj)),
    (fun j hj => pa_ok_c (by rw [e26]) (by rw [e27]) (fun i _ => by rw [e29]) (fun i _ => by rw [e30]) (fun i _ => by rw [e31]) rfl rfl (fun _ _ _ _ _ _ _ _ _ _ _ _ hh => hh) (h.hwk j hj)),
    h.hgn,
    h.hgi,
    (fun j h1 h2 => by rw [e28]; exact h.h28 j h1 h2),
    h.hhs,
    (fun j hj => md_hou_c (by rw [e43]) (by rw [e44]) (by rw [e45]) (by rw [e46]) (by rw [e47]) (by rw [e48]) (h.hhm j hj)),
    h.hgh,
    h.hdl,
    h.hdz⟩
theorem iv_tell {B : Nat → Nat → Int32} {s y t v : Int32} (hy : 0 ≤ y.toInt) (hT : e11 < 60) (n12 : B 12 = upd (A 12) e11 s) (n13 : B 13 = upd (A 13) e11 y) (n14 : B 14 = upd (A 14) e11 t) (n15 : B 15 = upd (A 15) e11 v) (n38 : B 38 = upd (A 38) e11 s) (n39 : B 39 = upd (A 39) e11 y) (n40 : B 40 = upd (A 40) e11 t) (n41 : B 41 = upd (A 41) e11 v) (hB : ∀ k, k < 52 → k ≠ 12 → k ≠ 13 → k ≠ 14 → k ≠ 15 → k ≠ 38 → k ≠ 39 → k ≠ 40 → k ≠ 41 → B k = A k) (h : (bw_inv zc e3 e11 e18 zm A g gh dy P Y S W K ns vs)) : (bw_inv zc e3 (e11 + 1) e18 (upd zm 16 (nI (e11 + 1))) B g gh dy P Y S W K ns vs) := by
  have e4 : B 4 = A 4 := hB 4 (by decide) (by decide) (by decide) (by decide) (by decide) (by decide) (by decide) (by decide) (by decide)
  have e5 : B 5 = A 5 := hB 5 (by decide) (by decide) (by decide) (by decide) (by decide) (by decide) (by decide) (by decide) (by decide)
  have e6 : B 6 = A 6 := hB 6 (by decide) (by decide) (by decide) (by decide) (by decide) (by decide) (by decide) (by decide) (by decide)
  have e7 : B 7 = A 7 := hB 7 (by decide) (by decide) (by decide) (by decide) (by decide) (by decide) (by decide) (by decide) (by decide)
  have e8 : B 8 = A 8 := hB 8 (by decide) (by decide) (by decide) (by decide) (by decide) (by decide) (by decide) (by decide) (by decide)
  have e9 : B 9 = A 9 := hB 9 (by decide) (by decide) (by decide) (by decide) (by decide) (by decide) (by decide) (by decide) (by decide)
  have e10 : B 10 = A 10 := hB 10 (by decide) (by decide) (by decide) (by decide) (by decide) (by decide) (by decide) (by decide) (by decide)
  have e16 : B 16 = A 16 := hB 16 (by decide) (by decide) (by decide) (by decide) (by decide) (by decide) (by decide) (by decide) (by decide)
  have e19 : B 19 = A 19 := hB 19 (by decide) (by decide) (by decide) (by decide) (by decide) (by decide) (by decide) (by decide) (by decide)
  have e20 : B 20 = A 20 := hB 20 (by decide) (by decide) (by decide) (by decide) (by decide) (by decide) (by decide) (by decide) (by decide)
  have e21 : B 21 = A 21 := hB 21 (by decide) (by decide) (by decide) (by decide) (by decide) (by decide) (by decide) (by decide) (by decide)
  have e22 : B 22 = A 22 := hB 22 (by decide) (by decide) (by decide) (by decide) (by decide) (by decide) (by decide) (by decide) (by decide)
  have e26 : B 26 = A 26 := hB 26 (by decide) (by decide) (by decide) (by decide) (by decide) (by decide) (by decide) (by decide) (by decide)
  have e27 : B 27 = A 27 := hB 27 (by decide) (by decide) (by decide) (by decide) (by decide) (by decide) (by decide) (by decide) (by decide)
  have e28 : B 28 = A 28 := hB 28 (by decide) (by decide) (by decide) (by decide) (by decide) (by decide) (by decide) (by decide) (by decide)
  have e29 : B 29 = A 29 := hB 29 (by decide) (by decide) (by decide) (by decide) (by decide) (by decide) (by decide) (by decide) (by decide)
  have e30 : B 30 = A 30 := hB 30 (by decide) (by decide) (by decide) (by decide) (by decide) (by decide) (by decide) (by decide) (by decide)
  have e31 : B 31 = A 31 := hB 31 (by decide) (by decide) (by decide) (by decide) (by decide) (by decide) (by decide) (by decide) (by decide)
  have e32 : B 32 = A 32 := hB 32 (by decide) (by decide) (by decide) (by decide) (by decide) (by decide) (by decide) (by decide) (by decide)
  have e33 : B 33 = A 33 := hB 33 (by decide) (by decide) (by decide) (by decide) (by decide) (by decide) (by decide) (by decide) (by decide)
  have e34 : B 34 = A 34 := hB 34 (by decide) (by decide) (by decide) (by decide) (by decide) (by decide) (by decide) (by decide) (by decide)
  have e35 : B 35 = A 35 := hB 35 (by decide) (by decide) (by decide) (by decide) (by decide) (by decide) (by decide) (by decide) (by decide)
  have e36 : B 36 = A 36 := hB 36 (by decide) (by decide) (by decide) (by decide) (by decide) (by decide) (by decide) (by decide) (by decide)
  have e37 : B 37 = A 37 := hB 37 (by decide) (by decide) (by decide) (by decide) (by decide) (by decide) (by decide) (by decide) (by decide)
  have e42 : B 42 = A 42 := hB 42 (by decide) (by decide) (by decide) (by decide) (by decide) (by decide) (by decide) (by decide) (by decide)
  have e43 : B 43 = A 43 := hB 43 (by decide) (by decide) (by decide) (by decide) (by decide) (by decide) (by decide) (by decide) (by decide)
  have e44 : B 44 = A 44 := hB 44 (by decide) (by decide) (by decide) (by decide) (by decide) (by decide) (by decide) (by decide) (by decide)
  have e45 : B 45 = A 45 := hB 45 (by decide) (by decide) (by decide) (by decide) (by decide) (by decide) (by decide) (by decide) (by decide)
  have e46 : B 46 = A 46 := hB 46 (by decide) (by decide) (by decide) (by decide) (by decide) (by decide) (by decide) (by decide) (by decide)
  have e47 : B 47 = A 47 := hB 47 (by decide) (by decide) (by decide) (by decide) (by decide) (by decide) (by decide) (by decide) (by decide)
  have e48 : B 48 = A 48 := hB 48 (by decide) (by decide) (by decide) (by decide) (by decide) (by decide) (by decide) (by decide) (by decide)
  have e49 : B 49 = A 49 := hB 49 (by decide) (by decide) (by decide) (by decide) (by decide) (by decide) (by decide) (by decide) (by decide)
  have e50 : B 50 = A 50 := hB 50 (by decide) (by decide) (by decide) (by decide) (by decide) (by decide) (by decide) (by decide) (by decide)
  have e51 : B 51 = A 51 := hB 51 (by decide) (by decide) (by decide) (by decide) (by decide) (by decide) (by decide) (by decide) (by decide)
  exact ⟨
    h.hP,
    h.hPb,
    h.hPc,
    h.hY,
    h.hYb,
    h.hYc,
    h.hS,
    h.hSb,
    h.hSc,
    rfl,
    (by omega),
    h.hW,
    h.hWb,
    h.hWc,
    h.hK,
    h.hKb,
    h.hKc,
    h.hE,
    h.hEb,
    h.hU,
    h.hUb,
    h.hG,
    (by rw [e8, e36]; exact h.r8),
    (by rw [e9, e35]; exact h.r9),
    (by rw [e10, e37]; exact h.r10),
    (by rw [n12, n38, h.r12]),
    (by rw [n13, n39, h.r13]),
    (by rw [n14, n40, h.r14]),
    (by rw [n15, n41, h.r15]),
    (by rw [e16, e42]; exact h.r16),
    (by rw [e4, e33]; exact h.r4),
    (by rw [e5, e32]; exact h.r5),
    (by rw [e7, e34]; exact h.r7),
    (by rw [e19, e49]; exact h.r19),
    (by rw [e20, e50]; exact h.r20),
    (by rw [e22, e51]; exact h.r22),
    (fun i hi => by
      rw [n39]
      unfold upd
      split
      · exact hy
      · exact h.b39 i (by omega)),
    (fun i hi => by rw [e35]; exact h.b35 i hi),
    (fun i hi => by rw [e37]; exact h.b37 i hi),
    (fun i hi => by rw [e42]; exact h.b42 i hi),
    (fun i hi => by rw [e32]; exact h.b32 i hi),
    (fun i hi => by rw [e34]; exact h.b34 i hi),
    (fun i hi => by rw [e50]; exact h.b50 i hi),
    (fun i hi => by rw [e6]; exact h.b6 i hi),
    (fun i hi => by rw [e21]; exact h.b21 i hi),
    (fun j hj => md_par_c (by rw [e26]) (by rw [e27]) (by rw [e28]) e29 e30 e31 (h.hpar j hj)),
    (fun j hj => pa_ok_c (by rw [e26]) (by rw [e27]) (fun i _ => by rw [e29]) (fun i _ => by rw [e30]) (fun i _ => by rw [e31]) rfl rfl (fun _ _ _ _ _ _ _ _ _ _ _ _ hh => hh) (h.hwk j hj)),
    h.hgn,
    h.hgi,
    (fun j h1 h2 => by rw [e28]; exact h.h28 j h1 h2),
    h.hhs,
    (fun j hj => md_hou_c (by rw [e43]) (by rw [e44]) (by rw [e45]) (by rw [e46]) (by rw [e47]) (by rw [e48]) (h.hhm j hj)),
    h.hgh,
    h.hdl,
    h.hdz⟩
theorem iv_witness {B : Nat → Nat → Int32} {y : Int32} (hy : 0 ≤ y.toInt ∧ y.toInt ≤ 300) (hW : W < 20) (n16 : B 16 = upd (A 16) W y) (n42 : B 42 = upd (A 42) W y) (hB : ∀ k, k < 52 → k ≠ 16 → k ≠ 42 → B k = A k) (h : (bw_inv zc e3 e11 e18 zm A g gh dy P Y S W K ns vs)) : (bw_inv (upd zc 10 (nI (W + 1))) e3 e11 e18 (upd zm 21 (nI (W + 1))) B g gh dy P Y S (W + 1) K ns vs) := by
  have e4 : B 4 = A 4 := hB 4 (by decide) (by decide) (by decide)
  have e5 : B 5 = A 5 := hB 5 (by decide) (by decide) (by decide)
  have e6 : B 6 = A 6 := hB 6 (by decide) (by decide) (by decide)
  have e7 : B 7 = A 7 := hB 7 (by decide) (by decide) (by decide)
  have e8 : B 8 = A 8 := hB 8 (by decide) (by decide) (by decide)
  have e9 : B 9 = A 9 := hB 9 (by decide) (by decide) (by decide)
  have e10 : B 10 = A 10 := hB 10 (by decide) (by decide) (by decide)
  have e12 : B 12 = A 12 := hB 12 (by decide) (by decide) (by decide)
  have e13 : B 13 = A 13 := hB 13 (by decide) (by decide) (by decide)
  have e14 : B 14 = A 14 := hB 14 (by decide) (by decide) (by decide)
  have e15 : B 15 = A 15 := hB 15 (by decide) (by decide) (by decide)
  have e19 : B 19 = A 19 := hB 19 (by decide) (by decide) (by decide)
  have e20 : B 20 = A 20 := hB 20 (by decide) (by decide) (by decide)
  have e21 : B 21 = A 21 := hB 21 (by decide) (by decide) (by decide)
  have e22 : B 22 = A 22 := hB 22 (by decide) (by decide) (by decide)
  have e26 : B 26 = A 26 := hB 26 (by decide) (by decide) (by decide)
  have e27 : B 27 = A 27 := hB 27 (by decide) (by decide) (by decide)
  have e28 : B 28 = A 28 := hB 28 (by decide) (by decide) (by decide)
  have e29 : B 29 = A 29 := hB 29 (by decide) (by decide) (by decide)
  have e30 : B 30 = A 30 := hB 30 (by decide) (by decide) (by decide)
  have e31 : B 31 = A 31 := hB 31 (by decide) (by decide) (by decide)
  have e32 : B 32 = A 32 := hB 32 (by decide) (by decide) (by decide)
  have e33 : B 33 = A 33 := hB 33 (by decide) (by decide) (by decide)
  have e34 : B 34 = A 34 := hB 34 (by decide) (by decide) (by decide)
  have e35 : B 35 = A 35 := hB 35 (by decide) (by decide) (by decide)
  have e36 : B 36 = A 36 := hB 36 (by decide) (by decide) (by decide)
  have e37 : B 37 = A 37 := hB 37 (by decide) (by decide) (by decide)
  have e38 : B 38 = A 38 := hB 38 (by decide) (by decide) (by decide)
  have e39 : B 39 = A 39 := hB 39 (by decide) (by decide) (by decide)
  have e40 : B 40 = A 40 := hB 40 (by decide) (by decide) (by decide)
  have e41 : B 41 = A 41 := hB 41 (by decide) (by decide) (by decide)
  have e43 : B 43 = A 43 := hB 43 (by decide) (by decide) (by decide)
  have e44 : B 44 = A 44 := hB 44 (by decide) (by decide) (by decide)
  have e45 : B 45 = A 45 := hB 45 (by decide) (by decide) (by decide)
  have e46 : B 46 = A 46 := hB 46 (by decide) (by decide) (by decide)
  have e47 : B 47 = A 47 := hB 47 (by decide) (by decide) (by decide)
  have e48 : B 48 = A 48 := hB 48 (by decide) (by decide) (by decide)
  have e49 : B 49 = A 49 := hB 49 (by decide) (by decide) (by decide)
  have e50 : B 50 = A 50 := hB 50 (by decide) (by decide) (by decide)
  have e51 : B 51 = A 51 := hB 51 (by decide) (by decide) (by decide)
  exact ⟨
    h.hP,
    h.hPb,
    h.hPc,
    h.hY,
    h.hYb,
    h.hYc,
    h.hS,
    h.hSb,
    h.hSc,
    h.hT,
    h.hTb,
    rfl,
    (by omega),
    rfl,
    h.hK,
    h.hKb,
    h.hKc,
    h.hE,
    h.hEb,
    h.hU,
    h.hUb,
    h.hG,
    (by rw [e8, e36]; exact h.r8),
    (by rw [e9, e35]; exact h.r9),
    (by rw [e10, e37]; exact h.r10),
    (by rw [e12, e38]; exact h.r12),
    (by rw [e13, e39]; exact h.r13),
    (by rw [e14, e40]; exact h.r14),
    (by rw [e15, e41]; exact h.r15),
    (by rw [n16, n42, h.r16]),
    (by rw [e4, e33]; exact h.r4),
    (by rw [e5, e32]; exact h.r5),
    (by rw [e7, e34]; exact h.r7),
    (by rw [e19, e49]; exact h.r19),
    (by rw [e20, e50]; exact h.r20),
    (by rw [e22, e51]; exact h.r22),
    (fun i hi => by rw [e39]; exact h.b39 i hi),
    (fun i hi => by rw [e35]; exact h.b35 i hi),
    (fun i hi => by rw [e37]; exact h.b37 i hi),
    (fun i hi => by
      rw [n42]
      unfold upd
      split
      · exact hy
      · exact h.b42 i (by omega)),
    (fun i hi => by rw [e32]; exact h.b32 i hi),
    (fun i hi => by rw [e34]; exact h.b34 i hi),
    (fun i hi => by rw [e50]; exact h.b50 i hi),
    (fun i hi => by rw [e6]; exact h.b6 i hi),
    (fun i hi => by rw [e21]; exact h.b21 i hi),
    (fun j hj => md_par_c (by rw [e26]) (by rw [e27]) (by rw [e28]) e29 e30 e31 (h.hpar j hj)),
    (fun j hj => pa_ok_c (by rw [e26]) (by rw [e27]) (fun i _ => by rw [e29]) (fun i _ => by rw [e30]) (fun i _ => by rw [e31]) rfl rfl (fun _ _ _ _ _ _ _ _ _ _ _ _ hh => hh) (h.hwk j hj)),
    h.hgn,
    h.hgi,
    (fun j h1 h2 => by rw [e28]; exact h.h28 j h1 h2),
    h.hhs,
    (fun j hj => md_hou_c (by rw [e43]) (by rw [e44]) (by rw [e45]) (by rw [e46]) (by rw [e47]) (by rw [e48]) (h.hhm j hj)),
    h.hgh,
    h.hdl,
    h.hdz⟩
theorem iv_agree {B : Nat → Nat → Int32} {f y t v : Int32} (hy : 0 ≤ y.toInt) (ht : t.toInt ≤ 300) (hv : ∃ p, p < 4 ∧ v = nI p) (hE : e3 < 12) (n4 : B 4 = upd (A 4) e3 f) (n5 : B 5 = upd (A 5) e3 y) (n6 : B 6 = upd (A 6) e3 t) (n7 : B 7 = upd (A 7) e3 v) (n32 : B 32 = upd (A 32) e3 y) (n33 : B 33 = upd (A 33) e3 f) (n34 : B 34 = upd (A 34) e3 v) (hB : ∀ k, k < 52 → k ≠ 4 → k ≠ 5 → k ≠ 6 → k ≠ 7 → k ≠ 32 → k ≠ 33 → k ≠ 34 → B k = A k) (h : (bw_inv zc e3 e11 e18 zm A g gh dy P Y S W K ns vs)) : (bw_inv zc (e3 + 1) e11 e18 (upd zm 7 (nI (e3 + 1))) B g gh dy P Y S W K ns vs) := by
  have e8 : B 8 = A 8 := hB 8 (by decide) (by decide) (by decide) (by decide) (by decide) (by decide) (by decide) (by decide)
  have e9 : B 9 = A 9 := hB 9 (by decide) (by decide) (by decide) (by decide) (by decide) (by decide) (by decide) (by decide)
  have e10 : B 10 = A 10 := hB 10 (by decide) (by decide) (by decide) (by decide) (by decide) (by decide) (by decide) (by decide)
  have e12 : B 12 = A 12 := hB 12 (by decide) (by decide) (by decide) (by decide) (by decide) (by decide) (by decide) (by decide)
  have e13 : B 13 = A 13 := hB 13 (by decide) (by decide) (by decide) (by decide) (by decide) (by decide) (by decide) (by decide)
  have e14 : B 14 = A 14 := hB 14 (by decide) (by decide) (by decide) (by decide) (by decide) (by decide) (by decide) (by decide)
  have e15 : B 15 = A 15 := hB 15 (by decide) (by decide) (by decide) (by decide) (by decide) (by decide) (by decide) (by decide)
  have e16 : B 16 = A 16 := hB 16 (by decide) (by decide) (by decide) (by decide) (by decide) (by decide) (by decide) (by decide)
  have e19 : B 19 = A 19 := hB 19 (by decide) (by decide) (by decide) (by decide) (by decide) (by decide) (by decide) (by decide)
  have e20 : B 20 = A 20 := hB 20 (by decide) (by decide) (by decide) (by decide) (by decide) (by decide) (by decide) (by decide)
  have e21 : B 21 = A 21 := hB 21 (by decide) (by decide) (by decide) (by decide) (by decide) (by decide) (by decide) (by decide)
  have e22 : B 22 = A 22 := hB 22 (by decide) (by decide) (by decide) (by decide) (by decide) (by decide) (by decide) (by decide)
  have e26 : B 26 = A 26 := hB 26 (by decide) (by decide) (by decide) (by decide) (by decide) (by decide) (by decide) (by decide)
  have e27 : B 27 = A 27 := hB 27 (by decide) (by decide) (by decide) (by decide) (by decide) (by decide) (by decide) (by decide)
  have e28 : B 28 = A 28 := hB 28 (by decide) (by decide) (by decide) (by decide) (by decide) (by decide) (by decide) (by decide)
  have e29 : B 29 = A 29 := hB 29 (by decide) (by decide) (by decide) (by decide) (by decide) (by decide) (by decide) (by decide)
  have e30 : B 30 = A 30 := hB 30 (by decide) (by decide) (by decide) (by decide) (by decide) (by decide) (by decide) (by decide)
  have e31 : B 31 = A 31 := hB 31 (by decide) (by decide) (by decide) (by decide) (by decide) (by decide) (by decide) (by decide)
  have e35 : B 35 = A 35 := hB 35 (by decide) (by decide) (by decide) (by decide) (by decide) (by decide) (by decide) (by decide)
  have e36 : B 36 = A 36 := hB 36 (by decide) (by decide) (by decide) (by decide) (by decide) (by decide) (by decide) (by decide)
  have e37 : B 37 = A 37 := hB 37 (by decide) (by decide) (by decide) (by decide) (by decide) (by decide) (by decide) (by decide)
  have e38 : B 38 = A 38 := hB 38 (by decide) (by decide) (by decide) (by decide) (by decide) (by decide) (by decide) (by decide)
  have e39 : B 39 = A 39 := hB 39 (by decide) (by decide) (by decide) (by decide) (by decide) (by decide) (by decide) (by decide)
  have e40 : B 40 = A 40 := hB 40 (by decide) (by decide) (by decide) (by decide) (by decide) (by decide) (by decide) (by decide)
  have e41 : B 41 = A 41 := hB 41 (by decide) (by decide) (by decide) (by decide) (by decide) (by decide) (by decide) (by decide)
  have e42 : B 42 = A 42 := hB 42 (by decide) (by decide) (by decide) (by decide) (by decide) (by decide) (by decide) (by decide)
  have e43 : B 43 = A 43 := hB 43 (by decide) (by decide) (by decide) (by decide) (by decide) (by decide) (by decide) (by decide)
  have e44 : B 44 = A 44 := hB 44 (by decide) (by decide) (by decide) (by decide) (by decide) (by decide) (by decide) (by decide)
  have e45 : B 45 = A 45 := hB 45 (by decide) (by decide) (by decide) (by decide) (by decide) (by decide) (by decide) (by decide)
  have e46 : B 46 = A 46 := hB 46 (by decide) (by decide) (by decide) (by decide) (by decide) (by decide) (by decide) (by decide)
  have e47 : B 47 = A 47 := hB 47 (by decide) (by decide) (by decide) (by decide) (by decide) (by decide) (by decide) (by decide)
  have e48 : B 48 = A 48 := hB 48 (by decide) (by decide) (by decide) (by decide) (by decide) (by decide) (by decide) (by decide)
  have e49 : B 49 = A 49 := hB 49 (by decide) (by decide) (by decide) (by decide) (by decide) (by decide) (by decide) (by decide)
  have e50 : B 50 = A 50 := hB 50 (by decide) (by decide) (by decide) (by decide) (by decide) (by decide) (by decide) (by decide)
  have e51 : B 51 = A 51 := hB 51 (by decide) (by decide) (by decide) (by decide) (by decide) (by decide) (by decide) (by decide)
  exact ⟨
    h.hP,
    h.hPb,
    h.hPc,
    h.hY,
    h.hYb,
    h.hYc,
    h.hS,
    h.hSb,
    h.hSc,
    h.hT,
    h.hTb,
    h.hW,
    h.hWb,
    h.hWc,
    h.hK,
    h.hKb,
    h.hKc,
    rfl,
    (by omega),
    h.hU,
    h.hUb,
    h.hG,
    (by rw [e8, e36]; exact h.r8),
    (by rw [e9, e35]; exact h.r9),
    (by rw [e10, e37]; exact h.r10),
    (by rw [e12, e38]; exact h.r12),
    (by rw [e13, e39]; exact h.r13),
    (by rw [e14, e40]; exact h.r14),
    (by rw [e15, e41]; exact h.r15),
    (by rw [e16, e42]; exact h.r16),
    (by rw [n4, n33, h.r4]),
    (by rw [n5, n32, h.r5]),
    (by rw [n7, n34, h.r7]),
    (by rw [e19, e49]; exact h.r19),
    (by rw [e20, e50]; exact h.r20),
    (by rw [e22, e51]; exact h.r22),
    (fun i hi => by rw [e39]; exact h.b39 i hi),
    (fun i hi => by rw [e35]; exact h.b35 i hi),
    (fun i hi => by rw [e37]; exact h.b37 i hi),
    (fun i hi => by rw [e42]; exact h.b42 i hi),
    (fun i hi => by
      rw [n32]
      unfold upd
      split
      · exact hy
      · exact h.b32 i (by omega)),
    (fun i hi => by
      rw [n34]
      unfold upd
      split
      · exact hv
      · exact h.b34 i (by omega)),
    (fun i hi => by rw [e50]; exact h.b50 i hi),
    (fun i hi => by
      rw [n6]
      unfold upd
      split
      · exact ht
      · exact h.b6 i (by omega)),
    (fun i hi => by rw [e21]; exact h.b21 i hi),
    (fun j hj => md_par_c (by rw [e26]) (by rw [e27]) (by rw [e28]) e29 e30 e31 (h.hpar j hj)),
    (fun j hj => pa_ok_c (by rw [e26]) (by rw [e27]) (fun i _ => by rw [e29]) (fun i _ => by rw [e30]) (fun i _ => by rw [e31]) rfl rfl (fun _ _ _ _ _ _ _ _ _ _ _ _ hh => hh) (h.hwk j hj)),
    h.hgn,
    h.hgi,
    (fun j h1 h2 => by rw [e28]; exact h.h28 j h1 h2),
    h.hhs,
    (fun j hj => md_hou_c (by rw [e43]) (by rw [e44]) (by rw [e45]) (by rw [e46]) (by rw [e47]) (by rw [e48]) (h.hhm j hj)),
    h.hgh,
    h.hdl,
    h.hdz⟩
theorem iv_law {B : Nat → Nat → Int32} {u y t v : Int32} (hy : 0 ≤ y.toInt) (ht : t.toInt ≤ 300) (hU : e18 < 10) (n19 : B 19 = upd (A 19) e18 u) (n20 : B 20 = upd (A 20) e18 y) (n21 : B 21 = upd (A 21) e18 t) (n22 : B 22 = upd (A 22) e18 v) (n49 : B 49 = upd (A 49) e18 u) (n50 : B 50 = upd (A 50) e18 y) (n51 : B 51 = upd (A 51) e18 v) (hB : ∀ k, k < 52 → k ≠ 19 → k ≠ 20 → k ≠ 21 → k ≠ 22 → k ≠ 49 → k ≠ 50 → k ≠ 51 → B k = A k) (h : (bw_inv zc e3 e11 e18 zm A g gh dy P Y S W K ns vs)) : (bw_inv zc e3 e11 (e18 + 1) (upd zm 30 (nI (e18 + 1))) B g gh dy P Y S W K ns vs) := by
  have e4 : B 4 = A 4 := hB 4 (by decide) (by decide) (by decide) (by decide) (by decide) (by decide) (by decide) (by decide)
  have e5 : B 5 = A 5 := hB 5 (by decide) (by decide) (by decide) (by decide) (by decide) (by decide) (by decide) (by decide)
  have e6 : B 6 = A 6 := hB 6 (by decide) (by decide) (by decide) (by decide) (by decide) (by decide) (by decide) (by decide)
  have e7 : B 7 = A 7 := hB 7 (by decide) (by decide) (by decide) (by decide) (by decide) (by decide) (by decide) (by decide)
  have e8 : B 8 = A 8 := hB 8 (by decide) (by decide) (by decide) (by decide) (by decide) (by decide) (by decide) (by decide)
  have e9 : B 9 = A 9 := hB 9 (by decide) (by decide) (by decide) (by decide) (by decide) (by decide) (by decide) (by decide)
  have e10 : B 10 = A 10 := hB 10 (by decide) (by decide) (by decide) (by decide) (by decide) (by decide) (by decide) (by decide)
  have e12 : B 12 = A 12 := hB 12 (by decide) (by decide) (by decide) (by decide) (by decide) (by decide) (by decide) (by decide)
  have e13 : B 13 = A 13 := hB 13 (by decide) (by decide) (by decide) (by decide) (by decide) (by decide) (by decide) (by decide)
  have e14 : B 14 = A 14 := hB 14 (by decide) (by decide) (by decide) (by decide) (by decide) (by decide) (by decide) (by decide)
  have e15 : B 15 = A 15 := hB 15 (by decide) (by decide) (by decide) (by decide) (by decide) (by decide) (by decide) (by decide)
  have e16 : B 16 = A 16 := hB 16 (by decide) (by decide) (by decide) (by decide) (by decide) (by decide) (by decide) (by decide)
  have e26 : B 26 = A 26 := hB 26 (by decide) (by decide) (by decide) (by decide) (by decide) (by decide) (by decide) (by decide)
  have e27 : B 27 = A 27 := hB 27 (by decide) (by decide) (by decide) (by decide) (by decide) (by decide) (by decide) (by decide)
  have e28 : B 28 = A 28 := hB 28 (by decide) (by decide) (by decide) (by decide) (by decide) (by decide) (by decide) (by decide)
  have e29 : B 29 = A 29 := hB 29 (by decide) (by decide) (by decide) (by decide) (by decide) (by decide) (by decide) (by decide)
  have e30 : B 30 = A 30 := hB 30 (by decide) (by decide) (by decide) (by decide) (by decide) (by decide) (by decide) (by decide)
  have e31 : B 31 = A 31 := hB 31 (by decide) (by decide) (by decide) (by decide) (by decide) (by decide) (by decide) (by decide)
  have e32 : B 32 = A 32 := hB 32 (by decide) (by decide) (by decide) (by decide) (by decide) (by decide) (by decide) (by decide)
  have e33 : B 33 = A 33 := hB 33 (by decide) (by decide) (by decide) (by decide) (by decide) (by decide) (by decide) (by decide)
  have e34 : B 34 = A 34 := hB 34 (by decide) (by decide) (by decide) (by decide) (by decide) (by decide) (by decide) (by decide)
  have e35 : B 35 = A 35 := hB 35 (by decide) (by decide) (by decide) (by decide) (by decide) (by decide) (by decide) (by decide)
  have e36 : B 36 = A 36 := hB 36 (by decide) (by decide) (by decide) (by decide) (by decide) (by decide) (by decide) (by decide)
  have e37 : B 37 = A 37 := hB 37 (by decide) (by decide) (by decide) (by decide) (by decide) (by decide) (by decide) (by decide)
  have e38 : B 38 = A 38 := hB 38 (by decide) (by decide) (by decide) (by decide) (by decide) (by decide) (by decide) (by decide)
  have e39 : B 39 = A 39 := hB 39 (by decide) (by decide) (by decide) (by decide) (by decide) (by decide) (by decide) (by decide)
  have e40 : B 40 = A 40 := hB 40 (by decide) (by decide) (by decide) (by decide) (by decide) (by decide) (by decide) (by decide)
  have e41 : B 41 = A 41 := hB 41 (by decide) (by decide) (by decide) (by decide) (by decide) (by decide) (by decide) (by decide)
  have e42 : B 42 = A 42 := hB 42 (by decide) (by decide) (by decide) (by decide) (by decide) (by decide) (by decide) (by decide)
  have e43 : B 43 = A 43 := hB 43 (by decide) (by decide) (by decide) (by decide) (by decide) (by decide) (by decide) (by decide)
  have e44 : B 44 = A 44 := hB 44 (by decide) (by decide) (by decide) (by decide) (by decide) (by decide) (by decide) (by decide)
  have e45 : B 45 = A 45 := hB 45 (by decide) (by decide) (by decide) (by decide) (by decide) (by decide) (by decide) (by decide)
  have e46 : B 46 = A 46 := hB 46 (by decide) (by decide) (by decide) (by decide) (by decide) (by decide) (by decide) (by decide)
  have e47 : B 47 = A 47 := hB 47 (by decide) (by decide) (by decide) (by decide) (by decide) (by decide) (by decide) (by decide)
  have e48 : B 48 = A 48 := hB 48 (by decide) (by decide) (by decide) (by decide) (by decide) (by decide) (by decide) (by decide)
  exact ⟨
    h.hP,
    h.hPb,
    h.hPc,
    h.hY,
    h.hYb,
    h.hYc,
    h.hS,
    h.hSb,
    h.hSc,
    h.hT,
    h.hTb,
    h.hW,
    h.hWb,
    h.hWc,
    h.hK,
    h.hKb,
    h.hKc,
    h.hE,
    h.hEb,
    rfl,
    (by omega),
    h.hG,
    (by rw [e8, e36]; exact h.r8),
    (by rw [e9, e35]; exact h.r9),
    (by rw [e10, e37]; exact h.r10),
    (by rw [e12, e38]; exact h.r12),
    (by rw [e13, e39]; exact h.r13),
    (by rw [e14, e40]; exact h.r14),
    (by rw [e15, e41]; exact h.r15),
    (by rw [e16, e42]; exact h.r16),
    (by rw [e4, e33]; exact h.r4),
    (by rw [e5, e32]; exact h.r5),
    (by rw [e7, e34]; exact h.r7),
    (by rw [n19, n49, h.r19]),
    (by rw [n20, n50, h.r20]),
    (by rw [n22, n51, h.r22]),
    (fun i hi => by rw [e39]; exact h.b39 i hi),
    (fun i hi => by rw [e35]; exact h.b35 i hi),
    (fun i hi => by rw [e37]; exact h.b37 i hi),
    (fun i hi => by rw [e42]; exact h.b42 i hi),
    (fun i hi => by rw [e32]; exact h.b32 i hi),
    (fun i hi => by rw [e34]; exact h.b34 i hi),
    (fun i hi => by
      rw [n50]
      unfold upd
      split
      · exact hy
      · exact h.b50 i (by omega)),
    (fun i hi => by rw [e6]; exact h.b6 i hi),
    (fun i hi => by
      rw [n21]
      unfold upd
      split
      · exact ht
      · exact h.b21 i (by omega)),
    (fun j hj => md_par_c (by rw [e26]) (by rw [e27]) (by rw [e28]) e29 e30 e31 (h.hpar j hj)),
    (fun j hj => pa_ok_c (by rw [e26]) (by rw [e27]) (fun i _ => by rw [e29]) (fun i _ => by rw [e30]) (fun i _ => by rw [e31]) rfl rfl (fun _ _ _ _ _ _ _ _ _ _ _ _ hh => hh) (h.hwk j hj)),
    h.hgn,
    h.hgi,
    (fun j h1 h2 => by rw [e28]; exact h.h28 j h1 h2),
    h.hhs,
    (fun j hj => md_hou_c (by rw [e43]) (by rw [e44]) (by rw [e45]) (by rw [e46]) (by rw [e47]) (by rw [e48]) (h.hhm j hj)),
    h.hgh,
    h.hdl,
    h.hdz⟩
theorem iv_see {B : Nat → Nat → Int32} {y : Int32} {j : Nat} (hy : y = nI Y) (n10 : B 10 = upd (A 10) j y) (n37 : B 37 = upd (A 37) j y) (hB : ∀ k, k < 52 → k ≠ 10 → k ≠ 37 → B k = A k) (h : (bw_inv zc e3 e11 e18 zm A g gh dy P Y S W K ns vs)) : (bw_inv zc e3 e11 e18 zm B g gh dy P Y S W K ns vs) := by
  have e4 : B 4 = A 4 := hB 4 (by decide) (by decide) (by decide)
  have e5 : B 5 = A 5 := hB 5 (by decide) (by decide) (by decide)
  have e6 : B 6 = A 6 := hB 6 (by decide) (by decide) (by decide)
  have e7 : B 7 = A 7 := hB 7 (by decide) (by decide) (by decide)
  have e8 : B 8 = A 8 := hB 8 (by decide) (by decide) (by decide)
  have e9 : B 9 = A 9 := hB 9 (by decide) (by decide) (by decide)
  have e12 : B 12 = A 12 := hB 12 (by decide) (by decide) (by decide)
  have e13 : B 13 = A 13 := hB 13 (by decide) (by decide) (by decide)
  have e14 : B 14 = A 14 := hB 14 (by decide) (by decide) (by decide)
  have e15 : B 15 = A 15 := hB 15 (by decide) (by decide) (by decide)
  have e16 : B 16 = A 16 := hB 16 (by decide) (by decide) (by decide)
  have e19 : B 19 = A 19 := hB 19 (by decide) (by decide) (by decide)
  have e20 : B 20 = A 20 := hB 20 (by decide) (by decide) (by decide)
  have e21 : B 21 = A 21 := hB 21 (by decide) (by decide) (by decide)
  have e22 : B 22 = A 22 := hB 22 (by decide) (by decide) (by decide)
  have e26 : B 26 = A 26 := hB 26 (by decide) (by decide) (by decide)
  have e27 : B 27 = A 27 := hB 27 (by decide) (by decide) (by decide)
  have e28 : B 28 = A 28 := hB 28 (by decide) (by decide) (by decide)
  have e29 : B 29 = A 29 := hB 29 (by decide) (by decide) (by decide)
  have e30 : B 30 = A 30 := hB 30 (by decide) (by decide) (by decide)
  have e31 : B 31 = A 31 := hB 31 (by decide) (by decide) (by decide)
  have e32 : B 32 = A 32 := hB 32 (by decide) (by decide) (by decide)
  have e33 : B 33 = A 33 := hB 33 (by decide) (by decide) (by decide)
  have e34 : B 34 = A 34 := hB 34 (by decide) (by decide) (by decide)
  have e35 : B 35 = A 35 := hB 35 (by decide) (by decide) (by decide)
  have e36 : B 36 = A 36 := hB 36 (by decide) (by decide) (by decide)
  have e38 : B 38 = A 38 := hB 38 (by decide) (by decide) (by decide)
  have e39 : B 39 = A 39 := hB 39 (by decide) (by decide) (by decide)
  have e40 : B 40 = A 40 := hB 40 (by decide) (by decide) (by decide)
  have e41 : B 41 = A 41 := hB 41 (by decide) (by decide) (by decide)
  have e42 : B 42 = A 42 := hB 42 (by decide) (by decide) (by decide)
  have e43 : B 43 = A 43 := hB 43 (by decide) (by decide) (by decide)
  have e44 : B 44 = A 44 := hB 44 (by decide) (by decide) (by decide)
  have e45 : B 45 = A 45 := hB 45 (by decide) (by decide) (by decide)
  have e46 : B 46 = A 46 := hB 46 (by decide) (by decide) (by decide)
  have e47 : B 47 = A 47 := hB 47 (by decide) (by decide) (by decide)
  have e48 : B 48 = A 48 := hB 48 (by decide) (by decide) (by decide)
  have e49 : B 49 = A 49 := hB 49 (by decide) (by decide) (by decide)
  have e50 : B 50 = A 50 := hB 50 (by decide) (by decide) (by decide)
  have e51 : B 51 = A 51 := hB 51 (by decide) (by decide) (by decide)
  have hyT : y.toInt = (Y : Int) := by rw [hy]; exact pw_T (by have := h.hYb; omega)
  exact ⟨
    h.hP,
    h.hPb,
    h.hPc,
    h.hY,
    h.hYb,
    h.hYc,
    h.hS,
    h.hSb,
    h.hSc,
    h.hT,
    h.hTb,
    h.hW,
    h.hWb,
    h.hWc,
    h.hK,
    h.hKb,
    h.hKc,
    h.hE,
    h.hEb,
    h.hU,
    h.hUb,
    h.hG,
    (by rw [e8, e36]; exact h.r8),
    (by rw [e9, e35]; exact h.r9),
    (by rw [n10, n37, h.r10]),
    (by rw [e12, e38]; exact h.r12),
    (by rw [e13, e39]; exact h.r13),
    (by rw [e14, e40]; exact h.r14),
    (by rw [e15, e41]; exact h.r15),
    (by rw [e16, e42]; exact h.r16),
    (by rw [e4, e33]; exact h.r4),
    (by rw [e5, e32]; exact h.r5),
    (by rw [e7, e34]; exact h.r7),
    (by rw [e19, e49]; exact h.r19),
    (by rw [e20, e50]; exact h.r20),
    (by rw [e22, e51]; exact h.r22),
    (fun i hi => by rw [e39]; exact h.b39 i hi),
    (fun i hi => by rw [e35]; exact h.b35 i hi),
    (fun i hi => by
      rw [n37]
      unfold upd
      split
      · omega
      · exact h.b37 i hi),
    (fun i hi => by rw [e42]; exact h.b42 i hi),
    (fun i hi => by rw [e32]; exact h.b32 i hi),
    (fun i hi => by rw [e34]; exact h.b34 i hi),
    (fun i hi => by rw [e50]; exact h.b50 i hi),
    (fun i hi => by rw [e6]; exact h.b6 i hi),
    (fun i hi => by rw [e21]; exact h.b21 i hi),
    (fun j hj => md_par_c (by rw [e26]) (by rw [e27]) (by rw [e28]) e29 e30 e31 (h.hpar j hj)),
    (fun j hj => pa_ok_c (by rw [e26]) (by rw [e27]) (fun i _ => by rw [e29]) (fun i _ => by rw [e30]) (fun i _ => by rw [e31]) rfl rfl (fun _ _ _ _ _ _ _ _ _ _ _ _ hh => hh) (h.hwk j hj)),
    h.hgn,
    h.hgi,
    (fun j h1 h2 => by rw [e28]; exact h.h28 j h1 h2),
    h.hhs,
    (fun j hj => md_hou_c (by rw [e43]) (by rw [e44]) (by rw [e45]) (by rw [e46]) (by rw [e47]) (by rw [e48]) (h.hhm j hj)),
    h.hgh,
    h.hdl,
    h.hdz⟩
end IV
