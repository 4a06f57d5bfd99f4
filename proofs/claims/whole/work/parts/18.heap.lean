def hp_c (zc : Nat → Int32) : List pw_V := [.inr (some 2), .inl (zc 1), .inr (some 3), .inl (zc 3), .inr (some 8), .inr (some 9), .inr (some 10), .inl (zc 7), .inr (some 11), .inr (some 16), .inl (zc 10), .inr (some 17), .inl (zc 12), .inr (some 18), .inl (zc 14), .inr (some 23), .inr (some 24)]
def hp_m (zm : Nat → Int32) : List pw_V := [.inl (zm 0), .inr (some 26), .inr (some 27), .inr (some 28), .inr (some 29), .inr (some 30), .inr (some 31), .inl (zm 7), .inr (some 32), .inr (some 33), .inr (some 34), .inl (zm 11), .inl (zm 12), .inr (some 35), .inr (some 36), .inr (some 37), .inl (zm 16), .inr (some 38), .inr (some 39), .inr (some 40), .inr (some 41), .inl (zm 21), .inr (some 42), .inl (zm 23), .inr (some 43), .inr (some 44), .inr (some 45), .inr (some 46), .inr (some 47), .inr (some 48), .inl (zm 30), .inr (some 49), .inr (some 50), .inr (some 51), .inl (zm 34), .inr (some 52), .inr (some 53), .inr (some 54), .inr (some 55), .inr (some 56)]
def hp_h (N : Nat) (xs : Nat → Int32) (zc : Nat → Int32) (e3 e11 e18 : Nat) (zm : Nat → Int32) (A : Nat → Nat → Int32) (g gh : Nat → Option Nat) (dy : pw_H) : pw_H :=
  .inl (2, N, xs) ::
  .inr (.inr (3, hp_c zc)) ::
  .inr (.inl (2, 4, g)) ::
  .inr (.inr (1, [.inr (some 4), .inr (some 5), .inr (some 6), .inr (some 7), .inl (nI e3)])) ::
  .inl (0, 12, A 4) ::
  .inl (0, 12, A 5) ::
  .inl (0, 12, A 6) ::
  .inl (0, 12, A 7) ::
  .inl (0, 12, A 8) ::
  .inl (0, 12, A 9) ::
  .inl (0, 12, A 10) ::
  .inr (.inr (1, [.inr (some 12), .inr (some 13), .inr (some 14), .inr (some 15), .inl (nI e11)])) ::
  .inl (0, 60, A 12) ::
  .inl (0, 60, A 13) ::
  .inl (0, 60, A 14) ::
  .inl (0, 60, A 15) ::
  .inl (0, 20, A 16) ::
  .inr (.inl (0, 6, gh)) ::
  .inr (.inr (1, [.inr (some 19), .inr (some 20), .inr (some 21), .inr (some 22), .inl (nI e18)])) ::
  .inl (0, 10, A 19) ::
  .inl (0, 10, A 20) ::
  .inl (0, 10, A 21) ::
  .inl (0, 10, A 22) ::
  .inl (0, 4, A 23) ::
  .inl (0, 12, A 24) ::
  .inr (.inr (4, hp_m zm)) ::
  .inl (0, 4, A 26) ::
  .inl (0, 4, A 27) ::
  .inl (0, 4, A 28) ::
  .inl (0, 48, A 29) ::
  .inl (0, 48, A 30) ::
  .inl (0, 48, A 31) ::
  .inl (0, 12, A 32) ::
  .inl (0, 12, A 33) ::
  .inl (0, 12, A 34) ::
  .inl (0, 12, A 35) ::
  .inl (0, 12, A 36) ::
  .inl (0, 12, A 37) ::
  .inl (0, 60, A 38) ::
  .inl (0, 60, A 39) ::
  .inl (0, 60, A 40) ::
  .inl (0, 60, A 41) ::
  .inl (0, 20, A 42) ::
  .inl (0, 6, A 43) ::
  .inl (0, 6, A 44) ::
  .inl (0, 6, A 45) ::
  .inl (0, 6, A 46) ::
  .inl (0, 6, A 47) ::
  .inl (0, 6, A 48) ::
  .inl (0, 10, A 49) ::
  .inl (0, 10, A 50) ::
  .inl (0, 10, A 51) ::
  .inl (0, 12, A 52) ::
  .inl (1, 156, A 53) ::
  .inl (0, 144, A 54) ::
  .inl (0, 4, A 55) ::
  .inl (0, 12, A 56) :: dy
def uA (A : Nat → Nat → Int32) (k : Nat) (f : Nat → Int32) : Nat → Nat → Int32 := fun j => if j = k then f else A j
section HP
variable {N : Nat} {xs : Nat → Int32} {zc zm : Nat → Int32} {e3 e11 e18 : Nat} {A : Nat → Nat → Int32} {g gh : Nat → Option Nat} {dy : pw_H}
theorem hs_c1 {v : Int32} : (hp_h N xs zc e3 e11 e18 zm A g gh dy).set 1 (.inr (.inr (3, (hp_c zc).set 1 (.inl v)))) = (hp_h N xs (upd zc 1 v) e3 e11 e18 zm A g gh dy) := rfl
theorem hs_c3 {v : Int32} : (hp_h N xs zc e3 e11 e18 zm A g gh dy).set 1 (.inr (.inr (3, (hp_c zc).set 3 (.inl v)))) = (hp_h N xs (upd zc 3 v) e3 e11 e18 zm A g gh dy) := rfl
theorem hs_c7 {v : Int32} : (hp_h N xs zc e3 e11 e18 zm A g gh dy).set 1 (.inr (.inr (3, (hp_c zc).set 7 (.inl v)))) = (hp_h N xs (upd zc 7 v) e3 e11 e18 zm A g gh dy) := rfl
theorem hs_c10 {v : Int32} : (hp_h N xs zc e3 e11 e18 zm A g gh dy).set 1 (.inr (.inr (3, (hp_c zc).set 10 (.inl v)))) = (hp_h N xs (upd zc 10 v) e3 e11 e18 zm A g gh dy) := rfl
theorem hs_c12 {v : Int32} : (hp_h N xs zc e3 e11 e18 zm A g gh dy).set 1 (.inr (.inr (3, (hp_c zc).set 12 (.inl v)))) = (hp_h N xs (upd zc 12 v) e3 e11 e18 zm A g gh dy) := rfl
theorem hs_c14 {v : Int32} : (hp_h N xs zc e3 e11 e18 zm A g gh dy).set 1 (.inr (.inr (3, (hp_c zc).set 14 (.inl v)))) = (hp_h N xs (upd zc 14 v) e3 e11 e18 zm A g gh dy) := rfl
theorem hs_m0 {v : Int32} : (hp_h N xs zc e3 e11 e18 zm A g gh dy).set 25 (.inr (.inr (4, (hp_m zm).set 0 (.inl v)))) = (hp_h N xs zc e3 e11 e18 (upd zm 0 v) A g gh dy) := rfl
theorem hs_m7 {v : Int32} : (hp_h N xs zc e3 e11 e18 zm A g gh dy).set 25 (.inr (.inr (4, (hp_m zm).set 7 (.inl v)))) = (hp_h N xs zc e3 e11 e18 (upd zm 7 v) A g gh dy) := rfl
theorem hs_m11 {v : Int32} : (hp_h N xs zc e3 e11 e18 zm A g gh dy).set 25 (.inr (.inr (4, (hp_m zm).set 11 (.inl v)))) = (hp_h N xs zc e3 e11 e18 (upd zm 11 v) A g gh dy) := rfl
theorem hs_m12 {v : Int32} : (hp_h N xs zc e3 e11 e18 zm A g gh dy).set 25 (.inr (.inr (4, (hp_m zm).set 12 (.inl v)))) = (hp_h N xs zc e3 e11 e18 (upd zm 12 v) A g gh dy) := rfl
theorem hs_m16 {v : Int32} : (hp_h N xs zc e3 e11 e18 zm A g gh dy).set 25 (.inr (.inr (4, (hp_m zm).set 16 (.inl v)))) = (hp_h N xs zc e3 e11 e18 (upd zm 16 v) A g gh dy) := rfl
theorem hs_m21 {v : Int32} : (hp_h N xs zc e3 e11 e18 zm A g gh dy).set 25 (.inr (.inr (4, (hp_m zm).set 21 (.inl v)))) = (hp_h N xs zc e3 e11 e18 (upd zm 21 v) A g gh dy) := rfl
theorem hs_m23 {v : Int32} : (hp_h N xs zc e3 e11 e18 zm A g gh dy).set 25 (.inr (.inr (4, (hp_m zm).set 23 (.inl v)))) = (hp_h N xs zc e3 e11 e18 (upd zm 23 v) A g gh dy) := rfl
theorem hs_m30 {v : Int32} : (hp_h N xs zc e3 e11 e18 zm A g gh dy).set 25 (.inr (.inr (4, (hp_m zm).set 30 (.inl v)))) = (hp_h N xs zc e3 e11 e18 (upd zm 30 v) A g gh dy) := rfl
theorem hs_m34 {v : Int32} : (hp_h N xs zc e3 e11 e18 zm A g gh dy).set 25 (.inr (.inr (4, (hp_m zm).set 34 (.inl v)))) = (hp_h N xs zc e3 e11 e18 (upd zm 34 v) A g gh dy) := rfl
theorem hs_a4 {f : Nat → Int32} : (hp_h N xs zc e3 e11 e18 zm A g gh dy).set 4 (.inl (0, 12, f)) = (hp_h N xs zc e3 e11 e18 zm (uA A 4 f) g gh dy) := rfl
theorem hs_a5 {f : Nat → Int32} : (hp_h N xs zc e3 e11 e18 zm A g gh dy).set 5 (.inl (0, 12, f)) = (hp_h N xs zc e3 e11 e18 zm (uA A 5 f) g gh dy) := rfl
theorem hs_a6 {f : Nat → Int32} : (hp_h N xs zc e3 e11 e18 zm A g gh dy).set 6 (.inl (0, 12, f)) = (hp_h N xs zc e3 e11 e18 zm (uA A 6 f) g gh dy) := rfl
theorem hs_a7 {f : Nat → Int32} : (hp_h N xs zc e3 e11 e18 zm A g gh dy).set 7 (.inl (0, 12, f)) = (hp_h N xs zc e3 e11 e18 zm (uA A 7 f) g gh dy) := rfl
theorem hs_a8 {f : Nat → Int32} : (hp_h N xs zc e3 e11 e18 zm A g gh dy).set 8 (.inl (0, 12, f)) = (hp_h N xs zc e3 e11 e18 zm (uA A 8 f) g gh dy) := rfl
theorem hs_a9 {f : Nat → Int32} : (hp_h N xs zc e3 e11 e18 zm A g gh dy).set 9 (.inl (0, 12, f)) = (hp_h N xs zc e3 e11 e18 zm (uA A 9 f) g gh dy) := rfl
theorem hs_a10 {f : Nat → Int32} : (hp_h N xs zc e3 e11 e18 zm A g gh dy).set 10 (.inl (0, 12, f)) = (hp_h N xs zc e3 e11 e18 zm (uA A 10 f) g gh dy) := rfl
theorem hs_a12 {f : Nat → Int32} : (hp_h N xs zc e3 e11 e18 zm A g gh dy).set 12 (.inl (0, 60, f)) = (hp_h N xs zc e3 e11 e18 zm (uA A 12 f) g gh dy) := rfl
theorem hs_a13 {f : Nat → Int32} : (hp_h N xs zc e3 e11 e18 zm A g gh dy).set 13 (.inl (0, 60, f)) = (hp_h N xs zc e3 e11 e18 zm (uA A 13 f) g gh dy) := rfl
theorem hs_a14 {f : Nat → Int32} : (hp_h N xs zc e3 e11 e18 zm A g gh dy).set 14 (.inl (0, 60, f)) = (hp_h N xs zc e3 e11 e18 zm (uA A 14 f) g gh dy) := rfl
theorem hs_a15 {f : Nat → Int32} : (hp_h N xs zc e3 e11 e18 zm A g gh dy).set 15 (.inl (0, 60, f)) = (hp_h N xs zc e3 e11 e18 zm (uA A 15 f) g gh dy) := rfl
theorem hs_a16 {f : Nat → Int32} : (hp_h N xs zc e3 e11 e18 zm A g gh dy).set 16 (.inl (0, 20, f)) = (hp_h N xs zc e3 e11 e18 zm (uA A 16 f) g gh dy) := rfl
theorem hs_a19 {f : Nat → Int32} : (hp_h N xs zc e3 e11 e18 zm A g gh dy).set 19 (.inl (0, 10, f)) = (hp_h N xs zc e3 e11 e18 zm (uA A 19 f) g gh dy) := rfl
theorem hs_a20 {f : Nat → Int32} : (hp_h N xs zc e3 e11 e18 zm A g gh dy).set 20 (.inl (0, 10, f)) = (hp_h N xs zc e3 e11 e18 zm (uA A 20 f) g gh dy) := rfl
theorem hs_a21 {f : Nat → Int32} : (hp_h N xs zc e3 e11 e18 zm A g gh dy).set 21 (.inl (0, 10, f)) = (hp_h N xs zc e3 e11 e18 zm (uA A 21 f) g gh dy) := rfl
theorem hs_a22 {f : Nat → Int32} : (hp_h N xs zc e3 e11 e18 zm A g gh dy).set 22 (.inl (0, 10, f)) = (hp_h N xs zc e3 e11 e18 zm (uA A 22 f) g gh dy) := rfl
theorem hs_a23 {f : Nat → Int32} : (hp_h N xs zc e3 e11 e18 zm A g gh dy).set 23 (.inl (0, 4, f)) = (hp_h N xs zc e3 e11 e18 zm (uA A 23 f) g gh dy) := rfl
theorem hs_a24 {f : Nat → Int32} : (hp_h N xs zc e3 e11 e18 zm A g gh dy).set 24 (.inl (0, 12, f)) = (hp_h N xs zc e3 e11 e18 zm (uA A 24 f) g gh dy) := rfl
theorem hs_a26 {f : Nat → Int32} : (hp_h N xs zc e3 e11 e18 zm A g gh dy).set 26 (.inl (0, 4, f)) = (hp_h N xs zc e3 e11 e18 zm (uA A 26 f) g gh dy) := rfl
theorem hs_a27 {f : Nat → Int32} : (hp_h N xs zc e3 e11 e18 zm A g gh dy).set 27 (.inl (0, 4, f)) = (hp_h N xs zc e3 e11 e18 zm (uA A 27 f) g gh dy) := rfl
theorem hs_a28 {f : Nat → Int32} : (hp_h N xs zc e3 e11 e18 zm A g gh dy).set 28 (.inl (0, 4, f)) = (hp_h N xs zc e3 e11 e18 zm (uA A 28 f) g gh dy) := rfl
theorem hs_a29 {f : Nat → Int32} : (hp_h N xs zc e3 e11 e18 zm A g gh dy).set 29 (.inl (0, 48, f)) = (hp_h N xs zc e3 e11 e18 zm (uA A 29 f) g gh dy) := rfl
theorem hs_a30 {f : Nat → Int32} : (hp_h N xs zc e3 e11 e18 zm A g gh dy).set 30 (.inl (0, 48, f)) = (hp_h N xs zc e3 e11 e18 zm (uA A 30 f) g gh dy) := rfl
theorem hs_a31 {f : Nat → Int32} : (hp_h N xs zc e3 e11 e18 zm A g gh dy).set 31 (.inl (0, 48, f)) = (hp_h N xs zc e3 e11 e18 zm (uA A 31 f) g gh dy) := rfl
theorem hs_a32 {f : Nat → Int32} : (hp_h N xs zc e3 e11 e18 zm A g gh dy).set 32 (.inl (0, 12, f)) = (hp_h N xs zc e3 e11 e18 zm (uA A 32 f) g gh dy) := rfl
theorem hs_a33 {f : Nat → Int32} : (hp_h N xs zc e3 e11 e18 zm A g gh dy).set 33 (.inl (0, 12, f)) = (hp_h N xs zc e3 e11 e18 zm (uA A 33 f) g gh dy) := rfl
theorem hs_a34 {f : Nat → Int32} : (hp_h N xs zc e3 e11 e18 zm A g gh dy).set 34 (.inl (0, 12, f)) = (hp_h N xs zc e3 e11 e18 zm (uA A 34 f) g gh dy) := rfl
theorem hs_a35 {f : Nat → Int32} : (hp_h N xs zc e3 e11 e18 zm A g gh dy).set 35 (.inl (0, 12, f)) = (hp_h N xs zc e3 e11 e18 zm (uA A 35 f) g gh dy) := rfl
theorem hs_a36 {f : Nat → Int32} : (hp_h N xs zc e3 e11 e18 zm A g gh dy).set 36 (.inl (0, 12, f)) = (hp_h N xs zc e3 e11 e18 zm (uA A 36 f) g gh dy) := rfl
theorem hs_a37 {f : Nat → Int32} : (hp_h N xs zc e3 e11 e18 zm A g gh dy).set 37 (.inl (0, 12, f)) = (hp_h N xs zc e3 e11 e18 zm (uA A 37 f) g gh dy) := rfl
theorem hs_a38 {f : Nat → Int32} : (hp_h N xs zc e3 e11 e18 zm A g gh dy).set 38 (.inl (0, 60, f)) = (hp_h N xs zc e3 e11 e18 zm (uA A 38 f) g gh dy) := rfl
theorem hs_a39 {f : Nat → Int32} : (hp_h N xs zc e3 e11 e18 zm A g gh dy).set 39 (.inl (0, 60, f)) = (hp_h N xs zc e3 e11 e18 zm (uA A 39 f) g gh dy) := rfl
theorem hs_a40 {f : Nat → Int32} : (hp_h N xs zc e3 e11 e18 zm A g gh dy).set 40 (.inl (0, 60, f)) = (hp_h N xs zc e3 e11 e18 zm (uA A 40 f) g gh dy) := rfl
theorem hs_a41 {f : Nat → Int32} : (hp_h N xs zc e3 e11 e18 zm A g gh dy).set 41 (.inl (0, 60, f)) = (hp_h N xs zc e3 e11 e18 zm (uA A 41 f) g gh dy) := rfl
theorem hs_a42 {f : Nat → Int32} : (hp_h N xs zc e3 e11 e18 zm A g gh dy).set 42 (.inl (0, 20, f)) = (hp_h N xs zc e3 e11 e18 zm (uA A 42 f) g gh dy) := rfl
theorem hs_a43 {f : Nat → Int32} : (hp_h N xs zc e3 e11 e18 zm A g gh dy).set 43 (.inl (0, 6, f)) = (hp_h N xs zc e3 e11 e18 zm (uA A 43 f) g gh dy) := rfl
theorem hs_a44 {f : Nat → Int32} : (hp_h N xs zc e3 e11 e18 zm A g gh dy).set 44 (.inl (0, 6, f)) = (hp_h N xs zc e3 e11 e18 zm (uA A 44 f) g gh dy) := rfl
theorem hs_a45 {f : Nat → Int32} : (hp_h N xs zc e3 e11 e18 zm A g gh dy).set 45 (.inl (0, 6, f)) = (hp_h N xs zc e3 e11 e18 zm (uA A 45 f) g gh dy) := rfl
theorem hs_a46 {f : Nat → Int32} : (hp_h N xs zc e3 e11 e18 zm A g gh dy).set 46 (.inl (0, 6, f)) = (hp_h N xs zc e3 e11 e18 zm (uA A 46 f) g gh dy) := rfl
theorem hs_a47 {f : Nat → Int32} : (hp_h N xs zc e3 e11 e18 zm A g gh dy).set 47 (.inl (0, 6, f)) = (hp_h N xs zc e3 e11 e18 zm (uA A 47 f) g gh dy) := rfl
theorem hs_a48 {f : Nat → Int32} : (hp_h N xs zc e3 e11 e18 zm A g gh dy).set 48 (.inl (0, 6, f)) = (hp_h N xs zc e3 e11 e18 zm (uA A 48 f) g gh dy) := rfl
theorem hs_a49 {f : Nat → Int32} : (hp_h N xs zc e3 e11 e18 zm A g gh dy).set 49 (.inl (0, 10, f)) = (hp_h N xs zc e3 e11 e18 zm (uA A 49 f) g gh dy) := rfl
theorem hs_a50 {f : Nat → Int32} : (hp_h N xs zc e3 e11 e18 zm A g gh dy).set 50 (.inl (0, 10, f)) = (hp_h N xs zc e3 e11 e18 zm (uA A 50 f) g gh dy) := rfl
theorem hs_a51 {f : Nat → Int32} : (hp_h N xs zc e3 e11 e18 zm A g gh dy).set 51 (.inl (0, 10, f)) = (hp_h N xs zc e3 e11 e18 zm (uA A 51 f) g gh dy) := rfl
theorem hs_a52 {f : Nat → Int32} : (hp_h N xs zc e3 e11 e18 zm A g gh dy).set 52 (.inl (0, 12, f)) = (hp_h N xs zc e3 e11 e18 zm (uA A 52 f) g gh dy) := rfl
theorem hs_a53 {f : Nat → Int32} : (hp_h N xs zc e3 e11 e18 zm A g gh dy).set 53 (.inl (1, 156, f)) = (hp_h N xs zc e3 e11 e18 zm (uA A 53 f) g gh dy) := rfl
theorem hs_a54 {f : Nat → Int32} : (hp_h N xs zc e3 e11 e18 zm A g gh dy).set 54 (.inl (0, 144, f)) = (hp_h N xs zc e3 e11 e18 zm (uA A 54 f) g gh dy) := rfl
theorem hs_a55 {f : Nat → Int32} : (hp_h N xs zc e3 e11 e18 zm A g gh dy).set 55 (.inl (0, 4, f)) = (hp_h N xs zc e3 e11 e18 zm (uA A 55 f) g gh dy) := rfl
theorem hs_a56 {f : Nat → Int32} : (hp_h N xs zc e3 e11 e18 zm A g gh dy).set 56 (.inl (0, 12, f)) = (hp_h N xs zc e3 e11 e18 zm (uA A 56 f) g gh dy) := rfl
theorem hs_g {f : Nat → Option Nat} : (hp_h N xs zc e3 e11 e18 zm A g gh dy).set 2 (.inr (.inl (2, 4, f))) = (hp_h N xs zc e3 e11 e18 zm A f gh dy) := rfl
theorem hs_gh {f : Nat → Option Nat} : (hp_h N xs zc e3 e11 e18 zm A g gh dy).set 17 (.inr (.inl (0, 6, f))) = (hp_h N xs zc e3 e11 e18 zm A g f dy) := rfl
theorem hl_3 (he : e3 ≤ 12) : ld_at (hp_h N xs zc e3 e11 e18 zm A g gh dy) 3 4 5 6 7 12 e3 (A 4) (A 5) (A 6) (A 7) := ⟨rfl, rfl, rfl, rfl, rfl, by decide, he⟩
theorem hl_put_3 {x1 x2 x3 x4 : Int32} : ld_put (hp_h N xs zc e3 e11 e18 zm A g gh dy) 3 4 5 6 7 12 e3 (A 4) (A 5) (A 6) (A 7) x1 x2 x3 x4 = (hp_h N xs zc (e3 + 1) e11 e18 zm (uA (uA (uA (uA A 4 (upd (A 4) e3 x1)) 5 (upd (A 5) e3 x2)) 6 (upd (A 6) e3 x3)) 7 (upd (A 7) e3 x4)) g gh dy) := rfl
theorem hl_11 (he : e11 ≤ 60) : ld_at (hp_h N xs zc e3 e11 e18 zm A g gh dy) 11 12 13 14 15 60 e11 (A 12) (A 13) (A 14) (A 15) := ⟨rfl, rfl, rfl, rfl, rfl, by decide, he⟩
theorem hl_put_11 {x1 x2 x3 x4 : Int32} : ld_put (hp_h N xs zc e3 e11 e18 zm A g gh dy) 11 12 13 14 15 60 e11 (A 12) (A 13) (A 14) (A 15) x1 x2 x3 x4 = (hp_h N xs zc e3 (e11 + 1) e18 zm (uA (uA (uA (uA A 12 (upd (A 12) e11 x1)) 13 (upd (A 13) e11 x2)) 14 (upd (A 14) e11 x3)) 15 (upd (A 15) e11 x4)) g gh dy) := rfl
theorem hl_18 (he : e18 ≤ 10) : ld_at (hp_h N xs zc e3 e11 e18 zm A g gh dy) 18 19 20 21 22 10 e18 (A 19) (A 20) (A 21) (A 22) := ⟨rfl, rfl, rfl, rfl, rfl, by decide, he⟩
theorem hl_put_18 {x1 x2 x3 x4 : Int32} : ld_put (hp_h N xs zc e3 e11 e18 zm A g gh dy) 18 19 20 21 22 10 e18 (A 19) (A 20) (A 21) (A 22) x1 x2 x3 x4 = (hp_h N xs zc e3 e11 (e18 + 1) zm (uA (uA (uA (uA A 19 (upd (A 19) e18 x1)) 20 (upd (A 20) e18 x2)) 21 (upd (A 21) e18 x3)) 22 (upd (A 22) e18 x4)) g gh dy) := rfl
theorem hp_dy {k : Nat} : (hp_h N xs zc e3 e11 e18 zm A g gh dy)[57 + k]? = dy[k]? := by
  rw [Nat.add_comm]
  rfl
theorem hp_sy {k : Nat} {x : pw_C} : (hp_h N xs zc e3 e11 e18 zm A g gh dy).set (57 + k) x = (hp_h N xs zc e3 e11 e18 zm A g gh (dy.set k x)) := by
  rw [Nat.add_comm]
  rfl
theorem hp_len : (hp_h N xs zc e3 e11 e18 zm A g gh dy).length = 57 + dy.length := by
  rw [Nat.add_comm]
  rfl
theorem hp_app {l : pw_H} : (hp_h N xs zc e3 e11 e18 zm A g gh dy) ++ l = (hp_h N xs zc e3 e11 e18 zm A g gh (dy ++ l)) := rfl
end HP
