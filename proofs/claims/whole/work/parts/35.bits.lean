def bc_u (x s : Int32) : Int32 := (x.toUInt32 >>> (s.toUInt32 &&& Int32.toUInt32 31)).toInt32
def bc_1 (x : Int32) : Int32 := x - (bc_u x 1 &&& 1431655765)
def bc_2 (a : Int32) : Int32 := (a &&& 858993459) + (bc_u a 2 &&& 858993459)
def bc_3 (b : Int32) : Int32 := (b + bc_u b 4) &&& 252645135
def bc_4 (c : Int32) : Int32 := c + bc_u c 8
def bc_5 (c : Int32) : Int32 := c + bc_u c 16
/-- Integer.bitCount as its code has it -/
def bc_of (x : Int32) : Int32 := bc_5 (bc_4 (bc_3 (bc_2 (bc_1 x)))) &&& 63
theorem c_114 (d : Nat) (h : pw_H) (x : Int32) : pw_M d 114 [.inl x] h (pw_qi (pw_is h (bc_of x))) := by
  refine pr_iload_n rfl rfl ?_
  refine pr_iload_n rfl rfl ?_
  refine pr_push (v := 1) rfl rfl ?_
  refine pr_step rfl rfl rfl rfl ?_
  refine pr_push (v := 1431655765) rfl rfl ?_
  refine pr_step rfl rfl rfl rfl ?_
  refine pr_step rfl rfl rfl rfl ?_
  refine pr_top (y := bc_1 x) rfl ?_
  refine pr_istore_n rfl (Nat.le_of_ble_eq_true rfl) rfl ?_
  refine pr_iload_n rfl rfl ?_
  refine pr_push (v := 858993459) rfl rfl ?_
  refine pr_step rfl rfl rfl rfl ?_
  refine pr_iload_n rfl rfl ?_
  refine pr_push (v := 2) rfl rfl ?_
  refine pr_step rfl rfl rfl rfl ?_
  refine pr_push (v := 858993459) rfl rfl ?_
  refine pr_step rfl rfl rfl rfl ?_
  refine pr_step rfl rfl rfl rfl ?_
  refine pr_top (y := bc_2 (bc_1 x)) rfl ?_
  refine pr_istore_n rfl (Nat.le_of_ble_eq_true rfl) rfl ?_
  refine pr_iload_n rfl rfl ?_
  refine pr_iload_n rfl rfl ?_
  refine pr_push (v := 4) rfl rfl ?_
  refine pr_step rfl rfl rfl rfl ?_
  refine pr_step rfl rfl rfl rfl ?_
  refine pr_push (v := 252645135) rfl rfl ?_
  refine pr_step rfl rfl rfl rfl ?_
  refine pr_top (y := bc_3 (bc_2 (bc_1 x))) rfl ?_
  refine pr_istore_n rfl (Nat.le_of_ble_eq_true rfl) rfl ?_
  refine pr_iload_n rfl rfl ?_
  refine pr_iload_n rfl rfl ?_
  refine pr_push (v := 8) rfl rfl ?_
  refine pr_step rfl rfl rfl rfl ?_
  refine pr_step rfl rfl rfl rfl ?_
  refine pr_top (y := bc_4 (bc_3 (bc_2 (bc_1 x)))) rfl ?_
  refine pr_istore_n rfl (Nat.le_of_ble_eq_true rfl) rfl ?_
  refine pr_iload_n rfl rfl ?_
  refine pr_iload_n rfl rfl ?_
  refine pr_push (v := 16) rfl rfl ?_
  refine pr_step rfl rfl rfl rfl ?_
  refine pr_step rfl rfl rfl rfl ?_
  refine pr_top (y := bc_5 (bc_4 (bc_3 (bc_2 (bc_1 x))))) rfl ?_
  refine pr_istore_n rfl (Nat.le_of_ble_eq_true rfl) rfl ?_
  refine pr_iload_n rfl rfl ?_
  refine pr_push (v := 63) rfl rfl ?_
  refine pr_step rfl rfl rfl rfl ?_
  exact pr_reti rfl rfl (⟨rfl, rfl⟩)
