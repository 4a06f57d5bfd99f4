section
-- ===== PART A: goes FIRST, ahead of the names: the tables' words, and 'selects' of the private methods out of them =====
/-- a private method of a class that the tables say can be made, by its rows of tables_1 -/
def lw_okq (q : MethodName × Nat) : Prop := (q.1.cls ≠ "java/lang/invoke/MethodHandle" ∧ q.1.cls ≠ "java/lang/invoke/VarHandle") ∧ Cond.instantiable q.1.cls q.2 ∈ tables_1 ∧ Cond.privateMethod q.1 ∈ tables_1 ∧ Cond.instanceMethod q.1 ∈ tables_1
theorem lw_p0 : lw_okq (⟨"BoundWalks", "walkOf", "(I)LBoundWalks$Walk;"⟩, 17) := ⟨⟨by decide +kernel, by decide +kernel⟩, List.mem_of_getElem? (i := 9) (by decide +kernel), List.mem_of_getElem? (i := 149) (by decide +kernel), List.mem_of_getElem? (i := 150) (by decide +kernel)⟩
theorem lw_p1 : lw_okq (⟨"BoundWalks$Walk", "settle", "()V"⟩, 10) := ⟨⟨by decide +kernel, by decide +kernel⟩, List.mem_of_getElem? (i := 108) (by decide +kernel), List.mem_of_getElem? (i := 161) (by decide +kernel), List.mem_of_getElem? (i := 162) (by decide +kernel)⟩
theorem lw_p2 : lw_okq (⟨"BoundWalks$Walk", "chooseLengths", "()Z"⟩, 10) := ⟨⟨by decide +kernel, by decide +kernel⟩, List.mem_of_getElem? (i := 108) (by decide +kernel), List.mem_of_getElem? (i := 165) (by decide +kernel), List.mem_of_getElem? (i := 166) (by decide +kernel)⟩
theorem lw_p3 : lw_okq (⟨"BoundWalks$Walk", "isAlongX", "(I)Z"⟩, 10) := ⟨⟨by decide +kernel, by decide +kernel⟩, List.mem_of_getElem? (i := 108) (by decide +kernel), List.mem_of_getElem? (i := 169) (by decide +kernel), List.mem_of_getElem? (i := 170) (by decide +kernel)⟩
theorem lw_p4 : lw_okq (⟨"BoundWalks$Walk", "leastLength", "(II)I"⟩, 10) := ⟨⟨by decide +kernel, by decide +kernel⟩, List.mem_of_getElem? (i := 108) (by decide +kernel), List.mem_of_getElem? (i := 173) (by decide +kernel), List.mem_of_getElem? (i := 174) (by decide +kernel)⟩
theorem lw_p5 : lw_okq (⟨"BoundWalks$Walk", "sign", "(I)I"⟩, 10) := ⟨⟨by decide +kernel, by decide +kernel⟩, List.mem_of_getElem? (i := 108) (by decide +kernel), List.mem_of_getElem? (i := 177) (by decide +kernel), List.mem_of_getElem? (i := 178) (by decide +kernel)⟩
theorem lw_p6 : lw_okq (⟨"BoundWalks$Walk", "stepX", "(I)I"⟩, 10) := ⟨⟨by decide +kernel, by decide +kernel⟩, List.mem_of_getElem? (i := 108) (by decide +kernel), List.mem_of_getElem? (i := 182) (by decide +kernel), List.mem_of_getElem? (i := 183) (by decide +kernel)⟩
theorem lw_p7 : lw_okq (⟨"BoundWalks$Walk", "stepY", "(I)I"⟩, 10) := ⟨⟨by decide +kernel, by decide +kernel⟩, List.mem_of_getElem? (i := 108) (by decide +kernel), List.mem_of_getElem? (i := 186) (by decide +kernel), List.mem_of_getElem? (i := 187) (by decide +kernel)⟩
theorem lw_p8 : lw_okq (⟨"BoundWalks$Walk", "staysOnLand", "()Z"⟩, 10) := ⟨⟨by decide +kernel, by decide +kernel⟩, List.mem_of_getElem? (i := 108) (by decide +kernel), List.mem_of_getElem? (i := 190) (by decide +kernel), List.mem_of_getElem? (i := 191) (by decide +kernel)⟩
theorem lw_p9 : lw_okq (⟨"BoundWalks$Walk", "markInside", "()V"⟩, 10) := ⟨⟨by decide +kernel, by decide +kernel⟩, List.mem_of_getElem? (i := 108) (by decide +kernel), List.mem_of_getElem? (i := 195) (by decide +kernel), List.mem_of_getElem? (i := 196) (by decide +kernel)⟩
theorem lw_p10 : lw_okq (⟨"BoundWalks", "claimsOf", "(I)I"⟩, 17) := ⟨⟨by decide +kernel, by decide +kernel⟩, List.mem_of_getElem? (i := 9) (by decide +kernel), List.mem_of_getElem? (i := 243) (by decide +kernel), List.mem_of_getElem? (i := 244) (by decide +kernel)⟩
theorem lw_p11 : lw_okq (⟨"BoundWalks", "isParish", "(I)Z"⟩, 17) := ⟨⟨by decide +kernel, by decide +kernel⟩, List.mem_of_getElem? (i := 9) (by decide +kernel), List.mem_of_getElem? (i := 256) (by decide +kernel), List.mem_of_getElem? (i := 257) (by decide +kernel)⟩
theorem lw_p12 : lw_okq (⟨"BoundWalks", "ownerOf", "(II)I"⟩, 17) := ⟨⟨by decide +kernel, by decide +kernel⟩, List.mem_of_getElem? (i := 9) (by decide +kernel), List.mem_of_getElem? (i := 276) (by decide +kernel), List.mem_of_getElem? (i := 277) (by decide +kernel)⟩
theorem lw_p13 : lw_okq (⟨"BoundWalks", "canHappen", "(II)Z"⟩, 17) := ⟨⟨by decide +kernel, by decide +kernel⟩, List.mem_of_getElem? (i := 9) (by decide +kernel), List.mem_of_getElem? (i := 307) (by decide +kernel), List.mem_of_getElem? (i := 308) (by decide +kernel)⟩
theorem lw_p14 : lw_okq (⟨"BoundWalks", "isStone", "(I)Z"⟩, 17) := ⟨⟨by decide +kernel, by decide +kernel⟩, List.mem_of_getElem? (i := 9) (by decide +kernel), List.mem_of_getElem? (i := 311) (by decide +kernel), List.mem_of_getElem? (i := 312) (by decide +kernel)⟩
theorem lw_p15 : lw_okq (⟨"BoundWalks", "tell", "(III)I"⟩, 17) := ⟨⟨by decide +kernel, by decide +kernel⟩, List.mem_of_getElem? (i := 9) (by decide +kernel), List.mem_of_getElem? (i := 315) (by decide +kernel), List.mem_of_getElem? (i := 316) (by decide +kernel)⟩
def lw_privs_1 : List (MethodName × Nat) := [(⟨"BoundWalks", "walkOf", "(I)LBoundWalks$Walk;"⟩, 17), (⟨"BoundWalks$Walk", "settle", "()V"⟩, 10), (⟨"BoundWalks$Walk", "chooseLengths", "()Z"⟩, 10), (⟨"BoundWalks$Walk", "isAlongX", "(I)Z"⟩, 10), (⟨"BoundWalks$Walk", "leastLength", "(II)I"⟩, 10), (⟨"BoundWalks$Walk", "sign", "(I)I"⟩, 10), (⟨"BoundWalks$Walk", "stepX", "(I)I"⟩, 10), (⟨"BoundWalks$Walk", "stepY", "(I)I"⟩, 10), (⟨"BoundWalks$Walk", "staysOnLand", "()Z"⟩, 10), (⟨"BoundWalks$Walk", "markInside", "()V"⟩, 10), (⟨"BoundWalks", "claimsOf", "(I)I"⟩, 17), (⟨"BoundWalks", "isParish", "(I)Z"⟩, 17), (⟨"BoundWalks", "ownerOf", "(II)I"⟩, 17), (⟨"BoundWalks", "canHappen", "(II)Z"⟩, 17), (⟨"BoundWalks", "isStone", "(I)Z"⟩, 17), (⟨"BoundWalks", "tell", "(III)I"⟩, 17)]
theorem lw_r1 : ∀ q ∈ lw_privs_1, lw_okq q := List.forall_mem_cons.mpr ⟨lw_p0, List.forall_mem_cons.mpr ⟨lw_p1, List.forall_mem_cons.mpr ⟨lw_p2, List.forall_mem_cons.mpr ⟨lw_p3, List.forall_mem_cons.mpr ⟨lw_p4, List.forall_mem_cons.mpr ⟨lw_p5, List.forall_mem_cons.mpr ⟨lw_p6, List.forall_mem_cons.mpr ⟨lw_p7, List.forall_mem_cons.mpr ⟨lw_p8, List.forall_mem_cons.mpr ⟨lw_p9, List.forall_mem_cons.mpr ⟨lw_p10, List.forall_mem_cons.mpr ⟨lw_p11, List.forall_mem_cons.mpr ⟨lw_p12, List.forall_mem_cons.mpr ⟨lw_p13, List.forall_mem_cons.mpr ⟨lw_p14, List.forall_mem_cons.mpr ⟨lw_p15, fun _ h => absurd h List.not_mem_nil⟩⟩⟩⟩⟩⟩⟩⟩⟩⟩⟩⟩⟩⟩⟩⟩
theorem lw_p16 : lw_okq (⟨"BoundWalks", "houseOf", "(I)LBoundWalks$House;"⟩, 17) := ⟨⟨by decide +kernel, by decide +kernel⟩, List.mem_of_getElem? (i := 9) (by decide +kernel), List.mem_of_getElem? (i := 377) (by decide +kernel), List.mem_of_getElem? (i := 378) (by decide +kernel)⟩
theorem lw_p17 : lw_okq (⟨"BoundWalks", "ownerOfMost", "(LBoundWalks$House;I)I"⟩, 17) := ⟨⟨by decide +kernel, by decide +kernel⟩, List.mem_of_getElem? (i := 9) (by decide +kernel), List.mem_of_getElem? (i := 381) (by decide +kernel), List.mem_of_getElem? (i := 382) (by decide +kernel)⟩
theorem lw_p18 : lw_okq (⟨"BoundWalks", "isLostNow", "(I)Z"⟩, 17) := ⟨⟨by decide +kernel, by decide +kernel⟩, List.mem_of_getElem? (i := 9) (by decide +kernel), List.mem_of_getElem? (i := 389) (by decide +kernel), List.mem_of_getElem? (i := 390) (by decide +kernel)⟩
theorem lw_p19 : lw_okq (⟨"BoundWalks", "gatherForRound", "()I"⟩, 17) := ⟨⟨by decide +kernel, by decide +kernel⟩, List.mem_of_getElem? (i := 9) (by decide +kernel), List.mem_of_getElem? (i := 405) (by decide +kernel), List.mem_of_getElem? (i := 406) (by decide +kernel)⟩
theorem lw_p20 : lw_okq (⟨"BoundWalks", "seeOldest", "(III)V"⟩, 17) := ⟨⟨by decide +kernel, by decide +kernel⟩, List.mem_of_getElem? (i := 9) (by decide +kernel), List.mem_of_getElem? (i := 409) (by decide +kernel), List.mem_of_getElem? (i := 410) (by decide +kernel)⟩
theorem lw_p21 : lw_okq (⟨"BoundWalks", "someUnseen", "(II)Z"⟩, 17) := ⟨⟨by decide +kernel, by decide +kernel⟩, List.mem_of_getElem? (i := 9) (by decide +kernel), List.mem_of_getElem? (i := 413) (by decide +kernel), List.mem_of_getElem? (i := 414) (by decide +kernel)⟩
theorem lw_p22 : lw_okq (⟨"BoundWalksModel", "isParish", "(I)Z"⟩, 40) := ⟨⟨by decide +kernel, by decide +kernel⟩, List.mem_of_getElem? (i := 425) (by decide +kernel), List.mem_of_getElem? (i := 567) (by decide +kernel), List.mem_of_getElem? (i := 568) (by decide +kernel)⟩
theorem lw_p23 : lw_okq (⟨"BoundWalksModel", "findLengths", "(I)Z"⟩, 40) := ⟨⟨by decide +kernel, by decide +kernel⟩, List.mem_of_getElem? (i := 425) (by decide +kernel), List.mem_of_getElem? (i := 579) (by decide +kernel), List.mem_of_getElem? (i := 580) (by decide +kernel)⟩
theorem lw_p24 : lw_okq (⟨"BoundWalksModel", "leastFrom", "(III)I"⟩, 40) := ⟨⟨by decide +kernel, by decide +kernel⟩, List.mem_of_getElem? (i := 425) (by decide +kernel), List.mem_of_getElem? (i := 583) (by decide +kernel), List.mem_of_getElem? (i := 584) (by decide +kernel)⟩
theorem lw_p25 : lw_okq (⟨"BoundWalksModel", "mostFrom", "(III)I"⟩, 40) := ⟨⟨by decide +kernel, by decide +kernel⟩, List.mem_of_getElem? (i := 425) (by decide +kernel), List.mem_of_getElem? (i := 587) (by decide +kernel), List.mem_of_getElem? (i := 588) (by decide +kernel)⟩
theorem lw_p26 : lw_okq (⟨"BoundWalksModel", "layInside", "(I)I"⟩, 40) := ⟨⟨by decide +kernel, by decide +kernel⟩, List.mem_of_getElem? (i := 425) (by decide +kernel), List.mem_of_getElem? (i := 595) (by decide +kernel), List.mem_of_getElem? (i := 596) (by decide +kernel)⟩
theorem lw_p27 : lw_okq (⟨"BoundWalksModel", "layRing", "(I)Z"⟩, 40) := ⟨⟨by decide +kernel, by decide +kernel⟩, List.mem_of_getElem? (i := 425) (by decide +kernel), List.mem_of_getElem? (i := 599) (by decide +kernel), List.mem_of_getElem? (i := 600) (by decide +kernel)⟩
theorem lw_p28 : lw_okq (⟨"BoundWalksModel", "layClaims", "()V"⟩, 40) := ⟨⟨by decide +kernel, by decide +kernel⟩, List.mem_of_getElem? (i := 425) (by decide +kernel), List.mem_of_getElem? (i := 610) (by decide +kernel), List.mem_of_getElem? (i := 611) (by decide +kernel)⟩
theorem lw_p29 : lw_okq (⟨"BoundWalksModel", "ownerOf", "(II)I"⟩, 40) := ⟨⟨by decide +kernel, by decide +kernel⟩, List.mem_of_getElem? (i := 425) (by decide +kernel), List.mem_of_getElem? (i := 625) (by decide +kernel), List.mem_of_getElem? (i := 626) (by decide +kernel)⟩
theorem lw_p30 : lw_okq (⟨"BoundWalksModel", "mayTell", "(II)Z"⟩, 40) := ⟨⟨by decide +kernel, by decide +kernel⟩, List.mem_of_getElem? (i := 425) (by decide +kernel), List.mem_of_getElem? (i := 648) (by decide +kernel), List.mem_of_getElem? (i := 649) (by decide +kernel)⟩
theorem lw_p31 : lw_okq (⟨"BoundWalksModel", "isStone", "(I)Z"⟩, 40) := ⟨⟨by decide +kernel, by decide +kernel⟩, List.mem_of_getElem? (i := 425) (by decide +kernel), List.mem_of_getElem? (i := 652) (by decide +kernel), List.mem_of_getElem? (i := 653) (by decide +kernel)⟩
def lw_privs_2 : List (MethodName × Nat) := [(⟨"BoundWalks", "houseOf", "(I)LBoundWalks$House;"⟩, 17), (⟨"BoundWalks", "ownerOfMost", "(LBoundWalks$House;I)I"⟩, 17), (⟨"BoundWalks", "isLostNow", "(I)Z"⟩, 17), (⟨"BoundWalks", "gatherForRound", "()I"⟩, 17), (⟨"BoundWalks", "seeOldest", "(III)V"⟩, 17), (⟨"BoundWalks", "someUnseen", "(II)Z"⟩, 17), (⟨"BoundWalksModel", "isParish", "(I)Z"⟩, 40), (⟨"BoundWalksModel", "findLengths", "(I)Z"⟩, 40), (⟨"BoundWalksModel", "leastFrom", "(III)I"⟩, 40), (⟨"BoundWalksModel", "mostFrom", "(III)I"⟩, 40), (⟨"BoundWalksModel", "layInside", "(I)I"⟩, 40), (⟨"BoundWalksModel", "layRing", "(I)Z"⟩, 40), (⟨"BoundWalksModel", "layClaims", "()V"⟩, 40), (⟨"BoundWalksModel", "ownerOf", "(II)I"⟩, 40), (⟨"BoundWalksModel", "mayTell", "(II)Z"⟩, 40), (⟨"BoundWalksModel", "isStone", "(I)Z"⟩, 40)]
theorem lw_r2 : ∀ q ∈ lw_privs_2, lw_okq q := List.forall_mem_cons.mpr ⟨lw_p16, List.forall_mem_cons.mpr ⟨lw_p17, List.forall_mem_cons.mpr ⟨lw_p18, List.forall_mem_cons.mpr ⟨lw_p19, List.forall_mem_cons.mpr ⟨lw_p20, List.forall_mem_cons.mpr ⟨lw_p21, List.forall_mem_cons.mpr ⟨lw_p22, List.forall_mem_cons.mpr ⟨lw_p23, List.forall_mem_cons.mpr ⟨lw_p24, List.forall_mem_cons.mpr ⟨lw_p25, List.forall_mem_cons.mpr ⟨lw_p26, List.forall_mem_cons.mpr ⟨lw_p27, List.forall_mem_cons.mpr ⟨lw_p28, List.forall_mem_cons.mpr ⟨lw_p29, List.forall_mem_cons.mpr ⟨lw_p30, List.forall_mem_cons.mpr ⟨lw_p31, fun _ h => absurd h List.not_mem_nil⟩⟩⟩⟩⟩⟩⟩⟩⟩⟩⟩⟩⟩⟩⟩⟩
theorem lw_p32 : lw_okq (⟨"BoundWalksModel", "tell", "(III)I"⟩, 40) := ⟨⟨by decide +kernel, by decide +kernel⟩, List.mem_of_getElem? (i := 425) (by decide +kernel), List.mem_of_getElem? (i := 656) (by decide +kernel), List.mem_of_getElem? (i := 657) (by decide +kernel)⟩
theorem lw_p33 : lw_okq (⟨"BoundWalksModel", "whereOf", "(III)I"⟩, 40) := ⟨⟨by decide +kernel, by decide +kernel⟩, List.mem_of_getElem? (i := 425) (by decide +kernel), List.mem_of_getElem? (i := 668) (by decide +kernel), List.mem_of_getElem? (i := 669) (by decide +kernel)⟩
theorem lw_p34 : lw_okq (⟨"BoundWalksModel", "byOf", "(II)I"⟩, 40) := ⟨⟨by decide +kernel, by decide +kernel⟩, List.mem_of_getElem? (i := 425) (by decide +kernel), List.mem_of_getElem? (i := 692) (by decide +kernel), List.mem_of_getElem? (i := 693) (by decide +kernel)⟩
theorem lw_p35 : lw_okq (⟨"BoundWalksModel", "greaterPart", "(II)I"⟩, 40) := ⟨⟨by decide +kernel, by decide +kernel⟩, List.mem_of_getElem? (i := 425) (by decide +kernel), List.mem_of_getElem? (i := 696) (by decide +kernel), List.mem_of_getElem? (i := 697) (by decide +kernel)⟩
theorem lw_p36 : lw_okq (⟨"BoundWalksModel", "isLost", "(I)Z"⟩, 40) := ⟨⟨by decide +kernel, by decide +kernel⟩, List.mem_of_getElem? (i := 425) (by decide +kernel), List.mem_of_getElem? (i := 704) (by decide +kernel), List.mem_of_getElem? (i := 705) (by decide +kernel)⟩
theorem lw_p37 : lw_okq (⟨"BoundWalksModel", "longestAgo", "(I)I"⟩, 40) := ⟨⟨by decide +kernel, by decide +kernel⟩, List.mem_of_getElem? (i := 425) (by decide +kernel), List.mem_of_getElem? (i := 720) (by decide +kernel), List.mem_of_getElem? (i := 721) (by decide +kernel)⟩
def lw_privs_3 : List (MethodName × Nat) := [(⟨"BoundWalksModel", "tell", "(III)I"⟩, 40), (⟨"BoundWalksModel", "whereOf", "(III)I"⟩, 40), (⟨"BoundWalksModel", "byOf", "(II)I"⟩, 40), (⟨"BoundWalksModel", "greaterPart", "(II)I"⟩, 40), (⟨"BoundWalksModel", "isLost", "(I)Z"⟩, 40), (⟨"BoundWalksModel", "longestAgo", "(I)I"⟩, 40)]
theorem lw_r3 : ∀ q ∈ lw_privs_3, lw_okq q := List.forall_mem_cons.mpr ⟨lw_p32, List.forall_mem_cons.mpr ⟨lw_p33, List.forall_mem_cons.mpr ⟨lw_p34, List.forall_mem_cons.mpr ⟨lw_p35, List.forall_mem_cons.mpr ⟨lw_p36, List.forall_mem_cons.mpr ⟨lw_p37, fun _ h => absurd h List.not_mem_nil⟩⟩⟩⟩⟩⟩
def lw_privs : List (MethodName × Nat) := lw_privs_1 ++ (lw_privs_2 ++ (lw_privs_3))
def lw_tbl : List Cond := k2_sels lw_privs ++ tables_1
theorem lw_privs_ok : ∀ q ∈ lw_privs, lw_okq q := by
  show ∀ q ∈ lw_privs_1 ++ (lw_privs_2 ++ (lw_privs_3)), lw_okq q
  exact List.forall_mem_append.mpr ⟨lw_r1, List.forall_mem_append.mpr ⟨lw_r2, lw_r3⟩⟩
end
section
def pw_T0 : u_T := fun k => match k with
  | 0 => ("BoundWalks$House", "x", "I", true)
  | 1 => ("BoundWalks$House", "y", "I", true)
  | 2 => ("BoundWalks$House", "w", "I", true)
  | 3 => ("BoundWalks$House", "h", "I", true)
  | 4 => ("BoundWalks$House", "door", "I", true)
  | _ => ("BoundWalks$House", "hearth", "I", true)
def pw_t0 : Nat → FieldType := fun k => match k with
  | 0 => .int
  | 1 => .int
  | 2 => .int
  | 3 => .int
  | 4 => .int
  | _ => .int
theorem pw_nm0 : ∀ a, a < 6 → ∀ b, b < 6 → a ≠ b → (pw_T0 a).2.1 ≠ (pw_T0 b).2.1 := by decide +kernel
theorem pw_ty0 : ∀ k, k < 6 → parseFieldDescriptor (pw_T0 k).2.2.1 = some (pw_t0 k) := by decide +kernel
theorem pw_in0 : ∀ w ∈ u_ws "BoundWalks$House" pw_T0 6, w ∈ lw_tbl := by decide +kernel
theorem pw_gd0 : (u_ws "BoundWalks$House" pw_T0 6).all goodWord = true := by decide +kernel
def pw_T1 : u_T := fun k => match k with
  | 0 => ("BoundWalks$Ledger", "thing", "[I", true)
  | 1 => ("BoundWalks$Ledger", "from", "[I", true)
  | 2 => ("BoundWalks$Ledger", "told", "[I", true)
  | 3 => ("BoundWalks$Ledger", "value", "[I", true)
  | _ => ("BoundWalks$Ledger", "entries", "I", false)
def pw_t1 : Nat → FieldType := fun k => match k with
  | 0 => .array .int
  | 1 => .array .int
  | 2 => .array .int
  | 3 => .array .int
  | _ => .int
theorem pw_nm1 : ∀ a, a < 5 → ∀ b, b < 5 → a ≠ b → (pw_T1 a).2.1 ≠ (pw_T1 b).2.1 := by decide +kernel
theorem pw_ty1 : ∀ k, k < 5 → parseFieldDescriptor (pw_T1 k).2.2.1 = some (pw_t1 k) := by decide +kernel
theorem pw_in1 : ∀ w ∈ u_ws "BoundWalks$Ledger" pw_T1 5, w ∈ lw_tbl := by decide +kernel
theorem pw_gd1 : (u_ws "BoundWalks$Ledger" pw_T1 5).all goodWord = true := by decide +kernel
def pw_T2 : u_T := fun k => match k with
  | 0 => ("BoundWalks$Walk", "startX", "I", true)
  | 1 => ("BoundWalks$Walk", "startY", "I", true)
  | 2 => ("BoundWalks$Walk", "direction", "[I", true)
  | 3 => ("BoundWalks$Walk", "low", "[I", true)
  | 4 => ("BoundWalks$Walk", "high", "[I", true)
  | 5 => ("BoundWalks$Walk", "chosen", "[I", true)
  | 6 => ("BoundWalks$Walk", "insideRow", "[I", true)
  | 7 => ("BoundWalks$Walk", "legs", "I", false)
  | 8 => ("BoundWalks$Walk", "hasLengths", "Z", false)
  | _ => ("BoundWalks$Walk", "hasRing", "Z", false)
def pw_t2 : Nat → FieldType := fun k => match k with
  | 0 => .int
  | 1 => .int
  | 2 => .array .int
  | 3 => .array .int
  | 4 => .array .int
  | 5 => .array .int
  | 6 => .array .int
  | 7 => .int
  | 8 => .boolean
  | _ => .boolean
theorem pw_nm2 : ∀ a, a < 10 → ∀ b, b < 10 → a ≠ b → (pw_T2 a).2.1 ≠ (pw_T2 b).2.1 := by decide +kernel
theorem pw_ty2 : ∀ k, k < 10 → parseFieldDescriptor (pw_T2 k).2.2.1 = some (pw_t2 k) := by decide +kernel
theorem pw_in2 : ∀ w ∈ u_ws "BoundWalks$Walk" pw_T2 10, w ∈ lw_tbl := by decide +kernel
theorem pw_gd2 : (u_ws "BoundWalks$Walk" pw_T2 10).all goodWord = true := by decide +kernel
def pw_T3 : u_T := fun k => match k with
  | 0 => ("BoundWalks", "walks", "[LBoundWalks$Walk;", true)
  | 1 => ("BoundWalks", "parishCount", "I", false)
  | 2 => ("BoundWalks", "agreements", "LBoundWalks$Ledger;", true)
  | 3 => ("BoundWalks", "thisYear", "I", false)
  | 4 => ("BoundWalks", "stonePoint", "[I", true)
  | 5 => ("BoundWalks", "stoneSet", "[I", true)
  | 6 => ("BoundWalks", "stoneSeen", "[I", true)
  | 7 => ("BoundWalks", "stoneCount", "I", false)
  | 8 => ("BoundWalks", "tellings", "LBoundWalks$Ledger;", true)
  | 9 => ("BoundWalks", "births", "[I", true)
  | 10 => ("BoundWalks", "witnessCount", "I", false)
  | 11 => ("BoundWalks", "houses", "[LBoundWalks$House;", true)
  | 12 => ("BoundWalks", "houseCount", "I", false)
  | 13 => ("BoundWalks", "laws", "LBoundWalks$Ledger;", true)
  | 14 => ("BoundWalks", "gapYears", "I", false)
  | 15 => ("BoundWalks", "ownedFields", "[I", true)
  | _ => ("BoundWalks", "roundSeen", "[I", true)
def pw_t3 : Nat → FieldType := fun k => match k with
  | 0 => .array (.object "BoundWalks$Walk")
  | 1 => .int
  | 2 => .object "BoundWalks$Ledger"
  | 3 => .int
  | 4 => .array .int
  | 5 => .array .int
  | 6 => .array .int
  | 7 => .int
  | 8 => .object "BoundWalks$Ledger"
  | 9 => .array .int
  | 10 => .int
  | 11 => .array (.object "BoundWalks$House")
  | 12 => .int
  | 13 => .object "BoundWalks$Ledger"
  | 14 => .int
  | 15 => .array .int
  | _ => .array .int
theorem pw_nm3 : ∀ a, a < 17 → ∀ b, b < 17 → a ≠ b → (pw_T3 a).2.1 ≠ (pw_T3 b).2.1 := by decide +kernel
theorem pw_ty3 : ∀ k, k < 17 → parseFieldDescriptor (pw_T3 k).2.2.1 = some (pw_t3 k) := by decide +kernel
theorem pw_in3 : ∀ w ∈ u_ws "BoundWalks" pw_T3 17, w ∈ lw_tbl := by decide +kernel
theorem pw_gd3 : (u_ws "BoundWalks" pw_T3 17).all goodWord = true := by decide +kernel
def pw_T4 : u_T := fun k => match k with
  | 0 => ("BoundWalksModel", "parishes", "I", false)
  | 1 => ("BoundWalksModel", "startX", "[I", true)
  | 2 => ("BoundWalksModel", "startY", "[I", true)
  | 3 => ("BoundWalksModel", "legMany", "[I", true)
  | 4 => ("BoundWalksModel", "way", "[I", true)
  | 5 => ("BoundWalksModel", "low", "[I", true)
  | 6 => ("BoundWalksModel", "high", "[I", true)
  | 7 => ("BoundWalksModel", "agreements", "I", false)
  | 8 => ("BoundWalksModel", "agreeYear", "[I", true)
  | 9 => ("BoundWalksModel", "agreeField", "[I", true)
  | 10 => ("BoundWalksModel", "agreeTo", "[I", true)
  | 11 => ("BoundWalksModel", "now", "I", false)
  | 12 => ("BoundWalksModel", "stones", "I", false)
  | 13 => ("BoundWalksModel", "setYear", "[I", true)
  | 14 => ("BoundWalksModel", "setPoint", "[I", true)
  | 15 => ("BoundWalksModel", "seen", "[I", true)
  | 16 => ("BoundWalksModel", "tellings", "I", false)
  | 17 => ("BoundWalksModel", "toldOf", "[I", true)
  | 18 => ("BoundWalksModel", "toldYear", "[I", true)
  | 19 => ("BoundWalksModel", "toldWhen", "[I", true)
  | 20 => ("BoundWalksModel", "toldPoint", "[I", true)
  | 21 => ("BoundWalksModel", "witnesses", "I", false)
  | 22 => ("BoundWalksModel", "born", "[I", true)
  | 23 => ("BoundWalksModel", "houses", "I", false)
  | 24 => ("BoundWalksModel", "houseX", "[I", true)
  | 25 => ("BoundWalksModel", "houseY", "[I", true)
  | 26 => ("BoundWalksModel", "houseW", "[I", true)
  | 27 => ("BoundWalksModel", "houseH", "[I", true)
  | 28 => ("BoundWalksModel", "door", "[I", true)
  | 29 => ("BoundWalksModel", "hearth", "[I", true)
  | 30 => ("BoundWalksModel", "laws", "I", false)
  | 31 => ("BoundWalksModel", "lawUse", "[I", true)
  | 32 => ("BoundWalksModel", "lawYear", "[I", true)
  | 33 => ("BoundWalksModel", "lawBy", "[I", true)
  | 34 => ("BoundWalksModel", "gap", "I", false)
  | 35 => ("BoundWalksModel", "lengths", "[I", true)
  | 36 => ("BoundWalksModel", "sides", "[Z", true)
  | 37 => ("BoundWalksModel", "claim", "[I", true)
  | 38 => ("BoundWalksModel", "owns", "[I", true)
  | _ => ("BoundWalksModel", "last", "[I", true)
def pw_t4 : Nat → FieldType := fun k => match k with
  | 0 => .int
  | 1 => .array .int
  | 2 => .array .int
  | 3 => .array .int
  | 4 => .array .int
  | 5 => .array .int
  | 6 => .array .int
  | 7 => .int
  | 8 => .array .int
  | 9 => .array .int
  | 10 => .array .int
  | 11 => .int
  | 12 => .int
  | 13 => .array .int
  | 14 => .array .int
  | 15 => .array .int
  | 16 => .int
  | 17 => .array .int
  | 18 => .array .int
  | 19 => .array .int
  | 20 => .array .int
  | 21 => .int
  | 22 => .array .int
  | 23 => .int
  | 24 => .array .int
  | 25 => .array .int
  | 26 => .array .int
  | 27 => .array .int
  | 28 => .array .int
  | 29 => .array .int
  | 30 => .int
  | 31 => .array .int
  | 32 => .array .int
  | 33 => .array .int
  | 34 => .int
  | 35 => .array .int
  | 36 => .array .boolean
  | 37 => .array .int
  | 38 => .array .int
  | _ => .array .int
theorem pw_nm4 : ∀ a, a < 40 → ∀ b, b < 40 → a ≠ b → (pw_T4 a).2.1 ≠ (pw_T4 b).2.1 := by decide +kernel
theorem pw_ty4 : ∀ k, k < 40 → parseFieldDescriptor (pw_T4 k).2.2.1 = some (pw_t4 k) := by decide +kernel
theorem pw_in4 : ∀ w ∈ u_ws "BoundWalksModel" pw_T4 40, w ∈ lw_tbl := by decide +kernel
theorem pw_gd4 : (u_ws "BoundWalksModel" pw_T4 40).all goodWord = true := by decide +kernel
abbrev pw_cl : List vw_C := [("BoundWalks$House", pw_T0, 6), ("BoundWalks$Ledger", pw_T1, 5), ("BoundWalks$Walk", pw_T2, 10), ("BoundWalks", pw_T3, 17), ("BoundWalksModel", pw_T4, 40)]
abbrev pw_V : Type := Int32 ⊕ Option Nat
abbrev pw_O : Type := Instr × Nat × Nat × List Nat
def pw_def (k : Nat) : List pw_V := match k with
  | 0 => [.inl 0, .inl 0, .inl 0, .inl 0, .inl 0, .inl 0]
  | 1 => [.inr none, .inr none, .inr none, .inr none, .inl 0]
  | 2 => [.inl 0, .inl 0, .inr none, .inr none, .inr none, .inr none, .inr none, .inl 0, .inl 0, .inl 0]
  | 3 => [.inr none, .inl 0, .inr none, .inl 0, .inr none, .inr none, .inr none, .inl 0, .inr none, .inr none, .inl 0, .inr none, .inl 0, .inr none, .inl 0, .inr none, .inr none]
  | _ => [.inl 0, .inr none, .inr none, .inr none, .inr none, .inr none, .inr none, .inl 0, .inr none, .inr none, .inr none, .inl 0, .inl 0, .inr none, .inr none, .inr none, .inl 0, .inr none, .inr none, .inr none, .inr none, .inl 0, .inr none, .inl 0, .inr none, .inr none, .inr none, .inr none, .inr none, .inr none, .inl 0, .inr none, .inr none, .inr none, .inl 0, .inr none, .inr none, .inr none, .inr none, .inr none]
def pw_tyf (k : Nat) : Nat → FieldType := match k with
  | 0 => pw_t0
  | 1 => pw_t1
  | 2 => pw_t2
  | 3 => pw_t3
  | _ => pw_t4
-- 0 BoundWalksLaw.law([I)Z
def pw_o0_0 : List (Nat × pw_O) := [(0, .new 7, 3, 3, [46, 47, 39]), (3, .dup, 4, 0, []), (4, .invokespecial 9, 7, 23, [0, 3, 48, 49, 0, 39, 50]), (7, .astore_n 1, 8, 0, []), (8, .new 10, 11, 4, [462, 463, 42]), (11, .dup, 12, 0, []), (12, .invokespecial 12, 15, 68, [0, 4, 464, 465, 0, 42, 466]), (15, .astore_n 2, 16, 0, []), (16, .iconst 0, 17, 0, []), (17, .istore_n 3, 18, 0, []), (18, .iload_n 3, 19, 0, []), (19, .aload_n 0, 20, 0, []), (20, .arraylength, 21, 0, []), (21, .bipush 9, 23, 0, []), (23, .isub, 24, 0, []), (24, .if_icmp .gt 1006, 27, 1030, []), (27, .aload_n 0, 28, 0, []), (28, .iload_n 3, 29, 0, []), (29, .iaload, 30, 0, []), (30, .bipush 31, 32, 0, []), (32, .iand, 33, 0, []), (33, .tableswitch 991 0 23 #[111, 144, 197, 220, 253, 276, 309, 384, 427, 450, 473, 506, 559, 592, 635, 658, 691, 790, 833, 876, 899, 922, 935, 968], 144, 1024, [144, 177, 230, 253, 286, 309, 342, 417, 460, 483, 506, 539, 592, 625, 668, 691, 724, 823, 866, 909, 932, 955, 968, 1001]), (144, .aload_n 1, 145, 0, []), (145, .aload_n 0, 146, 0, []), (146, .iload_n 3, 147, 0, []), (147, .iconst 1, 148, 0, []), (148, .iadd, 149, 0, []), (149, .iaload, 150, 0, []), (150, .aload_n 0, 151, 0, []), (151, .iload_n 3, 152, 0, []), (152, .iconst 2, 153, 0, []), (153, .iadd, 154, 0, []), (154, .iaload, 155, 0, []), (155, .invokevirtual 13, 158, 24, [2, 3, 136, 137, 138, 39, 139]), (158, .aload_n 2, 159, 0, []), (159, .aload_n 0, 160, 0, []), (160, .iload_n 3, 161, 0, []), (161, .iconst 1, 162, 0, []), (162, .iadd, 163, 0, []), (163, .iaload, 164, 0, []), (164, .aload_n 0, 165, 0, []), (165, .iload_n 3, 166, 0, []), (166, .iconst 2, 167, 0, []), (167, .iadd, 168, 0, []), (168, .iaload, 169, 0, []), (169, .invokevirtual 17, 172, 74, [2, 4, 590, 591, 592, 42, 593]), (172, .if_icmp .eq 852, 175, 1024, []), (175, .iconst 0, 176, 0, [])]
def pw_o0_1 : List (Nat × pw_O) := [(176, .ireturn, 177, 0, []), (177, .aload_n 1, 178, 0, []), (178, .aload_n 0, 179, 0, []), (179, .iload_n 3, 180, 0, []), (180, .iconst 1, 181, 0, []), (181, .iadd, 182, 0, []), (182, .iaload, 183, 0, []), (183, .aload_n 0, 184, 0, []), (184, .iload_n 3, 185, 0, []), (185, .iconst 2, 186, 0, []), (186, .iadd, 187, 0, []), (187, .iaload, 188, 0, []), (188, .aload_n 0, 189, 0, []), (189, .iload_n 3, 190, 0, []), (190, .iconst 3, 191, 0, []), (191, .iadd, 192, 0, []), (192, .iaload, 193, 0, []), (193, .aload_n 0, 194, 0, []), (194, .iload_n 3, 195, 0, []), (195, .iconst 4, 196, 0, []), (196, .iadd, 197, 0, []), (197, .iaload, 198, 0, []), (198, .invokevirtual 18, 201, 25, [4, 3, 182, 183, 184, 39, 185]), (201, .aload_n 2, 202, 0, []), (202, .aload_n 0, 203, 0, []), (203, .iload_n 3, 204, 0, []), (204, .iconst 1, 205, 0, []), (205, .iadd, 206, 0, []), (206, .iaload, 207, 0, []), (207, .aload_n 0, 208, 0, []), (208, .iload_n 3, 209, 0, []), (209, .iconst 2, 210, 0, []), (210, .iadd, 211, 0, []), (211, .iaload, 212, 0, []), (212, .aload_n 0, 213, 0, []), (213, .iload_n 3, 214, 0, []), (214, .iconst 3, 215, 0, []), (215, .iadd, 216, 0, []), (216, .iaload, 217, 0, []), (217, .aload_n 0, 218, 0, []), (218, .iload_n 3, 219, 0, []), (219, .iconst 4, 220, 0, []), (220, .iadd, 221, 0, []), (221, .iaload, 222, 0, []), (222, .invokevirtual 22, 225, 75, [4, 4, 600, 601, 602, 42, 603]), (225, .if_icmp .eq 799, 228, 1024, []), (228, .iconst 0, 229, 0, []), (229, .ireturn, 230, 0, [])]
def pw_o0_2 : List (Nat × pw_O) := [(230, .aload_n 1, 231, 0, []), (231, .aload_n 0, 232, 0, []), (232, .iload_n 3, 233, 0, []), (233, .iconst 1, 234, 0, []), (234, .iadd, 235, 0, []), (235, .iaload, 236, 0, []), (236, .invokevirtual 23, 239, 26, [1, 3, 240, 241, 242, 39, 243]), (239, .aload_n 2, 240, 0, []), (240, .aload_n 0, 241, 0, []), (241, .iload_n 3, 242, 0, []), (242, .iconst 1, 243, 0, []), (243, .iadd, 244, 0, []), (244, .iaload, 245, 0, []), (245, .invokevirtual 27, 248, 76, [1, 4, 608, 609, 610, 42, 611]), (248, .if_icmp .eq 776, 251, 1024, []), (251, .iconst 0, 252, 0, []), (252, .ireturn, 253, 0, []), (253, .aload_n 1, 254, 0, []), (254, .aload_n 0, 255, 0, []), (255, .iload_n 3, 256, 0, []), (256, .iconst 1, 257, 0, []), (257, .iadd, 258, 0, []), (258, .iaload, 259, 0, []), (259, .aload_n 0, 260, 0, []), (260, .iload_n 3, 261, 0, []), (261, .iconst 2, 262, 0, []), (262, .iadd, 263, 0, []), (263, .iaload, 264, 0, []), (264, .invokevirtual 28, 267, 27, [2, 3, 248, 249, 250, 39, 251]), (267, .aload_n 2, 268, 0, []), (268, .aload_n 0, 269, 0, []), (269, .iload_n 3, 270, 0, []), (270, .iconst 1, 271, 0, []), (271, .iadd, 272, 0, []), (272, .iaload, 273, 0, []), (273, .aload_n 0, 274, 0, []), (274, .iload_n 3, 275, 0, []), (275, .iconst 2, 276, 0, []), (276, .iadd, 277, 0, []), (277, .iaload, 278, 0, []), (278, .invokevirtual 31, 281, 80, [2, 4, 612, 613, 614, 42, 615]), (281, .if_icmp .eq 743, 284, 1024, []), (284, .iconst 0, 285, 0, []), (285, .ireturn, 286, 0, []), (286, .aload_n 1, 287, 0, []), (287, .aload_n 0, 288, 0, []), (288, .iload_n 3, 289, 0, []), (289, .iconst 1, 290, 0, [])]
def pw_o0_3 : List (Nat × pw_O) := [(290, .iadd, 291, 0, []), (291, .iaload, 292, 0, []), (292, .invokevirtual 32, 295, 28, [1, 3, 256, 257, 258, 39, 259]), (295, .aload_n 2, 296, 0, []), (296, .aload_n 0, 297, 0, []), (297, .iload_n 3, 298, 0, []), (298, .iconst 1, 299, 0, []), (299, .iadd, 300, 0, []), (300, .iaload, 301, 0, []), (301, .invokevirtual 35, 304, 83, [1, 4, 628, 629, 630, 42, 631]), (304, .if_icmp .eq 720, 307, 1024, []), (307, .iconst 0, 308, 0, []), (308, .ireturn, 309, 0, []), (309, .aload_n 1, 310, 0, []), (310, .aload_n 0, 311, 0, []), (311, .iload_n 3, 312, 0, []), (312, .iconst 1, 313, 0, []), (313, .iadd, 314, 0, []), (314, .iaload, 315, 0, []), (315, .aload_n 0, 316, 0, []), (316, .iload_n 3, 317, 0, []), (317, .iconst 2, 318, 0, []), (318, .iadd, 319, 0, []), (319, .iaload, 320, 0, []), (320, .invokevirtual 36, 323, 29, [2, 3, 270, 271, 272, 39, 273]), (323, .aload_n 2, 324, 0, []), (324, .aload_n 0, 325, 0, []), (325, .iload_n 3, 326, 0, []), (326, .iconst 1, 327, 0, []), (327, .iadd, 328, 0, []), (328, .iaload, 329, 0, []), (329, .aload_n 0, 330, 0, []), (330, .iload_n 3, 331, 0, []), (331, .iconst 2, 332, 0, []), (332, .iadd, 333, 0, []), (333, .iaload, 334, 0, []), (334, .invokevirtual 39, 337, 85, [2, 4, 640, 641, 642, 42, 643]), (337, .if_icmp .eq 687, 340, 1024, []), (340, .iconst 0, 341, 0, []), (341, .ireturn, 342, 0, []), (342, .aload_n 1, 343, 0, []), (343, .aload_n 0, 344, 0, []), (344, .iload_n 3, 345, 0, []), (345, .iconst 1, 346, 0, []), (346, .iadd, 347, 0, []), (347, .iaload, 348, 0, []), (348, .aload_n 0, 349, 0, []), (349, .iload_n 3, 350, 0, [])]
def pw_o0_4 : List (Nat × pw_O) := [(350, .iconst 2, 351, 0, []), (351, .iadd, 352, 0, []), (352, .iaload, 353, 0, []), (353, .aload_n 0, 354, 0, []), (354, .iload_n 3, 355, 0, []), (355, .iconst 3, 356, 0, []), (356, .iadd, 357, 0, []), (357, .iaload, 358, 0, []), (358, .aload_n 0, 359, 0, []), (359, .iload_n 3, 360, 0, []), (360, .iconst 4, 361, 0, []), (361, .iadd, 362, 0, []), (362, .iaload, 363, 0, []), (363, .aload_n 0, 364, 0, []), (364, .iload_n 3, 365, 0, []), (365, .iconst 5, 366, 0, []), (366, .iadd, 367, 0, []), (367, .iaload, 368, 0, []), (368, .aload_n 0, 369, 0, []), (369, .iload_n 3, 370, 0, []), (370, .bipush 6, 372, 0, []), (372, .iadd, 373, 0, []), (373, .iaload, 374, 0, []), (374, .invokevirtual 40, 377, 30, [6, 3, 289, 290, 291, 39, 292]), (377, .aload_n 2, 378, 0, []), (378, .aload_n 0, 379, 0, []), (379, .iload_n 3, 380, 0, []), (380, .iconst 1, 381, 0, []), (381, .iadd, 382, 0, []), (382, .iaload, 383, 0, []), (383, .aload_n 0, 384, 0, []), (384, .iload_n 3, 385, 0, []), (385, .iconst 2, 386, 0, []), (386, .iadd, 387, 0, []), (387, .iaload, 388, 0, []), (388, .aload_n 0, 389, 0, []), (389, .iload_n 3, 390, 0, []), (390, .iconst 3, 391, 0, []), (391, .iadd, 392, 0, []), (392, .iaload, 393, 0, []), (393, .aload_n 0, 394, 0, []), (394, .iload_n 3, 395, 0, []), (395, .iconst 4, 396, 0, []), (396, .iadd, 397, 0, []), (397, .iaload, 398, 0, []), (398, .aload_n 0, 399, 0, []), (399, .iload_n 3, 400, 0, []), (400, .iconst 5, 401, 0, [])]
def pw_o0_5 : List (Nat × pw_O) := [(401, .iadd, 402, 0, []), (402, .iaload, 403, 0, []), (403, .aload_n 0, 404, 0, []), (404, .iload_n 3, 405, 0, []), (405, .bipush 6, 407, 0, []), (407, .iadd, 408, 0, []), (408, .iaload, 409, 0, []), (409, .invokevirtual 44, 412, 86, [6, 4, 651, 652, 653, 42, 654]), (412, .if_icmp .eq 612, 415, 1024, []), (415, .iconst 0, 416, 0, []), (416, .ireturn, 417, 0, []), (417, .aload_n 1, 418, 0, []), (418, .aload_n 0, 419, 0, []), (419, .iload_n 3, 420, 0, []), (420, .iconst 1, 421, 0, []), (421, .iadd, 422, 0, []), (422, .iaload, 423, 0, []), (423, .aload_n 0, 424, 0, []), (424, .iload_n 3, 425, 0, []), (425, .iconst 2, 426, 0, []), (426, .iadd, 427, 0, []), (427, .iaload, 428, 0, []), (428, .aload_n 0, 429, 0, []), (429, .iload_n 3, 430, 0, []), (430, .iconst 3, 431, 0, []), (431, .iadd, 432, 0, []), (432, .iaload, 433, 0, []), (433, .invokevirtual 45, 436, 31, [3, 3, 309, 310, 311, 39, 312]), (436, .aload_n 2, 437, 0, []), (437, .aload_n 0, 438, 0, []), (438, .iload_n 3, 439, 0, []), (439, .iconst 1, 440, 0, []), (440, .iadd, 441, 0, []), (441, .iaload, 442, 0, []), (442, .aload_n 0, 443, 0, []), (443, .iload_n 3, 444, 0, []), (444, .iconst 2, 445, 0, []), (445, .iadd, 446, 0, []), (446, .iaload, 447, 0, []), (447, .aload_n 0, 448, 0, []), (448, .iload_n 3, 449, 0, []), (449, .iconst 3, 450, 0, []), (450, .iadd, 451, 0, []), (451, .iaload, 452, 0, []), (452, .invokevirtual 49, 455, 88, [3, 4, 658, 659, 660, 42, 661]), (455, .if_icmp .eq 569, 458, 1024, []), (458, .iconst 0, 459, 0, []), (459, .ireturn, 460, 0, [])]
def pw_o0_6 : List (Nat × pw_O) := [(460, .aload_n 1, 461, 0, []), (461, .aload_n 0, 462, 0, []), (462, .iload_n 3, 463, 0, []), (463, .iconst 1, 464, 0, []), (464, .iadd, 465, 0, []), (465, .iaload, 466, 0, []), (466, .invokevirtual 50, 469, 32, [1, 3, 324, 325, 326, 39, 327]), (469, .aload_n 2, 470, 0, []), (470, .aload_n 0, 471, 0, []), (471, .iload_n 3, 472, 0, []), (472, .iconst 1, 473, 0, []), (473, .iadd, 474, 0, []), (474, .iaload, 475, 0, []), (475, .invokevirtual 53, 478, 90, [1, 4, 666, 667, 668, 42, 669]), (478, .if_icmp .eq 546, 481, 1024, []), (481, .iconst 0, 482, 0, []), (482, .ireturn, 483, 0, []), (483, .aload_n 1, 484, 0, []), (484, .aload_n 0, 485, 0, []), (485, .iload_n 3, 486, 0, []), (486, .iconst 1, 487, 0, []), (487, .iadd, 488, 0, []), (488, .iaload, 489, 0, []), (489, .invokevirtual 54, 492, 33, [1, 3, 329, 330, 331, 39, 332]), (492, .aload_n 2, 493, 0, []), (493, .aload_n 0, 494, 0, []), (494, .iload_n 3, 495, 0, []), (495, .iconst 1, 496, 0, []), (496, .iadd, 497, 0, []), (497, .iaload, 498, 0, []), (498, .invokevirtual 57, 501, 91, [1, 4, 673, 674, 675, 42, 676]), (501, .if_icmp .eq 523, 504, 1024, []), (504, .iconst 0, 505, 0, []), (505, .ireturn, 506, 0, []), (506, .aload_n 1, 507, 0, []), (507, .aload_n 0, 508, 0, []), (508, .iload_n 3, 509, 0, []), (509, .iconst 1, 510, 0, []), (510, .iadd, 511, 0, []), (511, .iaload, 512, 0, []), (512, .aload_n 0, 513, 0, []), (513, .iload_n 3, 514, 0, []), (514, .iconst 2, 515, 0, []), (515, .iadd, 516, 0, []), (516, .iaload, 517, 0, []), (517, .invokevirtual 58, 520, 34, [2, 3, 333, 334, 335, 39, 336]), (520, .aload_n 2, 521, 0, []), (521, .aload_n 0, 522, 0, [])]
def pw_o0_7 : List (Nat × pw_O) := [(522, .iload_n 3, 523, 0, []), (523, .iconst 1, 524, 0, []), (524, .iadd, 525, 0, []), (525, .iaload, 526, 0, []), (526, .aload_n 0, 527, 0, []), (527, .iload_n 3, 528, 0, []), (528, .iconst 2, 529, 0, []), (529, .iadd, 530, 0, []), (530, .iaload, 531, 0, []), (531, .invokevirtual 61, 534, 93, [2, 4, 677, 678, 679, 42, 680]), (534, .if_icmp .eq 490, 537, 1024, []), (537, .iconst 0, 538, 0, []), (538, .ireturn, 539, 0, []), (539, .aload_n 1, 540, 0, []), (540, .aload_n 0, 541, 0, []), (541, .iload_n 3, 542, 0, []), (542, .iconst 1, 543, 0, []), (543, .iadd, 544, 0, []), (544, .iaload, 545, 0, []), (545, .aload_n 0, 546, 0, []), (546, .iload_n 3, 547, 0, []), (547, .iconst 2, 548, 0, []), (548, .iadd, 549, 0, []), (549, .iaload, 550, 0, []), (550, .aload_n 0, 551, 0, []), (551, .iload_n 3, 552, 0, []), (552, .iconst 3, 553, 0, []), (553, .iadd, 554, 0, []), (554, .iaload, 555, 0, []), (555, .aload_n 0, 556, 0, []), (556, .iload_n 3, 557, 0, []), (557, .iconst 4, 558, 0, []), (558, .iadd, 559, 0, []), (559, .iaload, 560, 0, []), (560, .invokevirtual 62, 563, 35, [4, 3, 340, 341, 342, 39, 343]), (563, .aload_n 2, 564, 0, []), (564, .aload_n 0, 565, 0, []), (565, .iload_n 3, 566, 0, []), (566, .iconst 1, 567, 0, []), (567, .iadd, 568, 0, []), (568, .iaload, 569, 0, []), (569, .aload_n 0, 570, 0, []), (570, .iload_n 3, 571, 0, []), (571, .iconst 2, 572, 0, []), (572, .iadd, 573, 0, []), (573, .iaload, 574, 0, []), (574, .aload_n 0, 575, 0, []), (575, .iload_n 3, 576, 0, [])]
def pw_o0_8 : List (Nat × pw_O) := [(576, .iconst 3, 577, 0, []), (577, .iadd, 578, 0, []), (578, .iaload, 579, 0, []), (579, .aload_n 0, 580, 0, []), (580, .iload_n 3, 581, 0, []), (581, .iconst 4, 582, 0, []), (582, .iadd, 583, 0, []), (583, .iaload, 584, 0, []), (584, .invokevirtual 65, 587, 96, [4, 4, 681, 682, 683, 42, 684]), (587, .if_icmp .eq 437, 590, 1024, []), (590, .iconst 0, 591, 0, []), (591, .ireturn, 592, 0, []), (592, .aload_n 1, 593, 0, []), (593, .aload_n 0, 594, 0, []), (594, .iload_n 3, 595, 0, []), (595, .iconst 1, 596, 0, []), (596, .iadd, 597, 0, []), (597, .iaload, 598, 0, []), (598, .aload_n 0, 599, 0, []), (599, .iload_n 3, 600, 0, []), (600, .iconst 2, 601, 0, []), (601, .iadd, 602, 0, []), (602, .iaload, 603, 0, []), (603, .invokevirtual 66, 606, 36, [2, 3, 356, 357, 358, 39, 359]), (606, .aload_n 2, 607, 0, []), (607, .aload_n 0, 608, 0, []), (608, .iload_n 3, 609, 0, []), (609, .iconst 1, 610, 0, []), (610, .iadd, 611, 0, []), (611, .iaload, 612, 0, []), (612, .aload_n 0, 613, 0, []), (613, .iload_n 3, 614, 0, []), (614, .iconst 2, 615, 0, []), (615, .iadd, 616, 0, []), (616, .iaload, 617, 0, []), (617, .invokevirtual 69, 620, 97, [2, 4, 697, 698, 699, 42, 700]), (620, .if_icmp .eq 404, 623, 1024, []), (623, .iconst 0, 624, 0, []), (624, .ireturn, 625, 0, []), (625, .aload_n 1, 626, 0, []), (626, .aload_n 0, 627, 0, []), (627, .iload_n 3, 628, 0, []), (628, .iconst 1, 629, 0, []), (629, .iadd, 630, 0, []), (630, .iaload, 631, 0, []), (631, .aload_n 0, 632, 0, []), (632, .iload_n 3, 633, 0, []), (633, .iconst 2, 634, 0, [])]
def pw_o0_9 : List (Nat × pw_O) := [(634, .iadd, 635, 0, []), (635, .iaload, 636, 0, []), (636, .aload_n 0, 637, 0, []), (637, .iload_n 3, 638, 0, []), (638, .iconst 3, 639, 0, []), (639, .iadd, 640, 0, []), (640, .iaload, 641, 0, []), (641, .invokevirtual 70, 644, 37, [3, 3, 360, 361, 362, 39, 363]), (644, .aload_n 2, 645, 0, []), (645, .aload_n 0, 646, 0, []), (646, .iload_n 3, 647, 0, []), (647, .iconst 1, 648, 0, []), (648, .iadd, 649, 0, []), (649, .iaload, 650, 0, []), (650, .aload_n 0, 651, 0, []), (651, .iload_n 3, 652, 0, []), (652, .iconst 2, 653, 0, []), (653, .iadd, 654, 0, []), (654, .iaload, 655, 0, []), (655, .aload_n 0, 656, 0, []), (656, .iload_n 3, 657, 0, []), (657, .iconst 3, 658, 0, []), (658, .iadd, 659, 0, []), (659, .iaload, 660, 0, []), (660, .invokevirtual 73, 663, 99, [3, 4, 701, 702, 703, 42, 704]), (663, .if_icmp .eq 361, 666, 1024, []), (666, .iconst 0, 667, 0, []), (667, .ireturn, 668, 0, []), (668, .aload_n 1, 669, 0, []), (669, .aload_n 0, 670, 0, []), (670, .iload_n 3, 671, 0, []), (671, .iconst 1, 672, 0, []), (672, .iadd, 673, 0, []), (673, .iaload, 674, 0, []), (674, .invokevirtual 74, 677, 38, [1, 3, 364, 365, 366, 39, 367]), (677, .aload_n 2, 678, 0, []), (678, .aload_n 0, 679, 0, []), (679, .iload_n 3, 680, 0, []), (680, .iconst 1, 681, 0, []), (681, .iadd, 682, 0, []), (682, .iaload, 683, 0, []), (683, .invokevirtual 77, 686, 100, [1, 4, 709, 710, 711, 42, 712]), (686, .if_icmp .eq 338, 689, 1024, []), (689, .iconst 0, 690, 0, []), (690, .ireturn, 691, 0, []), (691, .aload_n 1, 692, 0, []), (692, .aload_n 0, 693, 0, []), (693, .iload_n 3, 694, 0, [])]
def pw_o0_10 : List (Nat × pw_O) := [(694, .iconst 1, 695, 0, []), (695, .iadd, 696, 0, []), (696, .iaload, 697, 0, []), (697, .aload_n 0, 698, 0, []), (698, .iload_n 3, 699, 0, []), (699, .iconst 2, 700, 0, []), (700, .iadd, 701, 0, []), (701, .iaload, 702, 0, []), (702, .invokevirtual 78, 705, 39, [2, 3, 368, 369, 370, 39, 371]), (705, .aload_n 2, 706, 0, []), (706, .aload_n 0, 707, 0, []), (707, .iload_n 3, 708, 0, []), (708, .iconst 1, 709, 0, []), (709, .iadd, 710, 0, []), (710, .iaload, 711, 0, []), (711, .aload_n 0, 712, 0, []), (712, .iload_n 3, 713, 0, []), (713, .iconst 2, 714, 0, []), (714, .iadd, 715, 0, []), (715, .iaload, 716, 0, []), (716, .invokevirtual 81, 719, 101, [2, 4, 713, 714, 715, 42, 716]), (719, .if_icmp .eq 305, 722, 1024, []), (722, .iconst 0, 723, 0, []), (723, .ireturn, 724, 0, []), (724, .aload_n 1, 725, 0, []), (725, .aload_n 0, 726, 0, []), (726, .iload_n 3, 727, 0, []), (727, .iconst 1, 728, 0, []), (728, .iadd, 729, 0, []), (729, .iaload, 730, 0, []), (730, .aload_n 0, 731, 0, []), (731, .iload_n 3, 732, 0, []), (732, .iconst 2, 733, 0, []), (733, .iadd, 734, 0, []), (734, .iaload, 735, 0, []), (735, .aload_n 0, 736, 0, []), (736, .iload_n 3, 737, 0, []), (737, .iconst 3, 738, 0, []), (738, .iadd, 739, 0, []), (739, .iaload, 740, 0, []), (740, .aload_n 0, 741, 0, []), (741, .iload_n 3, 742, 0, []), (742, .iconst 4, 743, 0, []), (743, .iadd, 744, 0, []), (744, .iaload, 745, 0, []), (745, .aload_n 0, 746, 0, []), (746, .iload_n 3, 747, 0, []), (747, .iconst 5, 748, 0, [])]
def pw_o0_11 : List (Nat × pw_O) := [(748, .iadd, 749, 0, []), (749, .iaload, 750, 0, []), (750, .aload_n 0, 751, 0, []), (751, .iload_n 3, 752, 0, []), (752, .bipush 6, 754, 0, []), (754, .iadd, 755, 0, []), (755, .iaload, 756, 0, []), (756, .aload_n 0, 757, 0, []), (757, .iload_n 3, 758, 0, []), (758, .bipush 7, 760, 0, []), (760, .iadd, 761, 0, []), (761, .iaload, 762, 0, []), (762, .aload_n 0, 763, 0, []), (763, .iload_n 3, 764, 0, []), (764, .bipush 8, 766, 0, []), (766, .iadd, 767, 0, []), (767, .iaload, 768, 0, []), (768, .invokevirtual 82, 771, 40, [8, 3, 372, 373, 374, 39, 375]), (771, .aload_n 2, 772, 0, []), (772, .aload_n 0, 773, 0, []), (773, .iload_n 3, 774, 0, []), (774, .iconst 1, 775, 0, []), (775, .iadd, 776, 0, []), (776, .iaload, 777, 0, []), (777, .aload_n 0, 778, 0, []), (778, .iload_n 3, 779, 0, []), (779, .iconst 2, 780, 0, []), (780, .iadd, 781, 0, []), (781, .iaload, 782, 0, []), (782, .aload_n 0, 783, 0, []), (783, .iload_n 3, 784, 0, []), (784, .iconst 3, 785, 0, []), (785, .iadd, 786, 0, []), (786, .iaload, 787, 0, []), (787, .aload_n 0, 788, 0, []), (788, .iload_n 3, 789, 0, []), (789, .iconst 4, 790, 0, []), (790, .iadd, 791, 0, []), (791, .iaload, 792, 0, []), (792, .aload_n 0, 793, 0, []), (793, .iload_n 3, 794, 0, []), (794, .iconst 5, 795, 0, []), (795, .iadd, 796, 0, []), (796, .iaload, 797, 0, []), (797, .aload_n 0, 798, 0, []), (798, .iload_n 3, 799, 0, []), (799, .bipush 6, 801, 0, []), (801, .iadd, 802, 0, [])]
def pw_o0_12 : List (Nat × pw_O) := [(802, .iaload, 803, 0, []), (803, .aload_n 0, 804, 0, []), (804, .iload_n 3, 805, 0, []), (805, .bipush 7, 807, 0, []), (807, .iadd, 808, 0, []), (808, .iaload, 809, 0, []), (809, .aload_n 0, 810, 0, []), (810, .iload_n 3, 811, 0, []), (811, .bipush 8, 813, 0, []), (813, .iadd, 814, 0, []), (814, .iaload, 815, 0, []), (815, .invokevirtual 86, 818, 102, [8, 4, 717, 718, 719, 42, 720]), (818, .if_icmp .eq 206, 821, 1024, []), (821, .iconst 0, 822, 0, []), (822, .ireturn, 823, 0, []), (823, .aload_n 1, 824, 0, []), (824, .aload_n 0, 825, 0, []), (825, .iload_n 3, 826, 0, []), (826, .iconst 1, 827, 0, []), (827, .iadd, 828, 0, []), (828, .iaload, 829, 0, []), (829, .aload_n 0, 830, 0, []), (830, .iload_n 3, 831, 0, []), (831, .iconst 2, 832, 0, []), (832, .iadd, 833, 0, []), (833, .iaload, 834, 0, []), (834, .aload_n 0, 835, 0, []), (835, .iload_n 3, 836, 0, []), (836, .iconst 3, 837, 0, []), (837, .iadd, 838, 0, []), (838, .iaload, 839, 0, []), (839, .invokevirtual 87, 842, 41, [3, 3, 406, 407, 408, 39, 409]), (842, .aload_n 2, 843, 0, []), (843, .aload_n 0, 844, 0, []), (844, .iload_n 3, 845, 0, []), (845, .iconst 1, 846, 0, []), (846, .iadd, 847, 0, []), (847, .iaload, 848, 0, []), (848, .aload_n 0, 849, 0, []), (849, .iload_n 3, 850, 0, []), (850, .iconst 2, 851, 0, []), (851, .iadd, 852, 0, []), (852, .iaload, 853, 0, []), (853, .aload_n 0, 854, 0, []), (854, .iload_n 3, 855, 0, []), (855, .iconst 3, 856, 0, []), (856, .iadd, 857, 0, []), (857, .iaload, 858, 0, [])]
def pw_o0_13 : List (Nat × pw_O) := [(858, .invokevirtual 90, 861, 103, [3, 4, 721, 722, 723, 42, 724]), (861, .if_icmp .eq 163, 864, 1024, []), (864, .iconst 0, 865, 0, []), (865, .ireturn, 866, 0, []), (866, .aload_n 1, 867, 0, []), (867, .aload_n 0, 868, 0, []), (868, .iload_n 3, 869, 0, []), (869, .iconst 1, 870, 0, []), (870, .iadd, 871, 0, []), (871, .iaload, 872, 0, []), (872, .aload_n 0, 873, 0, []), (873, .iload_n 3, 874, 0, []), (874, .iconst 2, 875, 0, []), (875, .iadd, 876, 0, []), (876, .iaload, 877, 0, []), (877, .aload_n 0, 878, 0, []), (878, .iload_n 3, 879, 0, []), (879, .iconst 3, 880, 0, []), (880, .iadd, 881, 0, []), (881, .iaload, 882, 0, []), (882, .invokevirtual 91, 885, 42, [3, 3, 410, 411, 412, 39, 413]), (885, .aload_n 2, 886, 0, []), (886, .aload_n 0, 887, 0, []), (887, .iload_n 3, 888, 0, []), (888, .iconst 1, 889, 0, []), (889, .iadd, 890, 0, []), (890, .iaload, 891, 0, []), (891, .aload_n 0, 892, 0, []), (892, .iload_n 3, 893, 0, []), (893, .iconst 2, 894, 0, []), (894, .iadd, 895, 0, []), (895, .iaload, 896, 0, []), (896, .aload_n 0, 897, 0, []), (897, .iload_n 3, 898, 0, []), (898, .iconst 3, 899, 0, []), (899, .iadd, 900, 0, []), (900, .iaload, 901, 0, []), (901, .invokevirtual 94, 904, 106, [3, 4, 725, 726, 727, 42, 728]), (904, .if_icmp .eq 120, 907, 1024, []), (907, .iconst 0, 908, 0, []), (908, .ireturn, 909, 0, []), (909, .aload_n 1, 910, 0, []), (910, .aload_n 0, 911, 0, []), (911, .iload_n 3, 912, 0, []), (912, .iconst 1, 913, 0, []), (913, .iadd, 914, 0, []), (914, .iaload, 915, 0, []), (915, .invokevirtual 95, 918, 43, [1, 3, 422, 423, 424, 39, 425])]
def pw_o0_14 : List (Nat × pw_O) := [(918, .aload_n 2, 919, 0, []), (919, .aload_n 0, 920, 0, []), (920, .iload_n 3, 921, 0, []), (921, .iconst 1, 922, 0, []), (922, .iadd, 923, 0, []), (923, .iaload, 924, 0, []), (924, .invokevirtual 98, 927, 108, [1, 4, 737, 738, 739, 42, 740]), (927, .if_icmp .eq 97, 930, 1024, []), (930, .iconst 0, 931, 0, []), (931, .ireturn, 932, 0, []), (932, .aload_n 1, 933, 0, []), (933, .aload_n 0, 934, 0, []), (934, .iload_n 3, 935, 0, []), (935, .iconst 1, 936, 0, []), (936, .iadd, 937, 0, []), (937, .iaload, 938, 0, []), (938, .invokevirtual 99, 941, 44, [1, 3, 430, 431, 432, 39, 433]), (941, .aload_n 2, 942, 0, []), (942, .aload_n 0, 943, 0, []), (943, .iload_n 3, 944, 0, []), (944, .iconst 1, 945, 0, []), (945, .iadd, 946, 0, []), (946, .iaload, 947, 0, []), (947, .invokevirtual 102, 950, 109, [1, 4, 745, 746, 747, 42, 748]), (950, .if_icmp .eq 74, 953, 1024, []), (953, .iconst 0, 954, 0, []), (954, .ireturn, 955, 0, []), (955, .aload_n 1, 956, 0, []), (956, .invokevirtual 103, 959, 45, [0, 3, 434, 435, 436, 39, 437]), (959, .aload_n 2, 960, 0, []), (960, .invokevirtual 107, 963, 110, [0, 4, 749, 750, 751, 42, 752]), (963, .if_icmp .eq 61, 966, 1024, []), (966, .iconst 0, 967, 0, []), (967, .ireturn, 968, 0, []), (968, .aload_n 1, 969, 0, []), (969, .aload_n 0, 970, 0, []), (970, .iload_n 3, 971, 0, []), (971, .iconst 1, 972, 0, []), (972, .iadd, 973, 0, []), (973, .iaload, 974, 0, []), (974, .aload_n 0, 975, 0, []), (975, .iload_n 3, 976, 0, []), (976, .iconst 2, 977, 0, []), (977, .iadd, 978, 0, []), (978, .iaload, 979, 0, []), (979, .invokevirtual 108, 982, 46, [2, 3, 438, 439, 440, 39, 441]), (982, .aload_n 2, 983, 0, []), (983, .aload_n 0, 984, 0, [])]
def pw_o0_15 : List (Nat × pw_O) := [(984, .iload_n 3, 985, 0, []), (985, .iconst 1, 986, 0, []), (986, .iadd, 987, 0, []), (987, .iaload, 988, 0, []), (988, .aload_n 0, 989, 0, []), (989, .iload_n 3, 990, 0, []), (990, .iconst 2, 991, 0, []), (991, .iadd, 992, 0, []), (992, .iaload, 993, 0, []), (993, .invokevirtual 111, 996, 112, [2, 4, 753, 754, 755, 42, 756]), (996, .if_icmp .eq 28, 999, 1024, []), (999, .iconst 0, 1000, 0, []), (1000, .ireturn, 1001, 0, []), (1001, .aload_n 1, 1002, 0, []), (1002, .aload_n 0, 1003, 0, []), (1003, .iload_n 3, 1004, 0, []), (1004, .iconst 1, 1005, 0, []), (1005, .iadd, 1006, 0, []), (1006, .iaload, 1007, 0, []), (1007, .invokevirtual 112, 1010, 47, [1, 3, 454, 455, 456, 39, 457]), (1010, .aload_n 2, 1011, 0, []), (1011, .aload_n 0, 1012, 0, []), (1012, .iload_n 3, 1013, 0, []), (1013, .iconst 1, 1014, 0, []), (1014, .iadd, 1015, 0, []), (1015, .iaload, 1016, 0, []), (1016, .invokevirtual 115, 1019, 113, [1, 4, 761, 762, 763, 42, 764]), (1019, .if_icmp .eq 5, 1022, 1024, []), (1022, .iconst 0, 1023, 0, []), (1023, .ireturn, 1024, 0, []), (1024, .iinc 3 9, 1027, 0, []), (1027, .goto (-1009), 1030, 18, []), (1030, .iconst 1, 1031, 0, []), (1031, .ireturn, 1032, 0, [])]
def pw_o0 : List (Nat × pw_O) := pw_o0_0 ++ (pw_o0_1 ++ (pw_o0_2 ++ (pw_o0_3 ++ (pw_o0_4 ++ (pw_o0_5 ++ (pw_o0_6 ++ (pw_o0_7 ++ (pw_o0_8 ++ (pw_o0_9 ++ (pw_o0_10 ++ (pw_o0_11 ++ (pw_o0_12 ++ (pw_o0_13 ++ (pw_o0_14 ++ (pw_o0_15)))))))))))))))
-- 1 BoundWalks$House.<init>(IIIIII)V
def pw_o1 : List (Nat × pw_O) := [(0, .aload_n 0, 1, 0, []), (1, .invokespecial 1, 4, 0, [380]), (4, .aload_n 0, 5, 0, []), (5, .iload_n 1, 6, 0, []), (6, .putfield 7, 9, 0, [0, 0, 381, 1]), (9, .aload_n 0, 10, 0, []), (10, .iload_n 2, 11, 0, []), (11, .putfield 13, 14, 0, [1, 0, 383, 1]), (14, .aload_n 0, 15, 0, []), (15, .iload_n 3, 16, 0, []), (16, .putfield 16, 19, 0, [2, 0, 385, 1]), (19, .aload_n 0, 20, 0, []), (20, .iload 4, 22, 0, []), (22, .putfield 19, 25, 0, [3, 0, 387, 1]), (25, .aload_n 0, 26, 0, []), (26, .iload 5, 28, 0, []), (28, .putfield 22, 31, 0, [4, 0, 389, 1]), (31, .aload_n 0, 32, 0, []), (32, .iload 6, 34, 0, []), (34, .putfield 25, 37, 0, [5, 0, 391, 1]), (37, .return_, 38, 0, [])]
-- 2 BoundWalks$Ledger.<init>(I)V
def pw_o2 : List (Nat × pw_O) := [(0, .aload_n 0, 1, 0, []), (1, .invokespecial 3, 4, 0, [61]), (4, .iload_n 1, 5, 0, []), (5, .iconst 0, 6, 0, []), (6, .invokestatic 9, 9, 0, [62, 0]), (9, .istore_n 2, 10, 0, []), (10, .aload_n 0, 11, 0, []), (11, .iload_n 2, 12, 0, []), (12, .newarray .int, 14, 0, [81]), (14, .putfield 15, 17, 1, [0, 2, 65, 1]), (17, .aload_n 0, 18, 0, []), (18, .iload_n 2, 19, 0, []), (19, .newarray .int, 21, 0, [81]), (21, .putfield 21, 24, 1, [1, 2, 66, 1]), (24, .aload_n 0, 25, 0, []), (25, .iload_n 2, 26, 0, []), (26, .newarray .int, 28, 0, [81]), (28, .putfield 24, 31, 1, [2, 2, 67, 1]), (31, .aload_n 0, 32, 0, []), (32, .iload_n 2, 33, 0, []), (33, .newarray .int, 35, 0, [81]), (35, .putfield 27, 38, 1, [3, 2, 68, 1]), (38, .return_, 39, 0, [])]
-- 3 BoundWalks$Ledger.size()I
def pw_o3 : List (Nat × pw_O) := [(0, .aload_n 0, 1, 0, []), (1, .getfield 30, 4, 1, [4, 69, 0]), (4, .ireturn, 5, 0, [])]
-- 4 BoundWalks$Ledger.isFull()Z
def pw_o4 : List (Nat × pw_O) := [(0, .aload_n 0, 1, 0, []), (1, .getfield 30, 4, 1, [4, 69, 0]), (4, .aload_n 0, 5, 0, []), (5, .getfield 15, 8, 1, [0, 65, 0]), (8, .arraylength, 9, 0, []), (9, .if_icmp .lt 7, 12, 16, []), (12, .iconst 1, 13, 0, []), (13, .goto 4, 16, 17, []), (16, .iconst 0, 17, 0, []), (17, .ireturn, 18, 0, [])]
-- 5 BoundWalks$Ledger.write(IIII)I
def pw_o5 : List (Nat × pw_O) := [(0, .aload_n 0, 1, 0, []), (1, .invokevirtual 34, 4, 4, [0, 1, 308, 301, 302, 40, 303]), (4, .ifCond .eq 6, 7, 10, []), (7, .bipush (-4), 9, 0, []), (9, .ireturn, 10, 0, []), (10, .aload_n 0, 11, 0, []), (11, .getfield 15, 14, 1, [0, 65, 0]), (14, .aload_n 0, 15, 0, []), (15, .getfield 30, 18, 1, [4, 69, 0]), (18, .iload_n 1, 19, 0, []), (19, .iastore, 20, 0, []), (20, .aload_n 0, 21, 0, []), (21, .getfield 21, 24, 1, [1, 66, 0]), (24, .aload_n 0, 25, 0, []), (25, .getfield 30, 28, 1, [4, 69, 0]), (28, .iload_n 2, 29, 0, []), (29, .iastore, 30, 0, []), (30, .aload_n 0, 31, 0, []), (31, .getfield 24, 34, 1, [2, 67, 0]), (34, .aload_n 0, 35, 0, []), (35, .getfield 30, 38, 1, [4, 69, 0]), (38, .iload_n 3, 39, 0, []), (39, .iastore, 40, 0, []), (40, .aload_n 0, 41, 0, []), (41, .getfield 27, 44, 1, [3, 68, 0]), (44, .aload_n 0, 45, 0, []), (45, .getfield 30, 48, 1, [4, 69, 0]), (48, .iload 4, 50, 0, []), (50, .iastore, 51, 0, []), (51, .aload_n 0, 52, 0, []), (52, .dup, 53, 0, []), (53, .getfield 30, 56, 1, [4, 69, 0]), (56, .dup_x1, 57, 0, []), (57, .iconst 1, 58, 0, []), (58, .iadd, 59, 0, []), (59, .putfield 30, 62, 1, [4, 0, 69, 0]), (62, .ireturn, 63, 0, [])]
-- 6 BoundWalks$Ledger.latest(IIII)I
def pw_o6 : List (Nat × pw_O) := [(0, .iconst (-1), 1, 0, []), (1, .istore 5, 3, 0, []), (3, .iload 4, 5, 0, []), (5, .istore 6, 7, 0, []), (7, .iconst 0, 8, 0, []), (8, .istore 7, 10, 0, []), (10, .iload 7, 12, 0, []), (12, .aload_n 0, 13, 0, []), (13, .getfield 30, 16, 1, [4, 69, 0]), (16, .if_icmp .ge 84, 19, 100, []), (19, .aload_n 0, 20, 0, []), (20, .getfield 15, 23, 1, [0, 65, 0]), (23, .iload 7, 25, 0, []), (25, .iaload, 26, 0, []), (26, .iload_n 1, 27, 0, []), (27, .if_icmp .ne 29, 30, 56, []), (30, .aload_n 0, 31, 0, []), (31, .getfield 21, 34, 1, [1, 66, 0]), (34, .iload 7, 36, 0, []), (36, .iaload, 37, 0, []), (37, .iload_n 2, 38, 0, []), (38, .if_icmp .gt 18, 41, 56, []), (41, .aload_n 0, 42, 0, []), (42, .getfield 24, 45, 1, [2, 67, 0]), (45, .iload 7, 47, 0, []), (47, .iaload, 48, 0, []), (48, .iload_n 3, 49, 0, []), (49, .if_icmp .gt 7, 52, 56, []), (52, .iconst 1, 53, 0, []), (53, .goto 4, 56, 57, []), (56, .iconst 0, 57, 0, []), (57, .istore 8, 59, 0, []), (59, .iload 8, 61, 0, []), (61, .ifCond .eq 33, 64, 94, []), (64, .aload_n 0, 65, 0, []), (65, .getfield 21, 68, 1, [1, 66, 0]), (68, .iload 7, 70, 0, []), (70, .iaload, 71, 0, []), (71, .iload 5, 73, 0, []), (73, .if_icmp .lt 21, 76, 94, []), (76, .aload_n 0, 77, 0, []), (77, .getfield 21, 80, 1, [1, 66, 0]), (80, .iload 7, 82, 0, []), (82, .iaload, 83, 0, []), (83, .istore 5, 85, 0, []), (85, .aload_n 0, 86, 0, []), (86, .getfield 27, 89, 1, [3, 68, 0]), (89, .iload 7, 91, 0, []), (91, .iaload, 92, 0, []), (92, .istore 6, 94, 0, []), (94, .iinc 7 1, 97, 0, []), (97, .goto (-87), 100, 10, []), (100, .iload 6, 102, 0, []), (102, .ireturn, 103, 0, [])]
-- 7 BoundWalks$Walk.<init>(II)V
def pw_o7 : List (Nat × pw_O) := [(0, .aload_n 0, 1, 0, []), (1, .invokespecial 3, 4, 0, [150]), (4, .aload_n 0, 5, 0, []), (5, .bipush 12, 7, 0, []), (7, .newarray .int, 9, 0, [81]), (9, .putfield 9, 12, 2, [2, 2, 153, 1]), (12, .aload_n 0, 13, 0, []), (13, .bipush 12, 15, 0, []), (15, .newarray .int, 17, 0, [81]), (17, .putfield 15, 20, 2, [3, 2, 154, 1]), (20, .aload_n 0, 21, 0, []), (21, .bipush 12, 23, 0, []), (23, .newarray .int, 25, 0, [81]), (25, .putfield 18, 28, 2, [4, 2, 155, 1]), (28, .aload_n 0, 29, 0, []), (29, .bipush 12, 31, 0, []), (31, .newarray .int, 33, 0, [81]), (33, .putfield 21, 36, 2, [5, 2, 156, 1]), (36, .aload_n 0, 37, 0, []), (37, .bipush 12, 39, 0, []), (39, .newarray .int, 41, 0, [81]), (41, .putfield 24, 44, 2, [6, 2, 157, 1]), (44, .aload_n 0, 45, 0, []), (45, .iconst 1, 46, 0, []), (46, .putfield 27, 49, 2, [8, 1, 159, 0]), (49, .aload_n 0, 50, 0, []), (50, .iconst 1, 51, 0, []), (51, .putfield 31, 54, 2, [9, 1, 160, 0]), (54, .aload_n 0, 55, 0, []), (55, .iload_n 1, 56, 0, []), (56, .putfield 34, 59, 2, [0, 0, 151, 1]), (59, .aload_n 0, 60, 0, []), (60, .iload_n 2, 61, 0, []), (61, .putfield 38, 64, 2, [1, 0, 152, 1]), (64, .return_, 65, 0, [])]
-- 8 BoundWalks$Walk.legCount()I
def pw_o8 : List (Nat × pw_O) := [(0, .aload_n 0, 1, 0, []), (1, .getfield 41, 4, 2, [7, 158, 0]), (4, .ireturn, 5, 0, [])]
-- 9 BoundWalks$Walk.addLeg(III)V
def pw_o9 : List (Nat × pw_O) := [(0, .aload_n 0, 1, 0, []), (1, .getfield 41, 4, 2, [7, 158, 0]), (4, .bipush 12, 6, 0, []), (6, .if_icmp .ge 47, 9, 53, []), (9, .aload_n 0, 10, 0, []), (10, .getfield 9, 13, 2, [2, 153, 0]), (13, .aload_n 0, 14, 0, []), (14, .getfield 41, 17, 2, [7, 158, 0]), (17, .iload_n 1, 18, 0, []), (18, .iastore, 19, 0, []), (19, .aload_n 0, 20, 0, []), (20, .getfield 15, 23, 2, [3, 154, 0]), (23, .aload_n 0, 24, 0, []), (24, .getfield 41, 27, 2, [7, 158, 0]), (27, .iload_n 2, 28, 0, []), (28, .iastore, 29, 0, []), (29, .aload_n 0, 30, 0, []), (30, .getfield 18, 33, 2, [4, 155, 0]), (33, .aload_n 0, 34, 0, []), (34, .getfield 41, 37, 2, [7, 158, 0]), (37, .iload_n 3, 38, 0, []), (38, .iastore, 39, 0, []), (39, .aload_n 0, 40, 0, []), (40, .dup, 41, 0, []), (41, .getfield 41, 44, 2, [7, 158, 0]), (44, .iconst 1, 45, 0, []), (45, .iadd, 46, 0, []), (46, .putfield 41, 49, 2, [7, 0, 158, 0]), (49, .aload_n 0, 50, 0, []), (50, .invokevirtual 44, 53, 14, [0, 2, 198, 200, 1, 43, 201]), (53, .return_, 54, 0, [])]
-- 10 BoundWalks$Walk.dropLeg()V
def pw_o10 : List (Nat × pw_O) := [(0, .aload_n 0, 1, 0, []), (1, .getfield 41, 4, 2, [7, 158, 0]), (4, .ifCond .le 17, 7, 21, []), (7, .aload_n 0, 8, 0, []), (8, .dup, 9, 0, []), (9, .getfield 41, 12, 2, [7, 158, 0]), (12, .iconst 1, 13, 0, []), (13, .isub, 14, 0, []), (14, .putfield 41, 17, 2, [7, 0, 158, 0]), (17, .aload_n 0, 18, 0, []), (18, .invokevirtual 44, 21, 14, [0, 2, 198, 200, 1, 43, 201]), (21, .return_, 22, 0, [])]
-- 11 BoundWalks$Walk.lengthOf(I)I
def pw_o11 : List (Nat × pw_O) := [(0, .aload_n 0, 1, 0, []), (1, .getfield 27, 4, 2, [8, 159, 0]), (4, .ifCond .eq 26, 7, 30, []), (7, .iload_n 1, 8, 0, []), (8, .iconst 0, 9, 0, []), (9, .aload_n 0, 10, 0, []), (10, .getfield 41, 13, 2, [7, 158, 0]), (13, .iconst 1, 14, 0, []), (14, .isub, 15, 0, []), (15, .invokestatic 47, 18, 48, [3, 1, 218, 144, 0, 39, 145]), (18, .ifCond .eq 12, 21, 30, []), (21, .aload_n 0, 22, 0, []), (22, .getfield 21, 25, 2, [5, 156, 0]), (25, .iload_n 1, 26, 0, []), (26, .iaload, 27, 0, []), (27, .goto 4, 30, 31, []), (30, .iconst (-1), 31, 0, []), (31, .ireturn, 32, 0, [])]
-- 12 BoundWalks$Walk.surrounds(II)Z
def pw_o12 : List (Nat × pw_O) := [(0, .iload_n 1, 1, 0, []), (1, .iload_n 2, 2, 0, []), (2, .invokestatic 51, 5, 50, [2, 1, 288, 275, 0, 39, 276]), (5, .ifCond .eq 21, 8, 26, []), (8, .aload_n 0, 9, 0, []), (9, .getfield 24, 12, 2, [6, 157, 0]), (12, .iload_n 2, 13, 0, []), (13, .iaload, 14, 0, []), (14, .iload_n 1, 15, 0, []), (15, .ishr, 16, 0, []), (16, .iconst 1, 17, 0, []), (17, .iand, 18, 0, []), (18, .iconst 1, 19, 0, []), (19, .if_icmp .ne 7, 22, 26, []), (22, .iconst 1, 23, 0, []), (23, .goto 4, 26, 27, []), (26, .iconst 0, 27, 0, []), (27, .ireturn, 28, 0, [])]
-- 13 BoundWalks$Walk.fieldsInside()I
def pw_o13 : List (Nat × pw_O) := [(0, .aload_n 0, 1, 0, []), (1, .getfield 31, 4, 2, [9, 160, 0]), (4, .ifCond .ne 5, 7, 9, []), (7, .iconst (-1), 8, 0, []), (8, .ireturn, 9, 0, []), (9, .iconst 0, 10, 0, []), (10, .istore_n 1, 11, 0, []), (11, .iconst 0, 12, 0, []), (12, .istore_n 2, 13, 0, []), (13, .iload_n 2, 14, 0, []), (14, .bipush 12, 16, 0, []), (16, .if_icmp .ge 21, 19, 37, []), (19, .iload_n 1, 20, 0, []), (20, .aload_n 0, 21, 0, []), (21, .getfield 24, 24, 2, [6, 157, 0]), (24, .iload_n 2, 25, 0, []), (25, .iaload, 26, 0, []), (26, .invokestatic 55, 29, 114, [1, 0, 264, 265, 0, 44, 266]), (29, .iadd, 30, 0, []), (30, .istore_n 1, 31, 0, []), (31, .iinc 2 1, 34, 0, []), (34, .goto (-21), 37, 13, []), (37, .iload_n 1, 38, 0, []), (38, .ireturn, 39, 0, [])]
-- 14 BoundWalks$Walk.settle()V
def pw_o14 : List (Nat × pw_O) := [(0, .iconst 0, 1, 0, []), (1, .istore_n 1, 2, 0, []), (2, .iload_n 1, 3, 0, []), (3, .bipush 12, 5, 0, []), (5, .if_icmp .ge 16, 8, 21, []), (8, .aload_n 0, 9, 0, []), (9, .getfield 24, 12, 2, [6, 157, 0]), (12, .iload_n 1, 13, 0, []), (13, .iconst 0, 14, 0, []), (14, .iastore, 15, 0, []), (15, .iinc 1 1, 18, 0, []), (18, .goto (-16), 21, 2, []), (21, .aload_n 0, 22, 0, []), (22, .aload_n 0, 23, 0, []), (23, .invokevirtual 61, 26, 15, [0, 2, 202, 204, 2, 43, 205]), (26, .putfield 27, 29, 2, [8, 1, 159, 0]), (29, .aload_n 0, 30, 0, []), (30, .aload_n 0, 31, 0, []), (31, .getfield 27, 34, 2, [8, 159, 0]), (34, .ifCond .eq 14, 37, 48, []), (37, .aload_n 0, 38, 0, []), (38, .invokevirtual 65, 41, 17, [0, 2, 227, 229, 8, 43, 230]), (41, .ifCond .eq 7, 44, 48, []), (44, .iconst 1, 45, 0, []), (45, .goto 4, 48, 49, []), (48, .iconst 0, 49, 0, []), (49, .putfield 31, 52, 2, [9, 1, 160, 0]), (52, .aload_n 0, 53, 0, []), (53, .getfield 31, 56, 2, [9, 160, 0]), (56, .ifCond .eq 7, 59, 63, []), (59, .aload_n 0, 60, 0, []), (60, .invokevirtual 68, 63, 18, [0, 2, 232, 234, 9, 43, 235]), (63, .return_, 64, 0, [])]
-- 15 BoundWalks$Walk.chooseLengths()Z
def pw_o15 : List (Nat × pw_O) := [(0, .iconst 0, 1, 0, []), (1, .istore_n 1, 2, 0, []), (2, .iconst 0, 3, 0, []), (3, .istore_n 2, 4, 0, []), (4, .iconst 0, 5, 0, []), (5, .istore_n 3, 6, 0, []), (6, .iload_n 3, 7, 0, []), (7, .aload_n 0, 8, 0, []), (8, .getfield 41, 11, 2, [7, 158, 0]), (11, .if_icmp .ge 61, 14, 72, []), (14, .aload_n 0, 15, 0, []), (15, .iload_n 3, 16, 0, []), (16, .aload_n 0, 17, 0, []), (17, .iload_n 3, 18, 0, []), (18, .invokevirtual 71, 21, 19, [1, 2, 206, 208, 3, 43, 209]), (21, .ifCond .eq 7, 24, 28, []), (24, .iload_n 1, 25, 0, []), (25, .goto 4, 28, 29, []), (28, .iload_n 2, 29, 0, []), (29, .invokevirtual 75, 32, 16, [2, 2, 210, 212, 4, 43, 213]), (32, .istore 4, 34, 0, []), (34, .iload 4, 36, 0, []), (36, .iconst (-1), 37, 0, []), (37, .if_icmp .ne 5, 40, 42, []), (40, .iconst 0, 41, 0, []), (41, .ireturn, 42, 0, []), (42, .aload_n 0, 43, 0, []), (43, .getfield 21, 46, 2, [5, 156, 0]), (46, .iload_n 3, 47, 0, []), (47, .iload 4, 49, 0, []), (49, .iastore, 50, 0, []), (50, .iload_n 1, 51, 0, []), (51, .aload_n 0, 52, 0, []), (52, .iload_n 3, 53, 0, []), (53, .invokevirtual 79, 56, 21, [1, 2, 219, 221, 6, 43, 222]), (56, .iadd, 57, 0, []), (57, .istore_n 1, 58, 0, []), (58, .iload_n 2, 59, 0, []), (59, .aload_n 0, 60, 0, []), (60, .iload_n 3, 61, 0, []), (61, .invokevirtual 82, 64, 22, [1, 2, 223, 225, 7, 43, 226]), (64, .iadd, 65, 0, []), (65, .istore_n 2, 66, 0, []), (66, .iinc 3 1, 69, 0, []), (69, .goto (-63), 72, 6, []), (72, .iconst 1, 73, 0, []), (73, .ireturn, 74, 0, [])]
-- 16 BoundWalks$Walk.leastLength(II)I
def pw_o16_0 : List (Nat × pw_O) := [(0, .iconst 0, 1, 0, []), (1, .istore_n 3, 2, 0, []), (2, .iconst 0, 3, 0, []), (3, .istore 4, 5, 0, []), (5, .iload_n 1, 6, 0, []), (6, .iconst 1, 7, 0, []), (7, .iadd, 8, 0, []), (8, .istore 5, 10, 0, []), (10, .iload 5, 12, 0, []), (12, .aload_n 0, 13, 0, []), (13, .getfield 41, 16, 2, [7, 158, 0]), (16, .if_icmp .ge 85, 19, 101, []), (19, .aload_n 0, 20, 0, []), (20, .iload 5, 22, 0, []), (22, .invokevirtual 71, 25, 19, [1, 2, 206, 208, 3, 43, 209]), (25, .aload_n 0, 26, 0, []), (26, .iload_n 1, 27, 0, []), (27, .invokevirtual 71, 30, 19, [1, 2, 206, 208, 3, 43, 209]), (30, .if_icmp .ne 65, 33, 95, []), (33, .iload_n 3, 34, 0, []), (34, .aload_n 0, 35, 0, []), (35, .iload 5, 37, 0, []), (37, .invokevirtual 85, 40, 20, [1, 2, 214, 216, 5, 43, 217]), (40, .ifCond .le 13, 43, 53, []), (43, .aload_n 0, 44, 0, []), (44, .getfield 15, 47, 2, [3, 154, 0]), (47, .iload 5, 49, 0, []), (49, .iaload, 50, 0, []), (50, .goto 11, 53, 61, []), (53, .aload_n 0, 54, 0, []), (54, .getfield 18, 57, 2, [4, 155, 0]), (57, .iload 5, 59, 0, []), (59, .iaload, 60, 0, []), (60, .ineg, 61, 0, []), (61, .iadd, 62, 0, []), (62, .istore_n 3, 63, 0, []), (63, .iload 4, 65, 0, []), (65, .aload_n 0, 66, 0, []), (66, .iload 5, 68, 0, []), (68, .invokevirtual 85, 71, 20, [1, 2, 214, 216, 5, 43, 217]), (71, .ifCond .le 13, 74, 84, []), (74, .aload_n 0, 75, 0, []), (75, .getfield 18, 78, 2, [4, 155, 0]), (78, .iload 5, 80, 0, []), (80, .iaload, 81, 0, []), (81, .goto 11, 84, 92, []), (84, .aload_n 0, 85, 0, []), (85, .getfield 15, 88, 2, [3, 154, 0])]
def pw_o16_1 : List (Nat × pw_O) := [(88, .iload 5, 90, 0, []), (90, .iaload, 91, 0, []), (91, .ineg, 92, 0, []), (92, .iadd, 93, 0, []), (93, .istore 4, 95, 0, []), (95, .iinc 5 1, 98, 0, []), (98, .goto (-88), 101, 10, []), (101, .aload_n 0, 102, 0, []), (102, .getfield 15, 105, 2, [3, 154, 0]), (105, .iload_n 1, 106, 0, []), (106, .iaload, 107, 0, []), (107, .istore 5, 109, 0, []), (109, .iload 5, 111, 0, []), (111, .aload_n 0, 112, 0, []), (112, .getfield 18, 115, 2, [4, 155, 0]), (115, .iload_n 1, 116, 0, []), (116, .iaload, 117, 0, []), (117, .if_icmp .gt 32, 120, 149, []), (120, .iload_n 2, 121, 0, []), (121, .aload_n 0, 122, 0, []), (122, .iload_n 1, 123, 0, []), (123, .invokevirtual 85, 126, 20, [1, 2, 214, 216, 5, 43, 217]), (126, .iload 5, 128, 0, []), (128, .imul, 129, 0, []), (129, .iadd, 130, 0, []), (130, .ineg, 131, 0, []), (131, .iload_n 3, 132, 0, []), (132, .iload 4, 134, 0, []), (134, .invokestatic 47, 137, 48, [3, 1, 218, 144, 0, 39, 145]), (137, .ifCond .eq 6, 140, 143, []), (140, .iload 5, 142, 0, []), (142, .ireturn, 143, 0, []), (143, .iinc 5 1, 146, 0, []), (146, .goto (-37), 149, 109, []), (149, .iconst (-1), 150, 0, []), (150, .ireturn, 151, 0, [])]
def pw_o16 : List (Nat × pw_O) := pw_o16_0 ++ (pw_o16_1)
-- 17 BoundWalks$Walk.staysOnLand()Z
def pw_o17 : List (Nat × pw_O) := [(0, .aload_n 0, 1, 0, []), (1, .getfield 34, 4, 2, [0, 151, 0]), (4, .istore_n 1, 5, 0, []), (5, .aload_n 0, 6, 0, []), (6, .getfield 38, 9, 2, [1, 152, 0]), (9, .istore_n 2, 10, 0, []), (10, .iconst 0, 11, 0, []), (11, .istore_n 3, 12, 0, []), (12, .iload_n 3, 13, 0, []), (13, .aload_n 0, 14, 0, []), (14, .getfield 41, 17, 2, [7, 158, 0]), (17, .if_icmp .ge 35, 20, 52, []), (20, .iload_n 1, 21, 0, []), (21, .aload_n 0, 22, 0, []), (22, .iload_n 3, 23, 0, []), (23, .invokevirtual 79, 26, 21, [1, 2, 219, 221, 6, 43, 222]), (26, .iadd, 27, 0, []), (27, .istore_n 1, 28, 0, []), (28, .iload_n 2, 29, 0, []), (29, .aload_n 0, 30, 0, []), (30, .iload_n 3, 31, 0, []), (31, .invokevirtual 82, 34, 22, [1, 2, 223, 225, 7, 43, 226]), (34, .iadd, 35, 0, []), (35, .istore_n 2, 36, 0, []), (36, .iload_n 1, 37, 0, []), (37, .iload_n 2, 38, 0, []), (38, .invokestatic 88, 41, 49, [2, 1, 231, 141, 0, 39, 142]), (41, .ifCond .ne 5, 44, 46, []), (44, .iconst 0, 45, 0, []), (45, .ireturn, 46, 0, []), (46, .iinc 3 1, 49, 0, []), (49, .goto (-37), 52, 12, []), (52, .iconst 1, 53, 0, []), (53, .ireturn, 54, 0, [])]
-- 18 BoundWalks$Walk.markInside()V
def pw_o18 : List (Nat × pw_O) := [(0, .aload_n 0, 1, 0, []), (1, .getfield 34, 4, 2, [0, 151, 0]), (4, .istore_n 1, 5, 0, []), (5, .aload_n 0, 6, 0, []), (6, .getfield 38, 9, 2, [1, 152, 0]), (9, .istore_n 2, 10, 0, []), (10, .iconst 0, 11, 0, []), (11, .istore_n 3, 12, 0, []), (12, .iload_n 3, 13, 0, []), (13, .aload_n 0, 14, 0, []), (14, .getfield 41, 17, 2, [7, 158, 0]), (17, .if_icmp .ge 86, 20, 103, []), (20, .iload_n 2, 21, 0, []), (21, .aload_n 0, 22, 0, []), (22, .iload_n 3, 23, 0, []), (23, .invokevirtual 82, 26, 22, [1, 2, 223, 225, 7, 43, 226]), (26, .iadd, 27, 0, []), (27, .istore 4, 29, 0, []), (29, .iload_n 2, 30, 0, []), (30, .iload 4, 32, 0, []), (32, .invokestatic 91, 35, 0, [236, 0]), (35, .bipush 12, 37, 0, []), (37, .invokestatic 96, 40, 0, [237, 1]), (40, .istore 5, 42, 0, []), (42, .iload_n 2, 43, 0, []), (43, .iload 4, 45, 0, []), (45, .invokestatic 96, 48, 0, [237, 1]), (48, .iconst 0, 49, 0, []), (49, .invokestatic 91, 52, 0, [236, 0]), (52, .istore 6, 54, 0, []), (54, .iload 6, 56, 0, []), (56, .iload 5, 58, 0, []), (58, .if_icmp .ge 28, 61, 86, []), (61, .aload_n 0, 62, 0, []), (62, .getfield 24, 65, 2, [6, 157, 0]), (65, .iload 6, 67, 0, []), (67, .dup2, 68, 0, []), (68, .iaload, 69, 0, []), (69, .sipush 4095, 72, 0, []), (72, .iload_n 1, 73, 0, []), (73, .ishl, 74, 0, []), (74, .sipush 4095, 77, 0, []), (77, .iand, 78, 0, []), (78, .ixor, 79, 0, []), (79, .iastore, 80, 0, []), (80, .iinc 6 1, 83, 0, []), (83, .goto (-29), 86, 54, []), (86, .iload_n 1, 87, 0, []), (87, .aload_n 0, 88, 0, []), (88, .iload_n 3, 89, 0, []), (89, .invokevirtual 79, 92, 21, [1, 2, 219, 221, 6, 43, 222]), (92, .iadd, 93, 0, []), (93, .istore_n 1, 94, 0, []), (94, .iload 4, 96, 0, []), (96, .istore_n 2, 97, 0, []), (97, .iinc 3 1, 100, 0, []), (100, .goto (-88), 103, 12, []), (103, .return_, 104, 0, [])]
-- 19 BoundWalks$Walk.isAlongX(I)Z
def pw_o19 : List (Nat × pw_O) := [(0, .aload_n 0, 1, 0, []), (1, .getfield 9, 4, 2, [2, 153, 0]), (4, .iload_n 1, 5, 0, []), (5, .iaload, 6, 0, []), (6, .iconst 2, 7, 0, []), (7, .irem, 8, 0, []), (8, .ifCond .ne 7, 11, 15, []), (11, .iconst 1, 12, 0, []), (12, .goto 4, 15, 16, []), (15, .iconst 0, 16, 0, []), (16, .ireturn, 17, 0, [])]
-- 20 BoundWalks$Walk.sign(I)I
def pw_o20 : List (Nat × pw_O) := [(0, .aload_n 0, 1, 0, []), (1, .getfield 9, 4, 2, [2, 153, 0]), (4, .iload_n 1, 5, 0, []), (5, .iaload, 6, 0, []), (6, .iconst 2, 7, 0, []), (7, .if_icmp .ge 7, 10, 14, []), (10, .iconst 1, 11, 0, []), (11, .goto 4, 14, 15, []), (14, .iconst (-1), 15, 0, []), (15, .ireturn, 16, 0, [])]
-- 21 BoundWalks$Walk.stepX(I)I
def pw_o21 : List (Nat × pw_O) := [(0, .aload_n 0, 1, 0, []), (1, .iload_n 1, 2, 0, []), (2, .invokevirtual 71, 5, 19, [1, 2, 206, 208, 3, 43, 209]), (5, .ifCond .eq 18, 8, 23, []), (8, .aload_n 0, 9, 0, []), (9, .iload_n 1, 10, 0, []), (10, .invokevirtual 85, 13, 20, [1, 2, 214, 216, 5, 43, 217]), (13, .aload_n 0, 14, 0, []), (14, .getfield 21, 17, 2, [5, 156, 0]), (17, .iload_n 1, 18, 0, []), (18, .iaload, 19, 0, []), (19, .imul, 20, 0, []), (20, .goto 4, 23, 24, []), (23, .iconst 0, 24, 0, []), (24, .ireturn, 25, 0, [])]
-- 22 BoundWalks$Walk.stepY(I)I
def pw_o22 : List (Nat × pw_O) := [(0, .aload_n 0, 1, 0, []), (1, .iload_n 1, 2, 0, []), (2, .invokevirtual 71, 5, 19, [1, 2, 206, 208, 3, 43, 209]), (5, .ifCond .eq 7, 8, 12, []), (8, .iconst 0, 9, 0, []), (9, .goto 15, 12, 24, []), (12, .aload_n 0, 13, 0, []), (13, .iload_n 1, 14, 0, []), (14, .invokevirtual 85, 17, 20, [1, 2, 214, 216, 5, 43, 217]), (17, .aload_n 0, 18, 0, []), (18, .getfield 21, 21, 2, [5, 156, 0]), (21, .iload_n 1, 22, 0, []), (22, .iaload, 23, 0, []), (23, .imul, 24, 0, []), (24, .ireturn, 25, 0, [])]
-- 23 BoundWalks.<init>()V
def pw_o23 : List (Nat × pw_O) := [(0, .aload_n 0, 1, 0, []), (1, .invokespecial 3, 4, 0, [51]), (4, .aload_n 0, 5, 0, []), (5, .iconst 4, 6, 0, []), (6, .anewarray 9, 9, 2, [54]), (9, .putfield 11, 12, 3, [0, 2, 84, 1]), (12, .aload_n 0, 13, 0, []), (13, .new 15, 16, 1, [56, 57, 40]), (16, .dup, 17, 0, []), (17, .bipush 12, 19, 0, []), (19, .invokespecial 17, 22, 2, [1, 1, 58, 59, 0, 40, 60]), (22, .putfield 20, 25, 3, [2, 2, 86, 1]), (25, .aload_n 0, 26, 0, []), (26, .bipush 12, 28, 0, []), (28, .newarray .int, 30, 0, [81]), (30, .putfield 24, 33, 3, [4, 2, 88, 1]), (33, .aload_n 0, 34, 0, []), (34, .bipush 12, 36, 0, []), (36, .newarray .int, 38, 0, [81]), (38, .putfield 28, 41, 3, [5, 2, 89, 1]), (41, .aload_n 0, 42, 0, []), (42, .bipush 12, 44, 0, []), (44, .newarray .int, 46, 0, [81]), (46, .putfield 31, 49, 3, [6, 2, 90, 1]), (49, .aload_n 0, 50, 0, []), (50, .new 15, 53, 1, [56, 57, 40]), (53, .dup, 54, 0, []), (54, .bipush 60, 56, 0, []), (56, .invokespecial 17, 59, 2, [1, 1, 58, 59, 0, 40, 60]), (59, .putfield 34, 62, 3, [8, 2, 92, 1]), (62, .aload_n 0, 63, 0, []), (63, .bipush 20, 65, 0, []), (65, .newarray .int, 67, 0, [81]), (67, .putfield 37, 70, 3, [9, 2, 93, 1]), (70, .aload_n 0, 71, 0, []), (71, .bipush 6, 73, 0, []), (73, .anewarray 40, 76, 0, [82]), (76, .putfield 42, 79, 3, [11, 2, 95, 1]), (79, .aload_n 0, 80, 0, []), (80, .new 15, 83, 1, [56, 57, 40]), (83, .dup, 84, 0, []), (84, .bipush 10, 86, 0, []), (86, .invokespecial 17, 89, 2, [1, 1, 58, 59, 0, 40, 60]), (89, .putfield 46, 92, 3, [13, 2, 97, 1]), (92, .aload_n 0, 93, 0, []), (93, .bipush 7, 95, 0, []), (95, .putfield 49, 98, 3, [14, 0, 98, 0]), (98, .aload_n 0, 99, 0, []), (99, .iconst 4, 100, 0, []), (100, .newarray .int, 102, 0, [81]), (102, .putfield 53, 105, 3, [15, 2, 99, 1]), (105, .aload_n 0, 106, 0, []), (106, .bipush 12, 108, 0, []), (108, .newarray .int, 110, 0, [81]), (110, .putfield 56, 113, 3, [16, 2, 100, 1]), (113, .return_, 114, 0, [])]
-- 24 BoundWalks.parish(II)I
def pw_o24 : List (Nat × pw_O) := [(0, .iload_n 1, 1, 0, []), (1, .iload_n 2, 2, 0, []), (2, .invokestatic 59, 5, 49, [2, 0, 140, 141, 0, 39, 142]), (5, .ifCond .ne 6, 8, 11, []), (8, .bipush (-2), 10, 0, []), (10, .ireturn, 11, 0, []), (11, .aload_n 0, 12, 0, []), (12, .getfield 63, 15, 3, [1, 85, 0]), (15, .iconst 4, 16, 0, []), (16, .if_icmp .lt 6, 19, 22, []), (19, .bipush (-4), 21, 0, []), (21, .ireturn, 22, 0, []), (22, .aload_n 0, 23, 0, []), (23, .getfield 11, 26, 3, [0, 84, 0]), (26, .aload_n 0, 27, 0, []), (27, .getfield 63, 30, 3, [1, 85, 0]), (30, .new 9, 33, 2, [54, 146, 43]), (33, .dup, 34, 0, []), (34, .iload_n 1, 35, 0, []), (35, .iload_n 2, 36, 0, []), (36, .invokespecial 66, 39, 7, [2, 2, 147, 148, 0, 43, 149]), (39, .aastore, 40, 0, []), (40, .aload_n 0, 41, 0, []), (41, .dup, 42, 0, []), (42, .getfield 63, 45, 3, [1, 85, 0]), (45, .dup_x1, 46, 0, []), (46, .iconst 1, 47, 0, []), (47, .iadd, 48, 0, []), (48, .putfield 63, 51, 3, [1, 0, 85, 0]), (51, .ireturn, 52, 0, [])]
-- 25 BoundWalks.leg(IIII)I
def pw_o25 : List (Nat × pw_O) := [(0, .aload_n 0, 1, 0, []), (1, .iload_n 1, 2, 0, []), (2, .invokevirtual 69, 5, 56, [1, 3, 186, 188, 0, 39, 189]), (5, .astore 5, 7, 0, []), (7, .aload 5, 9, 0, []), (9, .ifnull 33, 12, 42, []), (12, .iload_n 2, 13, 0, []), (13, .iconst 0, 14, 0, []), (14, .iconst 3, 15, 0, []), (15, .invokestatic 73, 18, 48, [3, 0, 143, 144, 0, 39, 145]), (18, .ifCond .eq 24, 21, 42, []), (21, .iload_n 3, 22, 0, []), (22, .iconst 1, 23, 0, []), (23, .bipush 12, 25, 0, []), (25, .invokestatic 73, 28, 48, [3, 0, 143, 144, 0, 39, 145]), (28, .ifCond .eq 14, 31, 42, []), (31, .iload 4, 33, 0, []), (33, .iload_n 3, 34, 0, []), (34, .bipush 12, 36, 0, []), (36, .invokestatic 73, 39, 48, [3, 0, 143, 144, 0, 39, 145]), (39, .ifCond .ne 6, 42, 45, []), (42, .bipush (-2), 44, 0, []), (44, .ireturn, 45, 0, []), (45, .aload 5, 47, 0, []), (47, .invokevirtual 77, 50, 8, [0, 2, 190, 191, 192, 43, 193]), (50, .bipush 12, 52, 0, []), (52, .if_icmp .lt 6, 55, 58, []), (55, .bipush (-4), 57, 0, []), (57, .ireturn, 58, 0, []), (58, .aload 5, 60, 0, []), (60, .iload_n 2, 61, 0, []), (61, .iload_n 3, 62, 0, []), (62, .iload 4, 64, 0, []), (64, .invokevirtual 81, 67, 9, [3, 2, 194, 195, 196, 43, 197]), (67, .aload 5, 69, 0, []), (69, .invokevirtual 77, 72, 8, [0, 2, 190, 191, 192, 43, 193]), (72, .ireturn, 73, 0, [])]
-- 26 BoundWalks.unleg(I)I
def pw_o26 : List (Nat × pw_O) := [(0, .aload_n 0, 1, 0, []), (1, .iload_n 1, 2, 0, []), (2, .invokevirtual 69, 5, 56, [1, 3, 186, 188, 0, 39, 189]), (5, .astore_n 2, 6, 0, []), (6, .aload_n 2, 7, 0, []), (7, .ifnonnull 6, 10, 13, []), (10, .bipush (-2), 12, 0, []), (12, .ireturn, 13, 0, []), (13, .aload_n 2, 14, 0, []), (14, .invokevirtual 77, 17, 8, [0, 2, 190, 191, 192, 43, 193]), (17, .ifCond .ne 6, 20, 23, []), (20, .bipush (-3), 22, 0, []), (22, .ireturn, 23, 0, []), (23, .aload_n 2, 24, 0, []), (24, .invokevirtual 85, 27, 10, [0, 2, 244, 245, 246, 43, 247]), (27, .aload_n 2, 28, 0, []), (28, .invokevirtual 77, 31, 8, [0, 2, 190, 191, 192, 43, 193]), (31, .ireturn, 32, 0, [])]
-- 27 BoundWalks.length(II)I
def pw_o27 : List (Nat × pw_O) := [(0, .aload_n 0, 1, 0, []), (1, .iload_n 1, 2, 0, []), (2, .invokevirtual 69, 5, 56, [1, 3, 186, 188, 0, 39, 189]), (5, .astore_n 3, 6, 0, []), (6, .aload_n 3, 7, 0, []), (7, .ifnull 17, 10, 24, []), (10, .iload_n 2, 11, 0, []), (11, .iconst 0, 12, 0, []), (12, .aload_n 3, 13, 0, []), (13, .invokevirtual 77, 16, 8, [0, 2, 190, 191, 192, 43, 193]), (16, .iconst 1, 17, 0, []), (17, .isub, 18, 0, []), (18, .invokestatic 73, 21, 48, [3, 0, 143, 144, 0, 39, 145]), (21, .ifCond .ne 6, 24, 27, []), (24, .bipush (-2), 26, 0, []), (26, .ireturn, 27, 0, []), (27, .aload_n 3, 28, 0, []), (28, .iload_n 2, 29, 0, []), (29, .invokevirtual 88, 32, 11, [1, 2, 252, 253, 254, 43, 255]), (32, .ireturn, 33, 0, [])]
-- 28 BoundWalks.area(I)I
def pw_o28 : List (Nat × pw_O) := [(0, .aload_n 0, 1, 0, []), (1, .iload_n 1, 2, 0, []), (2, .invokevirtual 69, 5, 56, [1, 3, 186, 188, 0, 39, 189]), (5, .astore_n 2, 6, 0, []), (6, .aload_n 2, 7, 0, []), (7, .ifnonnull 6, 10, 13, []), (10, .bipush (-2), 12, 0, []), (12, .ireturn, 13, 0, []), (13, .aload_n 2, 14, 0, []), (14, .invokevirtual 92, 17, 13, [0, 2, 260, 261, 262, 43, 263]), (17, .ireturn, 18, 0, [])]
-- 29 BoundWalks.claims(II)I
def pw_o29 : List (Nat × pw_O) := [(0, .iload_n 1, 1, 0, []), (1, .iload_n 2, 2, 0, []), (2, .invokestatic 95, 5, 50, [2, 0, 274, 275, 0, 39, 276]), (5, .ifCond .ne 6, 8, 11, []), (8, .bipush (-2), 10, 0, []), (10, .ireturn, 11, 0, []), (11, .aload_n 0, 12, 0, []), (12, .iload_n 1, 13, 0, []), (13, .iload_n 2, 14, 0, []), (14, .invokestatic 98, 17, 55, [2, 0, 277, 278, 0, 39, 279]), (17, .invokevirtual 102, 20, 58, [1, 3, 280, 282, 10, 39, 283]), (20, .ireturn, 21, 0, [])]
-- 30 BoundWalks.agree(IIIIII)I
def pw_o30 : List (Nat × pw_O) := [(0, .aload_n 0, 1, 0, []), (1, .iload_n 1, 2, 0, []), (2, .invokevirtual 105, 5, 52, [1, 3, 293, 295, 11, 39, 296]), (5, .ifCond .eq 45, 8, 50, []), (8, .aload_n 0, 9, 0, []), (9, .iload_n 2, 10, 0, []), (10, .invokevirtual 105, 13, 52, [1, 3, 293, 295, 11, 39, 296]), (13, .ifCond .eq 37, 16, 50, []), (16, .iload_n 1, 17, 0, []), (17, .iload_n 2, 18, 0, []), (18, .if_icmp .eq 32, 21, 50, []), (21, .iload 6, 23, 0, []), (23, .iload_n 1, 24, 0, []), (24, .if_icmp .eq 9, 27, 33, []), (27, .iload 6, 29, 0, []), (29, .iload_n 2, 30, 0, []), (30, .if_icmp .ne 20, 33, 50, []), (33, .iload_n 3, 34, 0, []), (34, .invokestatic 109, 37, 51, [1, 0, 297, 298, 0, 39, 299]), (37, .ifCond .eq 13, 40, 50, []), (40, .iload 4, 42, 0, []), (42, .iload 5, 44, 0, []), (44, .invokestatic 95, 47, 50, [2, 0, 274, 275, 0, 39, 276]), (47, .ifCond .ne 6, 50, 53, []), (50, .bipush (-2), 52, 0, []), (52, .ireturn, 53, 0, []), (53, .aload_n 0, 54, 0, []), (54, .getfield 20, 57, 3, [2, 86, 0]), (57, .invokevirtual 112, 60, 4, [0, 1, 300, 301, 302, 40, 303]), (60, .ifCond .eq 6, 63, 66, []), (63, .bipush (-4), 65, 0, []), (65, .ireturn, 66, 0, []), (66, .aload_n 0, 67, 0, []), (67, .getfield 20, 70, 3, [2, 86, 0]), (70, .iload 4, 72, 0, []), (72, .iload 5, 74, 0, []), (74, .invokestatic 98, 77, 55, [2, 0, 277, 278, 0, 39, 279]), (77, .iload_n 3, 78, 0, []), (78, .aload_n 0, 79, 0, []), (79, .getfield 116, 82, 3, [3, 87, 0]), (82, .iload 6, 84, 0, []), (84, .invokevirtual 119, 87, 5, [4, 1, 304, 305, 306, 40, 307]), (87, .ireturn, 88, 0, [])]
-- 31 BoundWalks.owner(III)I
def pw_o31 : List (Nat × pw_O) := [(0, .iload_n 1, 1, 0, []), (1, .iload_n 2, 2, 0, []), (2, .invokestatic 95, 5, 50, [2, 0, 274, 275, 0, 39, 276]), (5, .ifCond .eq 10, 8, 15, []), (8, .iload_n 3, 9, 0, []), (9, .invokestatic 109, 12, 51, [1, 0, 297, 298, 0, 39, 299]), (12, .ifCond .ne 6, 15, 18, []), (15, .bipush (-2), 17, 0, []), (17, .ireturn, 18, 0, []), (18, .aload_n 0, 19, 0, []), (19, .iload_n 1, 20, 0, []), (20, .iload_n 2, 21, 0, []), (21, .invokestatic 98, 24, 55, [2, 0, 277, 278, 0, 39, 279]), (24, .iload_n 3, 25, 0, []), (25, .invokevirtual 123, 28, 59, [2, 3, 313, 315, 12, 39, 316]), (28, .ireturn, 29, 0, [])]
-- 32 BoundWalks.quarrel(I)I
def pw_o32 : List (Nat × pw_O) := [(0, .iload_n 1, 1, 0, []), (1, .invokestatic 109, 4, 51, [1, 0, 297, 298, 0, 39, 299]), (4, .ifCond .ne 6, 7, 10, []), (7, .bipush (-2), 9, 0, []), (9, .ireturn, 10, 0, []), (10, .iconst 0, 11, 0, []), (11, .istore_n 2, 12, 0, []), (12, .iconst 0, 13, 0, []), (13, .istore_n 3, 14, 0, []), (14, .iload_n 3, 15, 0, []), (15, .sipush 144, 18, 0, []), (18, .if_icmp .ge 34, 21, 52, []), (21, .aload_n 0, 22, 0, []), (22, .iload_n 3, 23, 0, []), (23, .invokevirtual 102, 26, 58, [1, 3, 280, 282, 10, 39, 283]), (26, .invokestatic 126, 29, 114, [1, 0, 328, 265, 0, 44, 266]), (29, .iconst 2, 30, 0, []), (30, .if_icmp .lt 16, 33, 46, []), (33, .aload_n 0, 34, 0, []), (34, .iload_n 3, 35, 0, []), (35, .iload_n 1, 36, 0, []), (36, .invokevirtual 123, 39, 59, [2, 3, 313, 315, 12, 39, 316]), (39, .iconst (-1), 40, 0, []), (40, .if_icmp .ne 6, 43, 46, []), (43, .iinc 2 1, 46, 0, []), (46, .iinc 3 1, 49, 0, []), (49, .goto (-35), 52, 14, []), (52, .iload_n 2, 53, 0, []), (53, .ireturn, 54, 0, [])]
-- 33 BoundWalks.years(I)I
def pw_o33 : List (Nat × pw_O) := [(0, .iload_n 1, 1, 0, []), (1, .iconst 1, 2, 0, []), (2, .bipush 50, 4, 0, []), (4, .invokestatic 73, 7, 48, [3, 0, 143, 144, 0, 39, 145]), (7, .ifCond .eq 15, 10, 22, []), (10, .aload_n 0, 11, 0, []), (11, .getfield 116, 14, 3, [3, 87, 0]), (14, .iload_n 1, 15, 0, []), (15, .iadd, 16, 0, []), (16, .sipush 300, 19, 0, []), (19, .if_icmp .le 6, 22, 25, []), (22, .bipush (-2), 24, 0, []), (24, .ireturn, 25, 0, []), (25, .aload_n 0, 26, 0, []), (26, .dup, 27, 0, []), (27, .getfield 116, 30, 3, [3, 87, 0]), (30, .iload_n 1, 31, 0, []), (31, .iadd, 32, 0, []), (32, .putfield 116, 35, 3, [3, 0, 87, 0]), (35, .aload_n 0, 36, 0, []), (36, .getfield 116, 39, 3, [3, 87, 0]), (39, .ireturn, 40, 0, [])]
-- 34 BoundWalks.stone(II)I
def pw_o34 : List (Nat × pw_O) := [(0, .iload_n 1, 1, 0, []), (1, .iload_n 2, 2, 0, []), (2, .invokestatic 59, 5, 49, [2, 0, 140, 141, 0, 39, 142]), (5, .ifCond .ne 6, 8, 11, []), (8, .bipush (-2), 10, 0, []), (10, .ireturn, 11, 0, []), (11, .aload_n 0, 12, 0, []), (12, .getfield 131, 15, 3, [7, 91, 0]), (15, .bipush 12, 17, 0, []), (17, .if_icmp .lt 6, 20, 23, []), (20, .bipush (-4), 22, 0, []), (22, .ireturn, 23, 0, []), (23, .aload_n 0, 24, 0, []), (24, .getfield 24, 27, 3, [4, 88, 0]), (27, .aload_n 0, 28, 0, []), (28, .getfield 131, 31, 3, [7, 91, 0]), (31, .iload_n 1, 32, 0, []), (32, .iload_n 2, 33, 0, []), (33, .invokestatic 134, 36, 54, [2, 0, 337, 338, 0, 39, 339]), (36, .iastore, 37, 0, []), (37, .aload_n 0, 38, 0, []), (38, .getfield 28, 41, 3, [5, 89, 0]), (41, .aload_n 0, 42, 0, []), (42, .getfield 131, 45, 3, [7, 91, 0]), (45, .aload_n 0, 46, 0, []), (46, .getfield 116, 49, 3, [3, 87, 0]), (49, .iastore, 50, 0, []), (50, .aload_n 0, 51, 0, []), (51, .getfield 31, 54, 3, [6, 90, 0]), (54, .aload_n 0, 55, 0, []), (55, .getfield 131, 58, 3, [7, 91, 0]), (58, .aload_n 0, 59, 0, []), (59, .getfield 116, 62, 3, [3, 87, 0]), (62, .iastore, 63, 0, []), (63, .aload_n 0, 64, 0, []), (64, .dup, 65, 0, []), (65, .getfield 131, 68, 3, [7, 91, 0]), (68, .dup_x1, 69, 0, []), (69, .iconst 1, 70, 0, []), (70, .iadd, 71, 0, []), (71, .putfield 131, 74, 3, [7, 0, 91, 0]), (74, .ireturn, 75, 0, [])]
-- 35 BoundWalks.moved(IIII)I
def pw_o35 : List (Nat × pw_O) := [(0, .aload_n 0, 1, 0, []), (1, .iload_n 1, 2, 0, []), (2, .iload_n 2, 3, 0, []), (3, .invokevirtual 137, 6, 62, [2, 3, 344, 346, 13, 39, 347]), (6, .ifCond .eq 12, 9, 18, []), (9, .iload_n 3, 10, 0, []), (10, .iload 4, 12, 0, []), (12, .invokestatic 59, 15, 49, [2, 0, 140, 141, 0, 39, 142]), (15, .ifCond .ne 6, 18, 21, []), (18, .bipush (-2), 20, 0, []), (20, .ireturn, 21, 0, []), (21, .aload_n 0, 22, 0, []), (22, .iload_n 1, 23, 0, []), (23, .iload_n 2, 24, 0, []), (24, .iload_n 3, 25, 0, []), (25, .iload 4, 27, 0, []), (27, .invokestatic 134, 30, 54, [2, 0, 337, 338, 0, 39, 339]), (30, .invokevirtual 140, 33, 63, [3, 3, 352, 354, 15, 39, 355]), (33, .ireturn, 34, 0, [])]
-- 36 BoundWalks.lost(II)I
def pw_o36 : List (Nat × pw_O) := [(0, .aload_n 0, 1, 0, []), (1, .iload_n 1, 2, 0, []), (2, .iload_n 2, 3, 0, []), (3, .invokevirtual 137, 6, 62, [2, 3, 344, 346, 13, 39, 347]), (6, .ifCond .ne 6, 9, 12, []), (9, .bipush (-2), 11, 0, []), (11, .ireturn, 12, 0, []), (12, .aload_n 0, 13, 0, []), (13, .iload_n 1, 14, 0, []), (14, .iload_n 2, 15, 0, []), (15, .iconst (-1), 16, 0, []), (16, .invokevirtual 140, 19, 63, [3, 3, 352, 354, 15, 39, 355]), (19, .ireturn, 20, 0, [])]
-- 37 BoundWalks.where(III)I
def pw_o37 : List (Nat × pw_O) := [(0, .aload_n 0, 1, 0, []), (1, .iload_n 1, 2, 0, []), (2, .invokevirtual 144, 5, 53, [1, 3, 348, 350, 14, 39, 351]), (5, .ifCond .eq 17, 8, 22, []), (8, .iload_n 2, 9, 0, []), (9, .invokestatic 109, 12, 51, [1, 0, 297, 298, 0, 39, 299]), (12, .ifCond .eq 10, 15, 22, []), (15, .iload_n 3, 16, 0, []), (16, .invokestatic 109, 19, 51, [1, 0, 297, 298, 0, 39, 299]), (19, .ifCond .ne 6, 22, 25, []), (22, .bipush (-2), 24, 0, []), (24, .ireturn, 25, 0, []), (25, .aload_n 0, 26, 0, []), (26, .getfield 28, 29, 3, [5, 89, 0]), (29, .iload_n 1, 30, 0, []), (30, .iaload, 31, 0, []), (31, .iload_n 2, 32, 0, []), (32, .if_icmp .gt 13, 35, 45, []), (35, .aload_n 0, 36, 0, []), (36, .getfield 28, 39, 3, [5, 89, 0]), (39, .iload_n 1, 40, 0, []), (40, .iaload, 41, 0, []), (41, .iload_n 3, 42, 0, []), (42, .if_icmp .le 5, 45, 47, []), (45, .iconst (-1), 46, 0, []), (46, .ireturn, 47, 0, []), (47, .aload_n 0, 48, 0, []), (48, .getfield 34, 51, 3, [8, 92, 0]), (51, .iload_n 1, 52, 0, []), (52, .iload_n 2, 53, 0, []), (53, .iload_n 3, 54, 0, []), (54, .aload_n 0, 55, 0, []), (55, .getfield 24, 58, 3, [4, 88, 0]), (58, .iload_n 1, 59, 0, []), (59, .iaload, 60, 0, []), (60, .invokevirtual 147, 63, 6, [4, 1, 320, 321, 322, 40, 323]), (63, .ireturn, 64, 0, [])]
-- 38 BoundWalks.witness(I)I
def pw_o38 : List (Nat × pw_O) := [(0, .iload_n 1, 1, 0, []), (1, .invokestatic 109, 4, 51, [1, 0, 297, 298, 0, 39, 299]), (4, .ifCond .ne 6, 7, 10, []), (7, .bipush (-2), 9, 0, []), (9, .ireturn, 10, 0, []), (10, .aload_n 0, 11, 0, []), (11, .getfield 150, 14, 3, [10, 94, 0]), (14, .bipush 20, 16, 0, []), (16, .if_icmp .lt 6, 19, 22, []), (19, .bipush (-4), 21, 0, []), (21, .ireturn, 22, 0, []), (22, .aload_n 0, 23, 0, []), (23, .getfield 37, 26, 3, [9, 93, 0]), (26, .aload_n 0, 27, 0, []), (27, .getfield 150, 30, 3, [10, 94, 0]), (30, .iload_n 1, 31, 0, []), (31, .iastore, 32, 0, []), (32, .aload_n 0, 33, 0, []), (33, .dup, 34, 0, []), (34, .getfield 150, 37, 3, [10, 94, 0]), (37, .dup_x1, 38, 0, []), (38, .iconst 1, 39, 0, []), (39, .iadd, 40, 0, []), (40, .putfield 150, 43, 3, [10, 0, 94, 0]), (43, .ireturn, 44, 0, [])]
-- 39 BoundWalks.remember(II)I
def pw_o39 : List (Nat × pw_O) := [(0, .iload_n 1, 1, 0, []), (1, .invokestatic 109, 4, 51, [1, 0, 297, 298, 0, 39, 299]), (4, .ifCond .eq 10, 7, 14, []), (7, .iload_n 2, 8, 0, []), (8, .invokestatic 109, 11, 51, [1, 0, 297, 298, 0, 39, 299]), (11, .ifCond .ne 6, 14, 17, []), (14, .bipush (-2), 16, 0, []), (16, .ireturn, 17, 0, []), (17, .iconst 0, 18, 0, []), (18, .istore_n 3, 19, 0, []), (19, .iconst 0, 20, 0, []), (20, .istore 4, 22, 0, []), (22, .iload 4, 24, 0, []), (24, .aload_n 0, 25, 0, []), (25, .getfield 150, 28, 3, [10, 94, 0]), (28, .if_icmp .ge 69, 31, 97, []), (31, .iload_n 1, 32, 0, []), (32, .aload_n 0, 33, 0, []), (33, .getfield 37, 36, 3, [9, 93, 0]), (36, .iload 4, 38, 0, []), (38, .iaload, 39, 0, []), (39, .isub, 40, 0, []), (40, .bipush 7, 42, 0, []), (42, .if_icmp .lt 7, 45, 49, []), (45, .iconst 1, 46, 0, []), (46, .goto 4, 49, 50, []), (49, .iconst 0, 50, 0, []), (50, .istore 5, 52, 0, []), (52, .iload_n 2, 53, 0, []), (53, .aload_n 0, 54, 0, []), (54, .getfield 37, 57, 3, [9, 93, 0]), (57, .iload 4, 59, 0, []), (59, .iaload, 60, 0, []), (60, .isub, 61, 0, []), (61, .bipush 80, 63, 0, []), (63, .if_icmp .ge 7, 66, 70, []), (66, .iconst 1, 67, 0, []), (67, .goto 4, 70, 71, []), (70, .iconst 0, 71, 0, []), (71, .istore 6, 73, 0, []), (73, .iload 5, 75, 0, []), (75, .ifCond .eq 16, 78, 91, []), (78, .iload 6, 80, 0, []), (80, .ifCond .eq 11, 83, 91, []), (83, .iload_n 2, 84, 0, []), (84, .iload_n 1, 85, 0, []), (85, .if_icmp .lt 6, 88, 91, []), (88, .iinc 3 1, 91, 0, []), (91, .iinc 4 1, 94, 0, []), (94, .goto (-72), 97, 22, []), (97, .iload_n 3, 98, 0, []), (98, .ireturn, 99, 0, [])]
-- 40 BoundWalks.house(IIIIIIII)I
def pw_o40_0 : List (Nat × pw_O) := [(0, .iload_n 1, 1, 0, []), (1, .iload_n 2, 2, 0, []), (2, .invokestatic 95, 5, 50, [2, 0, 274, 275, 0, 39, 276]), (5, .ifCond .eq 39, 8, 44, []), (8, .iload_n 3, 9, 0, []), (9, .iconst 1, 10, 0, []), (10, .iconst 4, 11, 0, []), (11, .invokestatic 73, 14, 48, [3, 0, 143, 144, 0, 39, 145]), (14, .ifCond .eq 30, 17, 44, []), (17, .iload 4, 19, 0, []), (19, .iconst 1, 20, 0, []), (20, .iconst 4, 21, 0, []), (21, .invokestatic 73, 24, 48, [3, 0, 143, 144, 0, 39, 145]), (24, .ifCond .eq 20, 27, 44, []), (27, .iload_n 1, 28, 0, []), (28, .iload_n 3, 29, 0, []), (29, .iadd, 30, 0, []), (30, .iconst 1, 31, 0, []), (31, .isub, 32, 0, []), (32, .iload_n 2, 33, 0, []), (33, .iload 4, 35, 0, []), (35, .iadd, 36, 0, []), (36, .iconst 1, 37, 0, []), (37, .isub, 38, 0, []), (38, .invokestatic 95, 41, 50, [2, 0, 274, 275, 0, 39, 276]), (41, .ifCond .ne 6, 44, 47, []), (44, .bipush (-2), 46, 0, []), (46, .ireturn, 47, 0, []), (47, .iload 5, 49, 0, []), (49, .iload_n 1, 50, 0, []), (50, .iload_n 1, 51, 0, []), (51, .iload_n 3, 52, 0, []), (52, .iadd, 53, 0, []), (53, .iconst 1, 54, 0, []), (54, .isub, 55, 0, []), (55, .invokestatic 73, 58, 48, [3, 0, 143, 144, 0, 39, 145]), (58, .ifCond .eq 22, 61, 80, []), (61, .iload 6, 63, 0, []), (63, .iload_n 2, 64, 0, []), (64, .iload_n 2, 65, 0, []), (65, .iload 4, 67, 0, []), (67, .iadd, 68, 0, []), (68, .iconst 1, 69, 0, []), (69, .isub, 70, 0, []), (70, .invokestatic 73, 73, 48, [3, 0, 143, 144, 0, 39, 145]), (73, .ifCond .eq 7, 76, 80, []), (76, .iconst 1, 77, 0, []), (77, .goto 4, 80, 81, [])]
def pw_o40_1 : List (Nat × pw_O) := [(80, .iconst 0, 81, 0, []), (81, .istore 9, 83, 0, []), (83, .iload 7, 85, 0, []), (85, .iload_n 1, 86, 0, []), (86, .iload_n 1, 87, 0, []), (87, .iload_n 3, 88, 0, []), (88, .iadd, 89, 0, []), (89, .iconst 1, 90, 0, []), (90, .isub, 91, 0, []), (91, .invokestatic 73, 94, 48, [3, 0, 143, 144, 0, 39, 145]), (94, .ifCond .eq 22, 97, 116, []), (97, .iload 8, 99, 0, []), (99, .iload_n 2, 100, 0, []), (100, .iload_n 2, 101, 0, []), (101, .iload 4, 103, 0, []), (103, .iadd, 104, 0, []), (104, .iconst 1, 105, 0, []), (105, .isub, 106, 0, []), (106, .invokestatic 73, 109, 48, [3, 0, 143, 144, 0, 39, 145]), (109, .ifCond .eq 7, 112, 116, []), (112, .iconst 1, 113, 0, []), (113, .goto 4, 116, 117, []), (116, .iconst 0, 117, 0, []), (117, .istore 10, 119, 0, []), (119, .iload 9, 121, 0, []), (121, .ifCond .eq 8, 124, 129, []), (124, .iload 10, 126, 0, []), (126, .ifCond .ne 6, 129, 132, []), (129, .bipush (-2), 131, 0, []), (131, .ireturn, 132, 0, []), (132, .aload_n 0, 133, 0, []), (133, .getfield 153, 136, 3, [12, 96, 0]), (136, .bipush 6, 138, 0, []), (138, .if_icmp .lt 6, 141, 144, []), (141, .bipush (-4), 143, 0, []), (143, .ireturn, 144, 0, []), (144, .aload_n 0, 145, 0, []), (145, .getfield 42, 148, 3, [11, 95, 0]), (148, .aload_n 0, 149, 0, []), (149, .getfield 153, 152, 3, [12, 96, 0]), (152, .new 40, 155, 0, [82, 376, 45]), (155, .dup, 156, 0, []), (156, .iload_n 1, 157, 0, []), (157, .iload_n 2, 158, 0, []), (158, .iload_n 3, 159, 0, []), (159, .iload 4, 161, 0, []), (161, .iload 5, 163, 0, []), (163, .iload 6, 165, 0, [])]
def pw_o40_2 : List (Nat × pw_O) := [(165, .invokestatic 98, 168, 55, [2, 0, 277, 278, 0, 39, 279]), (168, .iload 7, 170, 0, []), (170, .iload 8, 172, 0, []), (172, .invokestatic 98, 175, 55, [2, 0, 277, 278, 0, 39, 279]), (175, .invokespecial 156, 178, 1, [6, 0, 377, 378, 0, 45, 379]), (178, .aastore, 179, 0, []), (179, .aload_n 0, 180, 0, []), (180, .dup, 181, 0, []), (181, .getfield 153, 184, 3, [12, 96, 0]), (184, .dup_x1, 185, 0, []), (185, .iconst 1, 186, 0, []), (186, .iadd, 187, 0, []), (187, .putfield 153, 190, 3, [12, 0, 96, 0]), (190, .ireturn, 191, 0, [])]
def pw_o40 : List (Nat × pw_O) := pw_o40_0 ++ (pw_o40_1 ++ (pw_o40_2))
-- 41 BoundWalks.law(III)I
def pw_o41 : List (Nat × pw_O) := [(0, .iload_n 1, 1, 0, []), (1, .iconst 0, 2, 0, []), (2, .iconst 3, 3, 0, []), (3, .invokestatic 73, 6, 48, [3, 0, 143, 144, 0, 39, 145]), (6, .ifCond .eq 19, 9, 25, []), (9, .iload_n 2, 10, 0, []), (10, .invokestatic 109, 13, 51, [1, 0, 297, 298, 0, 39, 299]), (13, .ifCond .eq 12, 16, 25, []), (16, .iload_n 3, 17, 0, []), (17, .iconst 0, 18, 0, []), (18, .iconst 2, 19, 0, []), (19, .invokestatic 73, 22, 48, [3, 0, 143, 144, 0, 39, 145]), (22, .ifCond .ne 6, 25, 28, []), (25, .bipush (-2), 27, 0, []), (27, .ireturn, 28, 0, []), (28, .aload_n 0, 29, 0, []), (29, .getfield 46, 32, 3, [13, 97, 0]), (32, .invokevirtual 112, 35, 4, [0, 1, 300, 301, 302, 40, 303]), (35, .ifCond .eq 6, 38, 41, []), (38, .bipush (-4), 40, 0, []), (40, .ireturn, 41, 0, []), (41, .aload_n 0, 42, 0, []), (42, .getfield 46, 45, 3, [13, 97, 0]), (45, .iload_n 1, 46, 0, []), (46, .iload_n 2, 47, 0, []), (47, .aload_n 0, 48, 0, []), (48, .getfield 116, 51, 3, [3, 87, 0]), (51, .iload_n 3, 52, 0, []), (52, .invokevirtual 119, 55, 5, [4, 1, 304, 305, 306, 40, 307]), (55, .ireturn, 56, 0, [])]
-- 42 BoundWalks.whose(III)I
def pw_o42 : List (Nat × pw_O) := [(0, .aload_n 0, 1, 0, []), (1, .iload_n 1, 2, 0, []), (2, .invokevirtual 159, 5, 57, [1, 3, 414, 416, 16, 39, 417]), (5, .astore 4, 7, 0, []), (7, .aload 4, 9, 0, []), (9, .ifnull 19, 12, 28, []), (12, .iload_n 2, 13, 0, []), (13, .iconst 0, 14, 0, []), (14, .iconst 3, 15, 0, []), (15, .invokestatic 73, 18, 48, [3, 0, 143, 144, 0, 39, 145]), (18, .ifCond .eq 10, 21, 28, []), (21, .iload_n 3, 22, 0, []), (22, .invokestatic 109, 25, 51, [1, 0, 297, 298, 0, 39, 299]), (25, .ifCond .ne 6, 28, 31, []), (28, .bipush (-2), 30, 0, []), (30, .ireturn, 31, 0, []), (31, .aload_n 0, 32, 0, []), (32, .getfield 46, 35, 3, [13, 97, 0]), (35, .iload_n 2, 36, 0, []), (36, .iload_n 3, 37, 0, []), (37, .sipush 300, 40, 0, []), (40, .iconst 0, 41, 0, []), (41, .invokevirtual 147, 44, 6, [4, 1, 320, 321, 322, 40, 323]), (44, .istore 5, 46, 0, []), (46, .iload 5, 48, 0, []), (48, .iconst 1, 49, 0, []), (49, .if_icmp .ne 14, 52, 63, []), (52, .aload_n 0, 53, 0, []), (53, .aload 4, 55, 0, []), (55, .getfield 163, 58, 0, [5, 392, 1]), (58, .iload_n 3, 59, 0, []), (59, .invokevirtual 123, 62, 59, [2, 3, 313, 315, 12, 39, 316]), (62, .ireturn, 63, 0, []), (63, .iload 5, 65, 0, []), (65, .iconst 2, 66, 0, []), (66, .if_icmp .ne 13, 69, 79, []), (69, .aload_n 0, 70, 0, []), (70, .aload 4, 72, 0, []), (72, .iload_n 3, 73, 0, []), (73, .invokevirtual 166, 76, 61, [2, 3, 418, 420, 17, 39, 421]), (76, .goto 4, 79, 80, []), (79, .iconst (-1), 80, 0, []), (80, .istore 6, 82, 0, []), (82, .iload 6, 84, 0, []), (84, .iconst (-1), 85, 0, []), (85, .if_icmp .ne 16, 88, 101, []), (88, .aload_n 0, 89, 0, []), (89, .aload 4, 91, 0, []), (91, .getfield 170, 94, 0, [4, 390, 1]), (94, .iload_n 3, 95, 0, []), (95, .invokevirtual 123, 98, 59, [2, 3, 313, 315, 12, 39, 316]), (98, .goto 5, 101, 103, []), (101, .iload 6, 103, 0, []), (103, .ireturn, 104, 0, [])]
-- 43 BoundWalks.see(I)I
def pw_o43 : List (Nat × pw_O) := [(0, .aload_n 0, 1, 0, []), (1, .iload_n 1, 2, 0, []), (2, .invokevirtual 144, 5, 53, [1, 3, 348, 350, 14, 39, 351]), (5, .ifCond .ne 6, 8, 11, []), (8, .bipush (-2), 10, 0, []), (10, .ireturn, 11, 0, []), (11, .aload_n 0, 12, 0, []), (12, .iload_n 1, 13, 0, []), (13, .invokevirtual 173, 16, 64, [1, 3, 426, 428, 18, 39, 429]), (16, .ifCond .eq 6, 19, 22, []), (19, .bipush (-3), 21, 0, []), (21, .ireturn, 22, 0, []), (22, .aload_n 0, 23, 0, []), (23, .getfield 116, 26, 3, [3, 87, 0]), (26, .aload_n 0, 27, 0, []), (27, .getfield 31, 30, 3, [6, 90, 0]), (30, .iload_n 1, 31, 0, []), (31, .iaload, 32, 0, []), (32, .isub, 33, 0, []), (33, .istore_n 2, 34, 0, []), (34, .aload_n 0, 35, 0, []), (35, .getfield 31, 38, 3, [6, 90, 0]), (38, .iload_n 1, 39, 0, []), (39, .aload_n 0, 40, 0, []), (40, .getfield 116, 43, 3, [3, 87, 0]), (43, .iastore, 44, 0, []), (44, .iload_n 2, 45, 0, []), (45, .ireturn, 46, 0, [])]
-- 44 BoundWalks.gap(I)I
def pw_o44 : List (Nat × pw_O) := [(0, .iload_n 1, 1, 0, []), (1, .iconst 1, 2, 0, []), (2, .bipush 20, 4, 0, []), (4, .invokestatic 73, 7, 48, [3, 0, 143, 144, 0, 39, 145]), (7, .ifCond .ne 6, 10, 13, []), (10, .bipush (-2), 12, 0, []), (12, .ireturn, 13, 0, []), (13, .aload_n 0, 14, 0, []), (14, .getfield 49, 17, 3, [14, 98, 0]), (17, .istore_n 2, 18, 0, []), (18, .aload_n 0, 19, 0, []), (19, .iload_n 1, 20, 0, []), (20, .putfield 49, 23, 3, [14, 0, 98, 0]), (23, .iload_n 2, 24, 0, []), (24, .ireturn, 25, 0, [])]
-- 45 BoundWalks.due()I
def pw_o45 : List (Nat × pw_O) := [(0, .iconst 0, 1, 0, []), (1, .istore_n 1, 2, 0, []), (2, .iconst 0, 3, 0, []), (3, .istore_n 2, 4, 0, []), (4, .iload_n 2, 5, 0, []), (5, .aload_n 0, 6, 0, []), (6, .getfield 131, 9, 3, [7, 91, 0]), (9, .if_icmp .ge 41, 12, 50, []), (12, .aload_n 0, 13, 0, []), (13, .getfield 116, 16, 3, [3, 87, 0]), (16, .aload_n 0, 17, 0, []), (17, .getfield 31, 20, 3, [6, 90, 0]), (20, .iload_n 2, 21, 0, []), (21, .iaload, 22, 0, []), (22, .isub, 23, 0, []), (23, .aload_n 0, 24, 0, []), (24, .getfield 49, 27, 3, [14, 98, 0]), (27, .if_icmp .lt 17, 30, 44, []), (30, .aload_n 0, 31, 0, []), (31, .iload_n 2, 32, 0, []), (32, .invokevirtual 173, 35, 64, [1, 3, 426, 428, 18, 39, 429]), (35, .ifCond .ne 9, 38, 44, []), (38, .iload_n 1, 39, 0, []), (39, .iconst 1, 40, 0, []), (40, .iload_n 2, 41, 0, []), (41, .ishl, 42, 0, []), (42, .ior, 43, 0, []), (43, .istore_n 1, 44, 0, []), (44, .iinc 2 1, 47, 0, []), (47, .goto (-43), 50, 4, []), (50, .iload_n 1, 51, 0, []), (51, .ireturn, 52, 0, [])]
-- 46 BoundWalks.round(II)I
def pw_o46 : List (Nat × pw_O) := [(0, .iload_n 1, 1, 0, []), (1, .iconst 1, 2, 0, []), (2, .bipush 30, 4, 0, []), (4, .invokestatic 73, 7, 48, [3, 0, 143, 144, 0, 39, 145]), (7, .ifCond .eq 13, 10, 20, []), (10, .iload_n 2, 11, 0, []), (11, .iconst 1, 12, 0, []), (12, .bipush 12, 14, 0, []), (14, .invokestatic 73, 17, 48, [3, 0, 143, 144, 0, 39, 145]), (17, .ifCond .ne 6, 20, 23, []), (20, .bipush (-2), 22, 0, []), (22, .ireturn, 23, 0, []), (23, .aload_n 0, 24, 0, []), (24, .invokevirtual 176, 27, 65, [0, 3, 442, 444, 19, 39, 445]), (27, .istore_n 3, 28, 0, []), (28, .aload_n 0, 29, 0, []), (29, .getfield 116, 32, 3, [3, 87, 0]), (32, .istore 4, 34, 0, []), (34, .iload 4, 36, 0, []), (36, .aload_n 0, 37, 0, []), (37, .getfield 116, 40, 3, [3, 87, 0]), (40, .iload_n 1, 41, 0, []), (41, .iadd, 42, 0, []), (42, .if_icmp .ge 30, 45, 72, []), (45, .aload_n 0, 46, 0, []), (46, .iload_n 3, 47, 0, []), (47, .iload_n 2, 48, 0, []), (48, .iload 4, 50, 0, []), (50, .invokevirtual 179, 53, 66, [3, 3, 446, 448, 20, 39, 449]), (53, .aload_n 0, 54, 0, []), (54, .iload_n 3, 55, 0, []), (55, .iload 4, 57, 0, []), (57, .invokevirtual 182, 60, 67, [2, 3, 450, 452, 21, 39, 453]), (60, .ifCond .eq 6, 63, 66, []), (63, .iload 4, 65, 0, []), (65, .ireturn, 66, 0, []), (66, .iinc 4 1, 69, 0, []), (69, .goto (-35), 72, 34, []), (72, .iconst (-1), 73, 0, []), (73, .ireturn, 74, 0, [])]
-- 47 BoundWalks.count(I)I
def pw_o47 : List (Nat × pw_O) := [(0, .iload_n 1, 1, 0, []), (1, .tableswitch 96 0 7 #[47, 52, 57, 62, 70, 75, 80, 88], 48, 97, [48, 53, 58, 63, 71, 76, 81, 89]), (48, .aload_n 0, 49, 0, []), (49, .getfield 63, 52, 3, [1, 85, 0]), (52, .ireturn, 53, 0, []), (53, .aload_n 0, 54, 0, []), (54, .getfield 116, 57, 3, [3, 87, 0]), (57, .ireturn, 58, 0, []), (58, .aload_n 0, 59, 0, []), (59, .getfield 131, 62, 3, [7, 91, 0]), (62, .ireturn, 63, 0, []), (63, .aload_n 0, 64, 0, []), (64, .getfield 34, 67, 3, [8, 92, 0]), (67, .invokevirtual 185, 70, 3, [0, 1, 458, 459, 460, 40, 461]), (70, .ireturn, 71, 0, []), (71, .aload_n 0, 72, 0, []), (72, .getfield 150, 75, 3, [10, 94, 0]), (75, .ireturn, 76, 0, []), (76, .aload_n 0, 77, 0, []), (77, .getfield 153, 80, 3, [12, 96, 0]), (80, .ireturn, 81, 0, []), (81, .aload_n 0, 82, 0, []), (82, .getfield 20, 85, 3, [2, 86, 0]), (85, .invokevirtual 185, 88, 3, [0, 1, 458, 459, 460, 40, 461]), (88, .ireturn, 89, 0, []), (89, .aload_n 0, 90, 0, []), (90, .getfield 46, 93, 3, [13, 97, 0]), (93, .invokevirtual 185, 96, 3, [0, 1, 458, 459, 460, 40, 461]), (96, .ireturn, 97, 0, []), (97, .bipush (-2), 99, 0, []), (99, .ireturn, 100, 0, [])]
-- 48 BoundWalks.between(III)Z
def pw_o48 : List (Nat × pw_O) := [(0, .iload_n 1, 1, 0, []), (1, .iload_n 0, 2, 0, []), (2, .if_icmp .gt 12, 5, 14, []), (5, .iload_n 0, 6, 0, []), (6, .iload_n 2, 7, 0, []), (7, .if_icmp .gt 7, 10, 14, []), (10, .iconst 1, 11, 0, []), (11, .goto 4, 14, 15, []), (14, .iconst 0, 15, 0, []), (15, .ireturn, 16, 0, [])]
-- 49 BoundWalks.isPoint(II)Z
def pw_o49 : List (Nat × pw_O) := [(0, .iload_n 0, 1, 0, []), (1, .iconst 0, 2, 0, []), (2, .bipush 12, 4, 0, []), (4, .invokestatic 73, 7, 48, [3, 0, 143, 144, 0, 39, 145]), (7, .ifCond .eq 17, 10, 24, []), (10, .iload_n 1, 11, 0, []), (11, .iconst 0, 12, 0, []), (12, .bipush 12, 14, 0, []), (14, .invokestatic 73, 17, 48, [3, 0, 143, 144, 0, 39, 145]), (17, .ifCond .eq 7, 20, 24, []), (20, .iconst 1, 21, 0, []), (21, .goto 4, 24, 25, []), (24, .iconst 0, 25, 0, []), (25, .ireturn, 26, 0, [])]
-- 50 BoundWalks.isField(II)Z
def pw_o50 : List (Nat × pw_O) := [(0, .iload_n 0, 1, 0, []), (1, .iconst 0, 2, 0, []), (2, .bipush 11, 4, 0, []), (4, .invokestatic 73, 7, 48, [3, 0, 143, 144, 0, 39, 145]), (7, .ifCond .eq 17, 10, 24, []), (10, .iload_n 1, 11, 0, []), (11, .iconst 0, 12, 0, []), (12, .bipush 11, 14, 0, []), (14, .invokestatic 73, 17, 48, [3, 0, 143, 144, 0, 39, 145]), (17, .ifCond .eq 7, 20, 24, []), (20, .iconst 1, 21, 0, []), (21, .goto 4, 24, 25, []), (24, .iconst 0, 25, 0, []), (25, .ireturn, 26, 0, [])]
-- 51 BoundWalks.isYear(I)Z
def pw_o51 : List (Nat × pw_O) := [(0, .iload_n 0, 1, 0, []), (1, .iconst 0, 2, 0, []), (2, .sipush 300, 5, 0, []), (5, .invokestatic 73, 8, 48, [3, 0, 143, 144, 0, 39, 145]), (8, .ireturn, 9, 0, [])]
-- 52 BoundWalks.isParish(I)Z
def pw_o52 : List (Nat × pw_O) := [(0, .iload_n 1, 1, 0, []), (1, .iconst 0, 2, 0, []), (2, .aload_n 0, 3, 0, []), (3, .getfield 63, 6, 3, [1, 85, 0]), (6, .iconst 1, 7, 0, []), (7, .isub, 8, 0, []), (8, .invokestatic 73, 11, 48, [3, 0, 143, 144, 0, 39, 145]), (11, .ireturn, 12, 0, [])]
-- 53 BoundWalks.isStone(I)Z
def pw_o53 : List (Nat × pw_O) := [(0, .iload_n 1, 1, 0, []), (1, .iconst 0, 2, 0, []), (2, .aload_n 0, 3, 0, []), (3, .getfield 131, 6, 3, [7, 91, 0]), (6, .iconst 1, 7, 0, []), (7, .isub, 8, 0, []), (8, .invokestatic 73, 11, 48, [3, 0, 143, 144, 0, 39, 145]), (11, .ireturn, 12, 0, [])]
-- 54 BoundWalks.pointNumber(II)I
def pw_o54 : List (Nat × pw_O) := [(0, .bipush 100, 2, 0, []), (2, .iload_n 0, 3, 0, []), (3, .imul, 4, 0, []), (4, .iload_n 1, 5, 0, []), (5, .iadd, 6, 0, []), (6, .ireturn, 7, 0, [])]
-- 55 BoundWalks.fieldNumber(II)I
def pw_o55 : List (Nat × pw_O) := [(0, .bipush 12, 2, 0, []), (2, .iload_n 1, 3, 0, []), (3, .imul, 4, 0, []), (4, .iload_n 0, 5, 0, []), (5, .iadd, 6, 0, []), (6, .ireturn, 7, 0, [])]
-- 56 BoundWalks.walkOf(I)LBoundWalks$Walk;
def pw_o56 : List (Nat × pw_O) := [(0, .iload_n 1, 1, 0, []), (1, .iconst 0, 2, 0, []), (2, .iconst 3, 3, 0, []), (3, .invokestatic 73, 6, 48, [3, 0, 143, 144, 0, 39, 145]), (6, .ifCond .eq 12, 9, 18, []), (9, .aload_n 0, 10, 0, []), (10, .getfield 11, 13, 3, [0, 84, 0]), (13, .iload_n 1, 14, 0, []), (14, .aaload, 15, 0, []), (15, .goto 4, 18, 19, []), (18, .aconst_null, 19, 0, []), (19, .areturn, 20, 0, [])]
-- 57 BoundWalks.houseOf(I)LBoundWalks$House;
def pw_o57 : List (Nat × pw_O) := [(0, .iload_n 1, 1, 0, []), (1, .iconst 0, 2, 0, []), (2, .iconst 5, 3, 0, []), (3, .invokestatic 73, 6, 48, [3, 0, 143, 144, 0, 39, 145]), (6, .ifCond .eq 12, 9, 18, []), (9, .aload_n 0, 10, 0, []), (10, .getfield 42, 13, 3, [11, 95, 0]), (13, .iload_n 1, 14, 0, []), (14, .aaload, 15, 0, []), (15, .goto 4, 18, 19, []), (18, .aconst_null, 19, 0, []), (19, .areturn, 20, 0, [])]
-- 58 BoundWalks.claimsOf(I)I
def pw_o58 : List (Nat × pw_O) := [(0, .iconst 0, 1, 0, []), (1, .istore_n 2, 2, 0, []), (2, .iconst 0, 3, 0, []), (3, .istore_n 3, 4, 0, []), (4, .iload_n 3, 5, 0, []), (5, .iconst 4, 6, 0, []), (6, .if_icmp .ge 44, 9, 50, []), (9, .aload_n 0, 10, 0, []), (10, .getfield 11, 13, 3, [0, 84, 0]), (13, .iload_n 3, 14, 0, []), (14, .aaload, 15, 0, []), (15, .astore 4, 17, 0, []), (17, .aload 4, 19, 0, []), (19, .ifnull 25, 22, 44, []), (22, .aload 4, 24, 0, []), (24, .iload_n 1, 25, 0, []), (25, .bipush 12, 27, 0, []), (27, .irem, 28, 0, []), (28, .iload_n 1, 29, 0, []), (29, .bipush 12, 31, 0, []), (31, .idiv, 32, 0, []), (32, .invokevirtual 188, 35, 12, [2, 2, 284, 285, 286, 43, 287]), (35, .ifCond .eq 9, 38, 44, []), (38, .iload_n 2, 39, 0, []), (39, .iconst 1, 40, 0, []), (40, .iload_n 3, 41, 0, []), (41, .ishl, 42, 0, []), (42, .ior, 43, 0, []), (43, .istore_n 2, 44, 0, []), (44, .iinc 3 1, 47, 0, []), (47, .goto (-43), 50, 4, []), (50, .iload_n 2, 51, 0, []), (51, .ireturn, 52, 0, [])]
-- 59 BoundWalks.ownerOf(II)I
def pw_o59 : List (Nat × pw_O) := [(0, .aload_n 0, 1, 0, []), (1, .getfield 20, 4, 3, [2, 86, 0]), (4, .iload_n 1, 5, 0, []), (5, .iload_n 2, 6, 0, []), (6, .sipush 300, 9, 0, []), (9, .aload_n 0, 10, 0, []), (10, .iload_n 1, 11, 0, []), (11, .invokevirtual 102, 14, 58, [1, 3, 280, 282, 10, 39, 283]), (14, .invokestatic 191, 17, 60, [1, 0, 317, 318, 0, 39, 319]), (17, .invokevirtual 147, 20, 6, [4, 1, 320, 321, 322, 40, 323]), (20, .ireturn, 21, 0, [])]
-- 60 BoundWalks.onlyParish(I)I
def pw_o60 : List (Nat × pw_O) := [(0, .iconst 0, 1, 0, []), (1, .istore_n 1, 2, 0, []), (2, .iload_n 1, 3, 0, []), (3, .iconst 4, 4, 0, []), (4, .if_icmp .ge 18, 7, 22, []), (7, .iload_n 0, 8, 0, []), (8, .iconst 1, 9, 0, []), (9, .iload_n 1, 10, 0, []), (10, .ishl, 11, 0, []), (11, .if_icmp .ne 5, 14, 16, []), (14, .iload_n 1, 15, 0, []), (15, .ireturn, 16, 0, []), (16, .iinc 1 1, 19, 0, []), (19, .goto (-17), 22, 2, []), (22, .iconst (-1), 23, 0, []), (23, .ireturn, 24, 0, [])]
-- 61 BoundWalks.ownerOfMost(LBoundWalks$House;I)I
def pw_o61_0 : List (Nat × pw_O) := [(0, .iconst 0, 1, 0, []), (1, .istore_n 3, 2, 0, []), (2, .iload_n 3, 3, 0, []), (3, .iconst 4, 4, 0, []), (4, .if_icmp .ge 16, 7, 20, []), (7, .aload_n 0, 8, 0, []), (8, .getfield 53, 11, 3, [15, 99, 0]), (11, .iload_n 3, 12, 0, []), (12, .iconst 0, 13, 0, []), (13, .iastore, 14, 0, []), (14, .iinc 3 1, 17, 0, []), (17, .goto (-15), 20, 2, []), (20, .aload_n 1, 21, 0, []), (21, .getfield 194, 24, 0, [1, 384, 1]), (24, .istore_n 3, 25, 0, []), (25, .iload_n 3, 26, 0, []), (26, .aload_n 1, 27, 0, []), (27, .getfield 194, 30, 0, [1, 384, 1]), (30, .aload_n 1, 31, 0, []), (31, .getfield 197, 34, 0, [3, 388, 1]), (34, .iadd, 35, 0, []), (35, .if_icmp .ge 69, 38, 104, []), (38, .aload_n 1, 39, 0, []), (39, .getfield 200, 42, 0, [0, 382, 1]), (42, .istore 4, 44, 0, []), (44, .iload 4, 46, 0, []), (46, .aload_n 1, 47, 0, []), (47, .getfield 200, 50, 0, [0, 382, 1]), (50, .aload_n 1, 51, 0, []), (51, .getfield 203, 54, 0, [2, 386, 1]), (54, .iadd, 55, 0, []), (55, .if_icmp .ge 43, 58, 98, []), (58, .aload_n 0, 59, 0, []), (59, .iload 4, 61, 0, []), (61, .iload_n 3, 62, 0, []), (62, .invokestatic 98, 65, 55, [2, 0, 277, 278, 0, 39, 279]), (65, .iload_n 2, 66, 0, []), (66, .invokevirtual 123, 69, 59, [2, 3, 313, 315, 12, 39, 316]), (69, .istore 5, 71, 0, []), (71, .iload 5, 73, 0, []), (73, .iconst 0, 74, 0, []), (74, .iconst 3, 75, 0, []), (75, .invokestatic 73, 78, 48, [3, 0, 143, 144, 0, 39, 145]), (78, .ifCond .eq 14, 81, 92, []), (81, .aload_n 0, 82, 0, []), (82, .getfield 53, 85, 3, [15, 99, 0]), (85, .iload 5, 87, 0, []), (87, .dup2, 88, 0, [])]
def pw_o61_1 : List (Nat × pw_O) := [(88, .iaload, 89, 0, []), (89, .iconst 1, 90, 0, []), (90, .iadd, 91, 0, []), (91, .iastore, 92, 0, []), (92, .iinc 4 1, 95, 0, []), (95, .goto (-51), 98, 44, []), (98, .iinc 3 1, 101, 0, []), (101, .goto (-76), 104, 25, []), (104, .iconst 0, 105, 0, []), (105, .istore_n 3, 106, 0, []), (106, .iconst (-1), 107, 0, []), (107, .istore 4, 109, 0, []), (109, .iconst 0, 110, 0, []), (110, .istore 5, 112, 0, []), (112, .iload 5, 114, 0, []), (114, .iconst 4, 115, 0, []), (115, .if_icmp .ge 49, 118, 164, []), (118, .aload_n 0, 119, 0, []), (119, .getfield 53, 122, 3, [15, 99, 0]), (122, .iload 5, 124, 0, []), (124, .iaload, 125, 0, []), (125, .iload_n 3, 126, 0, []), (126, .if_icmp .le 18, 129, 144, []), (129, .aload_n 0, 130, 0, []), (130, .getfield 53, 133, 3, [15, 99, 0]), (133, .iload 5, 135, 0, []), (135, .iaload, 136, 0, []), (136, .istore_n 3, 137, 0, []), (137, .iload 5, 139, 0, []), (139, .istore 4, 141, 0, []), (141, .goto 17, 144, 158, []), (144, .aload_n 0, 145, 0, []), (145, .getfield 53, 148, 3, [15, 99, 0]), (148, .iload 5, 150, 0, []), (150, .iaload, 151, 0, []), (151, .iload_n 3, 152, 0, []), (152, .if_icmp .ne 6, 155, 158, []), (155, .iconst (-1), 156, 0, []), (156, .istore 4, 158, 0, []), (158, .iinc 5 1, 161, 0, []), (161, .goto (-49), 164, 112, []), (164, .iload 4, 166, 0, []), (166, .ireturn, 167, 0, [])]
def pw_o61 : List (Nat × pw_O) := pw_o61_0 ++ (pw_o61_1)
-- 62 BoundWalks.canHappen(II)Z
def pw_o62 : List (Nat × pw_O) := [(0, .aload_n 0, 1, 0, []), (1, .iload_n 1, 2, 0, []), (2, .invokevirtual 144, 5, 53, [1, 3, 348, 350, 14, 39, 351]), (5, .ifCond .eq 24, 8, 29, []), (8, .iload_n 2, 9, 0, []), (9, .aload_n 0, 10, 0, []), (10, .getfield 28, 13, 3, [5, 89, 0]), (13, .iload_n 1, 14, 0, []), (14, .iaload, 15, 0, []), (15, .aload_n 0, 16, 0, []), (16, .getfield 116, 19, 3, [3, 87, 0]), (19, .invokestatic 73, 22, 48, [3, 0, 143, 144, 0, 39, 145]), (22, .ifCond .eq 7, 25, 29, []), (25, .iconst 1, 26, 0, []), (26, .goto 4, 29, 30, []), (29, .iconst 0, 30, 0, []), (30, .ireturn, 31, 0, [])]
-- 63 BoundWalks.tell(III)I
def pw_o63 : List (Nat × pw_O) := [(0, .aload_n 0, 1, 0, []), (1, .getfield 34, 4, 3, [8, 92, 0]), (4, .invokevirtual 112, 7, 4, [0, 1, 300, 301, 302, 40, 303]), (7, .ifCond .eq 6, 10, 13, []), (10, .bipush (-4), 12, 0, []), (12, .ireturn, 13, 0, []), (13, .aload_n 0, 14, 0, []), (14, .getfield 34, 17, 3, [8, 92, 0]), (17, .iload_n 1, 18, 0, []), (18, .iload_n 2, 19, 0, []), (19, .aload_n 0, 20, 0, []), (20, .getfield 116, 23, 3, [3, 87, 0]), (23, .iload_n 3, 24, 0, []), (24, .invokevirtual 119, 27, 5, [4, 1, 304, 305, 306, 40, 307]), (27, .pop, 28, 0, []), (28, .iconst 1, 29, 0, []), (29, .ireturn, 30, 0, [])]
-- 64 BoundWalks.isLostNow(I)Z
def pw_o64 : List (Nat × pw_O) := [(0, .aload_n 0, 1, 0, []), (1, .getfield 34, 4, 3, [8, 92, 0]), (4, .iload_n 1, 5, 0, []), (5, .aload_n 0, 6, 0, []), (6, .getfield 116, 9, 3, [3, 87, 0]), (9, .aload_n 0, 10, 0, []), (10, .getfield 116, 13, 3, [3, 87, 0]), (13, .aload_n 0, 14, 0, []), (14, .getfield 24, 17, 3, [4, 88, 0]), (17, .iload_n 1, 18, 0, []), (18, .iaload, 19, 0, []), (19, .invokevirtual 147, 22, 6, [4, 1, 320, 321, 322, 40, 323]), (22, .iconst (-1), 23, 0, []), (23, .if_icmp .ne 7, 26, 30, []), (26, .iconst 1, 27, 0, []), (27, .goto 4, 30, 31, []), (30, .iconst 0, 31, 0, []), (31, .ireturn, 32, 0, [])]
-- 65 BoundWalks.gatherForRound()I
def pw_o65 : List (Nat × pw_O) := [(0, .iconst 0, 1, 0, []), (1, .istore_n 1, 2, 0, []), (2, .iconst 0, 3, 0, []), (3, .istore_n 2, 4, 0, []), (4, .iload_n 2, 5, 0, []), (5, .aload_n 0, 6, 0, []), (6, .getfield 131, 9, 3, [7, 91, 0]), (9, .if_icmp .ge 32, 12, 41, []), (12, .aload_n 0, 13, 0, []), (13, .iload_n 2, 14, 0, []), (14, .invokevirtual 173, 17, 64, [1, 3, 426, 428, 18, 39, 429]), (17, .ifCond .ne 18, 20, 35, []), (20, .aload_n 0, 21, 0, []), (21, .getfield 56, 24, 3, [16, 100, 0]), (24, .iload_n 1, 25, 0, []), (25, .aload_n 0, 26, 0, []), (26, .getfield 31, 29, 3, [6, 90, 0]), (29, .iload_n 2, 30, 0, []), (30, .iaload, 31, 0, []), (31, .iastore, 32, 0, []), (32, .iinc 1 1, 35, 0, []), (35, .iinc 2 1, 38, 0, []), (38, .goto (-34), 41, 4, []), (41, .iload_n 1, 42, 0, []), (42, .ireturn, 43, 0, [])]
-- 66 BoundWalks.seeOldest(III)V
def pw_o66 : List (Nat × pw_O) := [(0, .iconst 0, 1, 0, []), (1, .istore 4, 3, 0, []), (3, .iload 4, 5, 0, []), (5, .iload_n 2, 6, 0, []), (6, .if_icmp .ge 62, 9, 68, []), (9, .iload 4, 11, 0, []), (11, .iload_n 1, 12, 0, []), (12, .if_icmp .ge 56, 15, 68, []), (15, .iconst 0, 16, 0, []), (16, .istore 5, 18, 0, []), (18, .iconst 1, 19, 0, []), (19, .istore 6, 21, 0, []), (21, .iload 6, 23, 0, []), (23, .iload_n 1, 24, 0, []), (24, .if_icmp .ge 30, 27, 54, []), (27, .aload_n 0, 28, 0, []), (28, .getfield 56, 31, 3, [16, 100, 0]), (31, .iload 6, 33, 0, []), (33, .iaload, 34, 0, []), (34, .aload_n 0, 35, 0, []), (35, .getfield 56, 38, 3, [16, 100, 0]), (38, .iload 5, 40, 0, []), (40, .iaload, 41, 0, []), (41, .if_icmp .ge 7, 44, 48, []), (44, .iload 6, 46, 0, []), (46, .istore 5, 48, 0, []), (48, .iinc 6 1, 51, 0, []), (51, .goto (-30), 54, 21, []), (54, .aload_n 0, 55, 0, []), (55, .getfield 56, 58, 3, [16, 100, 0]), (58, .iload 5, 60, 0, []), (60, .iload_n 3, 61, 0, []), (61, .iastore, 62, 0, []), (62, .iinc 4 1, 65, 0, []), (65, .goto (-62), 68, 3, []), (68, .return_, 69, 0, [])]
-- 67 BoundWalks.someUnseen(II)Z
def pw_o67 : List (Nat × pw_O) := [(0, .iconst 0, 1, 0, []), (1, .istore_n 3, 2, 0, []), (2, .iload_n 3, 3, 0, []), (3, .iload_n 1, 4, 0, []), (4, .if_icmp .ge 26, 7, 30, []), (7, .iload_n 2, 8, 0, []), (8, .aload_n 0, 9, 0, []), (9, .getfield 56, 12, 3, [16, 100, 0]), (12, .iload_n 3, 13, 0, []), (13, .iaload, 14, 0, []), (14, .isub, 15, 0, []), (15, .aload_n 0, 16, 0, []), (16, .getfield 49, 19, 3, [14, 98, 0]), (19, .if_icmp .lt 5, 22, 24, []), (22, .iconst 1, 23, 0, []), (23, .ireturn, 24, 0, []), (24, .iinc 3 1, 27, 0, []), (27, .goto (-25), 30, 2, []), (30, .iconst 0, 31, 0, []), (31, .ireturn, 32, 0, [])]
-- 68 BoundWalksModel.<init>()V
def pw_o68_0 : List (Nat × pw_O) := [(0, .aload_n 0, 1, 0, []), (1, .invokespecial 1, 4, 0, [467]), (4, .aload_n 0, 5, 0, []), (5, .iconst 4, 6, 0, []), (6, .newarray .int, 8, 0, [81]), (8, .putfield 7, 11, 4, [1, 2, 469, 1]), (11, .aload_n 0, 12, 0, []), (12, .iconst 4, 13, 0, []), (13, .newarray .int, 15, 0, [81]), (15, .putfield 13, 18, 4, [2, 2, 470, 1]), (18, .aload_n 0, 19, 0, []), (19, .iconst 4, 20, 0, []), (20, .newarray .int, 22, 0, [81]), (22, .putfield 16, 25, 4, [3, 2, 471, 1]), (25, .aload_n 0, 26, 0, []), (26, .bipush 48, 28, 0, []), (28, .newarray .int, 30, 0, [81]), (30, .putfield 19, 33, 4, [4, 2, 472, 1]), (33, .aload_n 0, 34, 0, []), (34, .bipush 48, 36, 0, []), (36, .newarray .int, 38, 0, [81]), (38, .putfield 22, 41, 4, [5, 2, 473, 1]), (41, .aload_n 0, 42, 0, []), (42, .bipush 48, 44, 0, []), (44, .newarray .int, 46, 0, [81]), (46, .putfield 25, 49, 4, [6, 2, 474, 1]), (49, .aload_n 0, 50, 0, []), (50, .bipush 12, 52, 0, []), (52, .newarray .int, 54, 0, [81]), (54, .putfield 28, 57, 4, [8, 2, 476, 1]), (57, .aload_n 0, 58, 0, []), (58, .bipush 12, 60, 0, []), (60, .newarray .int, 62, 0, [81]), (62, .putfield 31, 65, 4, [9, 2, 477, 1]), (65, .aload_n 0, 66, 0, []), (66, .bipush 12, 68, 0, []), (68, .newarray .int, 70, 0, [81]), (70, .putfield 34, 73, 4, [10, 2, 478, 1]), (73, .aload_n 0, 74, 0, []), (74, .bipush 12, 76, 0, []), (76, .newarray .int, 78, 0, [81]), (78, .putfield 37, 81, 4, [13, 2, 481, 1]), (81, .aload_n 0, 82, 0, []), (82, .bipush 12, 84, 0, []), (84, .newarray .int, 86, 0, [81]), (86, .putfield 40, 89, 4, [14, 2, 482, 1]), (89, .aload_n 0, 90, 0, []), (90, .bipush 12, 92, 0, [])]
def pw_o68_1 : List (Nat × pw_O) := [(92, .newarray .int, 94, 0, [81]), (94, .putfield 43, 97, 4, [15, 2, 483, 1]), (97, .aload_n 0, 98, 0, []), (98, .bipush 60, 100, 0, []), (100, .newarray .int, 102, 0, [81]), (102, .putfield 46, 105, 4, [17, 2, 485, 1]), (105, .aload_n 0, 106, 0, []), (106, .bipush 60, 108, 0, []), (108, .newarray .int, 110, 0, [81]), (110, .putfield 49, 113, 4, [18, 2, 486, 1]), (113, .aload_n 0, 114, 0, []), (114, .bipush 60, 116, 0, []), (116, .newarray .int, 118, 0, [81]), (118, .putfield 52, 121, 4, [19, 2, 487, 1]), (121, .aload_n 0, 122, 0, []), (122, .bipush 60, 124, 0, []), (124, .newarray .int, 126, 0, [81]), (126, .putfield 55, 129, 4, [20, 2, 488, 1]), (129, .aload_n 0, 130, 0, []), (130, .bipush 20, 132, 0, []), (132, .newarray .int, 134, 0, [81]), (134, .putfield 58, 137, 4, [22, 2, 490, 1]), (137, .aload_n 0, 138, 0, []), (138, .bipush 6, 140, 0, []), (140, .newarray .int, 142, 0, [81]), (142, .putfield 61, 145, 4, [24, 2, 492, 1]), (145, .aload_n 0, 146, 0, []), (146, .bipush 6, 148, 0, []), (148, .newarray .int, 150, 0, [81]), (150, .putfield 64, 153, 4, [25, 2, 493, 1]), (153, .aload_n 0, 154, 0, []), (154, .bipush 6, 156, 0, []), (156, .newarray .int, 158, 0, [81]), (158, .putfield 67, 161, 4, [26, 2, 494, 1]), (161, .aload_n 0, 162, 0, []), (162, .bipush 6, 164, 0, []), (164, .newarray .int, 166, 0, [81]), (166, .putfield 70, 169, 4, [27, 2, 495, 1]), (169, .aload_n 0, 170, 0, []), (170, .bipush 6, 172, 0, []), (172, .newarray .int, 174, 0, [81]), (174, .putfield 73, 177, 4, [28, 2, 496, 1]), (177, .aload_n 0, 178, 0, []), (178, .bipush 6, 180, 0, []), (180, .newarray .int, 182, 0, [81]), (182, .putfield 76, 185, 4, [29, 2, 497, 1]), (185, .aload_n 0, 186, 0, []), (186, .bipush 10, 188, 0, [])]
def pw_o68_2 : List (Nat × pw_O) := [(188, .newarray .int, 190, 0, [81]), (190, .putfield 79, 193, 4, [31, 2, 499, 1]), (193, .aload_n 0, 194, 0, []), (194, .bipush 10, 196, 0, []), (196, .newarray .int, 198, 0, [81]), (198, .putfield 82, 201, 4, [32, 2, 500, 1]), (201, .aload_n 0, 202, 0, []), (202, .bipush 10, 204, 0, []), (204, .newarray .int, 206, 0, [81]), (206, .putfield 85, 209, 4, [33, 2, 501, 1]), (209, .aload_n 0, 210, 0, []), (210, .bipush 7, 212, 0, []), (212, .putfield 88, 215, 4, [34, 0, 502, 0]), (215, .aload_n 0, 216, 0, []), (216, .bipush 12, 218, 0, []), (218, .newarray .int, 220, 0, [81]), (220, .putfield 92, 223, 4, [35, 2, 503, 1]), (223, .aload_n 0, 224, 0, []), (224, .sipush 156, 227, 0, []), (227, .newarray .boolean, 229, 1, [589]), (229, .putfield 95, 232, 4, [36, 2, 504, 1]), (232, .aload_n 0, 233, 0, []), (233, .sipush 144, 236, 0, []), (236, .newarray .int, 238, 0, [81]), (238, .putfield 99, 241, 4, [37, 2, 505, 1]), (241, .aload_n 0, 242, 0, []), (242, .iconst 4, 243, 0, []), (243, .newarray .int, 245, 0, [81]), (245, .putfield 102, 248, 4, [38, 2, 506, 1]), (248, .aload_n 0, 249, 0, []), (249, .bipush 12, 251, 0, []), (251, .newarray .int, 253, 0, [81]), (253, .putfield 105, 256, 4, [39, 2, 507, 1]), (256, .return_, 257, 0, [])]
def pw_o68 : List (Nat × pw_O) := pw_o68_0 ++ (pw_o68_1 ++ (pw_o68_2))
-- 69 BoundWalksModel.in(III)Z
def pw_o69 : List (Nat × pw_O) := [(0, .iload_n 0, 1, 0, []), (1, .iload_n 1, 2, 0, []), (2, .if_icmp .lt 12, 5, 14, []), (5, .iload_n 0, 6, 0, []), (6, .iload_n 2, 7, 0, []), (7, .if_icmp .gt 7, 10, 14, []), (10, .iconst 1, 11, 0, []), (11, .goto 4, 14, 15, []), (14, .iconst 0, 15, 0, []), (15, .ireturn, 16, 0, [])]
-- 70 BoundWalksModel.isPoint(II)Z
def pw_o70 : List (Nat × pw_O) := [(0, .iload_n 0, 1, 0, []), (1, .iconst 0, 2, 0, []), (2, .bipush 12, 4, 0, []), (4, .invokestatic 108, 7, 69, [3, 0, 597, 598, 0, 42, 599]), (7, .ifCond .eq 17, 10, 24, []), (10, .iload_n 1, 11, 0, []), (11, .iconst 0, 12, 0, []), (12, .bipush 12, 14, 0, []), (14, .invokestatic 108, 17, 69, [3, 0, 597, 598, 0, 42, 599]), (17, .ifCond .eq 7, 20, 24, []), (20, .iconst 1, 21, 0, []), (21, .goto 4, 24, 25, []), (24, .iconst 0, 25, 0, []), (25, .ireturn, 26, 0, [])]
-- 71 BoundWalksModel.isField(II)Z
def pw_o71 : List (Nat × pw_O) := [(0, .iload_n 0, 1, 0, []), (1, .iconst 0, 2, 0, []), (2, .bipush 11, 4, 0, []), (4, .invokestatic 108, 7, 69, [3, 0, 597, 598, 0, 42, 599]), (7, .ifCond .eq 17, 10, 24, []), (10, .iload_n 1, 11, 0, []), (11, .iconst 0, 12, 0, []), (12, .bipush 11, 14, 0, []), (14, .invokestatic 108, 17, 69, [3, 0, 597, 598, 0, 42, 599]), (17, .ifCond .eq 7, 20, 24, []), (20, .iconst 1, 21, 0, []), (21, .goto 4, 24, 25, []), (24, .iconst 0, 25, 0, []), (25, .ireturn, 26, 0, [])]
-- 72 BoundWalksModel.isYear(I)Z
def pw_o72 : List (Nat × pw_O) := [(0, .iload_n 0, 1, 0, []), (1, .iconst 0, 2, 0, []), (2, .sipush 300, 5, 0, []), (5, .invokestatic 108, 8, 69, [3, 0, 597, 598, 0, 42, 599]), (8, .ireturn, 9, 0, [])]
-- 73 BoundWalksModel.isParish(I)Z
def pw_o73 : List (Nat × pw_O) := [(0, .iload_n 1, 1, 0, []), (1, .iconst 0, 2, 0, []), (2, .aload_n 0, 3, 0, []), (3, .getfield 112, 6, 4, [0, 468, 0]), (6, .iconst 1, 7, 0, []), (7, .isub, 8, 0, []), (8, .invokestatic 108, 11, 69, [3, 0, 597, 598, 0, 42, 599]), (11, .ireturn, 12, 0, [])]
-- 74 BoundWalksModel.parish(II)I
def pw_o74 : List (Nat × pw_O) := [(0, .iload_n 1, 1, 0, []), (1, .iload_n 2, 2, 0, []), (2, .invokestatic 115, 5, 70, [2, 0, 594, 595, 0, 42, 596]), (5, .ifCond .ne 6, 8, 11, []), (8, .bipush (-2), 10, 0, []), (10, .ireturn, 11, 0, []), (11, .aload_n 0, 12, 0, []), (12, .getfield 112, 15, 4, [0, 468, 0]), (15, .iconst 4, 16, 0, []), (16, .if_icmp .ne 6, 19, 22, []), (19, .bipush (-4), 21, 0, []), (21, .ireturn, 22, 0, []), (22, .aload_n 0, 23, 0, []), (23, .getfield 7, 26, 4, [1, 469, 0]), (26, .aload_n 0, 27, 0, []), (27, .getfield 112, 30, 4, [0, 468, 0]), (30, .iload_n 1, 31, 0, []), (31, .iastore, 32, 0, []), (32, .aload_n 0, 33, 0, []), (33, .getfield 13, 36, 4, [2, 470, 0]), (36, .aload_n 0, 37, 0, []), (37, .getfield 112, 40, 4, [0, 468, 0]), (40, .iload_n 2, 41, 0, []), (41, .iastore, 42, 0, []), (42, .aload_n 0, 43, 0, []), (43, .dup, 44, 0, []), (44, .getfield 112, 47, 4, [0, 468, 0]), (47, .iconst 1, 48, 0, []), (48, .iadd, 49, 0, []), (49, .putfield 112, 52, 4, [0, 0, 468, 0]), (52, .aload_n 0, 53, 0, []), (53, .getfield 112, 56, 4, [0, 468, 0]), (56, .iconst 1, 57, 0, []), (57, .isub, 58, 0, []), (58, .ireturn, 59, 0, [])]
-- 75 BoundWalksModel.leg(IIII)I
def pw_o75_0 : List (Nat × pw_O) := [(0, .aload_n 0, 1, 0, []), (1, .iload_n 1, 2, 0, []), (2, .invokevirtual 119, 5, 73, [1, 4, 604, 606, 22, 42, 607]), (5, .ifCond .eq 33, 8, 38, []), (8, .iload_n 2, 9, 0, []), (9, .iconst 0, 10, 0, []), (10, .iconst 3, 11, 0, []), (11, .invokestatic 108, 14, 69, [3, 0, 597, 598, 0, 42, 599]), (14, .ifCond .eq 24, 17, 38, []), (17, .iload_n 3, 18, 0, []), (18, .iconst 1, 19, 0, []), (19, .bipush 12, 21, 0, []), (21, .invokestatic 108, 24, 69, [3, 0, 597, 598, 0, 42, 599]), (24, .ifCond .eq 14, 27, 38, []), (27, .iload 4, 29, 0, []), (29, .iload_n 3, 30, 0, []), (30, .bipush 12, 32, 0, []), (32, .invokestatic 108, 35, 69, [3, 0, 597, 598, 0, 42, 599]), (35, .ifCond .ne 6, 38, 41, []), (38, .bipush (-2), 40, 0, []), (40, .ireturn, 41, 0, []), (41, .aload_n 0, 42, 0, []), (42, .getfield 16, 45, 4, [3, 471, 0]), (45, .iload_n 1, 46, 0, []), (46, .iaload, 47, 0, []), (47, .bipush 12, 49, 0, []), (49, .if_icmp .ne 6, 52, 55, []), (52, .bipush (-4), 54, 0, []), (54, .ireturn, 55, 0, []), (55, .bipush 12, 57, 0, []), (57, .iload_n 1, 58, 0, []), (58, .imul, 59, 0, []), (59, .aload_n 0, 60, 0, []), (60, .getfield 16, 63, 4, [3, 471, 0]), (63, .iload_n 1, 64, 0, []), (64, .iaload, 65, 0, []), (65, .iadd, 66, 0, []), (66, .istore 5, 68, 0, []), (68, .aload_n 0, 69, 0, []), (69, .getfield 19, 72, 4, [4, 472, 0]), (72, .iload 5, 74, 0, []), (74, .iload_n 2, 75, 0, []), (75, .iastore, 76, 0, []), (76, .aload_n 0, 77, 0, []), (77, .getfield 22, 80, 4, [5, 473, 0]), (80, .iload 5, 82, 0, []), (82, .iload_n 3, 83, 0, []), (83, .iastore, 84, 0, [])]
def pw_o75_1 : List (Nat × pw_O) := [(84, .aload_n 0, 85, 0, []), (85, .getfield 25, 88, 4, [6, 474, 0]), (88, .iload 5, 90, 0, []), (90, .iload 4, 92, 0, []), (92, .iastore, 93, 0, []), (93, .aload_n 0, 94, 0, []), (94, .getfield 16, 97, 4, [3, 471, 0]), (97, .iload_n 1, 98, 0, []), (98, .dup2, 99, 0, []), (99, .iaload, 100, 0, []), (100, .iconst 1, 101, 0, []), (101, .iadd, 102, 0, []), (102, .iastore, 103, 0, []), (103, .aload_n 0, 104, 0, []), (104, .getfield 16, 107, 4, [3, 471, 0]), (107, .iload_n 1, 108, 0, []), (108, .iaload, 109, 0, []), (109, .ireturn, 110, 0, [])]
def pw_o75 : List (Nat × pw_O) := pw_o75_0 ++ (pw_o75_1)
-- 76 BoundWalksModel.unleg(I)I
def pw_o76 : List (Nat × pw_O) := [(0, .aload_n 0, 1, 0, []), (1, .iload_n 1, 2, 0, []), (2, .invokevirtual 119, 5, 73, [1, 4, 604, 606, 22, 42, 607]), (5, .ifCond .ne 6, 8, 11, []), (8, .bipush (-2), 10, 0, []), (10, .ireturn, 11, 0, []), (11, .aload_n 0, 12, 0, []), (12, .getfield 16, 15, 4, [3, 471, 0]), (15, .iload_n 1, 16, 0, []), (16, .iaload, 17, 0, []), (17, .ifCond .ne 6, 20, 23, []), (20, .bipush (-3), 22, 0, []), (22, .ireturn, 23, 0, []), (23, .aload_n 0, 24, 0, []), (24, .getfield 16, 27, 4, [3, 471, 0]), (27, .iload_n 1, 28, 0, []), (28, .dup2, 29, 0, []), (29, .iaload, 30, 0, []), (30, .iconst 1, 31, 0, []), (31, .isub, 32, 0, []), (32, .iastore, 33, 0, []), (33, .aload_n 0, 34, 0, []), (34, .getfield 16, 37, 4, [3, 471, 0]), (37, .iload_n 1, 38, 0, []), (38, .iaload, 39, 0, []), (39, .ireturn, 40, 0, [])]
-- 77 BoundWalksModel.leastFrom(III)I
def pw_o77 : List (Nat × pw_O) := [(0, .iconst 0, 1, 0, []), (1, .istore 4, 3, 0, []), (3, .iload_n 2, 4, 0, []), (4, .istore 5, 6, 0, []), (6, .iload 5, 8, 0, []), (8, .aload_n 0, 9, 0, []), (9, .getfield 16, 12, 4, [3, 471, 0]), (12, .iload_n 1, 13, 0, []), (13, .iaload, 14, 0, []), (14, .if_icmp .ge 65, 17, 79, []), (17, .bipush 12, 19, 0, []), (19, .iload_n 1, 20, 0, []), (20, .imul, 21, 0, []), (21, .iload 5, 23, 0, []), (23, .iadd, 24, 0, []), (24, .istore 6, 26, 0, []), (26, .aload_n 0, 27, 0, []), (27, .getfield 19, 30, 4, [4, 472, 0]), (30, .iload 6, 32, 0, []), (32, .iaload, 33, 0, []), (33, .iconst 2, 34, 0, []), (34, .irem, 35, 0, []), (35, .iload_n 3, 36, 0, []), (36, .if_icmp .ne 37, 39, 73, []), (39, .iload 4, 41, 0, []), (41, .aload_n 0, 42, 0, []), (42, .getfield 19, 45, 4, [4, 472, 0]), (45, .iload 6, 47, 0, []), (47, .iaload, 48, 0, []), (48, .iconst 2, 49, 0, []), (49, .if_icmp .ge 13, 52, 62, []), (52, .aload_n 0, 53, 0, []), (53, .getfield 22, 56, 4, [5, 473, 0]), (56, .iload 6, 58, 0, []), (58, .iaload, 59, 0, []), (59, .goto 11, 62, 70, []), (62, .aload_n 0, 63, 0, []), (63, .getfield 25, 66, 4, [6, 474, 0]), (66, .iload 6, 68, 0, []), (68, .iaload, 69, 0, []), (69, .ineg, 70, 0, []), (70, .iadd, 71, 0, []), (71, .istore 4, 73, 0, []), (73, .iinc 5 1, 76, 0, []), (76, .goto (-70), 79, 6, []), (79, .iload 4, 81, 0, []), (81, .ireturn, 82, 0, [])]
-- 78 BoundWalksModel.mostFrom(III)I
def pw_o78 : List (Nat × pw_O) := [(0, .iconst 0, 1, 0, []), (1, .istore 4, 3, 0, []), (3, .iload_n 2, 4, 0, []), (4, .istore 5, 6, 0, []), (6, .iload 5, 8, 0, []), (8, .aload_n 0, 9, 0, []), (9, .getfield 16, 12, 4, [3, 471, 0]), (12, .iload_n 1, 13, 0, []), (13, .iaload, 14, 0, []), (14, .if_icmp .ge 65, 17, 79, []), (17, .bipush 12, 19, 0, []), (19, .iload_n 1, 20, 0, []), (20, .imul, 21, 0, []), (21, .iload 5, 23, 0, []), (23, .iadd, 24, 0, []), (24, .istore 6, 26, 0, []), (26, .aload_n 0, 27, 0, []), (27, .getfield 19, 30, 4, [4, 472, 0]), (30, .iload 6, 32, 0, []), (32, .iaload, 33, 0, []), (33, .iconst 2, 34, 0, []), (34, .irem, 35, 0, []), (35, .iload_n 3, 36, 0, []), (36, .if_icmp .ne 37, 39, 73, []), (39, .iload 4, 41, 0, []), (41, .aload_n 0, 42, 0, []), (42, .getfield 19, 45, 4, [4, 472, 0]), (45, .iload 6, 47, 0, []), (47, .iaload, 48, 0, []), (48, .iconst 2, 49, 0, []), (49, .if_icmp .ge 13, 52, 62, []), (52, .aload_n 0, 53, 0, []), (53, .getfield 25, 56, 4, [6, 474, 0]), (56, .iload 6, 58, 0, []), (58, .iaload, 59, 0, []), (59, .goto 11, 62, 70, []), (62, .aload_n 0, 63, 0, []), (63, .getfield 22, 66, 4, [5, 473, 0]), (66, .iload 6, 68, 0, []), (68, .iaload, 69, 0, []), (69, .ineg, 70, 0, []), (70, .iadd, 71, 0, []), (71, .istore 4, 73, 0, []), (73, .iinc 5 1, 76, 0, []), (76, .goto (-70), 79, 6, []), (79, .iload 4, 81, 0, []), (81, .ireturn, 82, 0, [])]
-- 79 BoundWalksModel.findLengths(I)Z
def pw_o79_0 : List (Nat × pw_O) := [(0, .iconst 0, 1, 0, []), (1, .istore_n 2, 2, 0, []), (2, .iload_n 2, 3, 0, []), (3, .iconst 2, 4, 0, []), (4, .if_icmp .ge 159, 7, 163, []), (7, .iconst 0, 8, 0, []), (8, .istore_n 3, 9, 0, []), (9, .iload_n 3, 10, 0, []), (10, .aload_n 0, 11, 0, []), (11, .iload_n 1, 12, 0, []), (12, .iconst 0, 13, 0, []), (13, .iload_n 2, 14, 0, []), (14, .invokevirtual 123, 17, 77, [3, 4, 620, 622, 24, 42, 623]), (17, .aload_n 0, 18, 0, []), (18, .iload_n 1, 19, 0, []), (19, .iconst 0, 20, 0, []), (20, .iload_n 2, 21, 0, []), (21, .invokevirtual 127, 24, 78, [3, 4, 624, 626, 25, 42, 627]), (24, .invokestatic 108, 27, 69, [3, 0, 597, 598, 0, 42, 599]), (27, .ifCond .ne 5, 30, 32, []), (30, .iconst 0, 31, 0, []), (31, .ireturn, 32, 0, []), (32, .iconst 0, 33, 0, []), (33, .istore 4, 35, 0, []), (35, .iload 4, 37, 0, []), (37, .aload_n 0, 38, 0, []), (38, .getfield 16, 41, 4, [3, 471, 0]), (41, .iload_n 1, 42, 0, []), (42, .iaload, 43, 0, []), (43, .if_icmp .ge 114, 46, 157, []), (46, .bipush 12, 48, 0, []), (48, .iload_n 1, 49, 0, []), (49, .imul, 50, 0, []), (50, .iload 4, 52, 0, []), (52, .iadd, 53, 0, []), (53, .istore 5, 55, 0, []), (55, .aload_n 0, 56, 0, []), (56, .getfield 19, 59, 4, [4, 472, 0]), (59, .iload 5, 61, 0, []), (61, .iaload, 62, 0, []), (62, .iconst 2, 63, 0, []), (63, .irem, 64, 0, []), (64, .iload_n 2, 65, 0, []), (65, .if_icmp .ne 86, 68, 151, []), (68, .aload_n 0, 69, 0, []), (69, .getfield 19, 72, 4, [4, 472, 0]), (72, .iload 5, 74, 0, []), (74, .iaload, 75, 0, [])]
def pw_o79_1 : List (Nat × pw_O) := [(75, .iconst 2, 76, 0, []), (76, .if_icmp .ge 7, 79, 83, []), (79, .iconst 1, 80, 0, []), (80, .goto 4, 83, 84, []), (83, .iconst (-1), 84, 0, []), (84, .istore 6, 86, 0, []), (86, .aload_n 0, 87, 0, []), (87, .getfield 22, 90, 4, [5, 473, 0]), (90, .iload 5, 92, 0, []), (92, .iaload, 93, 0, []), (93, .istore 7, 95, 0, []), (95, .iload_n 3, 96, 0, []), (96, .iload 6, 98, 0, []), (98, .iload 7, 100, 0, []), (100, .imul, 101, 0, []), (101, .isub, 102, 0, []), (102, .aload_n 0, 103, 0, []), (103, .iload_n 1, 104, 0, []), (104, .iload 4, 106, 0, []), (106, .iconst 1, 107, 0, []), (107, .iadd, 108, 0, []), (108, .iload_n 2, 109, 0, []), (109, .invokevirtual 123, 112, 77, [3, 4, 620, 622, 24, 42, 623]), (112, .aload_n 0, 113, 0, []), (113, .iload_n 1, 114, 0, []), (114, .iload 4, 116, 0, []), (116, .iconst 1, 117, 0, []), (117, .iadd, 118, 0, []), (118, .iload_n 2, 119, 0, []), (119, .invokevirtual 127, 122, 78, [3, 4, 624, 626, 25, 42, 627]), (122, .invokestatic 108, 125, 69, [3, 0, 597, 598, 0, 42, 599]), (125, .ifCond .ne 9, 128, 134, []), (128, .iinc 7 1, 131, 0, []), (131, .goto (-36), 134, 95, []), (134, .aload_n 0, 135, 0, []), (135, .getfield 92, 138, 4, [35, 503, 0]), (138, .iload 4, 140, 0, []), (140, .iload 7, 142, 0, []), (142, .iastore, 143, 0, []), (143, .iload_n 3, 144, 0, []), (144, .iload 6, 146, 0, []), (146, .iload 7, 148, 0, []), (148, .imul, 149, 0, []), (149, .isub, 150, 0, []), (150, .istore_n 3, 151, 0, []), (151, .iinc 4 1, 154, 0, []), (154, .goto (-119), 157, 35, []), (157, .iinc 2 1, 160, 0, [])]
def pw_o79_2 : List (Nat × pw_O) := [(160, .goto (-158), 163, 2, []), (163, .iconst 1, 164, 0, []), (164, .ireturn, 165, 0, [])]
def pw_o79 : List (Nat × pw_O) := pw_o79_0 ++ (pw_o79_1 ++ (pw_o79_2))
-- 80 BoundWalksModel.length(II)I
def pw_o80 : List (Nat × pw_O) := [(0, .aload_n 0, 1, 0, []), (1, .iload_n 1, 2, 0, []), (2, .invokevirtual 119, 5, 73, [1, 4, 604, 606, 22, 42, 607]), (5, .ifCond .eq 19, 8, 24, []), (8, .iload_n 2, 9, 0, []), (9, .iconst 0, 10, 0, []), (10, .aload_n 0, 11, 0, []), (11, .getfield 16, 14, 4, [3, 471, 0]), (14, .iload_n 1, 15, 0, []), (15, .iaload, 16, 0, []), (16, .iconst 1, 17, 0, []), (17, .isub, 18, 0, []), (18, .invokestatic 108, 21, 69, [3, 0, 597, 598, 0, 42, 599]), (21, .ifCond .ne 6, 24, 27, []), (24, .bipush (-2), 26, 0, []), (26, .ireturn, 27, 0, []), (27, .aload_n 0, 28, 0, []), (28, .iload_n 1, 29, 0, []), (29, .invokevirtual 130, 32, 79, [1, 4, 616, 618, 23, 42, 619]), (32, .ifCond .eq 12, 35, 44, []), (35, .aload_n 0, 36, 0, []), (36, .getfield 92, 39, 4, [35, 503, 0]), (39, .iload_n 2, 40, 0, []), (40, .iaload, 41, 0, []), (41, .goto 4, 44, 45, []), (44, .iconst (-1), 45, 0, []), (45, .ireturn, 46, 0, [])]
-- 81 BoundWalksModel.layRing(I)Z
def pw_o81_0 : List (Nat × pw_O) := [(0, .iconst 0, 1, 0, []), (1, .istore_n 2, 2, 0, []), (2, .iload_n 2, 3, 0, []), (3, .sipush 156, 6, 0, []), (6, .if_icmp .ge 16, 9, 22, []), (9, .aload_n 0, 10, 0, []), (10, .getfield 95, 13, 4, [36, 504, 0]), (13, .iload_n 2, 14, 0, []), (14, .iconst 0, 15, 0, []), (15, .bastore, 16, 0, []), (16, .iinc 2 1, 19, 0, []), (19, .goto (-17), 22, 2, []), (22, .aload_n 0, 23, 0, []), (23, .iload_n 1, 24, 0, []), (24, .invokevirtual 130, 27, 79, [1, 4, 616, 618, 23, 42, 619]), (27, .ifCond .ne 5, 30, 32, []), (30, .iconst 0, 31, 0, []), (31, .ireturn, 32, 0, []), (32, .aload_n 0, 33, 0, []), (33, .getfield 7, 36, 4, [1, 469, 0]), (36, .iload_n 1, 37, 0, []), (37, .iaload, 38, 0, []), (38, .istore_n 2, 39, 0, []), (39, .aload_n 0, 40, 0, []), (40, .getfield 13, 43, 4, [2, 470, 0]), (43, .iload_n 1, 44, 0, []), (44, .iaload, 45, 0, []), (45, .istore_n 3, 46, 0, []), (46, .iconst 0, 47, 0, []), (47, .istore 4, 49, 0, []), (49, .iload 4, 51, 0, []), (51, .aload_n 0, 52, 0, []), (52, .getfield 16, 55, 4, [3, 471, 0]), (55, .iload_n 1, 56, 0, []), (56, .iaload, 57, 0, []), (57, .if_icmp .ge 158, 60, 215, []), (60, .aload_n 0, 61, 0, []), (61, .getfield 19, 64, 4, [4, 472, 0]), (64, .bipush 12, 66, 0, []), (66, .iload_n 1, 67, 0, []), (67, .imul, 68, 0, []), (68, .iload 4, 70, 0, []), (70, .iadd, 71, 0, []), (71, .iaload, 72, 0, []), (72, .istore 5, 74, 0, []), (74, .iconst 0, 75, 0, []), (75, .istore 6, 77, 0, []), (77, .iload 6, 79, 0, [])]
def pw_o81_1 : List (Nat × pw_O) := [(79, .aload_n 0, 80, 0, []), (80, .getfield 92, 83, 4, [35, 503, 0]), (83, .iload 4, 85, 0, []), (85, .iaload, 86, 0, []), (86, .if_icmp .ge 123, 89, 209, []), (89, .iload_n 2, 90, 0, []), (90, .iload 5, 92, 0, []), (92, .ifCond .ne 7, 95, 99, []), (95, .iconst 1, 96, 0, []), (96, .goto 14, 99, 110, []), (99, .iload 5, 101, 0, []), (101, .iconst 2, 102, 0, []), (102, .if_icmp .ne 7, 105, 109, []), (105, .iconst (-1), 106, 0, []), (106, .goto 4, 109, 110, []), (109, .iconst 0, 110, 0, []), (110, .iadd, 111, 0, []), (111, .istore 7, 113, 0, []), (113, .iload_n 3, 114, 0, []), (114, .iload 5, 116, 0, []), (116, .iconst 1, 117, 0, []), (117, .if_icmp .ne 7, 120, 124, []), (120, .iconst 1, 121, 0, []), (121, .goto 14, 124, 135, []), (124, .iload 5, 126, 0, []), (126, .iconst 3, 127, 0, []), (127, .if_icmp .ne 7, 130, 134, []), (130, .iconst (-1), 131, 0, []), (131, .goto 4, 134, 135, []), (134, .iconst 0, 135, 0, []), (135, .iadd, 136, 0, []), (136, .istore 8, 138, 0, []), (138, .iload 7, 140, 0, []), (140, .iload 8, 142, 0, []), (142, .invokestatic 115, 145, 70, [2, 0, 594, 595, 0, 42, 596]), (145, .ifCond .ne 5, 148, 150, []), (148, .iconst 0, 149, 0, []), (149, .ireturn, 150, 0, []), (150, .iload 8, 152, 0, []), (152, .iload_n 3, 153, 0, []), (153, .if_icmp .eq 44, 156, 197, []), (156, .bipush 12, 158, 0, []), (158, .iload_n 2, 159, 0, []), (159, .imul, 160, 0, []), (160, .iload 8, 162, 0, []), (162, .iload_n 3, 163, 0, []), (163, .if_icmp .le 7, 166, 170, []), (166, .iload_n 3, 167, 0, [])]
def pw_o81_2 : List (Nat × pw_O) := [(167, .goto 5, 170, 172, []), (170, .iload 8, 172, 0, []), (172, .iadd, 173, 0, []), (173, .istore 9, 175, 0, []), (175, .aload_n 0, 176, 0, []), (176, .getfield 95, 179, 4, [36, 504, 0]), (179, .iload 9, 181, 0, []), (181, .aload_n 0, 182, 0, []), (182, .getfield 95, 185, 4, [36, 504, 0]), (185, .iload 9, 187, 0, []), (187, .baload, 188, 0, []), (188, .ifCond .ne 7, 191, 195, []), (191, .iconst 1, 192, 0, []), (192, .goto 4, 195, 196, []), (195, .iconst 0, 196, 0, []), (196, .bastore, 197, 0, []), (197, .iload 7, 199, 0, []), (199, .istore_n 2, 200, 0, []), (200, .iload 8, 202, 0, []), (202, .istore_n 3, 203, 0, []), (203, .iinc 6 1, 206, 0, []), (206, .goto (-129), 209, 77, []), (209, .iinc 4 1, 212, 0, []), (212, .goto (-163), 215, 49, []), (215, .iconst 1, 216, 0, []), (216, .ireturn, 217, 0, [])]
def pw_o81 : List (Nat × pw_O) := pw_o81_0 ++ (pw_o81_1 ++ (pw_o81_2))
-- 82 BoundWalksModel.layInside(I)I
def pw_o82_0 : List (Nat × pw_O) := [(0, .aload_n 0, 1, 0, []), (1, .iload_n 1, 2, 0, []), (2, .invokevirtual 133, 5, 81, [1, 4, 636, 638, 27, 42, 639]), (5, .ifCond .ne 5, 8, 10, []), (8, .iconst (-1), 9, 0, []), (9, .ireturn, 10, 0, []), (10, .iconst 0, 11, 0, []), (11, .istore_n 2, 12, 0, []), (12, .iconst 0, 13, 0, []), (13, .istore_n 3, 14, 0, []), (14, .iload_n 3, 15, 0, []), (15, .bipush 12, 17, 0, []), (17, .if_icmp .ge 92, 20, 109, []), (20, .iconst 0, 21, 0, []), (21, .istore 4, 23, 0, []), (23, .iconst 0, 24, 0, []), (24, .istore 5, 26, 0, []), (26, .iload 5, 28, 0, []), (28, .bipush 12, 30, 0, []), (30, .if_icmp .ge 73, 33, 103, []), (33, .iload 4, 35, 0, []), (35, .aload_n 0, 36, 0, []), (36, .getfield 95, 39, 4, [36, 504, 0]), (39, .bipush 12, 41, 0, []), (41, .iload 5, 43, 0, []), (43, .imul, 44, 0, []), (44, .iload_n 3, 45, 0, []), (45, .iadd, 46, 0, []), (46, .baload, 47, 0, []), (47, .if_icmp .eq 7, 50, 54, []), (50, .iconst 1, 51, 0, []), (51, .goto 4, 54, 55, []), (54, .iconst 0, 55, 0, []), (55, .istore 4, 57, 0, []), (57, .aload_n 0, 58, 0, []), (58, .getfield 99, 61, 4, [37, 505, 0]), (61, .bipush 12, 63, 0, []), (63, .iload_n 3, 64, 0, []), (64, .imul, 65, 0, []), (65, .iload 5, 67, 0, []), (67, .iadd, 68, 0, []), (68, .dup2, 69, 0, []), (69, .iaload, 70, 0, []), (70, .iload 4, 72, 0, []), (72, .ifCond .eq 9, 75, 81, []), (75, .iconst 1, 76, 0, []), (76, .iload_n 1, 77, 0, []), (77, .ishl, 78, 0, [])]
def pw_o82_1 : List (Nat × pw_O) := [(78, .goto 4, 81, 82, []), (81, .iconst 0, 82, 0, []), (82, .ior, 83, 0, []), (83, .iastore, 84, 0, []), (84, .iload_n 2, 85, 0, []), (85, .iload 4, 87, 0, []), (87, .ifCond .eq 7, 90, 94, []), (90, .iconst 1, 91, 0, []), (91, .goto 4, 94, 95, []), (94, .iconst 0, 95, 0, []), (95, .iadd, 96, 0, []), (96, .istore_n 2, 97, 0, []), (97, .iinc 5 1, 100, 0, []), (100, .goto (-74), 103, 26, []), (103, .iinc 3 1, 106, 0, []), (106, .goto (-92), 109, 14, []), (109, .iload_n 2, 110, 0, []), (110, .ireturn, 111, 0, [])]
def pw_o82 : List (Nat × pw_O) := pw_o82_0 ++ (pw_o82_1)
-- 83 BoundWalksModel.area(I)I
def pw_o83 : List (Nat × pw_O) := [(0, .aload_n 0, 1, 0, []), (1, .iload_n 1, 2, 0, []), (2, .invokevirtual 119, 5, 73, [1, 4, 604, 606, 22, 42, 607]), (5, .ifCond .eq 11, 8, 16, []), (8, .aload_n 0, 9, 0, []), (9, .iload_n 1, 10, 0, []), (10, .invokevirtual 136, 13, 82, [1, 4, 632, 634, 26, 42, 635]), (13, .goto 5, 16, 18, []), (16, .bipush (-2), 18, 0, []), (18, .ireturn, 19, 0, [])]
-- 84 BoundWalksModel.layClaims()V
def pw_o84 : List (Nat × pw_O) := [(0, .iconst 0, 1, 0, []), (1, .istore_n 1, 2, 0, []), (2, .iload_n 1, 3, 0, []), (3, .sipush 144, 6, 0, []), (6, .if_icmp .ge 16, 9, 22, []), (9, .aload_n 0, 10, 0, []), (10, .getfield 99, 13, 4, [37, 505, 0]), (13, .iload_n 1, 14, 0, []), (14, .iconst 0, 15, 0, []), (15, .iastore, 16, 0, []), (16, .iinc 1 1, 19, 0, []), (19, .goto (-17), 22, 2, []), (22, .iconst 0, 23, 0, []), (23, .istore_n 1, 24, 0, []), (24, .iload_n 1, 25, 0, []), (25, .aload_n 0, 26, 0, []), (26, .getfield 112, 29, 4, [0, 468, 0]), (29, .if_icmp .ge 15, 32, 44, []), (32, .aload_n 0, 33, 0, []), (33, .iload_n 1, 34, 0, []), (34, .invokevirtual 136, 37, 82, [1, 4, 632, 634, 26, 42, 635]), (37, .pop, 38, 0, []), (38, .iinc 1 1, 41, 0, []), (41, .goto (-17), 44, 24, []), (44, .return_, 45, 0, [])]
-- 85 BoundWalksModel.claims(II)I
def pw_o85 : List (Nat × pw_O) := [(0, .iload_n 1, 1, 0, []), (1, .iload_n 2, 2, 0, []), (2, .invokestatic 140, 5, 71, [2, 0, 644, 645, 0, 42, 646]), (5, .ifCond .ne 6, 8, 11, []), (8, .bipush (-2), 10, 0, []), (10, .ireturn, 11, 0, []), (11, .aload_n 0, 12, 0, []), (12, .invokevirtual 143, 15, 84, [0, 4, 647, 649, 28, 42, 650]), (15, .aload_n 0, 16, 0, []), (16, .getfield 99, 19, 4, [37, 505, 0]), (19, .bipush 12, 21, 0, []), (21, .iload_n 2, 22, 0, []), (22, .imul, 23, 0, []), (23, .iload_n 1, 24, 0, []), (24, .iadd, 25, 0, []), (25, .iaload, 26, 0, []), (26, .ireturn, 27, 0, [])]
-- 86 BoundWalksModel.agree(IIIIII)I
def pw_o86_0 : List (Nat × pw_O) := [(0, .aload_n 0, 1, 0, []), (1, .iload_n 1, 2, 0, []), (2, .invokevirtual 119, 5, 73, [1, 4, 604, 606, 22, 42, 607]), (5, .ifCond .eq 45, 8, 50, []), (8, .aload_n 0, 9, 0, []), (9, .iload_n 2, 10, 0, []), (10, .invokevirtual 119, 13, 73, [1, 4, 604, 606, 22, 42, 607]), (13, .ifCond .eq 37, 16, 50, []), (16, .iload_n 1, 17, 0, []), (17, .iload_n 2, 18, 0, []), (18, .if_icmp .eq 32, 21, 50, []), (21, .iload_n 3, 22, 0, []), (22, .invokestatic 146, 25, 72, [1, 0, 655, 656, 0, 42, 657]), (25, .ifCond .eq 25, 28, 50, []), (28, .iload 4, 30, 0, []), (30, .iload 5, 32, 0, []), (32, .invokestatic 140, 35, 71, [2, 0, 644, 645, 0, 42, 646]), (35, .ifCond .eq 15, 38, 50, []), (38, .iload 6, 40, 0, []), (40, .iload_n 1, 41, 0, []), (41, .if_icmp .eq 12, 44, 53, []), (44, .iload 6, 46, 0, []), (46, .iload_n 2, 47, 0, []), (47, .if_icmp .eq 6, 50, 53, []), (50, .bipush (-2), 52, 0, []), (52, .ireturn, 53, 0, []), (53, .aload_n 0, 54, 0, []), (54, .getfield 149, 57, 4, [7, 475, 0]), (57, .bipush 12, 59, 0, []), (59, .if_icmp .ne 6, 62, 65, []), (62, .bipush (-4), 64, 0, []), (64, .ireturn, 65, 0, []), (65, .aload_n 0, 66, 0, []), (66, .getfield 28, 69, 4, [8, 476, 0]), (69, .aload_n 0, 70, 0, []), (70, .getfield 149, 73, 4, [7, 475, 0]), (73, .iload_n 3, 74, 0, []), (74, .iastore, 75, 0, []), (75, .aload_n 0, 76, 0, []), (76, .getfield 31, 79, 4, [9, 477, 0]), (79, .aload_n 0, 80, 0, []), (80, .getfield 149, 83, 4, [7, 475, 0]), (83, .bipush 12, 85, 0, []), (85, .iload 5, 87, 0, []), (87, .imul, 88, 0, []), (88, .iload 4, 90, 0, []), (90, .iadd, 91, 0, []), (91, .iastore, 92, 0, [])]
def pw_o86_1 : List (Nat × pw_O) := [(92, .aload_n 0, 93, 0, []), (93, .getfield 34, 96, 4, [10, 478, 0]), (96, .aload_n 0, 97, 0, []), (97, .getfield 149, 100, 4, [7, 475, 0]), (100, .iload 6, 102, 0, []), (102, .iastore, 103, 0, []), (103, .aload_n 0, 104, 0, []), (104, .dup, 105, 0, []), (105, .getfield 149, 108, 4, [7, 475, 0]), (108, .iconst 1, 109, 0, []), (109, .iadd, 110, 0, []), (110, .putfield 149, 113, 4, [7, 0, 475, 0]), (113, .aload_n 0, 114, 0, []), (114, .getfield 149, 117, 4, [7, 475, 0]), (117, .iconst 1, 118, 0, []), (118, .isub, 119, 0, []), (119, .ireturn, 120, 0, [])]
def pw_o86 : List (Nat × pw_O) := pw_o86_0 ++ (pw_o86_1)
-- 87 BoundWalksModel.ownerOf(II)I
def pw_o87_0 : List (Nat × pw_O) := [(0, .iconst (-1), 1, 0, []), (1, .istore_n 3, 2, 0, []), (2, .iconst 0, 3, 0, []), (3, .istore 4, 5, 0, []), (5, .iload 4, 7, 0, []), (7, .aload_n 0, 8, 0, []), (8, .getfield 149, 11, 4, [7, 475, 0]), (11, .if_icmp .ge 59, 14, 70, []), (14, .aload_n 0, 15, 0, []), (15, .getfield 31, 18, 4, [9, 477, 0]), (18, .iload 4, 20, 0, []), (20, .iaload, 21, 0, []), (21, .iload_n 1, 22, 0, []), (22, .if_icmp .ne 42, 25, 64, []), (25, .aload_n 0, 26, 0, []), (26, .getfield 28, 29, 4, [8, 476, 0]), (29, .iload 4, 31, 0, []), (31, .iaload, 32, 0, []), (32, .iload_n 2, 33, 0, []), (33, .if_icmp .gt 31, 36, 64, []), (36, .iload_n 3, 37, 0, []), (37, .iconst (-1), 38, 0, []), (38, .if_icmp .eq 19, 41, 57, []), (41, .aload_n 0, 42, 0, []), (42, .getfield 28, 45, 4, [8, 476, 0]), (45, .iload 4, 47, 0, []), (47, .iaload, 48, 0, []), (48, .aload_n 0, 49, 0, []), (49, .getfield 28, 52, 4, [8, 476, 0]), (52, .iload_n 3, 53, 0, []), (53, .iaload, 54, 0, []), (54, .if_icmp .lt 8, 57, 62, []), (57, .iload 4, 59, 0, []), (59, .goto 4, 62, 63, []), (62, .iload_n 3, 63, 0, []), (63, .istore_n 3, 64, 0, []), (64, .iinc 4 1, 67, 0, []), (67, .goto (-62), 70, 5, []), (70, .iload_n 3, 71, 0, []), (71, .iconst (-1), 72, 0, []), (72, .if_icmp .eq 10, 75, 82, []), (75, .aload_n 0, 76, 0, []), (76, .getfield 34, 79, 4, [10, 478, 0]), (79, .iload_n 3, 80, 0, []), (80, .iaload, 81, 0, []), (81, .ireturn, 82, 0, []), (82, .iconst 0, 83, 0, []), (83, .istore 4, 85, 0, [])]
def pw_o87_1 : List (Nat × pw_O) := [(85, .iload 4, 87, 0, []), (87, .aload_n 0, 88, 0, []), (88, .getfield 112, 91, 4, [0, 468, 0]), (91, .if_icmp .ge 25, 94, 116, []), (94, .aload_n 0, 95, 0, []), (95, .getfield 99, 98, 4, [37, 505, 0]), (98, .iload_n 1, 99, 0, []), (99, .iaload, 100, 0, []), (100, .iconst 1, 101, 0, []), (101, .iload 4, 103, 0, []), (103, .ishl, 104, 0, []), (104, .if_icmp .ne 6, 107, 110, []), (107, .iload 4, 109, 0, []), (109, .ireturn, 110, 0, []), (110, .iinc 4 1, 113, 0, []), (113, .goto (-28), 116, 85, []), (116, .iconst (-1), 117, 0, []), (117, .ireturn, 118, 0, [])]
def pw_o87 : List (Nat × pw_O) := pw_o87_0 ++ (pw_o87_1)
-- 88 BoundWalksModel.owner(III)I
def pw_o88 : List (Nat × pw_O) := [(0, .iload_n 1, 1, 0, []), (1, .iload_n 2, 2, 0, []), (2, .invokestatic 140, 5, 71, [2, 0, 644, 645, 0, 42, 646]), (5, .ifCond .eq 10, 8, 15, []), (8, .iload_n 3, 9, 0, []), (9, .invokestatic 146, 12, 72, [1, 0, 655, 656, 0, 42, 657]), (12, .ifCond .ne 6, 15, 18, []), (15, .bipush (-2), 17, 0, []), (17, .ireturn, 18, 0, []), (18, .aload_n 0, 19, 0, []), (19, .invokevirtual 143, 22, 84, [0, 4, 647, 649, 28, 42, 650]), (22, .aload_n 0, 23, 0, []), (23, .bipush 12, 25, 0, []), (25, .iload_n 2, 26, 0, []), (26, .imul, 27, 0, []), (27, .iload_n 1, 28, 0, []), (28, .iadd, 29, 0, []), (29, .iload_n 3, 30, 0, []), (30, .invokevirtual 152, 33, 87, [2, 4, 662, 664, 29, 42, 665]), (33, .ireturn, 34, 0, [])]
-- 89 BoundWalksModel.ones(I)I
def pw_o89 : List (Nat × pw_O) := [(0, .iconst 0, 1, 0, []), (1, .istore_n 1, 2, 0, []), (2, .iconst 0, 3, 0, []), (3, .istore_n 2, 4, 0, []), (4, .iload_n 2, 5, 0, []), (5, .bipush 12, 7, 0, []), (7, .if_icmp .ge 17, 10, 24, []), (10, .iload_n 1, 11, 0, []), (11, .iload_n 0, 12, 0, []), (12, .iload_n 2, 13, 0, []), (13, .ishr, 14, 0, []), (14, .iconst 1, 15, 0, []), (15, .iand, 16, 0, []), (16, .iadd, 17, 0, []), (17, .istore_n 1, 18, 0, []), (18, .iinc 2 1, 21, 0, []), (21, .goto (-17), 24, 4, []), (24, .iload_n 1, 25, 0, []), (25, .ireturn, 26, 0, [])]
-- 90 BoundWalksModel.quarrel(I)I
def pw_o90 : List (Nat × pw_O) := [(0, .iload_n 1, 1, 0, []), (1, .invokestatic 146, 4, 72, [1, 0, 655, 656, 0, 42, 657]), (4, .ifCond .ne 6, 7, 10, []), (7, .bipush (-2), 9, 0, []), (9, .ireturn, 10, 0, []), (10, .aload_n 0, 11, 0, []), (11, .invokevirtual 143, 14, 84, [0, 4, 647, 649, 28, 42, 650]), (14, .iconst 0, 15, 0, []), (15, .istore_n 2, 16, 0, []), (16, .iconst 0, 17, 0, []), (17, .istore_n 3, 18, 0, []), (18, .iload_n 3, 19, 0, []), (19, .sipush 144, 22, 0, []), (22, .if_icmp .ge 40, 25, 62, []), (25, .iload_n 2, 26, 0, []), (26, .aload_n 0, 27, 0, []), (27, .getfield 99, 30, 4, [37, 505, 0]), (30, .iload_n 3, 31, 0, []), (31, .iaload, 32, 0, []), (32, .invokestatic 156, 35, 89, [1, 0, 670, 671, 0, 42, 672]), (35, .iconst 1, 36, 0, []), (36, .if_icmp .le 17, 39, 53, []), (39, .aload_n 0, 40, 0, []), (40, .iload_n 3, 41, 0, []), (41, .iload_n 1, 42, 0, []), (42, .invokevirtual 152, 45, 87, [2, 4, 662, 664, 29, 42, 665]), (45, .iconst (-1), 46, 0, []), (46, .if_icmp .ne 7, 49, 53, []), (49, .iconst 1, 50, 0, []), (50, .goto 4, 53, 54, []), (53, .iconst 0, 54, 0, []), (54, .iadd, 55, 0, []), (55, .istore_n 2, 56, 0, []), (56, .iinc 3 1, 59, 0, []), (59, .goto (-41), 62, 18, []), (62, .iload_n 2, 63, 0, []), (63, .ireturn, 64, 0, [])]
-- 91 BoundWalksModel.years(I)I
def pw_o91 : List (Nat × pw_O) := [(0, .iload_n 1, 1, 0, []), (1, .iconst 1, 2, 0, []), (2, .bipush 50, 4, 0, []), (4, .invokestatic 108, 7, 69, [3, 0, 597, 598, 0, 42, 599]), (7, .ifCond .eq 15, 10, 22, []), (10, .aload_n 0, 11, 0, []), (11, .getfield 159, 14, 4, [11, 479, 0]), (14, .iload_n 1, 15, 0, []), (15, .iadd, 16, 0, []), (16, .sipush 300, 19, 0, []), (19, .if_icmp .le 6, 22, 25, []), (22, .bipush (-2), 24, 0, []), (24, .ireturn, 25, 0, []), (25, .aload_n 0, 26, 0, []), (26, .dup, 27, 0, []), (27, .getfield 159, 30, 4, [11, 479, 0]), (30, .iload_n 1, 31, 0, []), (31, .iadd, 32, 0, []), (32, .putfield 159, 35, 4, [11, 0, 479, 0]), (35, .aload_n 0, 36, 0, []), (36, .getfield 159, 39, 4, [11, 479, 0]), (39, .ireturn, 40, 0, [])]
-- 92 BoundWalksModel.isStone(I)Z
def pw_o92 : List (Nat × pw_O) := [(0, .iload_n 1, 1, 0, []), (1, .iconst 0, 2, 0, []), (2, .aload_n 0, 3, 0, []), (3, .getfield 162, 6, 4, [12, 480, 0]), (6, .iconst 1, 7, 0, []), (7, .isub, 8, 0, []), (8, .invokestatic 108, 11, 69, [3, 0, 597, 598, 0, 42, 599]), (11, .ireturn, 12, 0, [])]
-- 93 BoundWalksModel.stone(II)I
def pw_o93 : List (Nat × pw_O) := [(0, .iload_n 1, 1, 0, []), (1, .iload_n 2, 2, 0, []), (2, .invokestatic 115, 5, 70, [2, 0, 594, 595, 0, 42, 596]), (5, .ifCond .ne 6, 8, 11, []), (8, .bipush (-2), 10, 0, []), (10, .ireturn, 11, 0, []), (11, .aload_n 0, 12, 0, []), (12, .getfield 162, 15, 4, [12, 480, 0]), (15, .bipush 12, 17, 0, []), (17, .if_icmp .ne 6, 20, 23, []), (20, .bipush (-4), 22, 0, []), (22, .ireturn, 23, 0, []), (23, .aload_n 0, 24, 0, []), (24, .getfield 37, 27, 4, [13, 481, 0]), (27, .aload_n 0, 28, 0, []), (28, .getfield 162, 31, 4, [12, 480, 0]), (31, .aload_n 0, 32, 0, []), (32, .getfield 159, 35, 4, [11, 479, 0]), (35, .iastore, 36, 0, []), (36, .aload_n 0, 37, 0, []), (37, .getfield 40, 40, 4, [14, 482, 0]), (40, .aload_n 0, 41, 0, []), (41, .getfield 162, 44, 4, [12, 480, 0]), (44, .bipush 100, 46, 0, []), (46, .iload_n 1, 47, 0, []), (47, .imul, 48, 0, []), (48, .iload_n 2, 49, 0, []), (49, .iadd, 50, 0, []), (50, .iastore, 51, 0, []), (51, .aload_n 0, 52, 0, []), (52, .getfield 43, 55, 4, [15, 483, 0]), (55, .aload_n 0, 56, 0, []), (56, .getfield 162, 59, 4, [12, 480, 0]), (59, .aload_n 0, 60, 0, []), (60, .getfield 159, 63, 4, [11, 479, 0]), (63, .iastore, 64, 0, []), (64, .aload_n 0, 65, 0, []), (65, .dup, 66, 0, []), (66, .getfield 162, 69, 4, [12, 480, 0]), (69, .iconst 1, 70, 0, []), (70, .iadd, 71, 0, []), (71, .putfield 162, 74, 4, [12, 0, 480, 0]), (74, .aload_n 0, 75, 0, []), (75, .getfield 162, 78, 4, [12, 480, 0]), (78, .iconst 1, 79, 0, []), (79, .isub, 80, 0, []), (80, .ireturn, 81, 0, [])]
-- 94 BoundWalksModel.tell(III)I
def pw_o94 : List (Nat × pw_O) := [(0, .aload_n 0, 1, 0, []), (1, .getfield 165, 4, 4, [16, 484, 0]), (4, .bipush 60, 6, 0, []), (6, .if_icmp .ne 6, 9, 12, []), (9, .bipush (-4), 11, 0, []), (11, .ireturn, 12, 0, []), (12, .aload_n 0, 13, 0, []), (13, .getfield 46, 16, 4, [17, 485, 0]), (16, .aload_n 0, 17, 0, []), (17, .getfield 165, 20, 4, [16, 484, 0]), (20, .iload_n 1, 21, 0, []), (21, .iastore, 22, 0, []), (22, .aload_n 0, 23, 0, []), (23, .getfield 49, 26, 4, [18, 486, 0]), (26, .aload_n 0, 27, 0, []), (27, .getfield 165, 30, 4, [16, 484, 0]), (30, .iload_n 2, 31, 0, []), (31, .iastore, 32, 0, []), (32, .aload_n 0, 33, 0, []), (33, .getfield 52, 36, 4, [19, 487, 0]), (36, .aload_n 0, 37, 0, []), (37, .getfield 165, 40, 4, [16, 484, 0]), (40, .aload_n 0, 41, 0, []), (41, .getfield 159, 44, 4, [11, 479, 0]), (44, .iastore, 45, 0, []), (45, .aload_n 0, 46, 0, []), (46, .getfield 55, 49, 4, [20, 488, 0]), (49, .aload_n 0, 50, 0, []), (50, .getfield 165, 53, 4, [16, 484, 0]), (53, .iload_n 3, 54, 0, []), (54, .iastore, 55, 0, []), (55, .aload_n 0, 56, 0, []), (56, .dup, 57, 0, []), (57, .getfield 165, 60, 4, [16, 484, 0]), (60, .iconst 1, 61, 0, []), (61, .iadd, 62, 0, []), (62, .putfield 165, 65, 4, [16, 0, 484, 0]), (65, .iconst 1, 66, 0, []), (66, .ireturn, 67, 0, [])]
-- 95 BoundWalksModel.mayTell(II)Z
def pw_o95 : List (Nat × pw_O) := [(0, .aload_n 0, 1, 0, []), (1, .iload_n 1, 2, 0, []), (2, .invokevirtual 168, 5, 92, [1, 4, 689, 691, 31, 42, 692]), (5, .ifCond .eq 24, 8, 29, []), (8, .iload_n 2, 9, 0, []), (9, .aload_n 0, 10, 0, []), (10, .getfield 37, 13, 4, [13, 481, 0]), (13, .iload_n 1, 14, 0, []), (14, .iaload, 15, 0, []), (15, .aload_n 0, 16, 0, []), (16, .getfield 159, 19, 4, [11, 479, 0]), (19, .invokestatic 108, 22, 69, [3, 0, 597, 598, 0, 42, 599]), (22, .ifCond .eq 7, 25, 29, []), (25, .iconst 1, 26, 0, []), (26, .goto 4, 29, 30, []), (29, .iconst 0, 30, 0, []), (30, .ireturn, 31, 0, [])]
-- 96 BoundWalksModel.moved(IIII)I
def pw_o96 : List (Nat × pw_O) := [(0, .aload_n 0, 1, 0, []), (1, .iload_n 1, 2, 0, []), (2, .iload_n 2, 3, 0, []), (3, .invokevirtual 171, 6, 95, [2, 4, 685, 687, 30, 42, 688]), (6, .ifCond .eq 12, 9, 18, []), (9, .iload_n 3, 10, 0, []), (10, .iload 4, 12, 0, []), (12, .invokestatic 115, 15, 70, [2, 0, 594, 595, 0, 42, 596]), (15, .ifCond .ne 8, 18, 23, []), (18, .bipush (-2), 20, 0, []), (20, .goto 16, 23, 36, []), (23, .aload_n 0, 24, 0, []), (24, .iload_n 1, 25, 0, []), (25, .iload_n 2, 26, 0, []), (26, .bipush 100, 28, 0, []), (28, .iload_n 3, 29, 0, []), (29, .imul, 30, 0, []), (30, .iload 4, 32, 0, []), (32, .iadd, 33, 0, []), (33, .invokevirtual 174, 36, 94, [3, 4, 693, 695, 32, 42, 696]), (36, .ireturn, 37, 0, [])]
-- 97 BoundWalksModel.lost(II)I
def pw_o97 : List (Nat × pw_O) := [(0, .aload_n 0, 1, 0, []), (1, .iload_n 1, 2, 0, []), (2, .iload_n 2, 3, 0, []), (3, .invokevirtual 171, 6, 95, [2, 4, 685, 687, 30, 42, 688]), (6, .ifCond .eq 13, 9, 19, []), (9, .aload_n 0, 10, 0, []), (10, .iload_n 1, 11, 0, []), (11, .iload_n 2, 12, 0, []), (12, .iconst (-1), 13, 0, []), (13, .invokevirtual 174, 16, 94, [3, 4, 693, 695, 32, 42, 696]), (16, .goto 5, 19, 21, []), (19, .bipush (-2), 21, 0, []), (21, .ireturn, 22, 0, [])]
-- 98 BoundWalksModel.whereOf(III)I
def pw_o98_0 : List (Nat × pw_O) := [(0, .aload_n 0, 1, 0, []), (1, .getfield 37, 4, 4, [13, 481, 0]), (4, .iload_n 1, 5, 0, []), (5, .iaload, 6, 0, []), (6, .iload_n 2, 7, 0, []), (7, .if_icmp .gt 13, 10, 20, []), (10, .aload_n 0, 11, 0, []), (11, .getfield 37, 14, 4, [13, 481, 0]), (14, .iload_n 1, 15, 0, []), (15, .iaload, 16, 0, []), (16, .iload_n 3, 17, 0, []), (17, .if_icmp .le 5, 20, 22, []), (20, .iconst (-1), 21, 0, []), (21, .ireturn, 22, 0, []), (22, .iconst (-1), 23, 0, []), (23, .istore 4, 25, 0, []), (25, .iconst 0, 26, 0, []), (26, .istore 5, 28, 0, []), (28, .iload 5, 30, 0, []), (30, .aload_n 0, 31, 0, []), (31, .getfield 165, 34, 4, [16, 484, 0]), (34, .if_icmp .ge 74, 37, 108, []), (37, .aload_n 0, 38, 0, []), (38, .getfield 46, 41, 4, [17, 485, 0]), (41, .iload 5, 43, 0, []), (43, .iaload, 44, 0, []), (44, .iload_n 1, 45, 0, []), (45, .if_icmp .ne 57, 48, 102, []), (48, .aload_n 0, 49, 0, []), (49, .getfield 49, 52, 4, [18, 486, 0]), (52, .iload 5, 54, 0, []), (54, .iaload, 55, 0, []), (55, .iload_n 2, 56, 0, []), (56, .if_icmp .gt 46, 59, 102, []), (59, .aload_n 0, 60, 0, []), (60, .getfield 52, 63, 4, [19, 487, 0]), (63, .iload 5, 65, 0, []), (65, .iaload, 66, 0, []), (66, .iload_n 3, 67, 0, []), (67, .if_icmp .gt 35, 70, 102, []), (70, .iload 4, 72, 0, []), (72, .iconst (-1), 73, 0, []), (73, .if_icmp .eq 20, 76, 93, []), (76, .aload_n 0, 77, 0, []), (77, .getfield 49, 80, 4, [18, 486, 0]), (80, .iload 5, 82, 0, []), (82, .iaload, 83, 0, []), (83, .aload_n 0, 84, 0, [])]
def pw_o98_1 : List (Nat × pw_O) := [(84, .getfield 49, 87, 4, [18, 486, 0]), (87, .iload 4, 89, 0, []), (89, .iaload, 90, 0, []), (90, .if_icmp .lt 8, 93, 98, []), (93, .iload 5, 95, 0, []), (95, .goto 5, 98, 100, []), (98, .iload 4, 100, 0, []), (100, .istore 4, 102, 0, []), (102, .iinc 5 1, 105, 0, []), (105, .goto (-77), 108, 28, []), (108, .iload 4, 110, 0, []), (110, .iconst (-1), 111, 0, []), (111, .if_icmp .ne 12, 114, 123, []), (114, .aload_n 0, 115, 0, []), (115, .getfield 40, 118, 4, [14, 482, 0]), (118, .iload_n 1, 119, 0, []), (119, .iaload, 120, 0, []), (120, .goto 10, 123, 130, []), (123, .aload_n 0, 124, 0, []), (124, .getfield 55, 127, 4, [20, 488, 0]), (127, .iload 4, 129, 0, []), (129, .iaload, 130, 0, []), (130, .ireturn, 131, 0, [])]
def pw_o98 : List (Nat × pw_O) := pw_o98_0 ++ (pw_o98_1)
-- 99 BoundWalksModel.where(III)I
def pw_o99 : List (Nat × pw_O) := [(0, .aload_n 0, 1, 0, []), (1, .iload_n 1, 2, 0, []), (2, .invokevirtual 168, 5, 92, [1, 4, 689, 691, 31, 42, 692]), (5, .ifCond .eq 27, 8, 32, []), (8, .iload_n 2, 9, 0, []), (9, .invokestatic 146, 12, 72, [1, 0, 655, 656, 0, 42, 657]), (12, .ifCond .eq 20, 15, 32, []), (15, .iload_n 3, 16, 0, []), (16, .invokestatic 146, 19, 72, [1, 0, 655, 656, 0, 42, 657]), (19, .ifCond .eq 13, 22, 32, []), (22, .aload_n 0, 23, 0, []), (23, .iload_n 1, 24, 0, []), (24, .iload_n 2, 25, 0, []), (25, .iload_n 3, 26, 0, []), (26, .invokevirtual 177, 29, 98, [3, 4, 705, 707, 33, 42, 708]), (29, .goto 5, 32, 34, []), (32, .bipush (-2), 34, 0, []), (34, .ireturn, 35, 0, [])]
-- 100 BoundWalksModel.witness(I)I
def pw_o100 : List (Nat × pw_O) := [(0, .iload_n 1, 1, 0, []), (1, .invokestatic 146, 4, 72, [1, 0, 655, 656, 0, 42, 657]), (4, .ifCond .ne 6, 7, 10, []), (7, .bipush (-2), 9, 0, []), (9, .ireturn, 10, 0, []), (10, .aload_n 0, 11, 0, []), (11, .getfield 180, 14, 4, [21, 489, 0]), (14, .bipush 20, 16, 0, []), (16, .if_icmp .ne 6, 19, 22, []), (19, .bipush (-4), 21, 0, []), (21, .ireturn, 22, 0, []), (22, .aload_n 0, 23, 0, []), (23, .getfield 58, 26, 4, [22, 490, 0]), (26, .aload_n 0, 27, 0, []), (27, .getfield 180, 30, 4, [21, 489, 0]), (30, .iload_n 1, 31, 0, []), (31, .iastore, 32, 0, []), (32, .aload_n 0, 33, 0, []), (33, .dup, 34, 0, []), (34, .getfield 180, 37, 4, [21, 489, 0]), (37, .iconst 1, 38, 0, []), (38, .iadd, 39, 0, []), (39, .putfield 180, 42, 4, [21, 0, 489, 0]), (42, .aload_n 0, 43, 0, []), (43, .getfield 180, 46, 4, [21, 489, 0]), (46, .iconst 1, 47, 0, []), (47, .isub, 48, 0, []), (48, .ireturn, 49, 0, [])]
-- 101 BoundWalksModel.remember(II)I
def pw_o101 : List (Nat × pw_O) := [(0, .iload_n 1, 1, 0, []), (1, .invokestatic 146, 4, 72, [1, 0, 655, 656, 0, 42, 657]), (4, .ifCond .eq 10, 7, 14, []), (7, .iload_n 2, 8, 0, []), (8, .invokestatic 146, 11, 72, [1, 0, 655, 656, 0, 42, 657]), (11, .ifCond .ne 6, 14, 17, []), (14, .bipush (-2), 16, 0, []), (16, .ireturn, 17, 0, []), (17, .iconst 0, 18, 0, []), (18, .istore_n 3, 19, 0, []), (19, .iconst 0, 20, 0, []), (20, .istore 4, 22, 0, []), (22, .iload 4, 24, 0, []), (24, .aload_n 0, 25, 0, []), (25, .getfield 180, 28, 4, [21, 489, 0]), (28, .if_icmp .ge 50, 31, 78, []), (31, .iload_n 3, 32, 0, []), (32, .iload_n 1, 33, 0, []), (33, .aload_n 0, 34, 0, []), (34, .getfield 58, 37, 4, [22, 490, 0]), (37, .iload 4, 39, 0, []), (39, .iaload, 40, 0, []), (40, .bipush 7, 42, 0, []), (42, .iadd, 43, 0, []), (43, .if_icmp .lt 26, 46, 69, []), (46, .iload_n 2, 47, 0, []), (47, .iload_n 1, 48, 0, []), (48, .if_icmp .lt 21, 51, 69, []), (51, .iload_n 2, 52, 0, []), (52, .aload_n 0, 53, 0, []), (53, .getfield 58, 56, 4, [22, 490, 0]), (56, .iload 4, 58, 0, []), (58, .iaload, 59, 0, []), (59, .bipush 80, 61, 0, []), (61, .iadd, 62, 0, []), (62, .if_icmp .ge 7, 65, 69, []), (65, .iconst 1, 66, 0, []), (66, .goto 4, 69, 70, []), (69, .iconst 0, 70, 0, []), (70, .iadd, 71, 0, []), (71, .istore_n 3, 72, 0, []), (72, .iinc 4 1, 75, 0, []), (75, .goto (-53), 78, 22, []), (78, .iload_n 3, 79, 0, []), (79, .ireturn, 80, 0, [])]
-- 102 BoundWalksModel.house(IIIIIIII)I
def pw_o102_0 : List (Nat × pw_O) := [(0, .iload_n 3, 1, 0, []), (1, .iconst 1, 2, 0, []), (2, .iconst 4, 3, 0, []), (3, .invokestatic 108, 6, 69, [3, 0, 597, 598, 0, 42, 599]), (6, .ifCond .eq 96, 9, 102, []), (9, .iload 4, 11, 0, []), (11, .iconst 1, 12, 0, []), (12, .iconst 4, 13, 0, []), (13, .invokestatic 108, 16, 69, [3, 0, 597, 598, 0, 42, 599]), (16, .ifCond .eq 86, 19, 102, []), (19, .iload_n 1, 20, 0, []), (20, .iconst 0, 21, 0, []), (21, .bipush 12, 23, 0, []), (23, .iload_n 3, 24, 0, []), (24, .isub, 25, 0, []), (25, .invokestatic 108, 28, 69, [3, 0, 597, 598, 0, 42, 599]), (28, .ifCond .eq 74, 31, 102, []), (31, .iload_n 2, 32, 0, []), (32, .iconst 0, 33, 0, []), (33, .bipush 12, 35, 0, []), (35, .iload 4, 37, 0, []), (37, .isub, 38, 0, []), (38, .invokestatic 108, 41, 69, [3, 0, 597, 598, 0, 42, 599]), (41, .ifCond .eq 61, 44, 102, []), (44, .iload 5, 46, 0, []), (46, .iload_n 1, 47, 0, []), (47, .iload_n 1, 48, 0, []), (48, .iload_n 3, 49, 0, []), (49, .iadd, 50, 0, []), (50, .iconst 1, 51, 0, []), (51, .isub, 52, 0, []), (52, .invokestatic 108, 55, 69, [3, 0, 597, 598, 0, 42, 599]), (55, .ifCond .eq 47, 58, 102, []), (58, .iload 6, 60, 0, []), (60, .iload_n 2, 61, 0, []), (61, .iload_n 2, 62, 0, []), (62, .iload 4, 64, 0, []), (64, .iadd, 65, 0, []), (65, .iconst 1, 66, 0, []), (66, .isub, 67, 0, []), (67, .invokestatic 108, 70, 69, [3, 0, 597, 598, 0, 42, 599]), (70, .ifCond .eq 32, 73, 102, []), (73, .iload 7, 75, 0, []), (75, .iload_n 1, 76, 0, []), (76, .iload_n 1, 77, 0, []), (77, .iload_n 3, 78, 0, []), (78, .iadd, 79, 0, []), (79, .iconst 1, 80, 0, [])]
def pw_o102_1 : List (Nat × pw_O) := [(80, .isub, 81, 0, []), (81, .invokestatic 108, 84, 69, [3, 0, 597, 598, 0, 42, 599]), (84, .ifCond .eq 18, 87, 102, []), (87, .iload 8, 89, 0, []), (89, .iload_n 2, 90, 0, []), (90, .iload_n 2, 91, 0, []), (91, .iload 4, 93, 0, []), (93, .iadd, 94, 0, []), (94, .iconst 1, 95, 0, []), (95, .isub, 96, 0, []), (96, .invokestatic 108, 99, 69, [3, 0, 597, 598, 0, 42, 599]), (99, .ifCond .ne 6, 102, 105, []), (102, .bipush (-2), 104, 0, []), (104, .ireturn, 105, 0, []), (105, .aload_n 0, 106, 0, []), (106, .getfield 183, 109, 4, [23, 491, 0]), (109, .bipush 6, 111, 0, []), (111, .if_icmp .ne 6, 114, 117, []), (114, .bipush (-4), 116, 0, []), (116, .ireturn, 117, 0, []), (117, .aload_n 0, 118, 0, []), (118, .getfield 61, 121, 4, [24, 492, 0]), (121, .aload_n 0, 122, 0, []), (122, .getfield 183, 125, 4, [23, 491, 0]), (125, .iload_n 1, 126, 0, []), (126, .iastore, 127, 0, []), (127, .aload_n 0, 128, 0, []), (128, .getfield 64, 131, 4, [25, 493, 0]), (131, .aload_n 0, 132, 0, []), (132, .getfield 183, 135, 4, [23, 491, 0]), (135, .iload_n 2, 136, 0, []), (136, .iastore, 137, 0, []), (137, .aload_n 0, 138, 0, []), (138, .getfield 67, 141, 4, [26, 494, 0]), (141, .aload_n 0, 142, 0, []), (142, .getfield 183, 145, 4, [23, 491, 0]), (145, .iload_n 3, 146, 0, []), (146, .iastore, 147, 0, []), (147, .aload_n 0, 148, 0, []), (148, .getfield 70, 151, 4, [27, 495, 0]), (151, .aload_n 0, 152, 0, []), (152, .getfield 183, 155, 4, [23, 491, 0]), (155, .iload 4, 157, 0, []), (157, .iastore, 158, 0, []), (158, .aload_n 0, 159, 0, []), (159, .getfield 73, 162, 4, [28, 496, 0]), (162, .aload_n 0, 163, 0, []), (163, .getfield 183, 166, 4, [23, 491, 0])]
def pw_o102_2 : List (Nat × pw_O) := [(166, .bipush 12, 168, 0, []), (168, .iload 6, 170, 0, []), (170, .imul, 171, 0, []), (171, .iload 5, 173, 0, []), (173, .iadd, 174, 0, []), (174, .iastore, 175, 0, []), (175, .aload_n 0, 176, 0, []), (176, .getfield 76, 179, 4, [29, 497, 0]), (179, .aload_n 0, 180, 0, []), (180, .getfield 183, 183, 4, [23, 491, 0]), (183, .bipush 12, 185, 0, []), (185, .iload 8, 187, 0, []), (187, .imul, 188, 0, []), (188, .iload 7, 190, 0, []), (190, .iadd, 191, 0, []), (191, .iastore, 192, 0, []), (192, .aload_n 0, 193, 0, []), (193, .dup, 194, 0, []), (194, .getfield 183, 197, 4, [23, 491, 0]), (197, .iconst 1, 198, 0, []), (198, .iadd, 199, 0, []), (199, .putfield 183, 202, 4, [23, 0, 491, 0]), (202, .aload_n 0, 203, 0, []), (203, .getfield 183, 206, 4, [23, 491, 0]), (206, .iconst 1, 207, 0, []), (207, .isub, 208, 0, []), (208, .ireturn, 209, 0, [])]
def pw_o102 : List (Nat × pw_O) := pw_o102_0 ++ (pw_o102_1 ++ (pw_o102_2))
-- 103 BoundWalksModel.law(III)I
def pw_o103 : List (Nat × pw_O) := [(0, .iload_n 1, 1, 0, []), (1, .iconst 0, 2, 0, []), (2, .iconst 3, 3, 0, []), (3, .invokestatic 108, 6, 69, [3, 0, 597, 598, 0, 42, 599]), (6, .ifCond .eq 19, 9, 25, []), (9, .iload_n 2, 10, 0, []), (10, .invokestatic 146, 13, 72, [1, 0, 655, 656, 0, 42, 657]), (13, .ifCond .eq 12, 16, 25, []), (16, .iload_n 3, 17, 0, []), (17, .iconst 0, 18, 0, []), (18, .iconst 2, 19, 0, []), (19, .invokestatic 108, 22, 69, [3, 0, 597, 598, 0, 42, 599]), (22, .ifCond .ne 6, 25, 28, []), (25, .bipush (-2), 27, 0, []), (27, .ireturn, 28, 0, []), (28, .aload_n 0, 29, 0, []), (29, .getfield 186, 32, 4, [30, 498, 0]), (32, .bipush 10, 34, 0, []), (34, .if_icmp .ne 6, 37, 40, []), (37, .bipush (-4), 39, 0, []), (39, .ireturn, 40, 0, []), (40, .aload_n 0, 41, 0, []), (41, .getfield 79, 44, 4, [31, 499, 0]), (44, .aload_n 0, 45, 0, []), (45, .getfield 186, 48, 4, [30, 498, 0]), (48, .iload_n 1, 49, 0, []), (49, .iastore, 50, 0, []), (50, .aload_n 0, 51, 0, []), (51, .getfield 82, 54, 4, [32, 500, 0]), (54, .aload_n 0, 55, 0, []), (55, .getfield 186, 58, 4, [30, 498, 0]), (58, .iload_n 2, 59, 0, []), (59, .iastore, 60, 0, []), (60, .aload_n 0, 61, 0, []), (61, .getfield 85, 64, 4, [33, 501, 0]), (64, .aload_n 0, 65, 0, []), (65, .getfield 186, 68, 4, [30, 498, 0]), (68, .iload_n 3, 69, 0, []), (69, .iastore, 70, 0, []), (70, .aload_n 0, 71, 0, []), (71, .dup, 72, 0, []), (72, .getfield 186, 75, 4, [30, 498, 0]), (75, .iconst 1, 76, 0, []), (76, .iadd, 77, 0, []), (77, .putfield 186, 80, 4, [30, 0, 498, 0]), (80, .aload_n 0, 81, 0, []), (81, .getfield 186, 84, 4, [30, 498, 0]), (84, .iconst 1, 85, 0, []), (85, .isub, 86, 0, []), (86, .ireturn, 87, 0, [])]
-- 104 BoundWalksModel.byOf(II)I
def pw_o104 : List (Nat × pw_O) := [(0, .iconst (-1), 1, 0, []), (1, .istore_n 3, 2, 0, []), (2, .iconst 0, 3, 0, []), (3, .istore 4, 5, 0, []), (5, .iload 4, 7, 0, []), (7, .aload_n 0, 8, 0, []), (8, .getfield 186, 11, 4, [30, 498, 0]), (11, .if_icmp .ge 59, 14, 70, []), (14, .aload_n 0, 15, 0, []), (15, .getfield 79, 18, 4, [31, 499, 0]), (18, .iload 4, 20, 0, []), (20, .iaload, 21, 0, []), (21, .iload_n 1, 22, 0, []), (22, .if_icmp .ne 42, 25, 64, []), (25, .aload_n 0, 26, 0, []), (26, .getfield 82, 29, 4, [32, 500, 0]), (29, .iload 4, 31, 0, []), (31, .iaload, 32, 0, []), (32, .iload_n 2, 33, 0, []), (33, .if_icmp .gt 31, 36, 64, []), (36, .iload_n 3, 37, 0, []), (37, .iconst (-1), 38, 0, []), (38, .if_icmp .eq 19, 41, 57, []), (41, .aload_n 0, 42, 0, []), (42, .getfield 82, 45, 4, [32, 500, 0]), (45, .iload 4, 47, 0, []), (47, .iaload, 48, 0, []), (48, .aload_n 0, 49, 0, []), (49, .getfield 82, 52, 4, [32, 500, 0]), (52, .iload_n 3, 53, 0, []), (53, .iaload, 54, 0, []), (54, .if_icmp .lt 8, 57, 62, []), (57, .iload 4, 59, 0, []), (59, .goto 4, 62, 63, []), (62, .iload_n 3, 63, 0, []), (63, .istore_n 3, 64, 0, []), (64, .iinc 4 1, 67, 0, []), (67, .goto (-62), 70, 5, []), (70, .iload_n 3, 71, 0, []), (71, .iconst (-1), 72, 0, []), (72, .if_icmp .ne 7, 75, 79, []), (75, .iconst 0, 76, 0, []), (76, .goto 9, 79, 85, []), (79, .aload_n 0, 80, 0, []), (80, .getfield 85, 83, 4, [33, 501, 0]), (83, .iload_n 3, 84, 0, []), (84, .iaload, 85, 0, []), (85, .ireturn, 86, 0, [])]
-- 105 BoundWalksModel.greaterPart(II)I
def pw_o105_0 : List (Nat × pw_O) := [(0, .iconst 0, 1, 0, []), (1, .istore_n 3, 2, 0, []), (2, .iload_n 3, 3, 0, []), (3, .iconst 4, 4, 0, []), (4, .if_icmp .ge 16, 7, 20, []), (7, .aload_n 0, 8, 0, []), (8, .getfield 102, 11, 4, [38, 506, 0]), (11, .iload_n 3, 12, 0, []), (12, .iconst 0, 13, 0, []), (13, .iastore, 14, 0, []), (14, .iinc 3 1, 17, 0, []), (17, .goto (-15), 20, 2, []), (20, .aload_n 0, 21, 0, []), (21, .getfield 64, 24, 4, [25, 493, 0]), (24, .iload_n 1, 25, 0, []), (25, .iaload, 26, 0, []), (26, .istore_n 3, 27, 0, []), (27, .iload_n 3, 28, 0, []), (28, .aload_n 0, 29, 0, []), (29, .getfield 64, 32, 4, [25, 493, 0]), (32, .iload_n 1, 33, 0, []), (33, .iaload, 34, 0, []), (34, .aload_n 0, 35, 0, []), (35, .getfield 70, 38, 4, [27, 495, 0]), (38, .iload_n 1, 39, 0, []), (39, .iaload, 40, 0, []), (40, .iadd, 41, 0, []), (41, .if_icmp .ge 72, 44, 113, []), (44, .aload_n 0, 45, 0, []), (45, .getfield 61, 48, 4, [24, 492, 0]), (48, .iload_n 1, 49, 0, []), (49, .iaload, 50, 0, []), (50, .istore 4, 52, 0, []), (52, .iload 4, 54, 0, []), (54, .aload_n 0, 55, 0, []), (55, .getfield 61, 58, 4, [24, 492, 0]), (58, .iload_n 1, 59, 0, []), (59, .iaload, 60, 0, []), (60, .aload_n 0, 61, 0, []), (61, .getfield 67, 64, 4, [26, 494, 0]), (64, .iload_n 1, 65, 0, []), (65, .iaload, 66, 0, []), (66, .iadd, 67, 0, []), (67, .if_icmp .ge 40, 70, 107, []), (70, .aload_n 0, 71, 0, []), (71, .bipush 12, 73, 0, []), (73, .iload_n 3, 74, 0, []), (74, .imul, 75, 0, [])]
def pw_o105_1 : List (Nat × pw_O) := [(75, .iload 4, 77, 0, []), (77, .iadd, 78, 0, []), (78, .iload_n 2, 79, 0, []), (79, .invokevirtual 152, 82, 87, [2, 4, 662, 664, 29, 42, 665]), (82, .istore 5, 84, 0, []), (84, .iload 5, 86, 0, []), (86, .iconst (-1), 87, 0, []), (87, .if_icmp .eq 14, 90, 101, []), (90, .aload_n 0, 91, 0, []), (91, .getfield 102, 94, 4, [38, 506, 0]), (94, .iload 5, 96, 0, []), (96, .dup2, 97, 0, []), (97, .iaload, 98, 0, []), (98, .iconst 1, 99, 0, []), (99, .iadd, 100, 0, []), (100, .iastore, 101, 0, []), (101, .iinc 4 1, 104, 0, []), (104, .goto (-52), 107, 52, []), (107, .iinc 3 1, 110, 0, []), (110, .goto (-83), 113, 27, []), (113, .iconst 0, 114, 0, []), (114, .istore_n 3, 115, 0, []), (115, .aload_n 0, 116, 0, []), (116, .getfield 102, 119, 4, [38, 506, 0]), (119, .iconst 0, 120, 0, []), (120, .iaload, 121, 0, []), (121, .ifCond .le 7, 124, 128, []), (124, .iconst 1, 125, 0, []), (125, .goto 4, 128, 129, []), (128, .iconst 0, 129, 0, []), (129, .istore 4, 131, 0, []), (131, .iconst 1, 132, 0, []), (132, .istore 5, 134, 0, []), (134, .iload 5, 136, 0, []), (136, .iconst 4, 137, 0, []), (137, .if_icmp .ge 76, 140, 213, []), (140, .aload_n 0, 141, 0, []), (141, .getfield 102, 144, 4, [38, 506, 0]), (144, .iload 5, 146, 0, []), (146, .iaload, 147, 0, []), (147, .aload_n 0, 148, 0, []), (148, .getfield 102, 151, 4, [38, 506, 0]), (151, .iload_n 3, 152, 0, []), (152, .iaload, 153, 0, []), (153, .if_icmp .gt 24, 156, 177, []), (156, .aload_n 0, 157, 0, []), (157, .getfield 102, 160, 4, [38, 506, 0]), (160, .iload 5, 162, 0, [])]
def pw_o105_2 : List (Nat × pw_O) := [(162, .iaload, 163, 0, []), (163, .aload_n 0, 164, 0, []), (164, .getfield 102, 167, 4, [38, 506, 0]), (167, .iload_n 3, 168, 0, []), (168, .iaload, 169, 0, []), (169, .if_icmp .ge 12, 172, 181, []), (172, .iload 4, 174, 0, []), (174, .ifCond .eq 7, 177, 181, []), (177, .iconst 1, 178, 0, []), (178, .goto 4, 181, 182, []), (181, .iconst 0, 182, 0, []), (182, .istore 4, 184, 0, []), (184, .aload_n 0, 185, 0, []), (185, .getfield 102, 188, 4, [38, 506, 0]), (188, .iload 5, 190, 0, []), (190, .iaload, 191, 0, []), (191, .aload_n 0, 192, 0, []), (192, .getfield 102, 195, 4, [38, 506, 0]), (195, .iload_n 3, 196, 0, []), (196, .iaload, 197, 0, []), (197, .if_icmp .le 8, 200, 205, []), (200, .iload 5, 202, 0, []), (202, .goto 4, 205, 206, []), (205, .iload_n 3, 206, 0, []), (206, .istore_n 3, 207, 0, []), (207, .iinc 5 1, 210, 0, []), (210, .goto (-76), 213, 134, []), (213, .iload 4, 215, 0, []), (215, .ifCond .eq 7, 218, 222, []), (218, .iload_n 3, 219, 0, []), (219, .goto 4, 222, 223, []), (222, .iconst (-1), 223, 0, []), (223, .ireturn, 224, 0, [])]
def pw_o105 : List (Nat × pw_O) := pw_o105_0 ++ (pw_o105_1 ++ (pw_o105_2))
-- 106 BoundWalksModel.whose(III)I
def pw_o106 : List (Nat × pw_O) := [(0, .iload_n 1, 1, 0, []), (1, .iconst 0, 2, 0, []), (2, .aload_n 0, 3, 0, []), (3, .getfield 183, 6, 4, [23, 491, 0]), (6, .iconst 1, 7, 0, []), (7, .isub, 8, 0, []), (8, .invokestatic 108, 11, 69, [3, 0, 597, 598, 0, 42, 599]), (11, .ifCond .eq 19, 14, 30, []), (14, .iload_n 2, 15, 0, []), (15, .iconst 0, 16, 0, []), (16, .iconst 3, 17, 0, []), (17, .invokestatic 108, 20, 69, [3, 0, 597, 598, 0, 42, 599]), (20, .ifCond .eq 10, 23, 30, []), (23, .iload_n 3, 24, 0, []), (24, .invokestatic 146, 27, 72, [1, 0, 655, 656, 0, 42, 657]), (27, .ifCond .ne 6, 30, 33, []), (30, .bipush (-2), 32, 0, []), (32, .ireturn, 33, 0, []), (33, .aload_n 0, 34, 0, []), (34, .invokevirtual 143, 37, 84, [0, 4, 647, 649, 28, 42, 650]), (37, .aload_n 0, 38, 0, []), (38, .iload_n 2, 39, 0, []), (39, .iload_n 3, 40, 0, []), (40, .invokevirtual 189, 43, 104, [2, 4, 729, 731, 34, 42, 732]), (43, .istore 4, 45, 0, []), (45, .iload 4, 47, 0, []), (47, .iconst 2, 48, 0, []), (48, .if_icmp .ne 12, 51, 60, []), (51, .aload_n 0, 52, 0, []), (52, .iload_n 1, 53, 0, []), (53, .iload_n 3, 54, 0, []), (54, .invokevirtual 192, 57, 105, [2, 4, 733, 735, 35, 42, 736]), (57, .goto 4, 60, 61, []), (60, .iconst (-1), 61, 0, []), (61, .istore 5, 63, 0, []), (63, .iload 5, 65, 0, []), (65, .iconst (-1), 66, 0, []), (66, .if_icmp .eq 8, 69, 74, []), (69, .iload 5, 71, 0, []), (71, .goto 29, 74, 100, []), (74, .aload_n 0, 75, 0, []), (75, .iload 4, 77, 0, []), (77, .iconst 1, 78, 0, []), (78, .if_icmp .ne 12, 81, 90, []), (81, .aload_n 0, 82, 0, []), (82, .getfield 76, 85, 4, [29, 497, 0]), (85, .iload_n 1, 86, 0, []), (86, .iaload, 87, 0, []), (87, .goto 9, 90, 96, []), (90, .aload_n 0, 91, 0, []), (91, .getfield 73, 94, 4, [28, 496, 0]), (94, .iload_n 1, 95, 0, []), (95, .iaload, 96, 0, []), (96, .iload_n 3, 97, 0, []), (97, .invokevirtual 152, 100, 87, [2, 4, 662, 664, 29, 42, 665]), (100, .ireturn, 101, 0, [])]
-- 107 BoundWalksModel.isLost(I)Z
def pw_o107 : List (Nat × pw_O) := [(0, .aload_n 0, 1, 0, []), (1, .iload_n 1, 2, 0, []), (2, .aload_n 0, 3, 0, []), (3, .getfield 159, 6, 4, [11, 479, 0]), (6, .aload_n 0, 7, 0, []), (7, .getfield 159, 10, 4, [11, 479, 0]), (10, .invokevirtual 177, 13, 98, [3, 4, 705, 707, 33, 42, 708]), (13, .iconst (-1), 14, 0, []), (14, .if_icmp .ne 7, 17, 21, []), (17, .iconst 1, 18, 0, []), (18, .goto 4, 21, 22, []), (21, .iconst 0, 22, 0, []), (22, .ireturn, 23, 0, [])]
-- 108 BoundWalksModel.see(I)I
def pw_o108 : List (Nat × pw_O) := [(0, .aload_n 0, 1, 0, []), (1, .iload_n 1, 2, 0, []), (2, .invokevirtual 168, 5, 92, [1, 4, 689, 691, 31, 42, 692]), (5, .ifCond .ne 6, 8, 11, []), (8, .bipush (-2), 10, 0, []), (10, .ireturn, 11, 0, []), (11, .aload_n 0, 12, 0, []), (12, .iload_n 1, 13, 0, []), (13, .invokevirtual 195, 16, 107, [1, 4, 741, 743, 36, 42, 744]), (16, .ifCond .eq 6, 19, 22, []), (19, .bipush (-3), 21, 0, []), (21, .ireturn, 22, 0, []), (22, .aload_n 0, 23, 0, []), (23, .getfield 159, 26, 4, [11, 479, 0]), (26, .aload_n 0, 27, 0, []), (27, .getfield 43, 30, 4, [15, 483, 0]), (30, .iload_n 1, 31, 0, []), (31, .iaload, 32, 0, []), (32, .isub, 33, 0, []), (33, .istore_n 2, 34, 0, []), (34, .aload_n 0, 35, 0, []), (35, .getfield 43, 38, 4, [15, 483, 0]), (38, .iload_n 1, 39, 0, []), (39, .aload_n 0, 40, 0, []), (40, .getfield 159, 43, 4, [11, 479, 0]), (43, .iastore, 44, 0, []), (44, .iload_n 2, 45, 0, []), (45, .ireturn, 46, 0, [])]
-- 109 BoundWalksModel.gap(I)I
def pw_o109 : List (Nat × pw_O) := [(0, .iload_n 1, 1, 0, []), (1, .iconst 1, 2, 0, []), (2, .bipush 20, 4, 0, []), (4, .invokestatic 108, 7, 69, [3, 0, 597, 598, 0, 42, 599]), (7, .ifCond .ne 6, 10, 13, []), (10, .bipush (-2), 12, 0, []), (12, .ireturn, 13, 0, []), (13, .aload_n 0, 14, 0, []), (14, .getfield 88, 17, 4, [34, 502, 0]), (17, .istore_n 2, 18, 0, []), (18, .aload_n 0, 19, 0, []), (19, .iload_n 1, 20, 0, []), (20, .putfield 88, 23, 4, [34, 0, 502, 0]), (23, .iload_n 2, 24, 0, []), (24, .ireturn, 25, 0, [])]
-- 110 BoundWalksModel.due()I
def pw_o110 : List (Nat × pw_O) := [(0, .iconst 0, 1, 0, []), (1, .istore_n 1, 2, 0, []), (2, .iconst 0, 3, 0, []), (3, .istore_n 2, 4, 0, []), (4, .iload_n 2, 5, 0, []), (5, .aload_n 0, 6, 0, []), (6, .getfield 162, 9, 4, [12, 480, 0]), (9, .if_icmp .ge 45, 12, 54, []), (12, .iload_n 1, 13, 0, []), (13, .aload_n 0, 14, 0, []), (14, .iload_n 2, 15, 0, []), (15, .invokevirtual 195, 18, 107, [1, 4, 741, 743, 36, 42, 744]), (18, .ifCond .ne 27, 21, 45, []), (21, .aload_n 0, 22, 0, []), (22, .getfield 159, 25, 4, [11, 479, 0]), (25, .aload_n 0, 26, 0, []), (26, .getfield 43, 29, 4, [15, 483, 0]), (29, .iload_n 2, 30, 0, []), (30, .iaload, 31, 0, []), (31, .isub, 32, 0, []), (32, .aload_n 0, 33, 0, []), (33, .getfield 88, 36, 4, [34, 502, 0]), (36, .if_icmp .lt 9, 39, 45, []), (39, .iconst 1, 40, 0, []), (40, .iload_n 2, 41, 0, []), (41, .ishl, 42, 0, []), (42, .goto 4, 45, 46, []), (45, .iconst 0, 46, 0, []), (46, .ior, 47, 0, []), (47, .istore_n 1, 48, 0, []), (48, .iinc 2 1, 51, 0, []), (51, .goto (-47), 54, 4, []), (54, .iload_n 1, 55, 0, []), (55, .ireturn, 56, 0, [])]
-- 111 BoundWalksModel.longestAgo(I)I
def pw_o111 : List (Nat × pw_O) := [(0, .iconst (-1), 1, 0, []), (1, .istore_n 2, 2, 0, []), (2, .iconst 0, 3, 0, []), (3, .istore_n 3, 4, 0, []), (4, .iload_n 3, 5, 0, []), (5, .aload_n 0, 6, 0, []), (6, .getfield 162, 9, 4, [12, 480, 0]), (9, .if_icmp .ge 53, 12, 62, []), (12, .aload_n 0, 13, 0, []), (13, .iload_n 3, 14, 0, []), (14, .invokevirtual 195, 17, 107, [1, 4, 741, 743, 36, 42, 744]), (17, .ifCond .ne 37, 20, 54, []), (20, .aload_n 0, 21, 0, []), (21, .getfield 105, 24, 4, [39, 507, 0]), (24, .iload_n 3, 25, 0, []), (25, .iaload, 26, 0, []), (26, .iload_n 1, 27, 0, []), (27, .if_icmp .ge 27, 30, 54, []), (30, .iload_n 2, 31, 0, []), (31, .iconst (-1), 32, 0, []), (32, .if_icmp .eq 18, 35, 50, []), (35, .aload_n 0, 36, 0, []), (36, .getfield 105, 39, 4, [39, 507, 0]), (39, .iload_n 3, 40, 0, []), (40, .iaload, 41, 0, []), (41, .aload_n 0, 42, 0, []), (42, .getfield 105, 45, 4, [39, 507, 0]), (45, .iload_n 2, 46, 0, []), (46, .iaload, 47, 0, []), (47, .if_icmp .ge 7, 50, 54, []), (50, .iload_n 3, 51, 0, []), (51, .goto 4, 54, 55, []), (54, .iload_n 2, 55, 0, []), (55, .istore_n 2, 56, 0, []), (56, .iinc 3 1, 59, 0, []), (59, .goto (-55), 62, 4, []), (62, .iload_n 2, 63, 0, []), (63, .ireturn, 64, 0, [])]
-- 112 BoundWalksModel.round(II)I
def pw_o112_0 : List (Nat × pw_O) := [(0, .iload_n 1, 1, 0, []), (1, .iconst 1, 2, 0, []), (2, .bipush 30, 4, 0, []), (4, .invokestatic 108, 7, 69, [3, 0, 597, 598, 0, 42, 599]), (7, .ifCond .eq 13, 10, 20, []), (10, .iload_n 2, 11, 0, []), (11, .iconst 1, 12, 0, []), (12, .bipush 12, 14, 0, []), (14, .invokestatic 108, 17, 69, [3, 0, 597, 598, 0, 42, 599]), (17, .ifCond .ne 6, 20, 23, []), (20, .bipush (-2), 22, 0, []), (22, .ireturn, 23, 0, []), (23, .iconst 0, 24, 0, []), (24, .istore_n 3, 25, 0, []), (25, .iload_n 3, 26, 0, []), (26, .aload_n 0, 27, 0, []), (27, .getfield 162, 30, 4, [12, 480, 0]), (30, .if_icmp .ge 21, 33, 51, []), (33, .aload_n 0, 34, 0, []), (34, .getfield 105, 37, 4, [39, 507, 0]), (37, .iload_n 3, 38, 0, []), (38, .aload_n 0, 39, 0, []), (39, .getfield 43, 42, 4, [15, 483, 0]), (42, .iload_n 3, 43, 0, []), (43, .iaload, 44, 0, []), (44, .iastore, 45, 0, []), (45, .iinc 3 1, 48, 0, []), (48, .goto (-23), 51, 25, []), (51, .aload_n 0, 52, 0, []), (52, .getfield 159, 55, 4, [11, 479, 0]), (55, .istore_n 3, 56, 0, []), (56, .iload_n 3, 57, 0, []), (57, .aload_n 0, 58, 0, []), (58, .getfield 159, 61, 4, [11, 479, 0]), (61, .iload_n 1, 62, 0, []), (62, .iadd, 63, 0, []), (63, .if_icmp .ge 90, 66, 153, []), (66, .iconst 0, 67, 0, []), (67, .istore 4, 69, 0, []), (69, .iload 4, 71, 0, []), (71, .iload_n 2, 72, 0, []), (72, .if_icmp .ge 30, 75, 102, []), (75, .aload_n 0, 76, 0, []), (76, .iload_n 3, 77, 0, []), (77, .invokevirtual 198, 80, 111, [1, 4, 757, 759, 37, 42, 760]), (80, .istore 5, 82, 0, []), (82, .iload 5, 84, 0, []), (84, .iconst (-1), 85, 0, [])]
def pw_o112_1 : List (Nat × pw_O) := [(85, .if_icmp .eq 11, 88, 96, []), (88, .aload_n 0, 89, 0, []), (89, .getfield 105, 92, 4, [39, 507, 0]), (92, .iload 5, 94, 0, []), (94, .iload_n 3, 95, 0, []), (95, .iastore, 96, 0, []), (96, .iinc 4 1, 99, 0, []), (99, .goto (-30), 102, 69, []), (102, .iconst 0, 103, 0, []), (103, .istore 4, 105, 0, []), (105, .iload 4, 107, 0, []), (107, .aload_n 0, 108, 0, []), (108, .getfield 162, 111, 4, [12, 480, 0]), (111, .if_icmp .ge 36, 114, 147, []), (114, .aload_n 0, 115, 0, []), (115, .iload 4, 117, 0, []), (117, .invokevirtual 195, 120, 107, [1, 4, 741, 743, 36, 42, 744]), (120, .ifCond .ne 21, 123, 141, []), (123, .iload_n 3, 124, 0, []), (124, .aload_n 0, 125, 0, []), (125, .getfield 105, 128, 4, [39, 507, 0]), (128, .iload 4, 130, 0, []), (130, .iaload, 131, 0, []), (131, .isub, 132, 0, []), (132, .aload_n 0, 133, 0, []), (133, .getfield 88, 136, 4, [34, 502, 0]), (136, .if_icmp .lt 5, 139, 141, []), (139, .iload_n 3, 140, 0, []), (140, .ireturn, 141, 0, []), (141, .iinc 4 1, 144, 0, []), (144, .goto (-39), 147, 105, []), (147, .iinc 3 1, 150, 0, []), (150, .goto (-94), 153, 56, []), (153, .iconst (-1), 154, 0, []), (154, .ireturn, 155, 0, [])]
def pw_o112 : List (Nat × pw_O) := pw_o112_0 ++ (pw_o112_1)
-- 113 BoundWalksModel.count(I)I
def pw_o113 : List (Nat × pw_O) := [(0, .iload_n 1, 1, 0, []), (1, .tableswitch 87 0 7 #[47, 52, 57, 62, 67, 72, 77, 82], 48, 88, [48, 53, 58, 63, 68, 73, 78, 83]), (48, .aload_n 0, 49, 0, []), (49, .getfield 112, 52, 4, [0, 468, 0]), (52, .ireturn, 53, 0, []), (53, .aload_n 0, 54, 0, []), (54, .getfield 159, 57, 4, [11, 479, 0]), (57, .ireturn, 58, 0, []), (58, .aload_n 0, 59, 0, []), (59, .getfield 162, 62, 4, [12, 480, 0]), (62, .ireturn, 63, 0, []), (63, .aload_n 0, 64, 0, []), (64, .getfield 165, 67, 4, [16, 484, 0]), (67, .ireturn, 68, 0, []), (68, .aload_n 0, 69, 0, []), (69, .getfield 180, 72, 4, [21, 489, 0]), (72, .ireturn, 73, 0, []), (73, .aload_n 0, 74, 0, []), (74, .getfield 183, 77, 4, [23, 491, 0]), (77, .ireturn, 78, 0, []), (78, .aload_n 0, 79, 0, []), (79, .getfield 149, 82, 4, [7, 475, 0]), (82, .ireturn, 83, 0, []), (83, .aload_n 0, 84, 0, []), (84, .getfield 186, 87, 4, [30, 498, 0]), (87, .ireturn, 88, 0, []), (88, .bipush (-2), 90, 0, []), (90, .ireturn, 91, 0, [])]
-- 114 java/lang/Integer.bitCount(I)I
def pw_o114 : List (Nat × pw_O) := [(0, .iload_n 0, 1, 0, []), (1, .iload_n 0, 2, 0, []), (2, .iconst 1, 3, 0, []), (3, .iushr, 4, 0, []), (4, .ldc_w 265, 7, 1431655765, [267]), (7, .iand, 8, 0, []), (8, .isub, 9, 0, []), (9, .istore_n 0, 10, 0, []), (10, .iload_n 0, 11, 0, []), (11, .ldc_w 266, 14, 858993459, [268]), (14, .iand, 15, 0, []), (15, .iload_n 0, 16, 0, []), (16, .iconst 2, 17, 0, []), (17, .iushr, 18, 0, []), (18, .ldc_w 266, 21, 858993459, [268]), (21, .iand, 22, 0, []), (22, .iadd, 23, 0, []), (23, .istore_n 0, 24, 0, []), (24, .iload_n 0, 25, 0, []), (25, .iload_n 0, 26, 0, []), (26, .iconst 4, 27, 0, []), (27, .iushr, 28, 0, []), (28, .iadd, 29, 0, []), (29, .ldc_w 267, 32, 252645135, [269]), (32, .iand, 33, 0, []), (33, .istore_n 0, 34, 0, []), (34, .iload_n 0, 35, 0, []), (35, .iload_n 0, 36, 0, []), (36, .bipush 8, 38, 0, []), (38, .iushr, 39, 0, []), (39, .iadd, 40, 0, []), (40, .istore_n 0, 41, 0, []), (41, .iload_n 0, 42, 0, []), (42, .iload_n 0, 43, 0, []), (43, .bipush 16, 45, 0, []), (45, .iushr, 46, 0, []), (46, .iadd, 47, 0, []), (47, .istore_n 0, 48, 0, []), (48, .iload_n 0, 49, 0, []), (49, .bipush 63, 51, 0, []), (51, .iand, 52, 0, []), (52, .ireturn, 53, 0, [])]
abbrev pw_I : Type := MethodName × ByteArray × Nat × Option FieldType
def pw_ms : List (pw_I × List (Nat × pw_O)) := [
  ((⟨"BoundWalksLaw", "law", "([I)Z"⟩, code, 4, some .boolean), pw_o0),
  ((⟨"BoundWalks$House", "<init>", "(IIIIII)V"⟩, prog_2_method_1_code, 7, none), pw_o1),
  ((⟨"BoundWalks$Ledger", "<init>", "(I)V"⟩, prog_3_method_1_code, 3, none), pw_o2),
  ((⟨"BoundWalks$Ledger", "size", "()I"⟩, prog_3_method_2_code, 1, some .int), pw_o3),
  ((⟨"BoundWalks$Ledger", "isFull", "()Z"⟩, prog_3_method_3_code, 1, some .boolean), pw_o4),
  ((⟨"BoundWalks$Ledger", "write", "(IIII)I"⟩, prog_3_method_4_code, 5, some .int), pw_o5),
  ((⟨"BoundWalks$Ledger", "latest", "(IIII)I"⟩, prog_3_method_5_code, 9, some .int), pw_o6),
  ((⟨"BoundWalks$Walk", "<init>", "(II)V"⟩, prog_4_method_1_code, 3, none), pw_o7),
  ((⟨"BoundWalks$Walk", "legCount", "()I"⟩, prog_4_method_2_code, 1, some .int), pw_o8),
  ((⟨"BoundWalks$Walk", "addLeg", "(III)V"⟩, prog_4_method_3_code, 4, none), pw_o9),
  ((⟨"BoundWalks$Walk", "dropLeg", "()V"⟩, prog_4_method_4_code, 1, none), pw_o10),
  ((⟨"BoundWalks$Walk", "lengthOf", "(I)I"⟩, prog_4_method_5_code, 2, some .int), pw_o11),
  ((⟨"BoundWalks$Walk", "surrounds", "(II)Z"⟩, prog_4_method_6_code, 3, some .boolean), pw_o12),
  ((⟨"BoundWalks$Walk", "fieldsInside", "()I"⟩, prog_4_method_7_code, 3, some .int), pw_o13),
  ((⟨"BoundWalks$Walk", "settle", "()V"⟩, prog_4_method_8_code, 2, none), pw_o14),
  ((⟨"BoundWalks$Walk", "chooseLengths", "()Z"⟩, prog_4_method_9_code, 5, some .boolean), pw_o15),
  ((⟨"BoundWalks$Walk", "leastLength", "(II)I"⟩, prog_4_method_10_code, 6, some .int), pw_o16),
  ((⟨"BoundWalks$Walk", "staysOnLand", "()Z"⟩, prog_4_method_11_code, 4, some .boolean), pw_o17),
  ((⟨"BoundWalks$Walk", "markInside", "()V"⟩, prog_4_method_12_code, 7, none), pw_o18),
  ((⟨"BoundWalks$Walk", "isAlongX", "(I)Z"⟩, prog_4_method_13_code, 2, some .boolean), pw_o19),
  ((⟨"BoundWalks$Walk", "sign", "(I)I"⟩, prog_4_method_14_code, 2, some .int), pw_o20),
  ((⟨"BoundWalks$Walk", "stepX", "(I)I"⟩, prog_4_method_15_code, 2, some .int), pw_o21),
  ((⟨"BoundWalks$Walk", "stepY", "(I)I"⟩, prog_4_method_16_code, 2, some .int), pw_o22),
  ((⟨"BoundWalks", "<init>", "()V"⟩, prog_1_method_1_code, 1, none), pw_o23),
  ((⟨"BoundWalks", "parish", "(II)I"⟩, prog_1_method_2_code, 3, some .int), pw_o24),
  ((⟨"BoundWalks", "leg", "(IIII)I"⟩, prog_1_method_3_code, 6, some .int), pw_o25),
  ((⟨"BoundWalks", "unleg", "(I)I"⟩, prog_1_method_4_code, 3, some .int), pw_o26),
  ((⟨"BoundWalks", "length", "(II)I"⟩, prog_1_method_5_code, 4, some .int), pw_o27),
  ((⟨"BoundWalks", "area", "(I)I"⟩, prog_1_method_6_code, 3, some .int), pw_o28),
  ((⟨"BoundWalks", "claims", "(II)I"⟩, prog_1_method_7_code, 3, some .int), pw_o29),
  ((⟨"BoundWalks", "agree", "(IIIIII)I"⟩, prog_1_method_8_code, 7, some .int), pw_o30),
  ((⟨"BoundWalks", "owner", "(III)I"⟩, prog_1_method_9_code, 4, some .int), pw_o31),
  ((⟨"BoundWalks", "quarrel", "(I)I"⟩, prog_1_method_10_code, 4, some .int), pw_o32),
  ((⟨"BoundWalks", "years", "(I)I"⟩, prog_1_method_11_code, 2, some .int), pw_o33),
  ((⟨"BoundWalks", "stone", "(II)I"⟩, prog_1_method_12_code, 3, some .int), pw_o34),
  ((⟨"BoundWalks", "moved", "(IIII)I"⟩, prog_1_method_13_code, 5, some .int), pw_o35),
  ((⟨"BoundWalks", "lost", "(II)I"⟩, prog_1_method_14_code, 3, some .int), pw_o36),
  ((⟨"BoundWalks", "where", "(III)I"⟩, prog_1_method_15_code, 4, some .int), pw_o37),
  ((⟨"BoundWalks", "witness", "(I)I"⟩, prog_1_method_16_code, 2, some .int), pw_o38),
  ((⟨"BoundWalks", "remember", "(II)I"⟩, prog_1_method_17_code, 7, some .int), pw_o39),
  ((⟨"BoundWalks", "house", "(IIIIIIII)I"⟩, prog_1_method_18_code, 11, some .int), pw_o40),
  ((⟨"BoundWalks", "law", "(III)I"⟩, prog_1_method_19_code, 4, some .int), pw_o41),
  ((⟨"BoundWalks", "whose", "(III)I"⟩, prog_1_method_20_code, 7, some .int), pw_o42),
  ((⟨"BoundWalks", "see", "(I)I"⟩, prog_1_method_21_code, 3, some .int), pw_o43),
  ((⟨"BoundWalks", "gap", "(I)I"⟩, prog_1_method_22_code, 3, some .int), pw_o44),
  ((⟨"BoundWalks", "due", "()I"⟩, prog_1_method_23_code, 3, some .int), pw_o45),
  ((⟨"BoundWalks", "round", "(II)I"⟩, prog_1_method_24_code, 5, some .int), pw_o46),
  ((⟨"BoundWalks", "count", "(I)I"⟩, prog_1_method_25_code, 2, some .int), pw_o47),
  ((⟨"BoundWalks", "between", "(III)Z"⟩, prog_1_method_26_code, 3, some .boolean), pw_o48),
  ((⟨"BoundWalks", "isPoint", "(II)Z"⟩, prog_1_method_27_code, 2, some .boolean), pw_o49),
  ((⟨"BoundWalks", "isField", "(II)Z"⟩, prog_1_method_28_code, 2, some .boolean), pw_o50),
  ((⟨"BoundWalks", "isYear", "(I)Z"⟩, prog_1_method_29_code, 1, some .boolean), pw_o51),
  ((⟨"BoundWalks", "isParish", "(I)Z"⟩, prog_1_method_30_code, 2, some .boolean), pw_o52),
  ((⟨"BoundWalks", "isStone", "(I)Z"⟩, prog_1_method_31_code, 2, some .boolean), pw_o53),
  ((⟨"BoundWalks", "pointNumber", "(II)I"⟩, prog_1_method_32_code, 2, some .int), pw_o54),
  ((⟨"BoundWalks", "fieldNumber", "(II)I"⟩, prog_1_method_33_code, 2, some .int), pw_o55),
  ((⟨"BoundWalks", "walkOf", "(I)LBoundWalks$Walk;"⟩, prog_1_method_34_code, 2, some (.object "BoundWalks$Walk")), pw_o56),
  ((⟨"BoundWalks", "houseOf", "(I)LBoundWalks$House;"⟩, prog_1_method_35_code, 2, some (.object "BoundWalks$House")), pw_o57),
  ((⟨"BoundWalks", "claimsOf", "(I)I"⟩, prog_1_method_36_code, 5, some .int), pw_o58),
  ((⟨"BoundWalks", "ownerOf", "(II)I"⟩, prog_1_method_37_code, 3, some .int), pw_o59),
  ((⟨"BoundWalks", "onlyParish", "(I)I"⟩, prog_1_method_38_code, 2, some .int), pw_o60),
  ((⟨"BoundWalks", "ownerOfMost", "(LBoundWalks$House;I)I"⟩, prog_1_method_39_code, 6, some .int), pw_o61),
  ((⟨"BoundWalks", "canHappen", "(II)Z"⟩, prog_1_method_40_code, 3, some .boolean), pw_o62),
  ((⟨"BoundWalks", "tell", "(III)I"⟩, prog_1_method_41_code, 4, some .int), pw_o63),
  ((⟨"BoundWalks", "isLostNow", "(I)Z"⟩, prog_1_method_42_code, 2, some .boolean), pw_o64),
  ((⟨"BoundWalks", "gatherForRound", "()I"⟩, prog_1_method_43_code, 3, some .int), pw_o65),
  ((⟨"BoundWalks", "seeOldest", "(III)V"⟩, prog_1_method_44_code, 7, none), pw_o66),
  ((⟨"BoundWalks", "someUnseen", "(II)Z"⟩, prog_1_method_45_code, 4, some .boolean), pw_o67),
  ((⟨"BoundWalksModel", "<init>", "()V"⟩, prog_6_method_1_code, 1, none), pw_o68),
  ((⟨"BoundWalksModel", "in", "(III)Z"⟩, prog_6_method_2_code, 3, some .boolean), pw_o69),
  ((⟨"BoundWalksModel", "isPoint", "(II)Z"⟩, prog_6_method_3_code, 2, some .boolean), pw_o70),
  ((⟨"BoundWalksModel", "isField", "(II)Z"⟩, prog_6_method_4_code, 2, some .boolean), pw_o71),
  ((⟨"BoundWalksModel", "isYear", "(I)Z"⟩, prog_6_method_5_code, 1, some .boolean), pw_o72),
  ((⟨"BoundWalksModel", "isParish", "(I)Z"⟩, prog_6_method_6_code, 2, some .boolean), pw_o73),
  ((⟨"BoundWalksModel", "parish", "(II)I"⟩, prog_6_method_7_code, 3, some .int), pw_o74),
  ((⟨"BoundWalksModel", "leg", "(IIII)I"⟩, prog_6_method_8_code, 6, some .int), pw_o75),
  ((⟨"BoundWalksModel", "unleg", "(I)I"⟩, prog_6_method_9_code, 2, some .int), pw_o76),
  ((⟨"BoundWalksModel", "leastFrom", "(III)I"⟩, prog_6_method_10_code, 7, some .int), pw_o77),
  ((⟨"BoundWalksModel", "mostFrom", "(III)I"⟩, prog_6_method_11_code, 7, some .int), pw_o78),
  ((⟨"BoundWalksModel", "findLengths", "(I)Z"⟩, prog_6_method_12_code, 8, some .boolean), pw_o79),
  ((⟨"BoundWalksModel", "length", "(II)I"⟩, prog_6_method_13_code, 3, some .int), pw_o80),
  ((⟨"BoundWalksModel", "layRing", "(I)Z"⟩, prog_6_method_14_code, 10, some .boolean), pw_o81),
  ((⟨"BoundWalksModel", "layInside", "(I)I"⟩, prog_6_method_15_code, 6, some .int), pw_o82),
  ((⟨"BoundWalksModel", "area", "(I)I"⟩, prog_6_method_16_code, 2, some .int), pw_o83),
  ((⟨"BoundWalksModel", "layClaims", "()V"⟩, prog_6_method_17_code, 2, none), pw_o84),
  ((⟨"BoundWalksModel", "claims", "(II)I"⟩, prog_6_method_18_code, 3, some .int), pw_o85),
  ((⟨"BoundWalksModel", "agree", "(IIIIII)I"⟩, prog_6_method_19_code, 7, some .int), pw_o86),
  ((⟨"BoundWalksModel", "ownerOf", "(II)I"⟩, prog_6_method_20_code, 5, some .int), pw_o87),
  ((⟨"BoundWalksModel", "owner", "(III)I"⟩, prog_6_method_21_code, 4, some .int), pw_o88),
  ((⟨"BoundWalksModel", "ones", "(I)I"⟩, prog_6_method_22_code, 3, some .int), pw_o89),
  ((⟨"BoundWalksModel", "quarrel", "(I)I"⟩, prog_6_method_23_code, 4, some .int), pw_o90),
  ((⟨"BoundWalksModel", "years", "(I)I"⟩, prog_6_method_24_code, 2, some .int), pw_o91),
  ((⟨"BoundWalksModel", "isStone", "(I)Z"⟩, prog_6_method_25_code, 2, some .boolean), pw_o92),
  ((⟨"BoundWalksModel", "stone", "(II)I"⟩, prog_6_method_26_code, 3, some .int), pw_o93),
  ((⟨"BoundWalksModel", "tell", "(III)I"⟩, prog_6_method_27_code, 4, some .int), pw_o94),
  ((⟨"BoundWalksModel", "mayTell", "(II)Z"⟩, prog_6_method_28_code, 3, some .boolean), pw_o95),
  ((⟨"BoundWalksModel", "moved", "(IIII)I"⟩, prog_6_method_29_code, 5, some .int), pw_o96),
  ((⟨"BoundWalksModel", "lost", "(II)I"⟩, prog_6_method_30_code, 3, some .int), pw_o97),
  ((⟨"BoundWalksModel", "whereOf", "(III)I"⟩, prog_6_method_31_code, 6, some .int), pw_o98),
  ((⟨"BoundWalksModel", "where", "(III)I"⟩, prog_6_method_32_code, 4, some .int), pw_o99),
  ((⟨"BoundWalksModel", "witness", "(I)I"⟩, prog_6_method_33_code, 2, some .int), pw_o100),
  ((⟨"BoundWalksModel", "remember", "(II)I"⟩, prog_6_method_34_code, 5, some .int), pw_o101),
  ((⟨"BoundWalksModel", "house", "(IIIIIIII)I"⟩, prog_6_method_35_code, 9, some .int), pw_o102),
  ((⟨"BoundWalksModel", "law", "(III)I"⟩, prog_6_method_36_code, 4, some .int), pw_o103),
  ((⟨"BoundWalksModel", "byOf", "(II)I"⟩, prog_6_method_37_code, 5, some .int), pw_o104),
  ((⟨"BoundWalksModel", "greaterPart", "(II)I"⟩, prog_6_method_38_code, 6, some .int), pw_o105),
  ((⟨"BoundWalksModel", "whose", "(III)I"⟩, prog_6_method_39_code, 6, some .int), pw_o106),
  ((⟨"BoundWalksModel", "isLost", "(I)Z"⟩, prog_6_method_40_code, 2, some .boolean), pw_o107),
  ((⟨"BoundWalksModel", "see", "(I)I"⟩, prog_6_method_41_code, 3, some .int), pw_o108),
  ((⟨"BoundWalksModel", "gap", "(I)I"⟩, prog_6_method_42_code, 3, some .int), pw_o109),
  ((⟨"BoundWalksModel", "due", "()I"⟩, prog_6_method_43_code, 3, some .int), pw_o110),
  ((⟨"BoundWalksModel", "longestAgo", "(I)I"⟩, prog_6_method_44_code, 4, some .int), pw_o111),
  ((⟨"BoundWalksModel", "round", "(II)I"⟩, prog_6_method_45_code, 6, some .int), pw_o112),
  ((⟨"BoundWalksModel", "count", "(I)I"⟩, prog_6_method_46_code, 2, some .int), pw_o113),
  ((⟨"java/lang/Integer", "bitCount", "(I)I"⟩, prog_7_method_49_code, 1, some .int), pw_o114)]
end
section
abbrev pw_C : Type := (Nat × Nat × (Nat → Int32)) ⊕ ((Nat × Nat × (Nat → Option Nat)) ⊕ (Nat × List pw_V))
abbrev pw_H : Type := List pw_C
abbrev pw_L : Type := List (Option pw_V)
def pw_look : List (Nat × pw_O) → Nat → Option pw_O
  | [], _ => none
  | e :: l, pc => match Nat.beq e.1 pc with
    | true => some e.2
    | false => pw_look l pc
def pw_op (M pc : Nat) : Option pw_O := match pw_ms[M]? with
  | some m => pw_look m.2 pc
  | none => none
def pw_inf (M : Nat) : pw_I := match pw_ms[M]? with
  | some m => m.1
  | none => (⟨"", "", ""⟩, ⟨#[]⟩, 0, none)
def pw_inb (i : Int32) (n : Nat) : Bool := decide (0 ≤ i.toInt) && decide (i.toInt < n)
def pw_cond (c : ClassFile.Cond) (x y : Int32) : Bool := match c with
  | .eq => decide (x = y)
  | .ne => !decide (x = y)
  | .lt => decide (x < y)
  | .ge => decide (y ≤ x)
  | .gt => decide (y < x)
  | .le => decide (x ≤ y)
def pw_bit (x : Int32) : Bool := decide (x = 0) || decide (x = 1)
def pw_kind (k : Nat) (v : pw_V) : Bool := match k, v with
  | 0, .inl _ => true
  | 1, .inl x => pw_bit x
  | 2, .inr _ => true
  | _, _ => false
def pw_sz (c : pw_C) : Nat := match c with
  | .inl (_, n, _) => n
  | .inr (.inl (_, n, _)) => n
  | .inr (.inr (_, fs)) => fs.length
def pw_size (h : pw_H) : Nat := (h.map pw_sz).sum
abbrev pw_S : Type := Nat × pw_L × List pw_V × pw_H
/-- an instruction that is no call and no return -/
def pw_step (o : pw_O) (L : pw_L) (st : List pw_V) (h : pw_H) : Option pw_S := match o with
  | (i, np, t, q) => match i with
    | .iconst z => some (np, L, .inl (Int32.ofInt z) :: st, h)
    | .bipush z => some (np, L, .inl (Int8.ofInt z).toInt32 :: st, h)
    | .sipush z => some (np, L, .inl (Int16.ofInt z).toInt32 :: st, h)
    | .ldc_w _ => some (np, L, .inl (Int32.ofNat t) :: st, h)
    | .aconst_null => some (np, L, .inr none :: st, h)
    | .iload k => match L[k]? with
      | some (some (.inl x)) => some (np, L, .inl x :: st, h)
      | _ => none
    | .iload_n k => match L[k.val]? with
      | some (some (.inl x)) => some (np, L, .inl x :: st, h)
      | _ => none
    | .aload k => match L[k]? with
      | some (some (.inr x)) => some (np, L, .inr x :: st, h)
      | _ => none
    | .aload_n k => match L[k.val]? with
      | some (some (.inr x)) => some (np, L, .inr x :: st, h)
      | _ => none
    | .istore k => match st with
      | .inl x :: st => if k < L.length then some (np, L.set k (some (.inl x)), st, h) else none
      | _ => none
    | .istore_n k => match st with
      | .inl x :: st => if k.val < L.length then some (np, L.set k.val (some (.inl x)), st, h) else none
      | _ => none
    | .astore k => match st with
      | .inr x :: st => if k < L.length then some (np, L.set k (some (.inr x)), st, h) else none
      | _ => none
    | .astore_n k => match st with
      | .inr x :: st => if k.val < L.length then some (np, L.set k.val (some (.inr x)), st, h) else none
      | _ => none
    | .iinc k z => match L[k]? with
      | some (some (.inl x)) => some (np, L.set k (some (.inl (x + Int32.ofInt z))), st, h)
      | _ => none
    | .iadd => match st with
      | .inl y :: .inl x :: st => some (np, L, .inl (x + y) :: st, h)
      | _ => none
    | .isub => match st with
      | .inl y :: .inl x :: st => some (np, L, .inl (x - y) :: st, h)
      | _ => none
    | .imul => match st with
      | .inl y :: .inl x :: st => some (np, L, .inl (x * y) :: st, h)
      | _ => none
    | .iand => match st with
      | .inl y :: .inl x :: st => some (np, L, .inl (x &&& y) :: st, h)
      | _ => none
    | .ior => match st with
      | .inl y :: .inl x :: st => some (np, L, .inl (x ||| y) :: st, h)
      | _ => none
    | .ixor => match st with
      | .inl y :: .inl x :: st => some (np, L, .inl (x ^^^ y) :: st, h)
      | _ => none
    | .ishl => match st with
      | .inl y :: .inl x :: st => some (np, L, .inl (x <<< (y &&& 31)) :: st, h)
      | _ => none
    | .ishr => match st with
      | .inl y :: .inl x :: st => some (np, L, .inl (x >>> (y &&& 31)) :: st, h)
      | _ => none
    | .iushr => match st with
      | .inl y :: .inl x :: st => some (np, L, .inl (x.toUInt32 >>> (y.toUInt32 &&& Int32.toUInt32 31)).toInt32 :: st, h)
      | _ => none
    | .idiv => match st with
      | .inl y :: .inl x :: st => if y = 0 then none else some (np, L, .inl (x / y) :: st, h)
      | _ => none
    | .irem => match st with
      | .inl y :: .inl x :: st => if y = 0 then none else some (np, L, .inl (x - x / y * y) :: st, h)
      | _ => none
    | .ineg => match st with
      | .inl x :: st => some (np, L, .inl (-x) :: st, h)
      | _ => none
    | .dup => match st with
      | v :: st => some (np, L, v :: v :: st, h)
      | _ => none
    | .dup_x1 => match st with
      | v :: w :: st => some (np, L, v :: w :: v :: st, h)
      | _ => none
    | .dup2 => match st with
      | v :: w :: st => some (np, L, v :: w :: v :: w :: st, h)
      | _ => none
    | .pop => match st with
      | _ :: st => some (np, L, st, h)
      | _ => none
    | .ifCond c _ => match st with
      | .inl x :: st => some (bif pw_cond c x 0 then t else np, L, st, h)
      | _ => none
    | .if_icmp c _ => match st with
      | .inl y :: .inl x :: st => some (bif pw_cond c x y then t else np, L, st, h)
      | _ => none
    | .ifnull _ => match st with
      | .inr none :: st => some (t, L, st, h)
      | .inr (some _) :: st => some (np, L, st, h)
      | _ => none
    | .ifnonnull _ => match st with
      | .inr none :: st => some (np, L, st, h)
      | .inr (some _) :: st => some (t, L, st, h)
      | _ => none
    | .goto _ => some (t, L, st, h)
    | .tableswitch _ lo hi _ => match st with
      | .inl x :: st => if x.toInt < lo ∨ hi < x.toInt then some (t, L, st, h) else match q[(x.toInt - lo).toNat]? with
        | some u => some (u, L, st, h)
        | none => none
      | _ => none
    | .getfield _ => match st, q with
      | .inr (some a) :: st, k :: _ => match h[a]? with
        | some (.inr (.inr (c, fs))) => if c = t then match fs[k]? with
          | some v => some (np, L, v :: st, h)
          | none => none else none
        | _ => none
      | _, _ => none
    | .putfield _ => match st, q with
      | v :: .inr (some a) :: st, k :: kd :: _ => match h[a]? with
        | some (.inr (.inr (c, fs))) => if c = t ∧ k < fs.length ∧ pw_kind kd v = true then some (np, L, st, h.set a (.inr (.inr (c, fs.set k v)))) else none
        | _ => none
      | _, _ => none
    | .iaload => match st with
      | .inl i :: .inr (some a) :: st => match h[a]? with
        | some (.inl (g, n, f)) => if g ≠ 1 ∧ pw_inb i n = true then some (np, L, .inl (f i.toNatClampNeg) :: st, h) else none
        | _ => none
      | _ => none
    | .baload => match st with
      | .inl i :: .inr (some a) :: st => match h[a]? with
        | some (.inl (g, n, f)) => if g = 1 ∧ pw_inb i n = true then some (np, L, .inl (f i.toNatClampNeg) :: st, h) else none
        | _ => none
      | _ => none
    | .iastore => match st with
      | .inl x :: .inl i :: .inr (some a) :: st => match h[a]? with
        | some (.inl (g, n, f)) => if g = 0 ∧ pw_inb i n = true then some (np, L, st, h.set a (.inl (g, n, upd f i.toNatClampNeg x))) else none
        | _ => none
      | _ => none
    | .bastore => match st with
      | .inl x :: .inl i :: .inr (some a) :: st => match h[a]? with
        | some (.inl (g, n, f)) => if g = 1 ∧ pw_inb i n = true ∧ pw_bit x = true then some (np, L, st, h.set a (.inl (g, n, upd f i.toNatClampNeg x))) else none
        | _ => none
      | _ => none
    | .aaload => match st with
      | .inl i :: .inr (some a) :: st => match h[a]? with
        | some (.inr (.inl (g, n, f))) => if pw_inb i n = true then some (np, L, .inr (f i.toNatClampNeg) :: st, h) else none
        | _ => none
      | _ => none
    | .aastore => match st with
      | .inr (some v) :: .inl i :: .inr (some a) :: st => match h[a]?, h[v]? with
        | some (.inr (.inl (g, n, f))), some (.inr (.inr (c, _))) => if c = g ∧ pw_inb i n = true then some (np, L, st, h.set a (.inr (.inl (g, n, va_up f i.toNatClampNeg (some v))))) else none
        | _, _ => none
      | _ => none
    | .arraylength => match st with
      | .inr (some a) :: st => match h[a]? with
        | some (.inl (_, n, _)) => some (np, L, .inl (Int32.ofNat n) :: st, h)
        | _ => none
      | _ => none
    | .newarray _ => match st with
      | .inl n :: st => if 0 ≤ n.toInt ∧ n.toInt ≤ 100000 then some (np, L, .inr (some h.length) :: st, h ++ [.inl (t, n.toNatClampNeg, fun _ => 0)]) else none
      | _ => none
    | .anewarray _ => match st with
      | .inl n :: st => if 0 ≤ n.toInt ∧ n.toInt ≤ 100000 then some (np, L, .inr (some h.length) :: st, h ++ [.inr (.inl (t, n.toNatClampNeg, fun _ => none))]) else none
      | _ => none
    | .new _ => some (np, L, .inr (some h.length) :: st, h ++ [.inr (.inr (t, pw_def t))])
    | _ => none
def pw_ent (M : Nat) (as : List pw_V) : pw_L := as.map some ++ List.replicate ((pw_inf M).2.2.1 - as.length) none
/-- what a return answers -/
def pw_ret (M : Nat) (i : Instr) (st : List pw_V) : Option (Option pw_V) := match i, st with
  | .ireturn, [.inl v] => if (pw_inf M).2.2.2 = some .int ∨ ((pw_inf M).2.2.2 = some .boolean ∧ pw_bit v = true) then some (some (.inl v)) else none
  | .areturn, [.inr v] => match (pw_inf M).2.2.2 with
    | some (.object _) => some (some (.inr v))
    | _ => none
  | .return_, [] => if (pw_inf M).2.2.2 = none then some none else none
  | _, _ => none
/-- the arguments of a call, and what lies below them -/
def pw_args (i : Instr) (q : List Nat) (st : List pw_V) (h : pw_H) : Option (List pw_V × List pw_V) := match q with
  | n :: k :: _ => if n ≤ st.length ∧ st.length ≤ n + 8 then (match i with
    | .invokestatic _ => some ((st.take n).reverse, st.drop n)
    | _ => match st.drop n with
      | .inr (some a) :: rest => (match h[a]? with
        | some (.inr (.inr (c, _))) => if c = k then some (.inr (some a) :: (st.take n).reverse, rest) else none
        | _ => none)
      | _ => none) else none
  | _ => none
def pw_isCall (i : Instr) : Bool := match i with
  | .invokestatic _ => true
  | .invokevirtual _ => true
  | .invokespecial _ => true
  | _ => false
def pw_isRet (i : Instr) : Bool := match i with
  | .ireturn => true
  | .areturn => true
  | .return_ => true
  | _ => false
def pw_run : Nat → Nat → Nat → Nat → pw_L → List pw_V → pw_H → Option (Option pw_V × pw_H)
  | 0, _, _, _, _, _, _ => none
  | n + 1, d, M, pc, L, st, h => match pw_op M pc with
    | none => none
    | some o => bif pw_isRet o.1 then (match pw_ret M o.1 st with
        | some r => some (r, h)
        | none => none)
      else bif pw_isCall o.1 then (match d with
        | 0 => none
        | d + 1 => match o.2.2.2 with
          | [_] => (match st with
            | .inr (some _) :: st => if st.length ≤ 8 then pw_run n (d + 1) M o.2.1 L st h else none
            | _ => none)
          | [_, k] => (match st with
            | .inl y :: .inl x :: st => if st.length ≤ 8 then pw_run n (d + 1) M o.2.1 L (.inl (if k = 0 then (if x < y then y else x) else (if y < x then y else x)) :: st) h else none
            | _ => none)
          | q => match pw_args o.1 q st h with
            | none => none
            | some (as, rest) => if as.length ≤ (pw_inf o.2.2.1).2.2.1 then (match pw_run n d o.2.2.1 0 (pw_ent o.2.2.1 as) [] h with
              | none => none
              | some (r, h') => pw_run n (d + 1) M o.2.1 L (r.toList ++ rest) h') else none)
      else match pw_step o L st h with
        | none => none
        | some (pc', L', st', h') => pw_run n d M pc' L' st' h'
end
section
def pw_has (i : Nat) (w : Cond) : Bool := decide (lw_tbl[i]? = some w) && goodWord w
def pw_ilen (i : Instr) : Nat := match i with
  | .bipush _ => 2
  | .sipush _ => 3
  | .ldc_w _ => 3
  | .iload _ => 2
  | .aload _ => 2
  | .istore _ => 2
  | .astore _ => 2
  | .iinc _ _ => 3
  | .ifCond _ _ => 3
  | .if_icmp _ _ => 3
  | .ifnull _ => 3
  | .ifnonnull _ => 3
  | .goto _ => 3
  | .getfield _ => 3
  | .putfield _ => 3
  | .new _ => 3
  | .newarray _ => 2
  | .anewarray _ => 3
  | .invokevirtual _ => 3
  | .invokespecial _ => 3
  | .invokestatic _ => 3
  | _ => 1
def pw_okW (own : String) (idx : Nat) (t : Nat) (n : Nat) (w1 w4 w5 : Nat) (nest : Bool) : Bool :=
  let y := (pw_inf t).1
  (bif nest then decide (lw_tbl[w1]? = some (.methodLinkNest own idx y "BoundWalks")) else pw_has w1 (.methodLink own idx y)) &&
  pw_has w4 (.initialized y.cls) &&
  decide (y.cls ≠ "java/lang/invoke/MethodHandle") && decide (y.cls ≠ "java/lang/invoke/VarHandle") &&
  decide ((parseMethodDescriptor y.desc).map (fun d => d.parameters.length) = some n) && decide ((pw_inf t).2.2.1 ≤ 17) && plainName y.cls
def pw_okI (inf : pw_I) (pc : Nat) (i : Instr) (t : Nat) (q : List Nat) : Bool := match i with
  | .ifCond _ off => decide ((pc : Int) + off = (t : Int))
  | .if_icmp _ off => decide ((pc : Int) + off = (t : Int))
  | .ifnull off => decide ((pc : Int) + off = (t : Int))
  | .ifnonnull off => decide ((pc : Int) + off = (t : Int))
  | .goto off => decide ((pc : Int) + off = (t : Int))
  | .tableswitch dflt _ _ offs => decide ((pc : Int) + dflt = (t : Int)) && decide (q.length = offs.size) && decide (q.map (fun u : Nat => some ((u : Int) - (pc : Int))) = (List.range q.length).map (fun j => offs[j]?))
  | .getfield idx => match pw_cl[t]?, q with
    | some c, [k, w, z] => decide (k < c.2.2) && decide ((c.2.1 k).1 = c.1) && (match z with
      | 0 => pw_has w (.fieldLink inf.1.cls idx c.1 (c.2.1 k).2.1 (c.2.1 k).2.2.1)
      | _ => decide (lw_tbl[w]? = some (.fieldLinkNest inf.1.cls idx c.1 (c.2.1 k).2.1 (c.2.1 k).2.2.1 "BoundWalks")))
    | _, _ => false
  | .putfield idx => match pw_cl[t]?, q with
    | some c, [k, kd, w, z] => decide (k < c.2.2) && decide ((c.2.1 k).1 = c.1) && pw_has w (.fieldLink inf.1.cls idx c.1 (c.2.1 k).2.1 (c.2.1 k).2.2.1) && (match z with
      | 0 => !(c.2.1 k).2.2.2
      | _ => (c.2.1 k).2.2.2 && decide (inf.1.name = "<init>") && decide (c.1 = inf.1.cls)) && (match kd, pw_tyf t k with
      | 0, .int => true
      | 1, .boolean => true
      | 2, .object _ => true
      | 2, .array _ => true
      | _, _ => false)
    | _, _ => false
  | .new idx => match pw_cl[t]?, q with
    | some c, [w1, w2, w3] => pw_has w1 (.classLink inf.1.cls idx c.1) && pw_has w2 (.instantiable c.1 c.2.2) && pw_has w3 (.initialized c.1)
    | _, _ => false
  | .newarray ty => match q with
    | [w] => (match t with
      | 0 => decide (ty = .int)
      | 1 => decide (ty = .boolean)
      | _ => false) && pw_has w (.arrayClass (newarray.typeOf ty))
    | _ => false
  | .anewarray idx => match pw_cl[t]?, q with
    | some c, [w] => (decide (t = 0) || decide (t = 2)) && pw_has w (.classLink inf.1.cls idx c.1)
    | _, _ => false
  | .ldc_w idx => match q with
    | [w] => pw_has w (.constant inf.1.cls idx (Int32.ofNat t))
    | _ => false
  | .invokevirtual idx => match q with
    | [n, k, w1, w2, w3, w4, w5] => pw_okW inf.1.cls idx t n w1 w4 w5 false && pw_has w2 (.instanceMethod (pw_inf t).1) && pw_has w3 (.selects (pw_inf t).1.cls (pw_inf t).1 (pw_inf t).1) && decide (pw_cl[k]?.map (fun c => c.1) = some (pw_inf t).1.cls)
    | _ => false
  | .invokespecial idx => match q with
    | [w] => pw_has w (.methodLink inf.1.cls idx Lib.objectInit)
    | [n, k, w1, w2, _, w4, w5] => pw_okW inf.1.cls idx t n w1 w4 w5 false && pw_has w2 (.instanceMethod (pw_inf t).1) && decide ((pw_inf t).1.name = "<init>") && decide ((pw_inf t).2.2.2 = none)
    | _ => false
  | .invokestatic idx => match q with
    | [w, k] => (match k with
      | 0 => pw_has w (.methodLink inf.1.cls idx Lib.Math.max.name)
      | 1 => pw_has w (.methodLink inf.1.cls idx Lib.Math.min.name)
      | _ => false)
    | [n, z, w1, w2, _, w4, w5] => pw_okW inf.1.cls idx t n w1 w4 w5 (match z with
      | 0 => false
      | _ => true) && pw_has w2 (.static (pw_inf t).1)
    | _ => false
  | _ => true
def pw_ok (inf : pw_I) (e : Nat × pw_O) : Bool := (match decode inf.2.1 e.1 with
  | .ok (j, len) => decide (j = e.2.1) && decide (e.2.2.1 = e.1 + len) && (match e.2.1 with
    | .tableswitch _ _ _ _ => true
    | i => decide (len = pw_ilen i))
  | _ => false) && pw_okI inf e.1 e.2.1 e.2.2.2.1 e.2.2.2.2
def pw_okm (m : pw_I × List (Nat × pw_O)) : Bool := m.2.all (pw_ok m.1)
theorem pw_all2 {α : Type} {p : α → Bool} {a b : List α} (ha : a.all p = true) (hb : b.all p = true) : (a ++ b).all p = true := by rw [List.all_append, ha, hb]; rfl
theorem pw_ck_0_0 : pw_o0_0.all (pw_ok (pw_inf 0)) = true := by decide +kernel
theorem pw_ck_0_1 : pw_o0_1.all (pw_ok (pw_inf 0)) = true := by decide +kernel
theorem pw_ck_0_2 : pw_o0_2.all (pw_ok (pw_inf 0)) = true := by decide +kernel
theorem pw_ck_0_3 : pw_o0_3.all (pw_ok (pw_inf 0)) = true := by decide +kernel
theorem pw_ck_0_4 : pw_o0_4.all (pw_ok (pw_inf 0)) = true := by decide +kernel
theorem pw_ck_0_5 : pw_o0_5.all (pw_ok (pw_inf 0)) = true := by decide +kernel
theorem pw_ck_0_6 : pw_o0_6.all (pw_ok (pw_inf 0)) = true := by decide +kernel
theorem pw_ck_0_7 : pw_o0_7.all (pw_ok (pw_inf 0)) = true := by decide +kernel
theorem pw_ck_0_8 : pw_o0_8.all (pw_ok (pw_inf 0)) = true := by decide +kernel
theorem pw_ck_0_9 : pw_o0_9.all (pw_ok (pw_inf 0)) = true := by decide +kernel
theorem pw_ck_0_10 : pw_o0_10.all (pw_ok (pw_inf 0)) = true := by decide +kernel
theorem pw_ck_0_11 : pw_o0_11.all (pw_ok (pw_inf 0)) = true := by decide +kernel
theorem pw_ck_0_12 : pw_o0_12.all (pw_ok (pw_inf 0)) = true := by decide +kernel
theorem pw_ck_0_13 : pw_o0_13.all (pw_ok (pw_inf 0)) = true := by decide +kernel
theorem pw_ck_0_14 : pw_o0_14.all (pw_ok (pw_inf 0)) = true := by decide +kernel
theorem pw_ck_0_15 : pw_o0_15.all (pw_ok (pw_inf 0)) = true := by decide +kernel
theorem pw_ck_0 : pw_o0.all (pw_ok (pw_inf 0)) = true := (pw_all2 pw_ck_0_0 (pw_all2 pw_ck_0_1 (pw_all2 pw_ck_0_2 (pw_all2 pw_ck_0_3 (pw_all2 pw_ck_0_4 (pw_all2 pw_ck_0_5 (pw_all2 pw_ck_0_6 (pw_all2 pw_ck_0_7 (pw_all2 pw_ck_0_8 (pw_all2 pw_ck_0_9 (pw_all2 pw_ck_0_10 (pw_all2 pw_ck_0_11 (pw_all2 pw_ck_0_12 (pw_all2 pw_ck_0_13 (pw_all2 pw_ck_0_14 pw_ck_0_15)))))))))))))))
theorem pw_ck_1 : pw_o1.all (pw_ok (pw_inf 1)) = true := by decide +kernel
theorem pw_ck_2 : pw_o2.all (pw_ok (pw_inf 2)) = true := by decide +kernel
theorem pw_ck_3 : pw_o3.all (pw_ok (pw_inf 3)) = true := by decide +kernel
theorem pw_ck_4 : pw_o4.all (pw_ok (pw_inf 4)) = true := by decide +kernel
theorem pw_ck_5 : pw_o5.all (pw_ok (pw_inf 5)) = true := by decide +kernel
theorem pw_ck_6 : pw_o6.all (pw_ok (pw_inf 6)) = true := by decide +kernel
theorem pw_ck_7 : pw_o7.all (pw_ok (pw_inf 7)) = true := by decide +kernel
theorem pw_ck_8 : pw_o8.all (pw_ok (pw_inf 8)) = true := by decide +kernel
theorem pw_ck_9 : pw_o9.all (pw_ok (pw_inf 9)) = true := by decide +kernel
theorem pw_ck_10 : pw_o10.all (pw_ok (pw_inf 10)) = true := by decide +kernel
theorem pw_ck_11 : pw_o11.all (pw_ok (pw_inf 11)) = true := by decide +kernel
theorem pw_ck_12 : pw_o12.all (pw_ok (pw_inf 12)) = true := by decide +kernel
theorem pw_ck_13 : pw_o13.all (pw_ok (pw_inf 13)) = true := by decide +kernel
theorem pw_ck_14 : pw_o14.all (pw_ok (pw_inf 14)) = true := by decide +kernel
theorem pw_ck_15 : pw_o15.all (pw_ok (pw_inf 15)) = true := by decide +kernel
theorem pw_ck_16_0 : pw_o16_0.all (pw_ok (pw_inf 16)) = true := by decide +kernel
theorem pw_ck_16_1 : pw_o16_1.all (pw_ok (pw_inf 16)) = true := by decide +kernel
theorem pw_ck_16 : pw_o16.all (pw_ok (pw_inf 16)) = true := (pw_all2 pw_ck_16_0 pw_ck_16_1)
theorem pw_ck_17 : pw_o17.all (pw_ok (pw_inf 17)) = true := by decide +kernel
theorem pw_ck_18 : pw_o18.all (pw_ok (pw_inf 18)) = true := by decide +kernel
theorem pw_ck_19 : pw_o19.all (pw_ok (pw_inf 19)) = true := by decide +kernel
theorem pw_ck_20 : pw_o20.all (pw_ok (pw_inf 20)) = true := by decide +kernel
theorem pw_ck_21 : pw_o21.all (pw_ok (pw_inf 21)) = true := by decide +kernel
theorem pw_ck_22 : pw_o22.all (pw_ok (pw_inf 22)) = true := by decide +kernel
theorem pw_ck_23 : pw_o23.all (pw_ok (pw_inf 23)) = true := by decide +kernel
theorem pw_ck_24 : pw_o24.all (pw_ok (pw_inf 24)) = true := by decide +kernel
theorem pw_ck_25 : pw_o25.all (pw_ok (pw_inf 25)) = true := by decide +kernel
theorem pw_ck_26 : pw_o26.all (pw_ok (pw_inf 26)) = true := by decide +kernel
theorem pw_ck_27 : pw_o27.all (pw_ok (pw_inf 27)) = true := by decide +kernel
theorem pw_ck_28 : pw_o28.all (pw_ok (pw_inf 28)) = true := by decide +kernel
theorem pw_ck_29 : pw_o29.all (pw_ok (pw_inf 29)) = true := by decide +kernel
theorem pw_ck_30 : pw_o30.all (pw_ok (pw_inf 30)) = true := by decide +kernel
theorem pw_ck_31 : pw_o31.all (pw_ok (pw_inf 31)) = true := by decide +kernel
theorem pw_ck_32 : pw_o32.all (pw_ok (pw_inf 32)) = true := by decide +kernel
theorem pw_ck_33 : pw_o33.all (pw_ok (pw_inf 33)) = true := by decide +kernel
theorem pw_ck_34 : pw_o34.all (pw_ok (pw_inf 34)) = true := by decide +kernel
theorem pw_ck_35 : pw_o35.all (pw_ok (pw_inf 35)) = true := by decide +kernel
theorem pw_ck_36 : pw_o36.all (pw_ok (pw_inf 36)) = true := by decide +kernel
theorem pw_ck_37 : pw_o37.all (pw_ok (pw_inf 37)) = true := by decide +kernel
theorem pw_ck_38 : pw_o38.all (pw_ok (pw_inf 38)) = true := by decide +kernel
theorem pw_ck_39 : pw_o39.all (pw_ok (pw_inf 39)) = true := by decide +kernel
theorem pw_ck_40_0 : pw_o40_0.all (pw_ok (pw_inf 40)) = true := by decide +kernel
theorem pw_ck_40_1 : pw_o40_1.all (pw_ok (pw_inf 40)) = true := by decide +kernel
theorem pw_ck_40_2 : pw_o40_2.all (pw_ok (pw_inf 40)) = true := by decide +kernel
theorem pw_ck_40 : pw_o40.all (pw_ok (pw_inf 40)) = true := (pw_all2 pw_ck_40_0 (pw_all2 pw_ck_40_1 pw_ck_40_2))
theorem pw_ck_41 : pw_o41.all (pw_ok (pw_inf 41)) = true := by decide +kernel
theorem pw_ck_42 : pw_o42.all (pw_ok (pw_inf 42)) = true := by decide +kernel
theorem pw_ck_43 : pw_o43.all (pw_ok (pw_inf 43)) = true := by decide +kernel
theorem pw_ck_44 : pw_o44.all (pw_ok (pw_inf 44)) = true := by decide +kernel
theorem pw_ck_45 : pw_o45.all (pw_ok (pw_inf 45)) = true := by decide +kernel
theorem pw_ck_46 : pw_o46.all (pw_ok (pw_inf 46)) = true := by decide +kernel
theorem pw_ck_47 : pw_o47.all (pw_ok (pw_inf 47)) = true := by decide +kernel
theorem pw_ck_48 : pw_o48.all (pw_ok (pw_inf 48)) = true := by decide +kernel
theorem pw_ck_49 : pw_o49.all (pw_ok (pw_inf 49)) = true := by decide +kernel
theorem pw_ck_50 : pw_o50.all (pw_ok (pw_inf 50)) = true := by decide +kernel
theorem pw_ck_51 : pw_o51.all (pw_ok (pw_inf 51)) = true := by decide +kernel
theorem pw_ck_52 : pw_o52.all (pw_ok (pw_inf 52)) = true := by decide +kernel
theorem pw_ck_53 : pw_o53.all (pw_ok (pw_inf 53)) = true := by decide +kernel
theorem pw_ck_54 : pw_o54.all (pw_ok (pw_inf 54)) = true := by decide +kernel
theorem pw_ck_55 : pw_o55.all (pw_ok (pw_inf 55)) = true := by decide +kernel
theorem pw_ck_56 : pw_o56.all (pw_ok (pw_inf 56)) = true := by decide +kernel
theorem pw_ck_57 : pw_o57.all (pw_ok (pw_inf 57)) = true := by decide +kernel
theorem pw_ck_58 : pw_o58.all (pw_ok (pw_inf 58)) = true := by decide +kernel
theorem pw_ck_59 : pw_o59.all (pw_ok (pw_inf 59)) = true := by decide +kernel
theorem pw_ck_60 : pw_o60.all (pw_ok (pw_inf 60)) = true := by decide +kernel
end
section
theorem pw_ck_61_0 : pw_o61_0.all (pw_ok (pw_inf 61)) = true := by decide +kernel
theorem pw_ck_61_1 : pw_o61_1.all (pw_ok (pw_inf 61)) = true := by decide +kernel
theorem pw_ck_61 : pw_o61.all (pw_ok (pw_inf 61)) = true := (pw_all2 pw_ck_61_0 pw_ck_61_1)
theorem pw_ck_62 : pw_o62.all (pw_ok (pw_inf 62)) = true := by decide +kernel
theorem pw_ck_63 : pw_o63.all (pw_ok (pw_inf 63)) = true := by decide +kernel
theorem pw_ck_64 : pw_o64.all (pw_ok (pw_inf 64)) = true := by decide +kernel
theorem pw_ck_65 : pw_o65.all (pw_ok (pw_inf 65)) = true := by decide +kernel
theorem pw_ck_66 : pw_o66.all (pw_ok (pw_inf 66)) = true := by decide +kernel
theorem pw_ck_67 : pw_o67.all (pw_ok (pw_inf 67)) = true := by decide +kernel
theorem pw_ck_68_0 : pw_o68_0.all (pw_ok (pw_inf 68)) = true := by decide +kernel
theorem pw_ck_68_1 : pw_o68_1.all (pw_ok (pw_inf 68)) = true := by decide +kernel
theorem pw_ck_68_2 : pw_o68_2.all (pw_ok (pw_inf 68)) = true := by decide +kernel
theorem pw_ck_68 : pw_o68.all (pw_ok (pw_inf 68)) = true := (pw_all2 pw_ck_68_0 (pw_all2 pw_ck_68_1 pw_ck_68_2))
theorem pw_ck_69 : pw_o69.all (pw_ok (pw_inf 69)) = true := by decide +kernel
theorem pw_ck_70 : pw_o70.all (pw_ok (pw_inf 70)) = true := by decide +kernel
theorem pw_ck_71 : pw_o71.all (pw_ok (pw_inf 71)) = true := by decide +kernel
theorem pw_ck_72 : pw_o72.all (pw_ok (pw_inf 72)) = true := by decide +kernel
theorem pw_ck_73 : pw_o73.all (pw_ok (pw_inf 73)) = true := by decide +kernel
theorem pw_ck_74 : pw_o74.all (pw_ok (pw_inf 74)) = true := by decide +kernel
theorem pw_ck_75_0 : pw_o75_0.all (pw_ok (pw_inf 75)) = true := by decide +kernel
theorem pw_ck_75_1 : pw_o75_1.all (pw_ok (pw_inf 75)) = true := by decide +kernel
theorem pw_ck_75 : pw_o75.all (pw_ok (pw_inf 75)) = true := (pw_all2 pw_ck_75_0 pw_ck_75_1)
theorem pw_ck_76 : pw_o76.all (pw_ok (pw_inf 76)) = true := by decide +kernel
theorem pw_ck_77 : pw_o77.all (pw_ok (pw_inf 77)) = true := by decide +kernel
theorem pw_ck_78 : pw_o78.all (pw_ok (pw_inf 78)) = true := by decide +kernel
theorem pw_ck_79_0 : pw_o79_0.all (pw_ok (pw_inf 79)) = true := by decide +kernel
theorem pw_ck_79_1 : pw_o79_1.all (pw_ok (pw_inf 79)) = true := by decide +kernel
theorem pw_ck_79_2 : pw_o79_2.all (pw_ok (pw_inf 79)) = true := by decide +kernel
theorem pw_ck_79 : pw_o79.all (pw_ok (pw_inf 79)) = true := (pw_all2 pw_ck_79_0 (pw_all2 pw_ck_79_1 pw_ck_79_2))
theorem pw_ck_80 : pw_o80.all (pw_ok (pw_inf 80)) = true := by decide +kernel
theorem pw_ck_81_0 : pw_o81_0.all (pw_ok (pw_inf 81)) = true := by decide +kernel
theorem pw_ck_81_1 : pw_o81_1.all (pw_ok (pw_inf 81)) = true := by decide +kernel
theorem pw_ck_81_2 : pw_o81_2.all (pw_ok (pw_inf 81)) = true := by decide +kernel
theorem pw_ck_81 : pw_o81.all (pw_ok (pw_inf 81)) = true := (pw_all2 pw_ck_81_0 (pw_all2 pw_ck_81_1 pw_ck_81_2))
theorem pw_ck_82_0 : pw_o82_0.all (pw_ok (pw_inf 82)) = true := by decide +kernel
theorem pw_ck_82_1 : pw_o82_1.all (pw_ok (pw_inf 82)) = true := by decide +kernel
theorem pw_ck_82 : pw_o82.all (pw_ok (pw_inf 82)) = true := (pw_all2 pw_ck_82_0 pw_ck_82_1)
theorem pw_ck_83 : pw_o83.all (pw_ok (pw_inf 83)) = true := by decide +kernel
theorem pw_ck_84 : pw_o84.all (pw_ok (pw_inf 84)) = true := by decide +kernel
theorem pw_ck_85 : pw_o85.all (pw_ok (pw_inf 85)) = true := by decide +kernel
theorem pw_ck_86_0 : pw_o86_0.all (pw_ok (pw_inf 86)) = true := by decide +kernel
theorem pw_ck_86_1 : pw_o86_1.all (pw_ok (pw_inf 86)) = true := by decide +kernel
theorem pw_ck_86 : pw_o86.all (pw_ok (pw_inf 86)) = true := (pw_all2 pw_ck_86_0 pw_ck_86_1)
theorem pw_ck_87_0 : pw_o87_0.all (pw_ok (pw_inf 87)) = true := by decide +kernel
theorem pw_ck_87_1 : pw_o87_1.all (pw_ok (pw_inf 87)) = true := by decide +kernel
theorem pw_ck_87 : pw_o87.all (pw_ok (pw_inf 87)) = true := (pw_all2 pw_ck_87_0 pw_ck_87_1)
theorem pw_ck_88 : pw_o88.all (pw_ok (pw_inf 88)) = true := by decide +kernel
theorem pw_ck_89 : pw_o89.all (pw_ok (pw_inf 89)) = true := by decide +kernel
theorem pw_ck_90 : pw_o90.all (pw_ok (pw_inf 90)) = true := by decide +kernel
theorem pw_ck_91 : pw_o91.all (pw_ok (pw_inf 91)) = true := by decide +kernel
theorem pw_ck_92 : pw_o92.all (pw_ok (pw_inf 92)) = true := by decide +kernel
theorem pw_ck_93 : pw_o93.all (pw_ok (pw_inf 93)) = true := by decide +kernel
theorem pw_ck_94 : pw_o94.all (pw_ok (pw_inf 94)) = true := by decide +kernel
theorem pw_ck_95 : pw_o95.all (pw_ok (pw_inf 95)) = true := by decide +kernel
theorem pw_ck_96 : pw_o96.all (pw_ok (pw_inf 96)) = true := by decide +kernel
theorem pw_ck_97 : pw_o97.all (pw_ok (pw_inf 97)) = true := by decide +kernel
theorem pw_ck_98_0 : pw_o98_0.all (pw_ok (pw_inf 98)) = true := by decide +kernel
theorem pw_ck_98_1 : pw_o98_1.all (pw_ok (pw_inf 98)) = true := by decide +kernel
theorem pw_ck_98 : pw_o98.all (pw_ok (pw_inf 98)) = true := (pw_all2 pw_ck_98_0 pw_ck_98_1)
theorem pw_ck_99 : pw_o99.all (pw_ok (pw_inf 99)) = true := by decide +kernel
theorem pw_ck_100 : pw_o100.all (pw_ok (pw_inf 100)) = true := by decide +kernel
theorem pw_ck_101 : pw_o101.all (pw_ok (pw_inf 101)) = true := by decide +kernel
theorem pw_ck_102_0 : pw_o102_0.all (pw_ok (pw_inf 102)) = true := by decide +kernel
theorem pw_ck_102_1 : pw_o102_1.all (pw_ok (pw_inf 102)) = true := by decide +kernel
theorem pw_ck_102_2 : pw_o102_2.all (pw_ok (pw_inf 102)) = true := by decide +kernel
theorem pw_ck_102 : pw_o102.all (pw_ok (pw_inf 102)) = true := (pw_all2 pw_ck_102_0 (pw_all2 pw_ck_102_1 pw_ck_102_2))
theorem pw_ck_103 : pw_o103.all (pw_ok (pw_inf 103)) = true := by decide +kernel
theorem pw_ck_104 : pw_o104.all (pw_ok (pw_inf 104)) = true := by decide +kernel
theorem pw_ck_105_0 : pw_o105_0.all (pw_ok (pw_inf 105)) = true := by decide +kernel
theorem pw_ck_105_1 : pw_o105_1.all (pw_ok (pw_inf 105)) = true := by decide +kernel
theorem pw_ck_105_2 : pw_o105_2.all (pw_ok (pw_inf 105)) = true := by decide +kernel
theorem pw_ck_105 : pw_o105.all (pw_ok (pw_inf 105)) = true := (pw_all2 pw_ck_105_0 (pw_all2 pw_ck_105_1 pw_ck_105_2))
theorem pw_ck_106 : pw_o106.all (pw_ok (pw_inf 106)) = true := by decide +kernel
theorem pw_ck_107 : pw_o107.all (pw_ok (pw_inf 107)) = true := by decide +kernel
theorem pw_ck_108 : pw_o108.all (pw_ok (pw_inf 108)) = true := by decide +kernel
theorem pw_ck_109 : pw_o109.all (pw_ok (pw_inf 109)) = true := by decide +kernel
theorem pw_ck_110 : pw_o110.all (pw_ok (pw_inf 110)) = true := by decide +kernel
theorem pw_ck_111 : pw_o111.all (pw_ok (pw_inf 111)) = true := by decide +kernel
theorem pw_ck_112_0 : pw_o112_0.all (pw_ok (pw_inf 112)) = true := by decide +kernel
theorem pw_ck_112_1 : pw_o112_1.all (pw_ok (pw_inf 112)) = true := by decide +kernel
theorem pw_ck_112 : pw_o112.all (pw_ok (pw_inf 112)) = true := (pw_all2 pw_ck_112_0 pw_ck_112_1)
theorem pw_ck_113 : pw_o113.all (pw_ok (pw_inf 113)) = true := by decide +kernel
theorem pw_ck_114 : pw_o114.all (pw_ok (pw_inf 114)) = true := by decide +kernel
end
section
set_option maxRecDepth 20000 in
theorem pw_cw_1 : Cond.code (pw_inf 1).1 (pw_inf 1).2.1 (pw_inf 1).2.2.1 (pw_inf 1).2.2.2 ∈ lw_tbl := List.mem_of_getElem? (i := 379) rfl
set_option maxRecDepth 20000 in
theorem pw_cw_2 : Cond.code (pw_inf 2).1 (pw_inf 2).2.1 (pw_inf 2).2.2.1 (pw_inf 2).2.2.2 ∈ lw_tbl := List.mem_of_getElem? (i := 60) rfl
set_option maxRecDepth 20000 in
theorem pw_cw_3 : Cond.code (pw_inf 3).1 (pw_inf 3).2.1 (pw_inf 3).2.2.1 (pw_inf 3).2.2.2 ∈ lw_tbl := List.mem_of_getElem? (i := 461) rfl
set_option maxRecDepth 20000 in
theorem pw_cw_4 : Cond.code (pw_inf 4).1 (pw_inf 4).2.1 (pw_inf 4).2.2.1 (pw_inf 4).2.2.2 ∈ lw_tbl := List.mem_of_getElem? (i := 303) rfl
set_option maxRecDepth 20000 in
theorem pw_cw_5 : Cond.code (pw_inf 5).1 (pw_inf 5).2.1 (pw_inf 5).2.2.1 (pw_inf 5).2.2.2 ∈ lw_tbl := List.mem_of_getElem? (i := 307) rfl
set_option maxRecDepth 20000 in
theorem pw_cw_6 : Cond.code (pw_inf 6).1 (pw_inf 6).2.1 (pw_inf 6).2.2.1 (pw_inf 6).2.2.2 ∈ lw_tbl := List.mem_of_getElem? (i := 323) rfl
set_option maxRecDepth 20000 in
theorem pw_cw_7 : Cond.code (pw_inf 7).1 (pw_inf 7).2.1 (pw_inf 7).2.2.1 (pw_inf 7).2.2.2 ∈ lw_tbl := List.mem_of_getElem? (i := 149) rfl
set_option maxRecDepth 20000 in
theorem pw_cw_8 : Cond.code (pw_inf 8).1 (pw_inf 8).2.1 (pw_inf 8).2.2.1 (pw_inf 8).2.2.2 ∈ lw_tbl := List.mem_of_getElem? (i := 193) rfl
set_option maxRecDepth 20000 in
theorem pw_cw_9 : Cond.code (pw_inf 9).1 (pw_inf 9).2.1 (pw_inf 9).2.2.1 (pw_inf 9).2.2.2 ∈ lw_tbl := List.mem_of_getElem? (i := 197) rfl
set_option maxRecDepth 20000 in
theorem pw_cw_10 : Cond.code (pw_inf 10).1 (pw_inf 10).2.1 (pw_inf 10).2.2.1 (pw_inf 10).2.2.2 ∈ lw_tbl := List.mem_of_getElem? (i := 247) rfl
set_option maxRecDepth 20000 in
theorem pw_cw_11 : Cond.code (pw_inf 11).1 (pw_inf 11).2.1 (pw_inf 11).2.2.1 (pw_inf 11).2.2.2 ∈ lw_tbl := List.mem_of_getElem? (i := 255) rfl
set_option maxRecDepth 20000 in
theorem pw_cw_12 : Cond.code (pw_inf 12).1 (pw_inf 12).2.1 (pw_inf 12).2.2.1 (pw_inf 12).2.2.2 ∈ lw_tbl := List.mem_of_getElem? (i := 287) rfl
set_option maxRecDepth 20000 in
theorem pw_cw_13 : Cond.code (pw_inf 13).1 (pw_inf 13).2.1 (pw_inf 13).2.2.1 (pw_inf 13).2.2.2 ∈ lw_tbl := List.mem_of_getElem? (i := 263) rfl
set_option maxRecDepth 20000 in
theorem pw_cw_14 : Cond.code (pw_inf 14).1 (pw_inf 14).2.1 (pw_inf 14).2.2.1 (pw_inf 14).2.2.2 ∈ lw_tbl := List.mem_of_getElem? (i := 201) rfl
set_option maxRecDepth 20000 in
theorem pw_cw_15 : Cond.code (pw_inf 15).1 (pw_inf 15).2.1 (pw_inf 15).2.2.1 (pw_inf 15).2.2.2 ∈ lw_tbl := List.mem_of_getElem? (i := 205) rfl
set_option maxRecDepth 20000 in
theorem pw_cw_16 : Cond.code (pw_inf 16).1 (pw_inf 16).2.1 (pw_inf 16).2.2.1 (pw_inf 16).2.2.2 ∈ lw_tbl := List.mem_of_getElem? (i := 213) rfl
set_option maxRecDepth 20000 in
theorem pw_cw_17 : Cond.code (pw_inf 17).1 (pw_inf 17).2.1 (pw_inf 17).2.2.1 (pw_inf 17).2.2.2 ∈ lw_tbl := List.mem_of_getElem? (i := 230) rfl
set_option maxRecDepth 20000 in
theorem pw_cw_18 : Cond.code (pw_inf 18).1 (pw_inf 18).2.1 (pw_inf 18).2.2.1 (pw_inf 18).2.2.2 ∈ lw_tbl := List.mem_of_getElem? (i := 235) rfl
set_option maxRecDepth 20000 in
theorem pw_cw_19 : Cond.code (pw_inf 19).1 (pw_inf 19).2.1 (pw_inf 19).2.2.1 (pw_inf 19).2.2.2 ∈ lw_tbl := List.mem_of_getElem? (i := 209) rfl
set_option maxRecDepth 20000 in
theorem pw_cw_20 : Cond.code (pw_inf 20).1 (pw_inf 20).2.1 (pw_inf 20).2.2.1 (pw_inf 20).2.2.2 ∈ lw_tbl := List.mem_of_getElem? (i := 217) rfl
set_option maxRecDepth 20000 in
theorem pw_cw_21 : Cond.code (pw_inf 21).1 (pw_inf 21).2.1 (pw_inf 21).2.2.1 (pw_inf 21).2.2.2 ∈ lw_tbl := List.mem_of_getElem? (i := 222) rfl
set_option maxRecDepth 20000 in
theorem pw_cw_22 : Cond.code (pw_inf 22).1 (pw_inf 22).2.1 (pw_inf 22).2.2.1 (pw_inf 22).2.2.2 ∈ lw_tbl := List.mem_of_getElem? (i := 226) rfl
set_option maxRecDepth 20000 in
theorem pw_cw_23 : Cond.code (pw_inf 23).1 (pw_inf 23).2.1 (pw_inf 23).2.2.1 (pw_inf 23).2.2.2 ∈ lw_tbl := List.mem_of_getElem? (i := 50) rfl
set_option maxRecDepth 20000 in
theorem pw_cw_24 : Cond.code (pw_inf 24).1 (pw_inf 24).2.1 (pw_inf 24).2.2.1 (pw_inf 24).2.2.2 ∈ lw_tbl := List.mem_of_getElem? (i := 139) rfl
set_option maxRecDepth 20000 in
theorem pw_cw_25 : Cond.code (pw_inf 25).1 (pw_inf 25).2.1 (pw_inf 25).2.2.1 (pw_inf 25).2.2.2 ∈ lw_tbl := List.mem_of_getElem? (i := 185) rfl
set_option maxRecDepth 20000 in
theorem pw_cw_26 : Cond.code (pw_inf 26).1 (pw_inf 26).2.1 (pw_inf 26).2.2.1 (pw_inf 26).2.2.2 ∈ lw_tbl := List.mem_of_getElem? (i := 243) rfl
set_option maxRecDepth 20000 in
theorem pw_cw_27 : Cond.code (pw_inf 27).1 (pw_inf 27).2.1 (pw_inf 27).2.2.1 (pw_inf 27).2.2.2 ∈ lw_tbl := List.mem_of_getElem? (i := 251) rfl
set_option maxRecDepth 20000 in
theorem pw_cw_28 : Cond.code (pw_inf 28).1 (pw_inf 28).2.1 (pw_inf 28).2.2.1 (pw_inf 28).2.2.2 ∈ lw_tbl := List.mem_of_getElem? (i := 259) rfl
set_option maxRecDepth 20000 in
theorem pw_cw_29 : Cond.code (pw_inf 29).1 (pw_inf 29).2.1 (pw_inf 29).2.2.1 (pw_inf 29).2.2.2 ∈ lw_tbl := List.mem_of_getElem? (i := 273) rfl
set_option maxRecDepth 20000 in
theorem pw_cw_30 : Cond.code (pw_inf 30).1 (pw_inf 30).2.1 (pw_inf 30).2.2.1 (pw_inf 30).2.2.2 ∈ lw_tbl := List.mem_of_getElem? (i := 292) rfl
set_option maxRecDepth 20000 in
theorem pw_cw_31 : Cond.code (pw_inf 31).1 (pw_inf 31).2.1 (pw_inf 31).2.2.1 (pw_inf 31).2.2.2 ∈ lw_tbl := List.mem_of_getElem? (i := 312) rfl
set_option maxRecDepth 20000 in
theorem pw_cw_32 : Cond.code (pw_inf 32).1 (pw_inf 32).2.1 (pw_inf 32).2.2.1 (pw_inf 32).2.2.2 ∈ lw_tbl := List.mem_of_getElem? (i := 327) rfl
set_option maxRecDepth 20000 in
theorem pw_cw_33 : Cond.code (pw_inf 33).1 (pw_inf 33).2.1 (pw_inf 33).2.2.1 (pw_inf 33).2.2.2 ∈ lw_tbl := List.mem_of_getElem? (i := 332) rfl
set_option maxRecDepth 20000 in
theorem pw_cw_34 : Cond.code (pw_inf 34).1 (pw_inf 34).2.1 (pw_inf 34).2.2.1 (pw_inf 34).2.2.2 ∈ lw_tbl := List.mem_of_getElem? (i := 336) rfl
set_option maxRecDepth 20000 in
theorem pw_cw_35 : Cond.code (pw_inf 35).1 (pw_inf 35).2.1 (pw_inf 35).2.2.1 (pw_inf 35).2.2.2 ∈ lw_tbl := List.mem_of_getElem? (i := 343) rfl
set_option maxRecDepth 20000 in
theorem pw_cw_36 : Cond.code (pw_inf 36).1 (pw_inf 36).2.1 (pw_inf 36).2.2.1 (pw_inf 36).2.2.2 ∈ lw_tbl := List.mem_of_getElem? (i := 359) rfl
set_option maxRecDepth 20000 in
theorem pw_cw_37 : Cond.code (pw_inf 37).1 (pw_inf 37).2.1 (pw_inf 37).2.2.1 (pw_inf 37).2.2.2 ∈ lw_tbl := List.mem_of_getElem? (i := 363) rfl
set_option maxRecDepth 20000 in
theorem pw_cw_38 : Cond.code (pw_inf 38).1 (pw_inf 38).2.1 (pw_inf 38).2.2.1 (pw_inf 38).2.2.2 ∈ lw_tbl := List.mem_of_getElem? (i := 367) rfl
set_option maxRecDepth 20000 in
theorem pw_cw_39 : Cond.code (pw_inf 39).1 (pw_inf 39).2.1 (pw_inf 39).2.2.1 (pw_inf 39).2.2.2 ∈ lw_tbl := List.mem_of_getElem? (i := 371) rfl
set_option maxRecDepth 20000 in
theorem pw_cw_40 : Cond.code (pw_inf 40).1 (pw_inf 40).2.1 (pw_inf 40).2.2.1 (pw_inf 40).2.2.2 ∈ lw_tbl := List.mem_of_getElem? (i := 375) rfl
set_option maxRecDepth 20000 in
theorem pw_cw_41 : Cond.code (pw_inf 41).1 (pw_inf 41).2.1 (pw_inf 41).2.2.1 (pw_inf 41).2.2.2 ∈ lw_tbl := List.mem_of_getElem? (i := 409) rfl
set_option maxRecDepth 20000 in
theorem pw_cw_42 : Cond.code (pw_inf 42).1 (pw_inf 42).2.1 (pw_inf 42).2.2.1 (pw_inf 42).2.2.2 ∈ lw_tbl := List.mem_of_getElem? (i := 413) rfl
set_option maxRecDepth 20000 in
theorem pw_cw_43 : Cond.code (pw_inf 43).1 (pw_inf 43).2.1 (pw_inf 43).2.2.1 (pw_inf 43).2.2.2 ∈ lw_tbl := List.mem_of_getElem? (i := 425) rfl
set_option maxRecDepth 20000 in
theorem pw_cw_44 : Cond.code (pw_inf 44).1 (pw_inf 44).2.1 (pw_inf 44).2.2.1 (pw_inf 44).2.2.2 ∈ lw_tbl := List.mem_of_getElem? (i := 433) rfl
set_option maxRecDepth 20000 in
theorem pw_cw_45 : Cond.code (pw_inf 45).1 (pw_inf 45).2.1 (pw_inf 45).2.2.1 (pw_inf 45).2.2.2 ∈ lw_tbl := List.mem_of_getElem? (i := 437) rfl
set_option maxRecDepth 20000 in
theorem pw_cw_46 : Cond.code (pw_inf 46).1 (pw_inf 46).2.1 (pw_inf 46).2.2.1 (pw_inf 46).2.2.2 ∈ lw_tbl := List.mem_of_getElem? (i := 441) rfl
set_option maxRecDepth 20000 in
theorem pw_cw_47 : Cond.code (pw_inf 47).1 (pw_inf 47).2.1 (pw_inf 47).2.2.1 (pw_inf 47).2.2.2 ∈ lw_tbl := List.mem_of_getElem? (i := 457) rfl
set_option maxRecDepth 20000 in
theorem pw_cw_48 : Cond.code (pw_inf 48).1 (pw_inf 48).2.1 (pw_inf 48).2.2.1 (pw_inf 48).2.2.2 ∈ lw_tbl := List.mem_of_getElem? (i := 145) rfl
set_option maxRecDepth 20000 in
theorem pw_cw_49 : Cond.code (pw_inf 49).1 (pw_inf 49).2.1 (pw_inf 49).2.2.1 (pw_inf 49).2.2.2 ∈ lw_tbl := List.mem_of_getElem? (i := 142) rfl
set_option maxRecDepth 20000 in
theorem pw_cw_50 : Cond.code (pw_inf 50).1 (pw_inf 50).2.1 (pw_inf 50).2.2.1 (pw_inf 50).2.2.2 ∈ lw_tbl := List.mem_of_getElem? (i := 276) rfl
set_option maxRecDepth 20000 in
theorem pw_cw_51 : Cond.code (pw_inf 51).1 (pw_inf 51).2.1 (pw_inf 51).2.2.1 (pw_inf 51).2.2.2 ∈ lw_tbl := List.mem_of_getElem? (i := 299) rfl
set_option maxRecDepth 20000 in
theorem pw_cw_52 : Cond.code (pw_inf 52).1 (pw_inf 52).2.1 (pw_inf 52).2.2.1 (pw_inf 52).2.2.2 ∈ lw_tbl := List.mem_of_getElem? (i := 296) rfl
set_option maxRecDepth 20000 in
theorem pw_cw_53 : Cond.code (pw_inf 53).1 (pw_inf 53).2.1 (pw_inf 53).2.2.1 (pw_inf 53).2.2.2 ∈ lw_tbl := List.mem_of_getElem? (i := 351) rfl
set_option maxRecDepth 20000 in
theorem pw_cw_54 : Cond.code (pw_inf 54).1 (pw_inf 54).2.1 (pw_inf 54).2.2.1 (pw_inf 54).2.2.2 ∈ lw_tbl := List.mem_of_getElem? (i := 339) rfl
set_option maxRecDepth 20000 in
theorem pw_cw_55 : Cond.code (pw_inf 55).1 (pw_inf 55).2.1 (pw_inf 55).2.2.1 (pw_inf 55).2.2.2 ∈ lw_tbl := List.mem_of_getElem? (i := 279) rfl
set_option maxRecDepth 20000 in
theorem pw_cw_56 : Cond.code (pw_inf 56).1 (pw_inf 56).2.1 (pw_inf 56).2.2.1 (pw_inf 56).2.2.2 ∈ lw_tbl := List.mem_of_getElem? (i := 189) rfl
set_option maxRecDepth 20000 in
theorem pw_cw_57 : Cond.code (pw_inf 57).1 (pw_inf 57).2.1 (pw_inf 57).2.2.1 (pw_inf 57).2.2.2 ∈ lw_tbl := List.mem_of_getElem? (i := 417) rfl
set_option maxRecDepth 20000 in
theorem pw_cw_58 : Cond.code (pw_inf 58).1 (pw_inf 58).2.1 (pw_inf 58).2.2.1 (pw_inf 58).2.2.2 ∈ lw_tbl := List.mem_of_getElem? (i := 283) rfl
set_option maxRecDepth 20000 in
theorem pw_cw_59 : Cond.code (pw_inf 59).1 (pw_inf 59).2.1 (pw_inf 59).2.2.1 (pw_inf 59).2.2.2 ∈ lw_tbl := List.mem_of_getElem? (i := 316) rfl
set_option maxRecDepth 20000 in
theorem pw_cw_60 : Cond.code (pw_inf 60).1 (pw_inf 60).2.1 (pw_inf 60).2.2.1 (pw_inf 60).2.2.2 ∈ lw_tbl := List.mem_of_getElem? (i := 319) rfl
set_option maxRecDepth 20000 in
theorem pw_cw_61 : Cond.code (pw_inf 61).1 (pw_inf 61).2.1 (pw_inf 61).2.2.1 (pw_inf 61).2.2.2 ∈ lw_tbl := List.mem_of_getElem? (i := 421) rfl
set_option maxRecDepth 20000 in
theorem pw_cw_62 : Cond.code (pw_inf 62).1 (pw_inf 62).2.1 (pw_inf 62).2.2.1 (pw_inf 62).2.2.2 ∈ lw_tbl := List.mem_of_getElem? (i := 347) rfl
set_option maxRecDepth 20000 in
theorem pw_cw_63 : Cond.code (pw_inf 63).1 (pw_inf 63).2.1 (pw_inf 63).2.2.1 (pw_inf 63).2.2.2 ∈ lw_tbl := List.mem_of_getElem? (i := 355) rfl
set_option maxRecDepth 20000 in
theorem pw_cw_64 : Cond.code (pw_inf 64).1 (pw_inf 64).2.1 (pw_inf 64).2.2.1 (pw_inf 64).2.2.2 ∈ lw_tbl := List.mem_of_getElem? (i := 429) rfl
set_option maxRecDepth 20000 in
theorem pw_cw_65 : Cond.code (pw_inf 65).1 (pw_inf 65).2.1 (pw_inf 65).2.2.1 (pw_inf 65).2.2.2 ∈ lw_tbl := List.mem_of_getElem? (i := 445) rfl
set_option maxRecDepth 20000 in
theorem pw_cw_66 : Cond.code (pw_inf 66).1 (pw_inf 66).2.1 (pw_inf 66).2.2.1 (pw_inf 66).2.2.2 ∈ lw_tbl := List.mem_of_getElem? (i := 449) rfl
set_option maxRecDepth 20000 in
theorem pw_cw_67 : Cond.code (pw_inf 67).1 (pw_inf 67).2.1 (pw_inf 67).2.2.1 (pw_inf 67).2.2.2 ∈ lw_tbl := List.mem_of_getElem? (i := 453) rfl
set_option maxRecDepth 20000 in
theorem pw_cw_68 : Cond.code (pw_inf 68).1 (pw_inf 68).2.1 (pw_inf 68).2.2.1 (pw_inf 68).2.2.2 ∈ lw_tbl := List.mem_of_getElem? (i := 466) rfl
set_option maxRecDepth 20000 in
theorem pw_cw_69 : Cond.code (pw_inf 69).1 (pw_inf 69).2.1 (pw_inf 69).2.2.1 (pw_inf 69).2.2.2 ∈ lw_tbl := List.mem_of_getElem? (i := 599) rfl
set_option maxRecDepth 20000 in
theorem pw_cw_70 : Cond.code (pw_inf 70).1 (pw_inf 70).2.1 (pw_inf 70).2.2.1 (pw_inf 70).2.2.2 ∈ lw_tbl := List.mem_of_getElem? (i := 596) rfl
set_option maxRecDepth 20000 in
theorem pw_cw_71 : Cond.code (pw_inf 71).1 (pw_inf 71).2.1 (pw_inf 71).2.2.1 (pw_inf 71).2.2.2 ∈ lw_tbl := List.mem_of_getElem? (i := 646) rfl
set_option maxRecDepth 20000 in
theorem pw_cw_72 : Cond.code (pw_inf 72).1 (pw_inf 72).2.1 (pw_inf 72).2.2.1 (pw_inf 72).2.2.2 ∈ lw_tbl := List.mem_of_getElem? (i := 657) rfl
set_option maxRecDepth 20000 in
theorem pw_cw_73 : Cond.code (pw_inf 73).1 (pw_inf 73).2.1 (pw_inf 73).2.2.1 (pw_inf 73).2.2.2 ∈ lw_tbl := List.mem_of_getElem? (i := 607) rfl
set_option maxRecDepth 20000 in
theorem pw_cw_74 : Cond.code (pw_inf 74).1 (pw_inf 74).2.1 (pw_inf 74).2.2.1 (pw_inf 74).2.2.2 ∈ lw_tbl := List.mem_of_getElem? (i := 593) rfl
set_option maxRecDepth 20000 in
theorem pw_cw_75 : Cond.code (pw_inf 75).1 (pw_inf 75).2.1 (pw_inf 75).2.2.1 (pw_inf 75).2.2.2 ∈ lw_tbl := List.mem_of_getElem? (i := 603) rfl
set_option maxRecDepth 20000 in
theorem pw_cw_76 : Cond.code (pw_inf 76).1 (pw_inf 76).2.1 (pw_inf 76).2.2.1 (pw_inf 76).2.2.2 ∈ lw_tbl := List.mem_of_getElem? (i := 611) rfl
set_option maxRecDepth 20000 in
theorem pw_cw_77 : Cond.code (pw_inf 77).1 (pw_inf 77).2.1 (pw_inf 77).2.2.1 (pw_inf 77).2.2.2 ∈ lw_tbl := List.mem_of_getElem? (i := 623) rfl
set_option maxRecDepth 20000 in
theorem pw_cw_78 : Cond.code (pw_inf 78).1 (pw_inf 78).2.1 (pw_inf 78).2.2.1 (pw_inf 78).2.2.2 ∈ lw_tbl := List.mem_of_getElem? (i := 627) rfl
set_option maxRecDepth 20000 in
theorem pw_cw_79 : Cond.code (pw_inf 79).1 (pw_inf 79).2.1 (pw_inf 79).2.2.1 (pw_inf 79).2.2.2 ∈ lw_tbl := List.mem_of_getElem? (i := 619) rfl
set_option maxRecDepth 20000 in
theorem pw_cw_80 : Cond.code (pw_inf 80).1 (pw_inf 80).2.1 (pw_inf 80).2.2.1 (pw_inf 80).2.2.2 ∈ lw_tbl := List.mem_of_getElem? (i := 615) rfl
set_option maxRecDepth 20000 in
theorem pw_cw_81 : Cond.code (pw_inf 81).1 (pw_inf 81).2.1 (pw_inf 81).2.2.1 (pw_inf 81).2.2.2 ∈ lw_tbl := List.mem_of_getElem? (i := 639) rfl
set_option maxRecDepth 20000 in
theorem pw_cw_82 : Cond.code (pw_inf 82).1 (pw_inf 82).2.1 (pw_inf 82).2.2.1 (pw_inf 82).2.2.2 ∈ lw_tbl := List.mem_of_getElem? (i := 635) rfl
set_option maxRecDepth 20000 in
theorem pw_cw_83 : Cond.code (pw_inf 83).1 (pw_inf 83).2.1 (pw_inf 83).2.2.1 (pw_inf 83).2.2.2 ∈ lw_tbl := List.mem_of_getElem? (i := 631) rfl
set_option maxRecDepth 20000 in
theorem pw_cw_84 : Cond.code (pw_inf 84).1 (pw_inf 84).2.1 (pw_inf 84).2.2.1 (pw_inf 84).2.2.2 ∈ lw_tbl := List.mem_of_getElem? (i := 650) rfl
set_option maxRecDepth 20000 in
theorem pw_cw_85 : Cond.code (pw_inf 85).1 (pw_inf 85).2.1 (pw_inf 85).2.2.1 (pw_inf 85).2.2.2 ∈ lw_tbl := List.mem_of_getElem? (i := 643) rfl
set_option maxRecDepth 20000 in
theorem pw_cw_86 : Cond.code (pw_inf 86).1 (pw_inf 86).2.1 (pw_inf 86).2.2.1 (pw_inf 86).2.2.2 ∈ lw_tbl := List.mem_of_getElem? (i := 654) rfl
set_option maxRecDepth 20000 in
theorem pw_cw_87 : Cond.code (pw_inf 87).1 (pw_inf 87).2.1 (pw_inf 87).2.2.1 (pw_inf 87).2.2.2 ∈ lw_tbl := List.mem_of_getElem? (i := 665) rfl
set_option maxRecDepth 20000 in
theorem pw_cw_88 : Cond.code (pw_inf 88).1 (pw_inf 88).2.1 (pw_inf 88).2.2.1 (pw_inf 88).2.2.2 ∈ lw_tbl := List.mem_of_getElem? (i := 661) rfl
set_option maxRecDepth 20000 in
theorem pw_cw_89 : Cond.code (pw_inf 89).1 (pw_inf 89).2.1 (pw_inf 89).2.2.1 (pw_inf 89).2.2.2 ∈ lw_tbl := List.mem_of_getElem? (i := 672) rfl
set_option maxRecDepth 20000 in
theorem pw_cw_90 : Cond.code (pw_inf 90).1 (pw_inf 90).2.1 (pw_inf 90).2.2.1 (pw_inf 90).2.2.2 ∈ lw_tbl := List.mem_of_getElem? (i := 669) rfl
set_option maxRecDepth 20000 in
theorem pw_cw_91 : Cond.code (pw_inf 91).1 (pw_inf 91).2.1 (pw_inf 91).2.2.1 (pw_inf 91).2.2.2 ∈ lw_tbl := List.mem_of_getElem? (i := 676) rfl
set_option maxRecDepth 20000 in
theorem pw_cw_92 : Cond.code (pw_inf 92).1 (pw_inf 92).2.1 (pw_inf 92).2.2.1 (pw_inf 92).2.2.2 ∈ lw_tbl := List.mem_of_getElem? (i := 692) rfl
set_option maxRecDepth 20000 in
theorem pw_cw_93 : Cond.code (pw_inf 93).1 (pw_inf 93).2.1 (pw_inf 93).2.2.1 (pw_inf 93).2.2.2 ∈ lw_tbl := List.mem_of_getElem? (i := 680) rfl
set_option maxRecDepth 20000 in
theorem pw_cw_94 : Cond.code (pw_inf 94).1 (pw_inf 94).2.1 (pw_inf 94).2.2.1 (pw_inf 94).2.2.2 ∈ lw_tbl := List.mem_of_getElem? (i := 696) rfl
set_option maxRecDepth 20000 in
theorem pw_cw_95 : Cond.code (pw_inf 95).1 (pw_inf 95).2.1 (pw_inf 95).2.2.1 (pw_inf 95).2.2.2 ∈ lw_tbl := List.mem_of_getElem? (i := 688) rfl
set_option maxRecDepth 20000 in
theorem pw_cw_96 : Cond.code (pw_inf 96).1 (pw_inf 96).2.1 (pw_inf 96).2.2.1 (pw_inf 96).2.2.2 ∈ lw_tbl := List.mem_of_getElem? (i := 684) rfl
set_option maxRecDepth 20000 in
theorem pw_cw_97 : Cond.code (pw_inf 97).1 (pw_inf 97).2.1 (pw_inf 97).2.2.1 (pw_inf 97).2.2.2 ∈ lw_tbl := List.mem_of_getElem? (i := 700) rfl
set_option maxRecDepth 20000 in
theorem pw_cw_98 : Cond.code (pw_inf 98).1 (pw_inf 98).2.1 (pw_inf 98).2.2.1 (pw_inf 98).2.2.2 ∈ lw_tbl := List.mem_of_getElem? (i := 708) rfl
set_option maxRecDepth 20000 in
theorem pw_cw_99 : Cond.code (pw_inf 99).1 (pw_inf 99).2.1 (pw_inf 99).2.2.1 (pw_inf 99).2.2.2 ∈ lw_tbl := List.mem_of_getElem? (i := 704) rfl
set_option maxRecDepth 20000 in
theorem pw_cw_100 : Cond.code (pw_inf 100).1 (pw_inf 100).2.1 (pw_inf 100).2.2.1 (pw_inf 100).2.2.2 ∈ lw_tbl := List.mem_of_getElem? (i := 712) rfl
set_option maxRecDepth 20000 in
theorem pw_cw_101 : Cond.code (pw_inf 101).1 (pw_inf 101).2.1 (pw_inf 101).2.2.1 (pw_inf 101).2.2.2 ∈ lw_tbl := List.mem_of_getElem? (i := 716) rfl
set_option maxRecDepth 20000 in
theorem pw_cw_102 : Cond.code (pw_inf 102).1 (pw_inf 102).2.1 (pw_inf 102).2.2.1 (pw_inf 102).2.2.2 ∈ lw_tbl := List.mem_of_getElem? (i := 720) rfl
set_option maxRecDepth 20000 in
theorem pw_cw_103 : Cond.code (pw_inf 103).1 (pw_inf 103).2.1 (pw_inf 103).2.2.1 (pw_inf 103).2.2.2 ∈ lw_tbl := List.mem_of_getElem? (i := 724) rfl
set_option maxRecDepth 20000 in
theorem pw_cw_104 : Cond.code (pw_inf 104).1 (pw_inf 104).2.1 (pw_inf 104).2.2.1 (pw_inf 104).2.2.2 ∈ lw_tbl := List.mem_of_getElem? (i := 732) rfl
set_option maxRecDepth 20000 in
theorem pw_cw_105 : Cond.code (pw_inf 105).1 (pw_inf 105).2.1 (pw_inf 105).2.2.1 (pw_inf 105).2.2.2 ∈ lw_tbl := List.mem_of_getElem? (i := 736) rfl
set_option maxRecDepth 20000 in
theorem pw_cw_106 : Cond.code (pw_inf 106).1 (pw_inf 106).2.1 (pw_inf 106).2.2.1 (pw_inf 106).2.2.2 ∈ lw_tbl := List.mem_of_getElem? (i := 728) rfl
set_option maxRecDepth 20000 in
theorem pw_cw_107 : Cond.code (pw_inf 107).1 (pw_inf 107).2.1 (pw_inf 107).2.2.1 (pw_inf 107).2.2.2 ∈ lw_tbl := List.mem_of_getElem? (i := 744) rfl
set_option maxRecDepth 20000 in
theorem pw_cw_108 : Cond.code (pw_inf 108).1 (pw_inf 108).2.1 (pw_inf 108).2.2.1 (pw_inf 108).2.2.2 ∈ lw_tbl := List.mem_of_getElem? (i := 740) rfl
set_option maxRecDepth 20000 in
theorem pw_cw_109 : Cond.code (pw_inf 109).1 (pw_inf 109).2.1 (pw_inf 109).2.2.1 (pw_inf 109).2.2.2 ∈ lw_tbl := List.mem_of_getElem? (i := 748) rfl
set_option maxRecDepth 20000 in
theorem pw_cw_110 : Cond.code (pw_inf 110).1 (pw_inf 110).2.1 (pw_inf 110).2.2.1 (pw_inf 110).2.2.2 ∈ lw_tbl := List.mem_of_getElem? (i := 752) rfl
set_option maxRecDepth 20000 in
theorem pw_cw_111 : Cond.code (pw_inf 111).1 (pw_inf 111).2.1 (pw_inf 111).2.2.1 (pw_inf 111).2.2.2 ∈ lw_tbl := List.mem_of_getElem? (i := 760) rfl
set_option maxRecDepth 20000 in
theorem pw_cw_112 : Cond.code (pw_inf 112).1 (pw_inf 112).2.1 (pw_inf 112).2.2.1 (pw_inf 112).2.2.2 ∈ lw_tbl := List.mem_of_getElem? (i := 756) rfl
set_option maxRecDepth 20000 in
theorem pw_cw_113 : Cond.code (pw_inf 113).1 (pw_inf 113).2.1 (pw_inf 113).2.2.1 (pw_inf 113).2.2.2 ∈ lw_tbl := List.mem_of_getElem? (i := 764) rfl
set_option maxRecDepth 20000 in
theorem pw_cw_114 : Cond.code (pw_inf 114).1 (pw_inf 114).2.1 (pw_inf 114).2.2.1 (pw_inf 114).2.2.2 ∈ lw_tbl := List.mem_of_getElem? (i := 266) rfl
theorem pw_chk {M : Nat} {m : pw_I × List (Nat × pw_O)} (h : pw_ms[M]? = some m) : ∀ e ∈ m.2, pw_ok m.1 e = true := by
  have hlt : M < 115 := (List.getElem?_eq_some_iff.mp h).1
  have key : ∀ M, M < 115 → ∀ m, pw_ms[M]? = some m → m.2.all (pw_ok m.1) = true := by
    intro M hM
    match M, hM with
    | 0, _ => intro m hm; obtain rfl := Option.some.inj hm; exact pw_ck_0
    | 1, _ => intro m hm; obtain rfl := Option.some.inj hm; exact pw_ck_1
    | 2, _ => intro m hm; obtain rfl := Option.some.inj hm; exact pw_ck_2
    | 3, _ => intro m hm; obtain rfl := Option.some.inj hm; exact pw_ck_3
    | 4, _ => intro m hm; obtain rfl := Option.some.inj hm; exact pw_ck_4
    | 5, _ => intro m hm; obtain rfl := Option.some.inj hm; exact pw_ck_5
    | 6, _ => intro m hm; obtain rfl := Option.some.inj hm; exact pw_ck_6
    | 7, _ => intro m hm; obtain rfl := Option.some.inj hm; exact pw_ck_7
    | 8, _ => intro m hm; obtain rfl := Option.some.inj hm; exact pw_ck_8
    | 9, _ => intro m hm; obtain rfl := Option.some.inj hm; exact pw_ck_9
    | 10, _ => intro m hm; obtain rfl := Option.some.inj hm; exact pw_ck_10
    | 11, _ => intro m hm; obtain rfl := Option.some.inj hm; exact pw_ck_11
    | 12, _ => intro m hm; obtain rfl := Option.some.inj hm; exact pw_ck_12
    | 13, _ => intro m hm; obtain rfl := Option.some.inj hm; exact pw_ck_13
    | 14, _ => intro m hm; obtain rfl := Option.some.inj hm; exact pw_ck_14
    | 15, _ => intro m hm; obtain rfl := Option.some.inj hm; exact pw_ck_15
    | 16, _ => intro m hm; obtain rfl := Option.some.inj hm; exact pw_ck_16
    | 17, _ => intro m hm; obtain rfl := Option.some.inj hm; exact pw_ck_17
    | 18, _ => intro m hm; obtain rfl := Option.some.inj hm; exact pw_ck_18
    | 19, _ => intro m hm; obtain rfl := Option.some.inj hm; exact pw_ck_19
    | 20, _ => intro m hm; obtain rfl := Option.some.inj hm; exact pw_ck_20
    | 21, _ => intro m hm; obtain rfl := Option.some.inj hm; exact pw_ck_21
    | 22, _ => intro m hm; obtain rfl := Option.some.inj hm; exact pw_ck_22
    | 23, _ => intro m hm; obtain rfl := Option.some.inj hm; exact pw_ck_23
    | 24, _ => intro m hm; obtain rfl := Option.some.inj hm; exact pw_ck_24
    | 25, _ => intro m hm; obtain rfl := Option.some.inj hm; exact pw_ck_25
    | 26, _ => intro m hm; obtain rfl := Option.some.inj hm; exact pw_ck_26
    | 27, _ => intro m hm; obtain rfl := Option.some.inj hm; exact pw_ck_27
    | 28, _ => intro m hm; obtain rfl := Option.some.inj hm; exact pw_ck_28
    | 29, _ => intro m hm; obtain rfl := Option.some.inj hm; exact pw_ck_29
    | 30, _ => intro m hm; obtain rfl := Option.some.inj hm; exact pw_ck_30
    | 31, _ => intro m hm; obtain rfl := Option.some.inj hm; exact pw_ck_31
    | 32, _ => intro m hm; obtain rfl := Option.some.inj hm; exact pw_ck_32
    | 33, _ => intro m hm; obtain rfl := Option.some.inj hm; exact pw_ck_33
    | 34, _ => intro m hm; obtain rfl := Option.some.inj hm; exact pw_ck_34
    | 35, _ => intro m hm; obtain rfl := Option.some.inj hm; exact pw_ck_35
    | 36, _ => intro m hm; obtain rfl := Option.some.inj hm; exact pw_ck_36
    | 37, _ => intro m hm; obtain rfl := Option.some.inj hm; exact pw_ck_37
    | 38, _ => intro m hm; obtain rfl := Option.some.inj hm; exact pw_ck_38
    | 39, _ => intro m hm; obtain rfl := Option.some.inj hm; exact pw_ck_39
    | 40, _ => intro m hm; obtain rfl := Option.some.inj hm; exact pw_ck_40
    | 41, _ => intro m hm; obtain rfl := Option.some.inj hm; exact pw_ck_41
    | 42, _ => intro m hm; obtain rfl := Option.some.inj hm; exact pw_ck_42
    | 43, _ => intro m hm; obtain rfl := Option.some.inj hm; exact pw_ck_43
    | 44, _ => intro m hm; obtain rfl := Option.some.inj hm; exact pw_ck_44
    | 45, _ => intro m hm; obtain rfl := Option.some.inj hm; exact pw_ck_45
    | 46, _ => intro m hm; obtain rfl := Option.some.inj hm; exact pw_ck_46
    | 47, _ => intro m hm; obtain rfl := Option.some.inj hm; exact pw_ck_47
    | 48, _ => intro m hm; obtain rfl := Option.some.inj hm; exact pw_ck_48
    | 49, _ => intro m hm; obtain rfl := Option.some.inj hm; exact pw_ck_49
    | 50, _ => intro m hm; obtain rfl := Option.some.inj hm; exact pw_ck_50
    | 51, _ => intro m hm; obtain rfl := Option.some.inj hm; exact pw_ck_51
    | 52, _ => intro m hm; obtain rfl := Option.some.inj hm; exact pw_ck_52
    | 53, _ => intro m hm; obtain rfl := Option.some.inj hm; exact pw_ck_53
    | 54, _ => intro m hm; obtain rfl := Option.some.inj hm; exact pw_ck_54
    | 55, _ => intro m hm; obtain rfl := Option.some.inj hm; exact pw_ck_55
    | 56, _ => intro m hm; obtain rfl := Option.some.inj hm; exact pw_ck_56
    | 57, _ => intro m hm; obtain rfl := Option.some.inj hm; exact pw_ck_57
    | 58, _ => intro m hm; obtain rfl := Option.some.inj hm; exact pw_ck_58
    | 59, _ => intro m hm; obtain rfl := Option.some.inj hm; exact pw_ck_59
    | 60, _ => intro m hm; obtain rfl := Option.some.inj hm; exact pw_ck_60
    | 61, _ => intro m hm; obtain rfl := Option.some.inj hm; exact pw_ck_61
    | 62, _ => intro m hm; obtain rfl := Option.some.inj hm; exact pw_ck_62
    | 63, _ => intro m hm; obtain rfl := Option.some.inj hm; exact pw_ck_63
    | 64, _ => intro m hm; obtain rfl := Option.some.inj hm; exact pw_ck_64
    | 65, _ => intro m hm; obtain rfl := Option.some.inj hm; exact pw_ck_65
    | 66, _ => intro m hm; obtain rfl := Option.some.inj hm; exact pw_ck_66
    | 67, _ => intro m hm; obtain rfl := Option.some.inj hm; exact pw_ck_67
    | 68, _ => intro m hm; obtain rfl := Option.some.inj hm; exact pw_ck_68
    | 69, _ => intro m hm; obtain rfl := Option.some.inj hm; exact pw_ck_69
    | 70, _ => intro m hm; obtain rfl := Option.some.inj hm; exact pw_ck_70
    | 71, _ => intro m hm; obtain rfl := Option.some.inj hm; exact pw_ck_71
    | 72, _ => intro m hm; obtain rfl := Option.some.inj hm; exact pw_ck_72
    | 73, _ => intro m hm; obtain rfl := Option.some.inj hm; exact pw_ck_73
    | 74, _ => intro m hm; obtain rfl := Option.some.inj hm; exact pw_ck_74
    | 75, _ => intro m hm; obtain rfl := Option.some.inj hm; exact pw_ck_75
    | 76, _ => intro m hm; obtain rfl := Option.some.inj hm; exact pw_ck_76
    | 77, _ => intro m hm; obtain rfl := Option.some.inj hm; exact pw_ck_77
    | 78, _ => intro m hm; obtain rfl := Option.some.inj hm; exact pw_ck_78
    | 79, _ => intro m hm; obtain rfl := Option.some.inj hm; exact pw_ck_79
    | 80, _ => intro m hm; obtain rfl := Option.some.inj hm; exact pw_ck_80
    | 81, _ => intro m hm; obtain rfl := Option.some.inj hm; exact pw_ck_81
    | 82, _ => intro m hm; obtain rfl := Option.some.inj hm; exact pw_ck_82
    | 83, _ => intro m hm; obtain rfl := Option.some.inj hm; exact pw_ck_83
    | 84, _ => intro m hm; obtain rfl := Option.some.inj hm; exact pw_ck_84
    | 85, _ => intro m hm; obtain rfl := Option.some.inj hm; exact pw_ck_85
    | 86, _ => intro m hm; obtain rfl := Option.some.inj hm; exact pw_ck_86
    | 87, _ => intro m hm; obtain rfl := Option.some.inj hm; exact pw_ck_87
    | 88, _ => intro m hm; obtain rfl := Option.some.inj hm; exact pw_ck_88
    | 89, _ => intro m hm; obtain rfl := Option.some.inj hm; exact pw_ck_89
    | 90, _ => intro m hm; obtain rfl := Option.some.inj hm; exact pw_ck_90
    | 91, _ => intro m hm; obtain rfl := Option.some.inj hm; exact pw_ck_91
    | 92, _ => intro m hm; obtain rfl := Option.some.inj hm; exact pw_ck_92
    | 93, _ => intro m hm; obtain rfl := Option.some.inj hm; exact pw_ck_93
    | 94, _ => intro m hm; obtain rfl := Option.some.inj hm; exact pw_ck_94
    | 95, _ => intro m hm; obtain rfl := Option.some.inj hm; exact pw_ck_95
    | 96, _ => intro m hm; obtain rfl := Option.some.inj hm; exact pw_ck_96
    | 97, _ => intro m hm; obtain rfl := Option.some.inj hm; exact pw_ck_97
    | 98, _ => intro m hm; obtain rfl := Option.some.inj hm; exact pw_ck_98
    | 99, _ => intro m hm; obtain rfl := Option.some.inj hm; exact pw_ck_99
    | 100, _ => intro m hm; obtain rfl := Option.some.inj hm; exact pw_ck_100
    | 101, _ => intro m hm; obtain rfl := Option.some.inj hm; exact pw_ck_101
    | 102, _ => intro m hm; obtain rfl := Option.some.inj hm; exact pw_ck_102
    | 103, _ => intro m hm; obtain rfl := Option.some.inj hm; exact pw_ck_103
    | 104, _ => intro m hm; obtain rfl := Option.some.inj hm; exact pw_ck_104
    | 105, _ => intro m hm; obtain rfl := Option.some.inj hm; exact pw_ck_105
    | 106, _ => intro m hm; obtain rfl := Option.some.inj hm; exact pw_ck_106
    | 107, _ => intro m hm; obtain rfl := Option.some.inj hm; exact pw_ck_107
    | 108, _ => intro m hm; obtain rfl := Option.some.inj hm; exact pw_ck_108
    | 109, _ => intro m hm; obtain rfl := Option.some.inj hm; exact pw_ck_109
    | 110, _ => intro m hm; obtain rfl := Option.some.inj hm; exact pw_ck_110
    | 111, _ => intro m hm; obtain rfl := Option.some.inj hm; exact pw_ck_111
    | 112, _ => intro m hm; obtain rfl := Option.some.inj hm; exact pw_ck_112
    | 113, _ => intro m hm; obtain rfl := Option.some.inj hm; exact pw_ck_113
    | 114, _ => intro m hm; obtain rfl := Option.some.inj hm; exact pw_ck_114
    | k + 115, hM => exact absurd hM (by omega)
  exact List.all_eq_true.mp (key M hlt m h)
theorem pw_cw {M : Nat} (h0 : 0 < M) (h : M < 115) : Cond.code (pw_inf M).1 (pw_inf M).2.1 (pw_inf M).2.2.1 (pw_inf M).2.2.2 ∈ lw_tbl := by
  match M, h0, h with
  | 1, _, _ => exact pw_cw_1
  | 2, _, _ => exact pw_cw_2
  | 3, _, _ => exact pw_cw_3
  | 4, _, _ => exact pw_cw_4
  | 5, _, _ => exact pw_cw_5
  | 6, _, _ => exact pw_cw_6
  | 7, _, _ => exact pw_cw_7
  | 8, _, _ => exact pw_cw_8
  | 9, _, _ => exact pw_cw_9
  | 10, _, _ => exact pw_cw_10
  | 11, _, _ => exact pw_cw_11
  | 12, _, _ => exact pw_cw_12
  | 13, _, _ => exact pw_cw_13
  | 14, _, _ => exact pw_cw_14
  | 15, _, _ => exact pw_cw_15
  | 16, _, _ => exact pw_cw_16
  | 17, _, _ => exact pw_cw_17
  | 18, _, _ => exact pw_cw_18
  | 19, _, _ => exact pw_cw_19
  | 20, _, _ => exact pw_cw_20
  | 21, _, _ => exact pw_cw_21
  | 22, _, _ => exact pw_cw_22
  | 23, _, _ => exact pw_cw_23
  | 24, _, _ => exact pw_cw_24
  | 25, _, _ => exact pw_cw_25
  | 26, _, _ => exact pw_cw_26
  | 27, _, _ => exact pw_cw_27
  | 28, _, _ => exact pw_cw_28
  | 29, _, _ => exact pw_cw_29
  | 30, _, _ => exact pw_cw_30
  | 31, _, _ => exact pw_cw_31
  | 32, _, _ => exact pw_cw_32
  | 33, _, _ => exact pw_cw_33
  | 34, _, _ => exact pw_cw_34
  | 35, _, _ => exact pw_cw_35
  | 36, _, _ => exact pw_cw_36
  | 37, _, _ => exact pw_cw_37
  | 38, _, _ => exact pw_cw_38
  | 39, _, _ => exact pw_cw_39
  | 40, _, _ => exact pw_cw_40
  | 41, _, _ => exact pw_cw_41
  | 42, _, _ => exact pw_cw_42
  | 43, _, _ => exact pw_cw_43
  | 44, _, _ => exact pw_cw_44
  | 45, _, _ => exact pw_cw_45
  | 46, _, _ => exact pw_cw_46
  | 47, _, _ => exact pw_cw_47
  | 48, _, _ => exact pw_cw_48
  | 49, _, _ => exact pw_cw_49
  | 50, _, _ => exact pw_cw_50
  | 51, _, _ => exact pw_cw_51
  | 52, _, _ => exact pw_cw_52
  | 53, _, _ => exact pw_cw_53
  | 54, _, _ => exact pw_cw_54
  | 55, _, _ => exact pw_cw_55
  | 56, _, _ => exact pw_cw_56
  | 57, _, _ => exact pw_cw_57
  | 58, _, _ => exact pw_cw_58
  | 59, _, _ => exact pw_cw_59
  | 60, _, _ => exact pw_cw_60
  | 61, _, _ => exact pw_cw_61
  | 62, _, _ => exact pw_cw_62
  | 63, _, _ => exact pw_cw_63
  | 64, _, _ => exact pw_cw_64
  | 65, _, _ => exact pw_cw_65
  | 66, _, _ => exact pw_cw_66
  | 67, _, _ => exact pw_cw_67
  | 68, _, _ => exact pw_cw_68
  | 69, _, _ => exact pw_cw_69
  | 70, _, _ => exact pw_cw_70
  | 71, _, _ => exact pw_cw_71
  | 72, _, _ => exact pw_cw_72
  | 73, _, _ => exact pw_cw_73
  | 74, _, _ => exact pw_cw_74
  | 75, _, _ => exact pw_cw_75
  | 76, _, _ => exact pw_cw_76
  | 77, _, _ => exact pw_cw_77
  | 78, _, _ => exact pw_cw_78
  | 79, _, _ => exact pw_cw_79
  | 80, _, _ => exact pw_cw_80
  | 81, _, _ => exact pw_cw_81
  | 82, _, _ => exact pw_cw_82
  | 83, _, _ => exact pw_cw_83
  | 84, _, _ => exact pw_cw_84
  | 85, _, _ => exact pw_cw_85
  | 86, _, _ => exact pw_cw_86
  | 87, _, _ => exact pw_cw_87
  | 88, _, _ => exact pw_cw_88
  | 89, _, _ => exact pw_cw_89
  | 90, _, _ => exact pw_cw_90
  | 91, _, _ => exact pw_cw_91
  | 92, _, _ => exact pw_cw_92
  | 93, _, _ => exact pw_cw_93
  | 94, _, _ => exact pw_cw_94
  | 95, _, _ => exact pw_cw_95
  | 96, _, _ => exact pw_cw_96
  | 97, _, _ => exact pw_cw_97
  | 98, _, _ => exact pw_cw_98
  | 99, _, _ => exact pw_cw_99
  | 100, _, _ => exact pw_cw_100
  | 101, _, _ => exact pw_cw_101
  | 102, _, _ => exact pw_cw_102
  | 103, _, _ => exact pw_cw_103
  | 104, _, _ => exact pw_cw_104
  | 105, _, _ => exact pw_cw_105
  | 106, _, _ => exact pw_cw_106
  | 107, _, _ => exact pw_cw_107
  | 108, _, _ => exact pw_cw_108
  | 109, _, _ => exact pw_cw_109
  | 110, _, _ => exact pw_cw_110
  | 111, _, _ => exact pw_cw_111
  | 112, _, _ => exact pw_cw_112
  | 113, _, _ => exact pw_cw_113
  | 114, _, _ => exact pw_cw_114
  | k + 115, _, h => exact absurd h (by omega)
theorem pw_look_mem : ∀ (l : List (Nat × pw_O)) (pc : Nat) (o : pw_O), pw_look l pc = some o → (pc, o) ∈ l
  | [], _, _, h => by cases h
  | e :: l, pc, o, h => by
    unfold pw_look at h
    cases hb : Nat.beq e.1 pc with
    | true =>
      rw [hb] at h
      have h1 : e.2 = o := Option.some.inj h
      have h2 : e.1 = pc := Nat.eq_of_beq_eq_true hb
      rw [← h1, ← h2]
      exact List.mem_cons_self
    | false =>
      rw [hb] at h
      exact List.mem_cons_of_mem _ (pw_look_mem l pc o h)
theorem pw_op_ok {M pc : Nat} {o : pw_O} (h : pw_op M pc = some o) : pw_ok (pw_inf M) (pc, o) = true := by
  unfold pw_op at h
  unfold pw_inf
  cases hm : pw_ms[M]? with
  | none => rw [hm] at h; cases h
  | some m =>
    rw [hm] at h
    exact pw_chk hm _ (pw_look_mem _ _ _ h)
end
section
def pw_ad (b B : Nat) (k : Nat) : Nat := match k with
  | 0 => b
  | k + 1 => B + k
def pw_v (ad : Nat → Nat) (v : pw_V) : Value := match v with
  | .inl x => .int x
  | .inr none => .null
  | .inr (some k) => .ref (ad k)
theorem pw_v_rf (ad : Nat → Nat) (r : Option Nat) : pw_v ad (.inr r) = va_rf (r.map ad) := by cases r <;> rfl
theorem pw_cat (ad : Nat → Nat) (v : pw_V) : (pw_v ad v).category = 1 := by
  obtain x | x := v
  · rfl
  · cases x <;> rfl
theorem pw_cats (ad : Nat → Nat) (st : List pw_V) : ((st.map (pw_v ad)).map fun v => v.category).sum = st.length := by
  induction st with
  | nil => rfl
  | cons a l ih => simp only [List.map_cons, List.sum_cons, List.length_cons, pw_cat, ih]; omega
def pw_e (ad : Nat → Nat) (ca : Nat → ClassId) (c : pw_C) : va_E := match c with
  | .inl (t, n, f) => .inl (ca t, n, .inl f)
  | .inr (.inl (t, n, g)) => .inl (ca (t + 2), n, .inr (.inr (.inr (.inr (fun j => (g j).map ad)))))
  | .inr (.inr (k, fs)) => .inr (k, fs.map (pw_v ad))
abbrev pw_tys (ca : Nat → ClassId) : List (ClassId × FieldType) := [(ca 0, .int), (ca 1, .boolean), (ca 2, .object "BoundWalks$House"), (ca 4, .object "BoundWalks$Walk")]
def pw_tbl : List Cond := lw_tbl.filter goodWord
def pw_isN (w : Cond) : Bool := match w with
  | .fieldLinkNest .. => true
  | .methodLinkNest .. => true
  | _ => false
def pw_wf (c : pw_C) : Prop := match c with
  | .inl (t, _, _) => t = 0 ∨ t = 1
  | .inr (.inl (t, _, _)) => t = 0 ∨ t = 2
  | .inr (.inr _) => True
def pw_rep (D : va_G) (ca : Nat → ClassId) (b B N : Nat) (xs : Nat → Int32) (h : pw_H) (H : Heap) : Prop :=
  h[0]? = some (.inl (2, N, xs)) ∧ H.size + 1 = B + h.length ∧ ∀ (k : Nat) (c : pw_C), h[k + 1]? = some c → pw_wf c ∧ va_at D pw_cl (B + k, pw_e (pw_ad b B) ca c) H
def pw_nw (U : State) : Prop := (∀ w ∈ lw_tbl, pw_isN w = true → va_Nw w U) ∧ va_AO "BoundWalks$House" U ∧ va_AO "BoundWalks$Walk" U
theorem pw_nw.warm {s U : State} (hW : s.WarmedH U.vm) (h : pw_nw s) : pw_nw U := by
  refine ⟨fun w hw hn => ?_, h.2.1.moved hW.alike, h.2.2.moved hW.alike⟩
  have h1 := h.1 w hw hn
  cases w <;> first | exact va_Nw.warmF hW h1 | exact va_Nw.warmM hW h1 | (exact absurd hn (by simp [pw_isN]))
theorem pw_nw.same {u U : State} (hv : u.vm = U.vm) (h : pw_nw u) : pw_nw U := by
  have ha : u.vm.Alike U.vm := by rw [hv]; exact Vm.Alike.refl _
  refine ⟨fun w hw hn => ?_, h.2.1.moved ha, h.2.2.moved ha⟩
  have h1 := h.1 w hw hn
  cases w <;> first | exact va_Nw.same rfl hv h1 | (exact absurd hn (by simp [pw_isN]))
theorem pw_size_set {h : pw_H} {k : Nat} {c c' : pw_C} (hk : h[k]? = some c) (hz : pw_sz c' = pw_sz c) : pw_size (h.set k c') = pw_size h := by
  induction h generalizing k with
  | nil => simp at hk
  | cons a l ih =>
    cases k with
    | zero =>
      simp at hk
      subst hk
      simp [pw_size, hz]
    | succ k =>
      have := ih (k := k) (by simpa using hk)
      simp only [pw_size, List.set_cons_succ, List.map_cons, List.sum_cons] at this ⊢
      omega
theorem pw_size_push (h : pw_H) (c : pw_C) : pw_size (h ++ [c]) = pw_size h + pw_sz c := by simp [pw_size]
section PWREP
variable {D : va_G} {ca : Nat → ClassId} {b B N : Nat} {xs : Nat → Int32} {h : pw_H} {H H1 : Heap}
theorem pw_rep.pos (hR : pw_rep D ca b B N xs h H) : 0 < h.length := (List.getElem?_eq_some_iff.mp hR.1).1
theorem pw_rep.set (hR : pw_rep D ca b B N xs h H) {k : Nat} {c c' : pw_C} (hk : h[k + 1]? = some c) (hw : pw_wf c') (he : va_at D pw_cl (B + k, pw_e (pw_ad b B) ca c') H1) (hz : H1.size = H.size) (oq : ∀ q : Nat, q ≠ B + k → H1[q]? = H[q]?) : pw_rep D ca b B N xs (h.set (k + 1) c') H1 := by
  obtain ⟨h0, h1, h2⟩ := hR
  have hl := (List.getElem?_eq_some_iff.mp hk).1
  refine ⟨by rw [List.getElem?_set_ne (by omega)]; exact h0, by rw [hz, List.length_set]; exact h1, fun j d hj => ?_⟩
  by_cases hjk : j = k
  · subst hjk
    rw [List.getElem?_set_self hl] at hj
    cases hj
    exact ⟨hw, he⟩
  · rw [List.getElem?_set_ne (by omega)] at hj
    obtain ⟨a1, a2⟩ := h2 j d hj
    exact ⟨a1, a2.kept (oq (B + j) (by omega))⟩
theorem pw_rep.push (hR : pw_rep D ca b B N xs h H) {c : pw_C} (hw : pw_wf c) (he : va_at D pw_cl (H.size, pw_e (pw_ad b B) ca c) H1) (hz : H1.size = H.size + 1) (oq : ∀ q : Nat, q < H.size → H1[q]? = H[q]?) : pw_rep D ca b B N xs (h ++ [c]) H1 := by
  have hp := hR.pos
  obtain ⟨h0, h1, h2⟩ := hR
  refine ⟨by rw [List.getElem?_append_left hp]; exact h0, by rw [hz, List.length_append, List.length_singleton]; omega, fun j d hj => ?_⟩
  by_cases hjl : j + 1 < h.length
  · rw [List.getElem?_append_left hjl] at hj
    obtain ⟨a1, a2⟩ := h2 j d hj
    exact ⟨a1, a2.kept (oq (B + j) a2.lt)⟩
  · rw [List.getElem?_append_right (by omega)] at hj
    have hz2 : j + 1 - h.length < 1 := (List.getElem?_eq_some_iff.mp hj).1
    rw [show j + 1 - h.length = 0 by omega] at hj
    cases hj
    rw [show B + j = H.size by omega]
    exact ⟨hw, he⟩
theorem pw_rep.adn (hR : pw_rep D ca b B N xs h H) : pw_ad b B h.length = H.size := by
  have hp := hR.pos
  obtain ⟨h0, h1, h2⟩ := hR
  obtain ⟨k, hk⟩ : ∃ k, h.length = k + 1 := ⟨h.length - 1, by omega⟩
  rw [hk]
  show B + k = H.size
  omega
theorem pw_rep.obj (hR : pw_rep D ca b B N xs h H) {a : Nat} {x : pw_C} (ha : h[a]? = some x) (hx : x ≠ .inl (2, N, xs)) : ∃ k, a = k + 1 ∧ pw_wf x ∧ va_at D pw_cl (B + k, pw_e (pw_ad b B) ca x) H := by
  cases a with
  | zero => exact absurd (Option.some.inj (ha.symm.trans hR.1)) hx
  | succ k => exact ⟨k, rfl, hR.2.2 k x ha⟩
end PWREP
def pw_lr (ad : Nat → Nat) (ls : Array Slot) (L : pw_L) : Prop := ls.size = L.length ∧ lv_wf ls ∧ ∀ (i : Nat) (v : pw_V), L[i]? = some (some v) → ls[i]? = some (.val (pw_v ad v))
def pw_lv (ad : Nat → Nat) (L : pw_L) : List (Nat × Value) := (List.range L.length).filterMap (fun i => match L[i]? with
  | some (some v) => some (i, pw_v ad v)
  | _ => none)
theorem pw_lv_mem {ad : Nat → Nat} {L : pw_L} {i : Nat} {v : pw_V} (h : L[i]? = some (some v)) : (i, pw_v ad v) ∈ pw_lv ad L := by
  have hl := (List.getElem?_eq_some_iff.mp h).1
  exact List.mem_filterMap.mpr ⟨i, List.mem_range.mpr hl, by rw [h]⟩
theorem pw_lv_of {ad : Nat → Nat} {L : pw_L} {q : Nat × Value} (h : q ∈ pw_lv ad L) : ∃ v, L[q.1]? = some (some v) ∧ q.2 = pw_v ad v := by
  obtain ⟨i, -, hi⟩ := List.mem_filterMap.mp h
  match hL : L[i]? with
  | none => rw [hL] at hi; cases hi
  | some none => rw [hL] at hi; cases hi
  | some (some v) =>
    rw [hL] at hi
    cases hi
    exact ⟨v, hL, rfl⟩
theorem pw_lr.has {ad : Nat → Nat} {ls : Array Slot} {L : pw_L} (h : pw_lr ad ls L) : lv_has ls L.length (pw_lv ad L) := by
  refine ⟨h.1, h.2.1, fun q hq => ?_⟩
  obtain ⟨v, h1, h2⟩ := pw_lv_of hq
  rw [h2]
  exact h.2.2 _ _ h1
theorem pw_lr.of {ad : Nat → Nat} {ls : Array Slot} {L : pw_L} {i : Nat} {v : pw_V} (hi : i < L.length) (h : lv_has ls L.length ((i, pw_v ad v) :: (pw_lv ad L).filter (fun q => !(q.1 == i) && !(q.1 + 1 == i && q.2.category == 2)))) : pw_lr ad ls (L.set i (some v)) := by
  refine ⟨by rw [List.length_set]; exact h.1, h.2.1, fun j w hj => ?_⟩
  by_cases hji : j = i
  · subst hji
    rw [List.getElem?_set_self hi] at hj
    cases hj
    exact h.2.2 (j, pw_v ad v) List.mem_cons_self
  · rw [List.getElem?_set_ne (Ne.symm hji)] at hj
    refine h.2.2 (j, pw_v ad w) (List.mem_cons_of_mem _ (List.mem_filter.mpr ⟨pw_lv_mem hj, ?_⟩))
    simp [hji, pw_cat]
theorem pw_inb_in {i : Int32} {n : Nat} (h : pw_inb i n = true) : vp_in i n := by
  simp only [pw_inb, Bool.and_eq_true, decide_eq_true_eq] at h
  exact vp_in_iff.mpr h
theorem pw_has_in {i : Nat} {w : Cond} (h : pw_has i w = true) : w ∈ pw_tbl := by
  simp only [pw_has, Bool.and_eq_true, decide_eq_true_eq] at h
  exact List.mem_filter.mpr ⟨List.mem_of_getElem? h.1, h.2⟩
theorem pw_u_in {ci : Nat} {r : vw_C} (h : pw_cl[ci]? = some r) : ∀ w ∈ u_ws r.1 r.2.1 r.2.2, w ∈ pw_tbl := by
  have key : ∀ (l : List Cond), (∀ w ∈ l, w ∈ lw_tbl) → l.all goodWord = true → ∀ w ∈ l, w ∈ pw_tbl := fun l h1 h2 w hw => List.mem_filter.mpr ⟨h1 w hw, List.all_eq_true.mp h2 w hw⟩
  match ci, h with
  | 0, h => obtain rfl := Option.some.inj h; exact key _ pw_in0 pw_gd0
  | 1, h => obtain rfl := Option.some.inj h; exact key _ pw_in1 pw_gd1
  | 2, h => obtain rfl := Option.some.inj h; exact key _ pw_in2 pw_gd2
  | 3, h => obtain rfl := Option.some.inj h; exact key _ pw_in3 pw_gd3
  | 4, h => obtain rfl := Option.some.inj h; exact key _ pw_in4 pw_gd4
  | k + 5, h => simp at h
theorem pw_u_ty {ci : Nat} {r : vw_C} (h : pw_cl[ci]? = some r) : ∀ k, k < r.2.2 → parseFieldDescriptor (r.2.1 k).2.2.1 = some (pw_tyf ci k) := by
  match ci, h with
  | 0, h => obtain rfl := Option.some.inj h; exact pw_ty0
  | 1, h => obtain rfl := Option.some.inj h; exact pw_ty1
  | 2, h => obtain rfl := Option.some.inj h; exact pw_ty2
  | 3, h => obtain rfl := Option.some.inj h; exact pw_ty3
  | 4, h => obtain rfl := Option.some.inj h; exact pw_ty4
  | k + 5, h => simp at h
theorem pw_u_nm {ci : Nat} {r : vw_C} (h : pw_cl[ci]? = some r) : ∀ a, a < r.2.2 → ∀ b, b < r.2.2 → a ≠ b → (r.2.1 a).2.1 ≠ (r.2.1 b).2.1 := by
  match ci, h with
  | 0, h => obtain rfl := Option.some.inj h; exact pw_nm0
  | 1, h => obtain rfl := Option.some.inj h; exact pw_nm1
  | 2, h => obtain rfl := Option.some.inj h; exact pw_nm2
  | 3, h => obtain rfl := Option.some.inj h; exact pw_nm3
  | 4, h => obtain rfl := Option.some.inj h; exact pw_nm4
  | k + 5, h => simp at h
theorem pw_df0 : ∀ ad : Nat → Nat, ∀ j, j < 6 → defaultValue (pw_tyf 0 j) = vp_V ((pw_def 0).map (pw_v ad)) j := by
  intro ad j hj
  match j, hj with
  | 0, _ => rfl
  | 1, _ => rfl
  | 2, _ => rfl
  | 3, _ => rfl
  | 4, _ => rfl
  | 5, _ => rfl
theorem pw_df1 : ∀ ad : Nat → Nat, ∀ j, j < 5 → defaultValue (pw_tyf 1 j) = vp_V ((pw_def 1).map (pw_v ad)) j := by
  intro ad j hj
  match j, hj with
  | 0, _ => rfl
  | 1, _ => rfl
  | 2, _ => rfl
  | 3, _ => rfl
  | 4, _ => rfl
theorem pw_df2 : ∀ ad : Nat → Nat, ∀ j, j < 10 → defaultValue (pw_tyf 2 j) = vp_V ((pw_def 2).map (pw_v ad)) j := by
  intro ad j hj
  match j, hj with
  | 0, _ => rfl
  | 1, _ => rfl
  | 2, _ => rfl
  | 3, _ => rfl
  | 4, _ => rfl
  | 5, _ => rfl
  | 6, _ => rfl
  | 7, _ => rfl
  | 8, _ => rfl
  | 9, _ => rfl
theorem pw_df3 : ∀ ad : Nat → Nat, ∀ j, j < 17 → defaultValue (pw_tyf 3 j) = vp_V ((pw_def 3).map (pw_v ad)) j := by
  intro ad j hj
  match j, hj with
  | 0, _ => rfl
  | 1, _ => rfl
  | 2, _ => rfl
  | 3, _ => rfl
  | 4, _ => rfl
  | 5, _ => rfl
  | 6, _ => rfl
  | 7, _ => rfl
  | 8, _ => rfl
  | 9, _ => rfl
  | 10, _ => rfl
  | 11, _ => rfl
  | 12, _ => rfl
  | 13, _ => rfl
  | 14, _ => rfl
  | 15, _ => rfl
  | 16, _ => rfl
  | k + 17, h => exact absurd h (by omega)
theorem pw_df4 : ∀ ad : Nat → Nat, ∀ j, j < 40 → defaultValue (pw_tyf 4 j) = vp_V ((pw_def 4).map (pw_v ad)) j := by
  intro ad j hj
  match j, hj with
  | 0, _ => rfl
  | 1, _ => rfl
  | 2, _ => rfl
  | 3, _ => rfl
  | 4, _ => rfl
  | 5, _ => rfl
  | 6, _ => rfl
  | 7, _ => rfl
  | 8, _ => rfl
  | 9, _ => rfl
  | 10, _ => rfl
  | 11, _ => rfl
  | 12, _ => rfl
  | 13, _ => rfl
  | 14, _ => rfl
  | 15, _ => rfl
  | 16, _ => rfl
  | 17, _ => rfl
  | 18, _ => rfl
  | 19, _ => rfl
  | 20, _ => rfl
  | 21, _ => rfl
  | 22, _ => rfl
  | 23, _ => rfl
  | 24, _ => rfl
  | 25, _ => rfl
  | 26, _ => rfl
  | 27, _ => rfl
  | 28, _ => rfl
  | 29, _ => rfl
  | 30, _ => rfl
  | 31, _ => rfl
  | 32, _ => rfl
  | 33, _ => rfl
  | 34, _ => rfl
  | 35, _ => rfl
  | 36, _ => rfl
  | 37, _ => rfl
  | 38, _ => rfl
  | 39, _ => rfl
  | k + 40, h => exact absurd h (by omega)
theorem pw_u_df {ci : Nat} {r : vw_C} (h : pw_cl[ci]? = some r) (ad : Nat → Nat) : (∀ j, j < r.2.2 → defaultValue (pw_tyf ci j) = vp_V ((pw_def ci).map (pw_v ad)) j) ∧ (pw_def ci).length = r.2.2 := by
  match ci, h with
  | 0, h => obtain rfl := Option.some.inj h; exact ⟨pw_df0 ad, rfl⟩
  | 1, h => obtain rfl := Option.some.inj h; exact ⟨pw_df1 ad, rfl⟩
  | 2, h => obtain rfl := Option.some.inj h; exact ⟨pw_df2 ad, rfl⟩
  | 3, h => obtain rfl := Option.some.inj h; exact ⟨pw_df3 ad, rfl⟩
  | 4, h => obtain rfl := Option.some.inj h; exact ⟨pw_df4 ad, rfl⟩
  | k + 5, h => simp at h
end
section
theorem pw_dec {M pc np t : Nat} {i : Instr} {q : List Nat} (ho : pw_op M pc = some (i, np, t, q)) : (∃ len, decode (pw_inf M).2.1 pc = .ok (i, len) ∧ np = pc + len ∧ ((∀ a b c d, i ≠ .tableswitch a b c d) → len = pw_ilen i)) ∧ pw_okI (pw_inf M) pc i t q = true := by
  have h := pw_op_ok ho
  simp only [pw_ok, Bool.and_eq_true] at h
  obtain ⟨h1, h2⟩ := h
  refine ⟨?_, h2⟩
  cases hd : decode (pw_inf M).2.1 pc with
  | error e => rw [hd] at h1; cases h1
  | ok x =>
    obtain ⟨j, len⟩ := x
    rw [hd] at h1
    simp only [Bool.and_eq_true, decide_eq_true_eq] at h1
    obtain ⟨⟨h3, h4⟩, h5⟩ := h1
    refine ⟨len, by rw [h3], h4, fun hn => ?_⟩
    cases i <;> first | exact absurd rfl (hn _ _ _ _) | exact of_decide_eq_true h5
theorem pw_dec1 {M pc np t : Nat} {i : Instr} {q : List Nat} (ho : pw_op M pc = some (i, np, t, q)) (hn : ∀ a b c d, i ≠ .tableswitch a b c d) : decode (pw_inf M).2.1 pc = .ok (i, pw_ilen i) ∧ np = pc + pw_ilen i ∧ pw_okI (pw_inf M) pc i t q = true := by
  obtain ⟨⟨len, h1, h2, h3⟩, h4⟩ := pw_dec ho
  obtain rfl := h3 hn
  exact ⟨h1, h2, h4⟩
/-- where a method stands -/
def pw_ctx (D : va_G) (ca : Nat → ClassId) (b B N : Nat) (xs : Nat → Int32) (M : Nat) (p : Program) (s : State) (m : MethodId) (args : Array Value) (meth : Method) (c : Code) : Prop :=
  p.tables.exec = Jvm.exec ∧ c.code = (pw_inf M).2.1 ∧ c.maxLocals = (pw_inf M).2.2.1 ∧ s.vm.findClass (pw_inf M).1.cls = some m.cls ∧ (∀ w ∈ pw_tbl, w.before args s = true) ∧ va_K D pw_cl (pw_tys ca) s ∧ va_X b N xs s s.heap ∧ (b < B ∧ B ≤ s.heap.size) ∧ meth.name = (pw_inf M).1.name ∧ pw_nw s
abbrev pw_A (B : Nat) : Nat → Prop := fun q => B ≤ q
section PWS
variable {p : Program} {l : Launch} {e : Env} {R : Room} {s : State} {m : MethodId} {args : Array Value} {below : List Frame} {meth : Method} {c : Code} {H : Heap} {locs : List Loc} {cells slots : Nat} {Q : State → Prop}
variable {D : va_G} {ca : Nat → ClassId} {b B N : Nat} {xs : Nat → Int32} {M pc np t : Nat} {q : List Nat} {ls : Array Slot} {L : pw_L} {st : List pw_V} {h : pw_H}
theorem pw_one (hR : pw_rep D ca b B N xs h H) {k : Nat} {x : pw_C} (ha : h[k + 1]? = some x) : va_P D pw_cl [(B + k, pw_e (pw_ad b B) ca x)] H := by
  intro j y hj
  match j, hj with
  | 0, hj => obtain rfl := Option.some.inj hj; exact (hR.2.2 k x ha).2
  | j + 1, hj => simp at hj
theorem pw_getf (C : pw_ctx D ca b B N xs M p s m args meth c) {idx : Nat} (ho : pw_op M pc = some (.getfield idx, np, t, q)) (hR : pw_rep D ca b B N xs h H) {a k : Nat} {q' : List Nat} (hq : q = k :: q') {fs : List pw_V} (ha : h[a]? = some (.inr (.inr (t, fs)))) {v : pw_V} (hv : fs[k]? = some v)
    (kk : W p l e R s m args below meth c H locs cells slots Q (F0 m np ls (pw_v (pw_ad b B) v :: st.map (pw_v (pw_ad b B))))) : W p l e R s m args below meth c H locs cells slots Q (F0 m pc ls (.ref (pw_ad b B a) :: st.map (pw_v (pw_ad b B)))) := by
  obtain ⟨hx, hb, hml, hown, hts, hK, hX, hbB, hnm, hnw⟩ := C
  obtain ⟨hd, hnp, hok⟩ := pw_dec1 ho (by intro _ _ _ _ h; cases h)
  obtain ⟨j, rfl, -, hat⟩ := hR.obj ha (by intro h; cases h)
  have hP := pw_one hR ha
  subst hq
  simp only [pw_okI] at hok
  split at hok
  · rename_i r k' w z hr hq
    cases hq
    simp only [Bool.and_eq_true, decide_eq_true_eq] at hok
    obtain ⟨⟨h1, h2⟩, h3⟩ := hok
    have hvv : (fs.map (pw_v (pw_ad b B)))[k]? = some (pw_v (pw_ad b B) v) := by rw [List.getElem?_map, hv]; rfl
    obtain ⟨C, T, Nn⟩ := r
    rw [hnp] at kk
    split at h3
    · exact va_get (D := D) (ref := (T k).1) (C := C) (T := T) (N := Nn) hx hb hts (pw_u_in hr) hown hK hP 0 rfl hr k h1 (by rw [h2]; exact hts _ (pw_has_in h3)) (fun _ h => h) hvv hd kk
    · have hw := va_Nw.use (A := args) rfl (hnw.1 _ (List.mem_of_getElem? (of_decide_eq_true h3)) rfl)
      exact va_getN (D := D) (ref := (T k).1) (C := C) (T := T) (N := Nn) hx hb hts (pw_u_in hr) hown hK hP 0 rfl hr k h1 (by rw [h2]; exact hw) (fun _ h => h) hvv hd kk
  · cases hok
theorem pw_kd {ty : FieldType} {kd : Nat} {v : pw_V} {ad : Nat → Nat} (h : (match kd, ty with
      | 0, .int => true
      | 1, .boolean => true
      | 2, .object _ => true
      | 2, .array _ => true
      | _, _ => false) = true) (hk : pw_kind kd v = true) : narrow ty (pw_v ad v) = pw_v ad v ∧ fits ty (pw_v ad v) = true := by
  split at h
  · obtain x | x := v
    · exact ⟨rfl, rfl⟩
    · simp [pw_kind] at hk
  · obtain x | x := v
    · simp only [pw_kind, pw_bit, Bool.or_eq_true, decide_eq_true_eq] at hk
      rcases hk with rfl | rfl <;> exact ⟨rfl, rfl⟩
    · simp [pw_kind] at hk
  · obtain x | x := v
    · simp [pw_kind] at hk
    · cases x <;> exact ⟨rfl, rfl⟩
  · obtain x | x := v
    · simp [pw_kind] at hk
    · cases x <;> exact ⟨rfl, rfl⟩
  · cases h
theorem pw_S1 {A : Nat → Prop} {H0 H1 : Heap} {a k : Nat} (hS : va_S A H0 H locs) (hz : H1.size = H.size) (oq : ∀ q : Nat, q ≠ a → H1[q]? = H[q]?) (ha : A a) : va_S A H0 H1 (locs ++ [⟨a, k⟩]) := hS.put hz oq ha
theorem pw_putf (C : pw_ctx D ca b B N xs M p s m args meth c) {idx : Nat} (ho : pw_op M pc = some (.putfield idx, np, t, q)) (hR : pw_rep D ca b B N xs h H) (hS : va_S (pw_A B) s.heap H locs) {a k kd : Nat} {q' : List Nat} (hq : q = k :: kd :: q') {fs : List pw_V} (ha : h[a]? = some (.inr (.inr (t, fs)))) (hk : k < fs.length) {v : pw_V} (hv : pw_kind kd v = true)
    (kk : ∀ (H1 : Heap) (locs1 : List Loc), pw_rep D ca b B N xs (h.set a (.inr (.inr (t, fs.set k v)))) H1 → va_S (pw_A B) s.heap H1 locs1 → W p l e R s m args below meth c H1 locs1 cells slots Q (F0 m np ls (st.map (pw_v (pw_ad b B))))) : W p l e R s m args below meth c H locs cells slots Q (F0 m pc ls (pw_v (pw_ad b B) v :: .ref (pw_ad b B a) :: st.map (pw_v (pw_ad b B)))) := by
  obtain ⟨hx, hb, hml, hown, hts, hK, hX, hbB, hnm, hnw⟩ := C
  obtain ⟨hd, hnp, hok⟩ := pw_dec1 ho (by intro _ _ _ _ h; cases h)
  obtain ⟨j, rfl, -, hat⟩ := hR.obj ha (by intro h; cases h)
  subst hq
  simp only [pw_okI] at hok
  split at hok
  · rename_i r k' kd' w z hr hq
    cases hq
    simp only [Bool.and_eq_true, decide_eq_true_eq] at hok
    obtain ⟨⟨⟨⟨h1, h2⟩, h3⟩, h4⟩, h5⟩ := hok
    obtain ⟨hn, hfit⟩ := pw_kd (ad := pw_ad b B) h5 hv
    obtain ⟨C, T, Nn⟩ := r
    rw [hnp] at kk
    have hlink := hts _ (pw_has_in h3)
    have hin := pw_u_in hr
    have hdd := pw_u_ty hr k h1
    have hap := va_apart (own := (pw_inf M).1.cls) hts hin (pw_tyf t) (pw_u_ty hr) (pw_u_nm hr) hK hr
    obtain ⟨r', g1, cell, q1, q2, q3, q4⟩ := hat
    have hr' : r' = (C, T, Nn) := Option.some.inj (g1.symm.trans hr)
    subst hr'
    obtain ⟨hSl, hfc, kC, hkC, hkind⟩ := hK.1 t _ hr
    obtain ⟨cf, kf, fi, f, hi, hsl⟩ := hSl k h1
    have hlay := hts _ (hin _ (u_in_lay h1))
    have hst := (u_facts hfc hkC (u_lays hts hin h1) hi).1
    have h2' : (T k).1 = C := h2
    have hi2 : s.fieldFound? (T k).1 (T k).2.1 (T k).2.2.1 = some (cf, kf, fi, f) := hi
    have hi' : s.fieldFound? C (T k).2.1 (T k).2.2.1 = some (cf, kf, fi, f) := by rw [h2'] at hi2; exact hi2
    have fin : ∀ H' : Heap, H'[B + j]? = some (cell.setSlot f.slot (pw_v (pw_ad b B) v)) → H'.size = H.size → (∀ q, q ≠ B + j → H'[q]? = H[q]?) → W p l e R s m args below meth c H' (locs ++ [⟨B + j, f.slot⟩]) cells slots Q (F0 m (pc + 3) ls (st.map (pw_v (pw_ad b B)))) := by
      intro H' e1 e2 e3
      rw [hsl] at e1
      refine kk H' _ (hR.set ha trivial ?_ e2 e3) (pw_S1 hS e2 e3 (Nat.le_add_right _ _))
      refine ⟨_, hr, ?_⟩
      refine t_OB.to (V := updV (vp_V (fs.map (pw_v (pw_ad b B)))) k (pw_v (pw_ad b B) v)) ⟨_, e1, q2, q3, t_set q4 hap h1 _⟩ (fun i _ => ?_)
      rw [vp_updV_set (by rw [List.length_map]; exact hk), List.map_set]
    split at h4
    · have hf0 : (T k).2.2.2 = false := by simpa using h4
      unfold u_lay at hlay
      rw [if_neg (by rw [hf0]; decide)] at hlay
      have h6 := u_store hfc hkC hkind hlay hi hdd hn hfit
      exact W.putK hx hb (f := f) ⟨hown, hlink, ⟨_, _, _, hi'⟩, hst⟩ (by rw [q2]; exact h6) q1 q3 (by rw [hsl]; exact k2_hasslot (q4 k h1)) rfl rfl hd fin
    · simp only [Bool.and_eq_true, decide_eq_true_eq] at h4
      obtain ⟨⟨hf1, hin2⟩, hoc⟩ := h4
      unfold u_lay at hlay
      rw [if_pos hf1] at hlay
      have hcf : m.cls = cf := by
        obtain ⟨_, _, c', _, _, _, -, -, hf', -, -, -, hown2, -⟩ := Cond.laysFinal_spec hlay
        have e1 : c' = cf := by have := hi.symm.trans hf'; simp at this; exact this.1.symm
        rw [h2, hoc] at hown2
        rw [← e1]; exact Option.some.inj (hown.symm.trans hown2)
      have h6 := u_fits hfc hkC hkind (Or.inr hlay) hi hdd hn hfit
      exact W.putFinK hx hb hown hlink hi' hst hcf (by rw [hnm]; exact hin2) (by rw [q2]; exact h6) q1 q3 (by rw [hsl]; exact k2_hasslot (q4 k h1)) rfl rfl hd fin
  · cases hok
theorem pw_iald (C : pw_ctx D ca b B N xs M p s m args meth c) (ho : pw_op M pc = some (.iaload, np, t, q)) (hR : pw_rep D ca b B N xs h H) (hS : va_S (pw_A B) s.heap H locs) {a g n : Nat} {f : Nat → Int32} (ha : h[a]? = some (.inl (g, n, f))) (hg : g ≠ 1) {i : Int32} (hi : pw_inb i n = true)
    (kk : W p l e R s m args below meth c H locs cells slots Q (F0 m np ls (.int (f i.toNatClampNeg) :: st.map (pw_v (pw_ad b B))))) : W p l e R s m args below meth c H locs cells slots Q (F0 m pc ls (.int i :: .ref (pw_ad b B a) :: st.map (pw_v (pw_ad b B)))) := by
  obtain ⟨hx, hb, hml, hown, hts, hK, hX, hbB, hnm, hnw⟩ := C
  obtain ⟨hd, hnp, hok⟩ := pw_dec1 ho (by intro _ _ _ _ h; cases h)
  rw [hnp] at kk
  cases a with
  | zero =>
    have e1 := Option.some.inj (ha.symm.trans hR.1)
    cases e1
    exact va_sld hx hb hX (Nat.lt_of_lt_of_le hbB.1 hbB.2) (Nat.not_le.mpr hbB.1) hS (pw_inb_in hi) hd kk
  | succ j =>
    obtain ⟨hw, -⟩ := hR.2.2 j _ ha
    have h0 : g = 0 := hw.resolve_right hg
    subst h0
    exact va_iald hx hb hK (pw_one hR ha) 0 0 rfl rfl (pw_inb_in hi) hd kk
theorem pw_zald (C : pw_ctx D ca b B N xs M p s m args meth c) (ho : pw_op M pc = some (.baload, np, t, q)) (hR : pw_rep D ca b B N xs h H) {a n : Nat} {f : Nat → Int32} (ha : h[a]? = some (.inl (1, n, f))) {i : Int32} (hi : pw_inb i n = true)
    (kk : W p l e R s m args below meth c H locs cells slots Q (F0 m np ls (.int (f i.toNatClampNeg) :: st.map (pw_v (pw_ad b B))))) : W p l e R s m args below meth c H locs cells slots Q (F0 m pc ls (.int i :: .ref (pw_ad b B a) :: st.map (pw_v (pw_ad b B)))) := by
  obtain ⟨hx, hb, hml, hown, hts, hK, hX, hbB, hnm, hnw⟩ := C
  obtain ⟨hd, hnp, hok⟩ := pw_dec1 ho (by intro _ _ _ _ h; cases h)
  rw [hnp] at kk
  obtain ⟨j, rfl, -, hat⟩ := hR.obj ha (by intro h; cases h)
  exact va_zald hx hb hK (pw_one hR ha) 0 1 rfl rfl (pw_inb_in hi) hd kk
theorem pw_aald (C : pw_ctx D ca b B N xs M p s m args meth c) (ho : pw_op M pc = some (.aaload, np, t, q)) (hR : pw_rep D ca b B N xs h H) {a g n : Nat} {f : Nat → Option Nat} (ha : h[a]? = some (.inr (.inl (g, n, f)))) {i : Int32} (hi : pw_inb i n = true)
    (kk : W p l e R s m args below meth c H locs cells slots Q (F0 m np ls (pw_v (pw_ad b B) (.inr (f i.toNatClampNeg)) :: st.map (pw_v (pw_ad b B))))) : W p l e R s m args below meth c H locs cells slots Q (F0 m pc ls (.int i :: .ref (pw_ad b B a) :: st.map (pw_v (pw_ad b B)))) := by
  obtain ⟨hx, hb, hml, hown, hts, hK, hX, hbB, hnm, hnw⟩ := C
  obtain ⟨hd, hnp, hok⟩ := pw_dec1 ho (by intro _ _ _ _ h; cases h)
  rw [hnp, pw_v_rf] at kk
  obtain ⟨j, rfl, hw, hat⟩ := hR.obj ha (by intro h; cases h)
  rcases hw with rfl | rfl
  · exact va_aldq hx hb hK (pw_one hR ha) 0 2 rfl rfl (pw_inb_in hi) hd kk
  · exact va_aldq hx hb hK (pw_one hR ha) 0 3 rfl rfl (pw_inb_in hi) hd kk
theorem pw_iast (C : pw_ctx D ca b B N xs M p s m args meth c) (ho : pw_op M pc = some (.iastore, np, t, q)) (hR : pw_rep D ca b B N xs h H) (hS : va_S (pw_A B) s.heap H locs) {a n : Nat} {f : Nat → Int32} (ha : h[a]? = some (.inl (0, n, f))) {i x : Int32} (hi : pw_inb i n = true)
    (kk : ∀ (H1 : Heap) (locs1 : List Loc), pw_rep D ca b B N xs (h.set a (.inl (0, n, upd f i.toNatClampNeg x))) H1 → va_S (pw_A B) s.heap H1 locs1 → W p l e R s m args below meth c H1 locs1 cells slots Q (F0 m np ls (st.map (pw_v (pw_ad b B))))) : W p l e R s m args below meth c H locs cells slots Q (F0 m pc ls (.int x :: .int i :: .ref (pw_ad b B a) :: st.map (pw_v (pw_ad b B)))) := by
  obtain ⟨hx, hb, hml, hown, hts, hK, hX, hbB, hnm, hnw⟩ := C
  obtain ⟨hd, hnp, hok⟩ := pw_dec1 ho (by intro _ _ _ _ h; cases h)
  rw [hnp] at kk
  obtain ⟨j, rfl, hw, hat⟩ := hR.obj ha (by intro h; cases h)
  have hin := pw_inb_in hi
  refine W.iast hx hb hat ((hK.2 0 _ rfl).1 n (fun j => .int (f j))) (fun q => by cases q) (by show ¬ (i < 0 ∨ (arrV _ _ _).slots.size ≤ _); rw [arrV_size]; exact hin) rfl rfl hd fun H1 e z oq => ?_
  refine kk H1 _ (hR.set ha (Or.inl rfl) ?_ z oq) (pw_S1 hS z oq (Nat.le_add_right _ _))
  show H1[B + j]? = some (vp_cell _ _)
  rw [e]
  show some ((vp_cell (ca 0) (n, .inl f)).setSlot _ _) = some (vp_cell (ca 0) (n, .inl _))
  rw [vp_cell_i, vp_cell_i, arrV_store]
  congr 2
  funext r
  by_cases hr : r = i.toNatClampNeg
  · subst hr
    simp [updV, upd]
  · simp [updV, upd, hr]
theorem pw_zast (C : pw_ctx D ca b B N xs M p s m args meth c) (ho : pw_op M pc = some (.bastore, np, t, q)) (hR : pw_rep D ca b B N xs h H) (hS : va_S (pw_A B) s.heap H locs) {a n : Nat} {f : Nat → Int32} (ha : h[a]? = some (.inl (1, n, f))) {i x : Int32} (hi : pw_inb i n = true) (hbt : pw_bit x = true)
    (kk : ∀ (H1 : Heap) (locs1 : List Loc), pw_rep D ca b B N xs (h.set a (.inl (1, n, upd f i.toNatClampNeg x))) H1 → va_S (pw_A B) s.heap H1 locs1 → W p l e R s m args below meth c H1 locs1 cells slots Q (F0 m np ls (st.map (pw_v (pw_ad b B))))) : W p l e R s m args below meth c H locs cells slots Q (F0 m pc ls (.int x :: .int i :: .ref (pw_ad b B a) :: st.map (pw_v (pw_ad b B)))) := by
  obtain ⟨hx, hb, hml, hown, hts, hK, hX, hbB, hnm, hnw⟩ := C
  obtain ⟨hd, hnp, hok⟩ := pw_dec1 ho (by intro _ _ _ _ h; cases h)
  rw [hnp] at kk
  obtain ⟨j, rfl, hw, hat⟩ := hR.obj ha (by intro h; cases h)
  have hin := pw_inb_in hi
  have hnr : narrow .boolean (.int x) = .int x := by
    simp only [pw_bit, Bool.or_eq_true, decide_eq_true_eq] at hbt
    rcases hbt with rfl | rfl <;> rfl
  refine W.zast hx hb hat ((hK.2 1 _ rfl).1 n (fun j => .int (f j))) (fun q => by cases q) (by show ¬ (i < 0 ∨ (arrV _ _ _).slots.size ≤ _); rw [arrV_size]; exact hin) rfl rfl hd fun H1 e z oq => ?_
  refine kk H1 _ (hR.set ha (Or.inr rfl) ?_ z oq) (pw_S1 hS z oq (Nat.le_add_right _ _))
  show H1[B + j]? = some (vp_cell _ _)
  rw [e]
  show some ((vp_cell (ca 1) (n, .inl f)).setSlot _ _) = some (vp_cell (ca 1) (n, .inl _))
  rw [vp_cell_i, vp_cell_i, arrV_store]
  congr 2
  funext r
  by_cases hr : r = i.toNatClampNeg
  · subst hr
    simp [updV, upd, hnr]
  · simp [updV, upd, hr]
theorem pw_aast (C : pw_ctx D ca b B N xs M p s m args meth c) (ho : pw_op M pc = some (.aastore, np, t, q)) (hR : pw_rep D ca b B N xs h H) (hS : va_S (pw_A B) s.heap H locs) {a g n v : Nat} {f : Nat → Option Nat} {vs : List pw_V} (ha : h[a]? = some (.inr (.inl (g, n, f)))) (hv : h[v]? = some (.inr (.inr (g, vs)))) {i : Int32} (hi : pw_inb i n = true)
    (kk : ∀ (H1 : Heap) (locs1 : List Loc), pw_rep D ca b B N xs (h.set a (.inr (.inl (g, n, va_up f i.toNatClampNeg (some v))))) H1 → va_S (pw_A B) s.heap H1 locs1 → W p l e R s m args below meth c H1 locs1 cells slots Q (F0 m np ls (st.map (pw_v (pw_ad b B))))) : W p l e R s m args below meth c H locs cells slots Q (F0 m pc ls (.ref (pw_ad b B v) :: .int i :: .ref (pw_ad b B a) :: st.map (pw_v (pw_ad b B)))) := by
  obtain ⟨hx, hb, hml, hown, hts, hK, hX, hbB, hnm, hnw⟩ := C
  obtain ⟨hd, hnp, hok⟩ := pw_dec1 ho (by intro _ _ _ _ h; cases h)
  rw [hnp] at kk
  obtain ⟨j, rfl, hw, hat⟩ := hR.obj ha (by intro h; cases h)
  obtain ⟨j2, rfl, -, hat2⟩ := hR.obj hv (by intro h; cases h)
  have hin := pw_inb_in hi
  have hlt : i.toNatClampNeg < n := Nat.not_le.mp fun q => hin (Or.inr q)
  have h0 : ¬ i < 0 := fun q => hin (Or.inl q)
  obtain ⟨r', hr', cellV, g1, g2, g3, -⟩ := hat2
  have hcls := (hK.1 g r' hr').2
  have hRA : ∃ (kA : Class) (comp : ClassId), s.vm.classes[ca (g + 2)]? = some kA ∧ kA.kind = .array comp (.object r'.1) ∧ s.vm.findClass r'.1 = some comp := by
    rcases hw with rfl | rfl
    · obtain rfl := Option.some.inj hr'
      obtain ⟨kA, comp, k1, k2, k3, -⟩ := (hK.2 2 _ rfl).2
      exact ⟨kA, comp, k1, k2, k3⟩
    · obtain rfl := Option.some.inj hr'
      obtain ⟨kA, comp, k1, k2, k3, -⟩ := (hK.2 3 _ rfl).2
      exact ⟨kA, comp, k1, k2, k3⟩
  obtain ⟨kA, comp, k1, k2, k3⟩ := hRA
  have hcomp : comp = D.1 g := Option.some.inj (k3.symm.trans hcls.1)
  subst hcomp
  obtain ⟨kC, hkC, -⟩ := hcls.2
  refine W.aast hx hb hat (fun q h => by cases h) (fun h => by cases h) k1 k2 rfl hkC ⟨h0, by show _ < (arrV _ _ _).slots.size; rw [arrV_size]; exact hlt⟩ g1 (fun q h => by rw [g3] at h; cases h) (by rw [g2]; exact hkC) (by rw [g2]; exact va_assign hcls) rfl rfl hd fun H1 e z oq => ?_
  refine kk H1 _ (hR.set ha hw ?_ z oq) (pw_S1 hS z oq (Nat.le_add_right _ _))
  show H1[B + j]? = some (vp_cell _ _)
  rw [e]
  show some ((vp_cell (ca (g + 2)) (n, .inr (.inr (.inr (.inr _))))).setSlot _ _) = some (vp_cell (ca (g + 2)) (n, .inr (.inr (.inr (.inr _)))))
  rw [vp_cell_q, vp_cell_q, arrV_store]
  congr 2
  funext r
  by_cases hr : r = i.toNatClampNeg
  · subst hr
    simp [updV, va_up, va_rf]
    rfl
  · simp [updV, va_up, hr]
theorem pw_alen (C : pw_ctx D ca b B N xs M p s m args meth c) (ho : pw_op M pc = some (.arraylength, np, t, q)) (hR : pw_rep D ca b B N xs h H) (hS : va_S (pw_A B) s.heap H locs) {a g n : Nat} {f : Nat → Int32} (ha : h[a]? = some (.inl (g, n, f)))
    (kk : W p l e R s m args below meth c H locs cells slots Q (F0 m np ls (.int (Int32.ofNat n) :: st.map (pw_v (pw_ad b B))))) : W p l e R s m args below meth c H locs cells slots Q (F0 m pc ls (.ref (pw_ad b B a) :: st.map (pw_v (pw_ad b B)))) := by
  obtain ⟨hx, hb, hml, hown, hts, hK, hX, hbB, hnm, hnw⟩ := C
  obtain ⟨hd, hnp, hok⟩ := pw_dec1 ho (by intro _ _ _ _ h; cases h)
  rw [hnp] at kk
  cases a with
  | zero =>
    have e1 := Option.some.inj (ha.symm.trans hR.1)
    cases e1
    exact va_slen hx hb hX (Nat.lt_of_lt_of_le hbB.1 hbB.2) (Nat.not_le.mpr hbB.1) hS hd kk
  | succ j =>
    obtain ⟨hw, -⟩ := hR.2.2 j _ ha
    rcases hw with rfl | rfl
    · exact va_alen (ty := .int) hx hb hK (pw_one hR ha) 0 0 rfl rfl rfl hd kk
    · exact va_alen (ty := .boolean) hx hb hK (pw_one hR ha) 0 1 rfl rfl rfl hd kk
end PWS
end
section
section PWT
variable {p : Program} {l : Launch} {e : Env} {R : Room} {s : State} {m : MethodId} {args : Array Value} {below : List Frame} {meth : Method} {c : Code} {H : Heap} {locs : List Loc} {cells slots : Nat} {Q : State → Prop}
variable {D : va_G} {ca : Nat → ClassId} {b B N : Nat} {xs : Nat → Int32} {M pc np t : Nat} {q : List Nat} {ls : Array Slot} {L : pw_L} {st : List pw_V} {h : pw_H}
theorem pw_SN {A : Nat → Prop} {H0 H1 : Heap} (hS : va_S A H0 H locs) (hz : H1.size = H.size + 1) (oq : ∀ q : Nat, q < H.size → H1[q]? = H[q]?) : va_S A H0 H1 locs :=
  ⟨Nat.le_trans hS.1 (by omega), fun x h1 h2 => (oq x (Nat.lt_of_lt_of_le h1 hS.1)).trans (hS.2.1 x h1 h2), hS.2.2⟩
theorem pw_newo (C : pw_ctx D ca b B N xs M p s m args meth c) {idx : Nat} (ho : pw_op M pc = some (.new idx, np, t, q)) (hR : pw_rep D ca b B N xs h H) (hS : va_S (pw_A B) s.heap H locs) (hc : cells + 1 ≤ R.cells) (hs : slots + (pw_def t).length ≤ R.slots)
    (kk : ∀ (H1 : Heap), pw_rep D ca b B N xs (h ++ [.inr (.inr (t, pw_def t))]) H1 → va_S (pw_A B) s.heap H1 locs → W p l e R s m args below meth c H1 locs (cells + 1) (slots + (pw_def t).length) Q (F0 m np ls (.ref (pw_ad b B h.length) :: st.map (pw_v (pw_ad b B))))) : W p l e R s m args below meth c H locs cells slots Q (F0 m pc ls (st.map (pw_v (pw_ad b B)))) := by
  obtain ⟨hx, hb, hml, hown, hts, hK, hX, hbB, hnm, hnw⟩ := C
  obtain ⟨hd, hnp, hok⟩ := pw_dec1 ho (by intro _ _ _ _ h; cases h)
  rw [hnp] at kk
  simp only [pw_okI] at hok
  split at hok
  · rename_i r w1 w2 w3 hr
    simp only [Bool.and_eq_true] at hok
    obtain ⟨⟨h1, h2⟩, h3⟩ := hok
    have hKn := hK.1 t _ hr
    obtain ⟨hdf, hdl⟩ := pw_u_df hr (pw_ad b B)
    rw [hdl] at hs kk
    refine W.newcK hx hb hown (hts _ (pw_has_in h1)) (hts _ (pw_has_in h2)) (hts _ (pw_has_in h3)) rfl hd hc hs hKn.2.1 rfl fun H1 kC hkC e1 z1 o1 => ?_
    have k1 := kk H1 (hR.push trivial ⟨_, hr, (u_born (pw_tyf t) hts (pw_u_in hr) hKn hkC e1 (pw_u_ty hr)).to hdf⟩ z1 o1) (pw_SN hS z1 o1)
    rw [hR.adn] at k1
    exact k1
  · cases hok
theorem pw_newi (C : pw_ctx D ca b B N xs M p s m args meth c) {ty : ArrayType} (ho : pw_op M pc = some (.newarray ty, np, t, q)) (hR : pw_rep D ca b B N xs h H) (hS : va_S (pw_A B) s.heap H locs) {n : Int32} (hn : 0 ≤ n.toInt ∧ n.toInt ≤ 100000) (hc : cells + 1 ≤ R.cells) (hs : slots + n.toNatClampNeg ≤ R.slots)
    (kk : ∀ (H1 : Heap), pw_rep D ca b B N xs (h ++ [.inl (t, n.toNatClampNeg, fun _ => 0)]) H1 → va_S (pw_A B) s.heap H1 locs → W p l e R s m args below meth c H1 locs (cells + 1) (slots + n.toNatClampNeg) Q (F0 m np ls (.ref (pw_ad b B h.length) :: st.map (pw_v (pw_ad b B))))) : W p l e R s m args below meth c H locs cells slots Q (F0 m pc ls (.int n :: st.map (pw_v (pw_ad b B)))) := by
  obtain ⟨hx, hb, hml, hown, hts, hK, hX, hbB, hnm, hnw⟩ := C
  obtain ⟨hd, hnp, hok⟩ := pw_dec1 ho (by intro _ _ _ _ h; cases h)
  rw [hnp] at kk
  simp only [pw_okI] at hok
  split at hok
  · rename_i w
    simp only [Bool.and_eq_true] at hok
    obtain ⟨h1, h2⟩ := hok
    have hn0 : ¬ n < 0 := by
      rw [Int32.lt_iff_toInt_lt]
      exact Int.not_lt.mpr hn.1
    have hcl : n.toNatClampNeg ≤ 100000 := by
      show n.toInt.toNat ≤ 100000
      omega
    split at h1
    · obtain rfl := of_decide_eq_true h1
      refine va_newaK hx hb (hts _ (pw_has_in h2)) rfl hd rfl hn0 rfl (by show n.toNatClampNeg * 4 ≤ _; omega) hc hs rfl fun H1 cA e1 z1 o1 hAr hNm => ?_
      have hca : cA = ca 0 := Option.some.inj (hNm.symm.trans (hK.2 0 _ rfl).2)
      subst hca
      have k1 := kk H1 (hR.push (Or.inl rfl) e1 z1 o1) (pw_SN hS z1 o1)
      rw [hR.adn] at k1
      exact k1
    · obtain rfl := of_decide_eq_true h1
      refine va_newaK hx hb (hts _ (pw_has_in h2)) rfl hd rfl hn0 rfl (by show n.toNatClampNeg * 1 ≤ _; omega) hc hs rfl fun H1 cA e1 z1 o1 hAr hNm => ?_
      have hca : cA = ca 1 := Option.some.inj (hNm.symm.trans (hK.2 1 _ rfl).2)
      subst hca
      have k1 := kk H1 (hR.push (Or.inr rfl) e1 z1 o1) (pw_SN hS z1 o1)
      rw [hR.adn] at k1
      exact k1
    · cases h1
  · cases hok
theorem pw_newr (C : pw_ctx D ca b B N xs M p s m args meth c) {idx : Nat} (ho : pw_op M pc = some (.anewarray idx, np, t, q)) (hR : pw_rep D ca b B N xs h H) (hS : va_S (pw_A B) s.heap H locs) {n : Int32} (hn : 0 ≤ n.toInt ∧ n.toInt ≤ 100000) (hc : cells + 1 ≤ R.cells) (hs : slots + n.toNatClampNeg ≤ R.slots)
    (kk : ∀ (H1 : Heap), pw_rep D ca b B N xs (h ++ [.inr (.inl (t, n.toNatClampNeg, fun _ => none))]) H1 → va_S (pw_A B) s.heap H1 locs → W p l e R s m args below meth c H1 locs (cells + 1) (slots + n.toNatClampNeg) Q (F0 m np ls (.ref (pw_ad b B h.length) :: st.map (pw_v (pw_ad b B))))) : W p l e R s m args below meth c H locs cells slots Q (F0 m pc ls (.int n :: st.map (pw_v (pw_ad b B)))) := by
  obtain ⟨hx, hb, hml, hown, hts, hK, hX, hbB, hnm, hnw⟩ := C
  obtain ⟨hd, hnp, hok⟩ := pw_dec1 ho (by intro _ _ _ _ h; cases h)
  rw [hnp] at kk
  simp only [pw_okI] at hok
  split at hok
  · rename_i r w hr
    simp only [Bool.and_eq_true, Bool.or_eq_true, decide_eq_true_eq] at hok
    obtain ⟨h1, h2⟩ := hok
    have hn0 : ¬ n < 0 := by
      rw [Int32.lt_iff_toInt_lt]
      exact Int.not_lt.mpr hn.1
    have hcl : n.toNatClampNeg ≤ 100000 := by
      show n.toInt.toNat ≤ 100000
      omega
    have fin : ∀ (C : String), (Cond.classLink (pw_inf M).1.cls idx C).before args s = true → va_AO C s → s.vm.findClass ("[" ++ (FieldType.object C).toString) = some (ca (t + 2)) → pw_wf (.inr (.inl (t, n.toNatClampNeg, fun _ => none))) → W p l e R s m args below meth c H locs cells slots Q (F0 m pc ls (.int n :: st.map (pw_v (pw_ad b B)))) := by
      intro C hl hao hfc hw
      refine W.anew hx hb hown hl (va_AO.use hao) rfl hd rfl hn0 (by omega) hc hs fun cA kA comp f1 f2 f3 f4 => ?_
      have hca : cA = ca (t + 2) := Option.some.inj (f1.symm.trans hfc)
      subst hca
      generalize hH1 : H.push ({ cls := ca (t + 2), slots := Array.replicate n.toNatClampNeg .null, vm := .none } : Cell) = H1
      have z1 : H1.size = H.size + 1 := by rw [← hH1, Array.size_push]
      have e1 : H1[H.size]? = some (arrV (ca (t + 2)) n.toNatClampNeg (fun _ => .null)) := by rw [← hH1, Array.getElem?_push_size, ← arrV_new]
      have o1 : ∀ q : Nat, q < H.size → H1[q]? = H[q]? := fun q hq => by rw [← hH1, Array.getElem?_push, if_neg (Nat.ne_of_lt hq)]
      have k1 := kk H1 (hR.push hw e1 z1 o1) (pw_SN hS z1 o1)
      rw [hR.adn] at k1
      exact k1
    rcases h1 with rfl | rfl
    · obtain rfl := Option.some.inj hr
      obtain ⟨kA, comp, k1, k2, k3, k4⟩ := (hK.2 2 _ rfl).2
      exact fin _ (hts _ (pw_has_in h2)) hnw.2.1 k4 (Or.inl rfl)
    · obtain rfl := Option.some.inj hr
      obtain ⟨kA, comp, k1, k2, k3, k4⟩ := (hK.2 3 _ rfl).2
      exact fin _ (hts _ (pw_has_in h2)) hnw.2.2 k4 (Or.inr rfl)
  · cases hok
theorem pw_ldv (hl : pw_lr (pw_ad b B) ls L) {k : Nat} {v : pw_V} (h : L[k]? = some (some v)) : ls[k]? = some (.val (pw_v (pw_ad b B) v)) := hl.2.2 k v h
/-- a simple instruction -/
theorem pw_step_sound (C : pw_ctx D ca b B N xs M p s m args meth c) {o : pw_O} (ho : pw_op M pc = some o) {pc' : Nat} {L' : pw_L} {st' : List pw_V} {h' : pw_H} (hs : pw_step o L st h = some (pc', L', st', h')) (hl : pw_lr (pw_ad b B) ls L) (hR : pw_rep D ca b B N xs h H) (hS : va_S (pw_A B) s.heap H locs) (hc : cells + h'.length ≤ R.cells + h.length) (hsl : slots + pw_size h' ≤ R.slots + pw_size h)
    (kk : ∀ (ls' : Array Slot) (H' : Heap) (locs' : List Loc) (cells' slots' : Nat), pw_lr (pw_ad b B) ls' L' → pw_rep D ca b B N xs h' H' → va_S (pw_A B) s.heap H' locs' → cells' + h.length = cells + h'.length → slots' + pw_size h = slots + pw_size h' → W p l e R s m args below meth c H' locs' cells' slots' Q (F0 m pc' ls' (st'.map (pw_v (pw_ad b B))))) : W p l e R s m args below meth c H locs cells slots Q (F0 m pc ls (st.map (pw_v (pw_ad b B)))) := by
  have hx := C.1
  have hb := C.2.1
  have hown := C.2.2.2.1
  have hts := C.2.2.2.2.1
  obtain ⟨i, np, t, q⟩ := o
  have same : pc' = np → L' = L → h' = h → W p l e R s m args below meth c H locs cells slots Q (F0 m np ls (st'.map (pw_v (pw_ad b B)))) := by
    rintro rfl rfl rfl
    exact kk ls H locs cells slots hl hR hS rfl rfl
  cases i with
  | iconst z =>
    obtain ⟨hd, hnp, -⟩ := pw_dec1 ho (by intro _ _ _ _ h; cases h)
    cases hs
    have k1 := same rfl rfl rfl
    rw [hnp] at k1
    exact lv_iconst hx hb hd rfl k1
  | bipush z =>
    obtain ⟨hd, hnp, -⟩ := pw_dec1 ho (by intro _ _ _ _ h; cases h)
    cases hs
    have k1 := same rfl rfl rfl
    rw [hnp] at k1
    exact lv_bipush hx hb hd rfl k1
  | sipush z =>
    obtain ⟨hd, hnp, -⟩ := pw_dec1 ho (by intro _ _ _ _ h; cases h)
    cases hs
    have k1 := same rfl rfl rfl
    rw [hnp] at k1
    exact lv_sipush hx hb hd rfl k1
  | ldc_w z =>
    obtain ⟨hd, hnp, hok⟩ := pw_dec1 ho (by intro _ _ _ _ h; cases h)
    cases hs
    have k1 := same rfl rfl rfl
    rw [hnp] at k1
    simp only [pw_okI] at hok
    split at hok
    · exact lv_ldcw hx hb hown (hts _ (pw_has_in hok)) hd k1
    · cases hok
  | aconst_null =>
    obtain ⟨hd, hnp, -⟩ := pw_dec1 ho (by intro _ _ _ _ h; cases h)
    cases hs
    have k1 := same rfl rfl rfl
    rw [hnp] at k1
    exact lv_null hx hb hd k1
  | iload k =>
    obtain ⟨hd, hnp, -⟩ := pw_dec1 ho (by intro _ _ _ _ h; cases h)
    simp only [pw_step] at hs
    split at hs
    · rename_i x hk
      cases hs
      have k1 := same rfl rfl rfl
      rw [hnp] at k1
      exact lv_iload hx hb hd (pw_ldv hl hk) k1
    · cases hs
  | iload_n k =>
    obtain ⟨hd, hnp, -⟩ := pw_dec1 ho (by intro _ _ _ _ h; cases h)
    simp only [pw_step] at hs
    split at hs
    · rename_i x hk
      cases hs
      have k1 := same rfl rfl rfl
      rw [hnp] at k1
      exact lv_iload_n hx hb hd rfl (pw_ldv hl hk) k1
    · cases hs
  | aload k =>
    obtain ⟨hd, hnp, -⟩ := pw_dec1 ho (by intro _ _ _ _ h; cases h)
    simp only [pw_step] at hs
    split at hs
    · rename_i x hk
      cases hs
      have k1 := same rfl rfl rfl
      rw [hnp] at k1
      cases x with
      | none => exact lv_aloadN hx hb hd (pw_ldv hl hk) k1
      | some x => exact lv_aload hx hb hd (pw_ldv hl hk) k1
    · cases hs
  | aload_n k =>
    obtain ⟨hd, hnp, -⟩ := pw_dec1 ho (by intro _ _ _ _ h; cases h)
    simp only [pw_step] at hs
    split at hs
    · rename_i x hk
      cases hs
      have k1 := same rfl rfl rfl
      rw [hnp] at k1
      cases x with
      | none => exact lv_aload_nN hx hb hd rfl (pw_ldv hl hk) k1
      | some x => exact lv_aload_n hx hb hd rfl (pw_ldv hl hk) k1
    · cases hs
  | istore k =>
    obtain ⟨hd, hnp, -⟩ := pw_dec1 ho (by intro _ _ _ _ h; cases h)
    simp only [pw_step] at hs
    split at hs
    · rename_i x st0
      split at hs
      · rename_i hk
        cases hs
        refine lv_istore hx hb hd hl.has hk rfl (fun ls' hl' => ?_)
        rw [← show _ = pc + 2 from hnp]
        exact kk ls' H locs cells slots (pw_lr.of (v := .inl x) hk hl') hR hS rfl rfl
      · cases hs
    · cases hs
  | istore_n k =>
    obtain ⟨hd, hnp, -⟩ := pw_dec1 ho (by intro _ _ _ _ h; cases h)
    simp only [pw_step] at hs
    split at hs
    · rename_i x st0
      split at hs
      · rename_i hk
        cases hs
        refine lv_istore_n hx hb hd rfl hl.has hk rfl (fun ls' hl' => ?_)
        rw [← show _ = pc + 1 from hnp]
        exact kk ls' H locs cells slots (pw_lr.of (v := .inl x) hk hl') hR hS rfl rfl
      · cases hs
    · cases hs
  | astore k =>
    obtain ⟨hd, hnp, -⟩ := pw_dec1 ho (by intro _ _ _ _ h; cases h)
    simp only [pw_step] at hs
    split at hs
    · rename_i x st0
      split at hs
      · rename_i hk
        cases hs
        cases x with
        | none =>
          refine lv_astoreN hx hb hd hl.has hk rfl (fun ls' hl' => ?_)
          rw [← show _ = pc + 2 from hnp]
          exact kk ls' H locs cells slots (pw_lr.of (v := .inr none) hk hl') hR hS rfl rfl
        | some x =>
          refine lv_astore hx hb hd hl.has hk rfl (fun ls' hl' => ?_)
          rw [← show _ = pc + 2 from hnp]
          exact kk ls' H locs cells slots (pw_lr.of (v := .inr (some x)) hk hl') hR hS rfl rfl
      · cases hs
    · cases hs
  | astore_n k =>
    obtain ⟨hd, hnp, -⟩ := pw_dec1 ho (by intro _ _ _ _ h; cases h)
    simp only [pw_step] at hs
    split at hs
    · rename_i x st0
      split at hs
      · rename_i hk
        cases hs
        cases x with
        | none =>
          refine lv_astore_nN hx hb hd rfl hl.has hk rfl (fun ls' hl' => ?_)
          rw [← show _ = pc + 1 from hnp]
          exact kk ls' H locs cells slots (pw_lr.of (v := .inr none) hk hl') hR hS rfl rfl
        | some x =>
          refine lv_astore_n hx hb hd rfl hl.has hk rfl (fun ls' hl' => ?_)
          rw [← show _ = pc + 1 from hnp]
          exact kk ls' H locs cells slots (pw_lr.of (v := .inr (some x)) hk hl') hR hS rfl rfl
      · cases hs
    · cases hs
  | iinc k z =>
    obtain ⟨hd, hnp, -⟩ := pw_dec1 ho (by intro _ _ _ _ h; cases h)
    simp only [pw_step] at hs
    split at hs
    · rename_i x hk
      cases hs
      obtain ⟨j, hj⟩ := List.getElem?_of_mem (pw_lv_mem (ad := pw_ad b B) hk)
      have hkl := (List.getElem?_eq_some_iff.mp hk).1
      refine lv_iinc hx hb hd hl.has hj rfl hkl rfl (fun ls' hl' => ?_)
      rw [← show _ = pc + 3 from hnp]
      exact kk ls' H locs cells slots (pw_lr.of (v := .inl (x + Int32.ofInt z)) hkl hl') hR hS rfl rfl
    · cases hs
  | iadd =>
    obtain ⟨hd, hnp, -⟩ := pw_dec1 ho (by intro _ _ _ _ h; cases h)
    simp only [pw_step] at hs
    split at hs
    · cases hs
      have k1 := same rfl rfl rfl
      rw [hnp] at k1
      exact lv_iadd hx hb hd  k1
    · cases hs
  | isub =>
    obtain ⟨hd, hnp, -⟩ := pw_dec1 ho (by intro _ _ _ _ h; cases h)
    simp only [pw_step] at hs
    split at hs
    · cases hs
      have k1 := same rfl rfl rfl
      rw [hnp] at k1
      exact lv_isub hx hb hd  k1
    · cases hs
  | imul =>
    obtain ⟨hd, hnp, -⟩ := pw_dec1 ho (by intro _ _ _ _ h; cases h)
    simp only [pw_step] at hs
    split at hs
    · cases hs
      have k1 := same rfl rfl rfl
      rw [hnp] at k1
      exact lv_imul hx hb hd  k1
    · cases hs
  | iand =>
    obtain ⟨hd, hnp, -⟩ := pw_dec1 ho (by intro _ _ _ _ h; cases h)
    simp only [pw_step] at hs
    split at hs
    · cases hs
      have k1 := same rfl rfl rfl
      rw [hnp] at k1
      exact lv_iand hx hb hd  k1
    · cases hs
  | ior =>
    obtain ⟨hd, hnp, -⟩ := pw_dec1 ho (by intro _ _ _ _ h; cases h)
    simp only [pw_step] at hs
    split at hs
    · cases hs
      have k1 := same rfl rfl rfl
      rw [hnp] at k1
      exact lv_ior hx hb hd  k1
    · cases hs
  | ixor =>
    obtain ⟨hd, hnp, -⟩ := pw_dec1 ho (by intro _ _ _ _ h; cases h)
    simp only [pw_step] at hs
    split at hs
    · cases hs
      have k1 := same rfl rfl rfl
      rw [hnp] at k1
      exact lv_ixor hx hb hd  k1
    · cases hs
  | ishl =>
    obtain ⟨hd, hnp, -⟩ := pw_dec1 ho (by intro _ _ _ _ h; cases h)
    simp only [pw_step] at hs
    split at hs
    · cases hs
      have k1 := same rfl rfl rfl
      rw [hnp] at k1
      exact lv_ishl hx hb hd  k1
    · cases hs
  | ishr =>
    obtain ⟨hd, hnp, -⟩ := pw_dec1 ho (by intro _ _ _ _ h; cases h)
    simp only [pw_step] at hs
    split at hs
    · cases hs
      have k1 := same rfl rfl rfl
      rw [hnp] at k1
      exact lv_ishr hx hb hd  k1
    · cases hs
  | iushr =>
    obtain ⟨hd, hnp, -⟩ := pw_dec1 ho (by intro _ _ _ _ h; cases h)
    simp only [pw_step] at hs
    split at hs
    · cases hs
      have k1 := same rfl rfl rfl
      rw [hnp] at k1
      exact lv_iushr hx hb hd rfl k1
    · cases hs
  | idiv =>
    obtain ⟨hd, hnp, -⟩ := pw_dec1 ho (by intro _ _ _ _ h; cases h)
    simp only [pw_step] at hs
    split at hs
    · split at hs
      · cases hs
      · rename_i hne
        cases hs
        have k1 := same rfl rfl rfl
        rw [hnp] at k1
        exact lv_idiv hx hb hd hne k1
    · cases hs
  | irem =>
    obtain ⟨hd, hnp, -⟩ := pw_dec1 ho (by intro _ _ _ _ h; cases h)
    simp only [pw_step] at hs
    split at hs
    · split at hs
      · cases hs
      · rename_i hne
        cases hs
        have k1 := same rfl rfl rfl
        rw [hnp] at k1
        exact lv_irem hx hb hd hne k1
    · cases hs
  | ineg =>
    obtain ⟨hd, hnp, -⟩ := pw_dec1 ho (by intro _ _ _ _ h; cases h)
    simp only [pw_step] at hs
    split at hs
    · cases hs
      have k1 := same rfl rfl rfl
      rw [hnp] at k1
      exact lv_ineg hx hb hd  k1
    · cases hs
  | dup =>
    obtain ⟨hd, hnp, -⟩ := pw_dec1 ho (by intro _ _ _ _ h; cases h)
    simp only [pw_step] at hs
    split at hs
    · cases hs
      have k1 := same rfl rfl rfl
      rw [hnp] at k1
      exact lv_dup hx hb hd (pw_cat _ _) k1
    · cases hs
  | dup_x1 =>
    obtain ⟨hd, hnp, -⟩ := pw_dec1 ho (by intro _ _ _ _ h; cases h)
    simp only [pw_step] at hs
    split at hs
    · cases hs
      have k1 := same rfl rfl rfl
      rw [hnp] at k1
      exact lv_dup_x1 hx hb hd (pw_cat _ _) (pw_cat _ _) k1
    · cases hs
  | dup2 =>
    obtain ⟨hd, hnp, -⟩ := pw_dec1 ho (by intro _ _ _ _ h; cases h)
    simp only [pw_step] at hs
    split at hs
    · cases hs
      have k1 := same rfl rfl rfl
      rw [hnp] at k1
      exact lv_dup2_11 hx hb hd (pw_cat _ _) (pw_cat _ _) k1
    · cases hs
  | pop =>
    obtain ⟨hd, hnp, -⟩ := pw_dec1 ho (by intro _ _ _ _ h; cases h)
    simp only [pw_step] at hs
    split at hs
    · cases hs
      have k1 := same rfl rfl rfl
      rw [hnp] at k1
      exact lv_pop hx hb hd (pw_cat _ _) k1
    · cases hs
  | ifCond cd off =>
    obtain ⟨hd, hnp, hok⟩ := pw_dec1 ho (by intro _ _ _ _ h; cases h)
    have htg := of_decide_eq_true hok
    simp only [pw_step] at hs
    split at hs
    · rename_i x st0
      cases hs
      have kt : pw_cond cd x 0 = true → W p l e R s m args below meth c H locs cells slots Q (F0 m t ls (st'.map (pw_v (pw_ad b B)))) := fun hcd => by
        have k1 := kk ls H locs cells slots hl hR hS rfl rfl
        rw [hcd] at k1
        exact k1
      have kf : pw_cond cd x 0 = false → W p l e R s m args below meth c H locs cells slots Q (F0 m (pc + 3) ls (st'.map (pw_v (pw_ad b B)))) := fun hcd => by
        have k1 := kk ls H locs cells slots hl hR hS rfl rfl
        rw [hcd] at k1
        rw [← show _ = pc + 3 from hnp]
        exact k1
      cases cd
      case eq => exact lv_if_eq hx hb hd htg (fun hq => kt (by simp [pw_cond, hq])) (fun hq => kf (by simp [pw_cond, hq]))
      case ne => exact lv_if_ne hx hb hd htg (fun hq => kt (by simp [pw_cond, hq])) (fun hq => kf (by simp [pw_cond, hq]))
      case lt => exact lv_if_lt hx hb hd htg (fun hq => kt (by simp [pw_cond, hq])) (fun hq => kf (by simp [pw_cond, hq]))
      case ge => exact lv_if_ge hx hb hd htg (fun hq => kt (by simp [pw_cond, hq])) (fun hq => kf (by simp [pw_cond, hq]))
      case gt => exact lv_if_gt hx hb hd htg (fun hq => kt (by simp [pw_cond, hq])) (fun hq => kf (by simp [pw_cond, hq]))
      case le => exact lv_if_le hx hb hd htg (fun hq => kt (by simp [pw_cond, hq])) (fun hq => kf (by simp [pw_cond, hq]))
    · cases hs
  | if_icmp cd off =>
    obtain ⟨hd, hnp, hok⟩ := pw_dec1 ho (by intro _ _ _ _ h; cases h)
    have htg := of_decide_eq_true hok
    simp only [pw_step] at hs
    split at hs
    · rename_i y x st0
      cases hs
      have kt : pw_cond cd x y = true → W p l e R s m args below meth c H locs cells slots Q (F0 m t ls (st'.map (pw_v (pw_ad b B)))) := fun hcd => by
        have k1 := kk ls H locs cells slots hl hR hS rfl rfl
        rw [hcd] at k1
        exact k1
      have kf : pw_cond cd x y = false → W p l e R s m args below meth c H locs cells slots Q (F0 m (pc + 3) ls (st'.map (pw_v (pw_ad b B)))) := fun hcd => by
        have k1 := kk ls H locs cells slots hl hR hS rfl rfl
        rw [hcd] at k1
        rw [← show _ = pc + 3 from hnp]
        exact k1
      cases cd
      case eq => exact lv_icmp_eq hx hb hd htg (fun hq => kt (by simp [pw_cond, hq])) (fun hq => kf (by simp [pw_cond, hq]))
      case ne => exact lv_icmp_ne hx hb hd htg (fun hq => kt (by simp [pw_cond, hq])) (fun hq => kf (by simp [pw_cond, hq]))
      case lt => exact lv_icmp_lt hx hb hd htg (fun hq => kt (by simp [pw_cond, hq])) (fun hq => kf (by simp [pw_cond, hq]))
      case ge => exact lv_icmp_ge hx hb hd htg (fun hq => kt (by simp [pw_cond, hq])) (fun hq => kf (by simp [pw_cond, hq]))
      case gt => exact lv_icmp_gt hx hb hd htg (fun hq => kt (by simp [pw_cond, hq])) (fun hq => kf (by simp [pw_cond, hq]))
      case le => exact lv_icmp_le hx hb hd htg (fun hq => kt (by simp [pw_cond, hq])) (fun hq => kf (by simp [pw_cond, hq]))
    · cases hs
  | ifnull off =>
    obtain ⟨hd, hnp, hok⟩ := pw_dec1 ho (by intro _ _ _ _ h; cases h)
    have htg := of_decide_eq_true hok
    simp only [pw_step] at hs
    split at hs
    · cases hs
      have k1 := kk ls H locs cells slots hl hR hS rfl rfl
      exact lv_ifnullN hx hb hd htg k1
    · cases hs
      have k1 := kk ls H locs cells slots hl hR hS rfl rfl
      rw [hnp] at k1; exact lv_ifnull hx hb hd k1
    · cases hs
  | ifnonnull off =>
    obtain ⟨hd, hnp, hok⟩ := pw_dec1 ho (by intro _ _ _ _ h; cases h)
    have htg := of_decide_eq_true hok
    simp only [pw_step] at hs
    split at hs
    · cases hs
      have k1 := kk ls H locs cells slots hl hR hS rfl rfl
      rw [hnp] at k1; exact lv_ifnonnullN hx hb hd k1
    · cases hs
      have k1 := kk ls H locs cells slots hl hR hS rfl rfl
      exact lv_ifnonnull hx hb hd htg k1
    · cases hs
  | goto off =>
    obtain ⟨hd, hnp, hok⟩ := pw_dec1 ho (by intro _ _ _ _ h; cases h)
    have htg := of_decide_eq_true hok
    cases hs
    exact lv_goto hx hb hd htg (kk ls H locs cells slots hl hR hS rfl rfl)
  | tableswitch df lo hi offs =>
    obtain ⟨⟨len, hd, hnp, -⟩, hok⟩ := pw_dec ho
    simp only [pw_okI, Bool.and_eq_true, decide_eq_true_eq] at hok
    obtain ⟨⟨htg, hql⟩, hqs⟩ := hok
    simp only [pw_step] at hs
    split at hs
    · rename_i x st0
      split at hs
      · rename_i hout
        cases hs
        exact lv_tableOut hx hb hd hout htg (kk ls H locs cells slots hl hR hS rfl rfl)
      · rename_i hin
        split at hs
        · rename_i u hu
          have hj := (List.getElem?_eq_some_iff.mp hu).1
          have e1 : (q.map (fun u : Nat => some ((u : Int) - (pc : Int))))[(x.toInt - lo).toNat]? = some (some ((u : Int) - (pc : Int))) := by rw [List.getElem?_map, hu]; rfl
          rw [hqs, List.getElem?_map, List.getElem?_range hj] at e1
          have e2 : offs[(x.toInt - lo).toNat]? = some ((u : Int) - (pc : Int)) := Option.some.inj e1
          cases hs
          exact lv_tableIn hx hb hd (fun h => hin (Or.inl h)) (fun h => hin (Or.inr h)) e2 (by omega) (kk ls H locs cells slots hl hR hS rfl rfl)
        · cases hs
    · cases hs
  | getfield idx =>
    simp only [pw_step] at hs
    split at hs
    · rename_i a st0 k q'
      split at hs
      · rename_i c0 fs ha
        split at hs
        · rename_i hct
          subst hct
          split at hs
          · rename_i v hv
            cases hs
            exact pw_getf C ho hR rfl ha hv (kk ls H locs cells slots hl hR hS rfl rfl)
          · cases hs
        · cases hs
      · cases hs
    · cases hs
  | putfield idx =>
    simp only [pw_step] at hs
    split at hs
    · rename_i v a st0 k kd q'
      split at hs
      · rename_i c0 fs ha
        split at hs
        · rename_i hct
          obtain ⟨rfl, hk, hkd⟩ := hct
          cases hs
          have hzz : pw_size (h.set a (.inr (.inr (c0, fs.set k v)))) = pw_size h := pw_size_set ha (by simp [pw_sz])
          exact pw_putf C ho hR hS rfl ha hk hkd (fun H1 locs1 hR1 hS1 => kk ls H1 locs1 cells slots hl hR1 hS1 (by rw [List.length_set]) (by rw [hzz]))
        · cases hs
      · cases hs
    · cases hs
  | iaload =>
    simp only [pw_step] at hs
    split at hs
    · split at hs
      · rename_i g n f ha
        split at hs
        · rename_i hg
          cases hs
          exact pw_iald C ho hR hS ha hg.1 hg.2 (kk ls H locs cells slots hl hR hS rfl rfl)
        · cases hs
      · cases hs
    · cases hs
  | baload =>
    simp only [pw_step] at hs
    split at hs
    · split at hs
      · rename_i g n f ha
        split at hs
        · rename_i hg
          obtain ⟨rfl, hg⟩ := hg
          cases hs
          exact pw_zald C ho hR ha hg (kk ls H locs cells slots hl hR hS rfl rfl)
        · cases hs
      · cases hs
    · cases hs
  | iastore =>
    simp only [pw_step] at hs
    split at hs
    · rename_i x i a st0
      split at hs
      · rename_i g n f ha
        split at hs
        · rename_i hg
          obtain ⟨rfl, hg⟩ := hg
          have hzz : pw_size (h.set a (.inl (0, n, upd f i.toNatClampNeg x))) = pw_size h := pw_size_set ha rfl
          cases hs
          exact pw_iast C ho hR hS ha hg (fun H1 locs1 hR1 hS1 => kk ls H1 locs1 cells slots hl hR1 hS1 (by rw [List.length_set]) (by rw [hzz]))
        · cases hs
      · cases hs
    · cases hs
  | bastore =>
    simp only [pw_step] at hs
    split at hs
    · rename_i x i a st0
      split at hs
      · rename_i g n f ha
        split at hs
        · rename_i hg
          obtain ⟨rfl, hg, hbt⟩ := hg
          have hzz : pw_size (h.set a (.inl (1, n, upd f i.toNatClampNeg x))) = pw_size h := pw_size_set ha rfl
          cases hs
          exact pw_zast C ho hR hS ha hg hbt (fun H1 locs1 hR1 hS1 => kk ls H1 locs1 cells slots hl hR1 hS1 (by rw [List.length_set]) (by rw [hzz]))
        · cases hs
      · cases hs
    · cases hs
  | aaload =>
    simp only [pw_step] at hs
    split at hs
    · split at hs
      · rename_i g n f ha
        split at hs
        · rename_i hg
          cases hs
          exact pw_aald C ho hR ha hg (kk ls H locs cells slots hl hR hS rfl rfl)
        · cases hs
      · cases hs
    · cases hs
  | aastore =>
    simp only [pw_step] at hs
    split at hs
    · rename_i v i a st0
      split at hs
      · rename_i g n f c0 fs ha hv
        split at hs
        · rename_i hg
          obtain ⟨rfl, hg⟩ := hg
          have hzz : pw_size (h.set a (.inr (.inl (c0, n, va_up f i.toNatClampNeg (some v))))) = pw_size h := pw_size_set ha rfl
          cases hs
          exact pw_aast C ho hR hS ha hv hg (fun H1 locs1 hR1 hS1 => kk ls H1 locs1 cells slots hl hR1 hS1 (by rw [List.length_set]) (by rw [hzz]))
        · cases hs
      · cases hs
    · cases hs
  | arraylength =>
    simp only [pw_step] at hs
    split at hs
    · split at hs
      · rename_i g n f ha
        cases hs
        exact pw_alen C ho hR hS ha (kk ls H locs cells slots hl hR hS rfl rfl)
      · cases hs
    · cases hs
  | newarray ty =>
    simp only [pw_step] at hs
    split at hs
    · split at hs
      · rename_i n st0 hn
        cases hs
        simp only [List.length_append, List.length_singleton, pw_size_push] at hc hsl
        exact pw_newi C ho hR hS hn (by omega) (by show slots + pw_sz (.inl (t, n.toNatClampNeg, fun _ => 0)) ≤ _; omega) (fun H1 hR1 hS1 => kk ls H1 locs _ _ hl hR1 hS1 (by simp only [List.length_append, List.length_singleton]; omega) (by rw [pw_size_push]; show slots + n.toNatClampNeg + _ = slots + (_ + n.toNatClampNeg); omega))
      · cases hs
    · cases hs
  | anewarray idx =>
    simp only [pw_step] at hs
    split at hs
    · split at hs
      · rename_i n st0 hn
        cases hs
        simp only [List.length_append, List.length_singleton, pw_size_push] at hc hsl
        exact pw_newr C ho hR hS hn (by omega) (by show slots + pw_sz (.inr (.inl (t, n.toNatClampNeg, fun _ => none))) ≤ _; omega) (fun H1 hR1 hS1 => kk ls H1 locs _ _ hl hR1 hS1 (by simp only [List.length_append, List.length_singleton]; omega) (by rw [pw_size_push]; show slots + n.toNatClampNeg + _ = slots + (_ + n.toNatClampNeg); omega))
      · cases hs
    · cases hs
  | new idx =>
    cases hs
    simp only [List.length_append, List.length_singleton, pw_size_push] at hc hsl
    exact pw_newo C ho hR hS (by omega) (by show slots + pw_sz (.inr (.inr (t, pw_def t))) ≤ _; omega) (fun H1 hR1 hS1 => kk ls H1 locs _ _ hl hR1 hS1 (by simp only [List.length_append, List.length_singleton]; omega) (by rw [pw_size_push]; show slots + (pw_def t).length + _ = slots + (_ + (pw_def t).length); omega))
  | _ => cases hs
end PWT
end
section
theorem pw_step_mono {o : pw_O} {L L' : pw_L} {st st' : List pw_V} {h h' : pw_H} {pc' : Nat} (hs : pw_step o L st h = some (pc', L', st', h')) : L'.length = L.length ∧ h.length ≤ h'.length ∧ pw_size h ≤ pw_size h' := by
  obtain ⟨i, np, t, q⟩ := o
  cases i <;> simp only [pw_step] at hs <;> (repeat' split at hs) <;> first
    | (cases hs; done)
    | (cases hs; exact ⟨rfl, Nat.le_refl _, Nat.le_refl _⟩)
    | (cases hs; exact ⟨List.length_set, Nat.le_refl _, Nat.le_refl _⟩)
    | (cases hs; refine ⟨rfl, ?_, ?_⟩ <;> first | (rw [List.length_set]; exact Nat.le_refl _) | (rw [List.length_append]; exact Nat.le_add_right _ _) | (rw [pw_size_push]; exact Nat.le_add_right _ _) | (rw [pw_size_set (by assumption) (by simp [pw_sz])]; exact Nat.le_refl _))
theorem pw_mono : ∀ (n d M pc : Nat) (L : pw_L) (st : List pw_V) (h : pw_H) (r : Option pw_V) (h' : pw_H), pw_run n d M pc L st h = some (r, h') → h.length ≤ h'.length ∧ pw_size h ≤ pw_size h' := by
  intro n
  induction n with
  | zero =>
    intro d M pc L st h r h' hr
    cases hr
  | succ n ih =>
    intro d M pc L st h r h' hr
    rw [pw_run] at hr
    cases ho : pw_op M pc with
    | none => rw [ho] at hr; cases hr
    | some o =>
      rw [ho] at hr
      dsimp only at hr
      cases hret : pw_isRet o.1 with
      | true =>
        rw [hret] at hr
        dsimp only [cond] at hr
        split at hr
        · cases hr
          exact ⟨Nat.le_refl _, Nat.le_refl _⟩
        · cases hr
      | false =>
        rw [hret] at hr
        dsimp only [cond] at hr
        cases hcall : pw_isCall o.1 with
        | true =>
          rw [hcall] at hr
          dsimp only at hr
          cases d with
          | zero => cases hr
          | succ d =>
            dsimp only at hr
            split at hr
            · split at hr
              · split at hr
                · exact ih _ _ _ _ _ _ _ _ hr
                · cases hr
              · cases hr
            · split at hr
              · split at hr
                · exact ih _ _ _ _ _ _ _ _ hr
                · cases hr
              · cases hr
            · split at hr
              · cases hr
              · split at hr
                · split at hr
                  · cases hr
                  · rename_i r1 h1 hr1
                    have a1 := ih _ _ _ _ _ _ _ _ hr1
                    have a2 := ih _ _ _ _ _ _ _ _ hr
                    exact ⟨Nat.le_trans a1.1 a2.1, Nat.le_trans a1.2 a2.2⟩
                · cases hr
        | false =>
          rw [hcall] at hr
          dsimp only at hr
          split at hr
          · cases hr
          · rename_i pc' L' st' h1 hs
            have a1 := (pw_step_mono hs).2
            have a2 := ih _ _ _ _ _ _ _ _ hr
            exact ⟨Nat.le_trans a1.1 a2.1, Nat.le_trans a1.2 a2.2⟩
def pw_Pc (D : va_G) (ca : Nat → ClassId) (b B N : Nat) (xs : Nat → Int32) (as : List pw_V) (h : pw_H) : Array Value → State → Prop :=
  va_Pc (as.map (pw_v (pw_ad b B))) (fun U => pw_rep D ca b B N xs h U.heap ∧ va_K D pw_cl (pw_tys ca) U ∧ va_X b N xs U U.heap ∧ (b < B ∧ B ≤ U.heap.size) ∧ pw_nw U)
def pw_Qc (D : va_G) (ca : Nat → ClassId) (b B N : Nat) (xs : Nat → Int32) (r : Option pw_V) (h' : pw_H) : Array Value → State → Outcome → State → Prop :=
  fun _ st oc t => oc = .returned (r.map (pw_v (pw_ad b B))) ∧ pw_rep D ca b B N xs h' t.heap ∧ va_F (pw_A B) st t
def pw_ws (M : Nat) : List Cond := Cond.code (pw_inf M).1 (pw_inf M).2.1 (pw_inf M).2.2.1 (pw_inf M).2.2.2 :: pw_tbl
theorem pw_good {M : Nat} (h0 : 0 < M) (h : M < 115) : GoodIn pw_tbl (pw_ws M) := by
  intro w hw
  rcases List.mem_cons.mp hw with rfl | hw
  · exact ⟨List.mem_filter.mpr ⟨pw_cw h0 h, rfl⟩, good_of_word rfl⟩
  · exact ⟨hw, good_of_word (List.mem_filter.mp hw).2⟩
theorem pw_blind (D : va_G) (ca : Nat → ClassId) (b B N : Nat) (xs : Nat → Int32) (as : List pw_V) (h : pw_H) : FrameBlind (pw_Pc D ca b B N xs as h) := by
  intro a U g mk q
  obtain ⟨q0, qR, qK, qX, qB, qN⟩ := q
  exact ⟨q0, qR, va_K.moved (u := U) (U := U.calling g mk a) (Vm.Alike.refl U.vm) qK, va_X.moved (u := U) (U := U.calling g mk a) (Vm.Alike.refl U.vm) qX, qB, pw_nw.same (u := U) (U := U.calling g mk a) rfl qN⟩
/-- the pure machine is the machine, for runs of fuel n -/
def pw_Snd (l : Launch) (D : va_G) (ca : Nat → ClassId) (b B N : Nat) (xs : Nat → Int32) (n : Nat) : Prop :=
  ∀ (d M pc : Nat) (L : pw_L) (st : List pw_V) (h : pw_H) (r : Option pw_V) (h' : pw_H), pw_run n d M pc L st h = some (r, h') →
  ∀ (p : Program) (e : Env) (R : Room) (s : State) (m : MethodId) (args : Array Value) (below : List Frame) (meth : Method) (c : Code) (H : Heap) (locs : List Loc) (cells slots : Nat) (Q : State → Prop) (ls : Array Slot),
  pw_ctx D ca b B N xs M p s m args meth c → d ≤ R.frames → 36 * d ≤ R.locals → L.length = (pw_inf M).2.2.1 → pw_lr (pw_ad b B) ls L → pw_rep D ca b B N xs h H → va_S (pw_A B) s.heap H locs → cells + h'.length ≤ R.cells + h.length → slots + pw_size h' ≤ R.slots + pw_size h →
  (∀ (pc : Nat) (ls : Array Slot) (H : Heap) (locs : List Loc) (cells slots : Nat) (i : Instr) (st : List pw_V), decode (pw_inf M).2.1 pc = .ok (i, 1) → pw_ret M i st = some r → pw_rep D ca b B N xs h' H → va_S (pw_A B) s.heap H locs → cells ≤ R.cells → slots ≤ R.slots → W p l e R s m args below meth c H locs cells slots Q (F0 m pc ls (st.map (pw_v (pw_ad b B))))) →
  W p l e R s m args below meth c H locs cells slots Q (F0 m pc ls (st.map (pw_v (pw_ad b B))))
theorem pw_sl (ad : Nat → Nat) (as : List pw_V) : lg_sl (as.map (pw_v ad)) = as.map (fun v => Slot.val (pw_v ad v)) := by
  induction as with
  | nil => rfl
  | cons a l ih =>
    show (if (pw_v ad a).category = 2 then _ else _) ++ lg_sl (l.map (pw_v ad)) = _
    rw [ih, if_neg (by rw [pw_cat]; decide)]
    rfl
theorem pw_entry {ad : Nat → Nat} {M : Nat} {as : List pw_V} (h : as.length ≤ (pw_inf M).2.2.1) : pw_lr ad ((lg_sl (as.map (pw_v ad)) ++ List.replicate ((pw_inf M).2.2.1 - (lg_sl (as.map (pw_v ad))).length) Slot.unset).toArray) (pw_ent M as) := by
  have h1 := lv_entry (as.map (pw_v ad)) (n := (pw_inf M).2.2.1) (by rw [pw_sl, List.length_map]; exact h)
  refine ⟨?_, h1.2.1, fun i v hi => ?_⟩
  · rw [h1.1]
    simp only [pw_ent, List.length_append, List.length_map, List.length_replicate]
    omega
  · simp only [pw_ent] at hi
    by_cases hl : i < as.length
    · rw [List.getElem?_append_left (by rw [List.length_map]; exact hl), List.getElem?_map] at hi
      cases ha : as[i]? with
      | none => rw [ha] at hi; cases hi
      | some w =>
        rw [ha] at hi
        cases hi
        rw [pw_sl, List.getElem?_toArray, List.getElem?_append_left (by rw [List.length_map]; exact hl), List.getElem?_map, ha]
        rfl
    · rw [List.getElem?_append_right (by rw [List.length_map]; omega), List.getElem?_replicate] at hi
      split at hi <;> cases hi
section PWM
variable {l : Launch} {D : va_G} {ca : Nat → ClassId} {b B N : Nat} {xs : Nat → Int32}
set_option maxHeartbeats 1000000 in
theorem pw_met {n : Nat} (S : pw_Snd l D ca b B N xs n) {d M : Nat} {as : List pw_V} {h : pw_H} {r : Option pw_V} {h' : pw_H} (hrun : pw_run n d M 0 (pw_ent M as) [] h = some (r, h')) (has : as.length ≤ (pw_inf M).2.2.1) (hpl : plainName (pw_inf M).1.cls = true) :
    Met l (pw_inf M).1 (pw_ws M) ({ frames := d, cells := h'.length - h.length, slots := pw_size h' - pw_size h, locals := 36 * d }) (pw_Pc D ca b B N xs as h) (pw_Qc D ca b B N xs r h') (h'.length - h.length) (pw_size h' - pw_size h) (pw_A B) := by
  have hmono := pw_mono _ _ _ _ _ _ _ _ _ hrun
  refine Met.ofW (cc := (pw_inf M).2.1) (maxL := (pw_inf M).2.2.1) (ret := (pw_inf M).2.2.2) hpl rfl ?_
  intro p e s m args below meth c s₁ Bd hml hv
  obtain ⟨rfl, hR, hK, hX, hbB, hnw⟩ := hv
  have hx := Bd.exec
  have hb := Bd.bytes
  have hr := Bd.returns
  have hts := atoms_spec (ws := pw_ws M) Bd.pre
  have hown := findClass_of_methodNamed Bd.named
  have hlocks := Bd.notSynchronized
  have hnm := (name_of_methodNamed Bd.named Bd.method).1
  rw [lg_entry_eq]
  have C : pw_ctx D ca b B N xs M p s m (as.map (pw_v (pw_ad b B))).toArray meth c := ⟨hx, hb, hml, hown, fun w hw => hts w (List.mem_cons_of_mem _ hw), hK, hX, hbB, hnm, hnw⟩
  refine S d M 0 (pw_ent M as) [] h r h' hrun p e _ s m _ below meth c s.heap [] 0 0 _ _ C (Nat.le_refl _) (Nat.le_refl _) ?_ (pw_entry has) hR va_S.rf ?_ ?_ ?_
  · simp only [pw_ent, List.length_append, List.length_map, List.length_replicate]
    omega
  · show 0 + h'.length ≤ (h'.length - h.length) + h.length
    omega
  · show 0 + pw_size h' ≤ (pw_size h' - pw_size h) + pw_size h
    omega
  · intro pc ls H locs cells slots i st hd hret hR' hS' hc hs
    refine W.widen (k := h'.length - h.length) (n := pw_size h' - pw_size h) hc hs ?_
    unfold pw_ret at hret
    split at hret
    · rename_i v
      split at hret
      · rename_i hok
        cases hret
        rcases hok with hi | ⟨hi, hbt⟩
        · exact W.iret (v := v) hx hb (hr.trans hi) (fun t ht hW => ⟨rfl, by rw [ht]; exact hR', hS'.F ht⟩) hS'.2.2 hd
        · refine W.zret (v := v) (ty := .boolean) hx hb (hr.trans hi) ?_ (fun t ht hW => ⟨rfl, by rw [ht]; exact hR', hS'.F ht⟩) hS'.2.2 hd
          simp only [pw_bit, Bool.or_eq_true, decide_eq_true_eq] at hbt
          rcases hbt with rfl | rfl <;> rfl
      · cases hret
    · rename_i v
      split at hret
      · rename_i nn hi
        cases hret
        refine W.aret (v := pw_v (pw_ad b B) (.inr v)) (rt := .object nn) hx hb (hr.trans hi) (Or.inl ⟨_, rfl⟩) ?_ (fun t ht hW => ⟨rfl, by rw [ht]; exact hR', hS'.F ht⟩) hS'.2.2 hd
        cases v with
        | none => exact Or.inl rfl
        | some a => exact Or.inr ⟨_, rfl⟩
      · cases hret
    · split at hret
      · rename_i hi
        cases hret
        exact W.vret hx hb (hr.trans hi) (fun t ht hW => ⟨rfl, by rw [ht]; exact hR', hS'.F ht⟩) hS'.2.2 hd
      · cases hret
    · cases hret
end PWM
end
section
section PWK
variable {p : Program} {l : Launch} {e : Env} {R : Room} {s : State} {m : MethodId} {args : Array Value} {below : List Frame} {meth : Method} {c : Code} {H : Heap} {locs : List Loc} {cells slots : Nat} {Q : State → Prop}
variable {D : va_G} {ca : Nat → ClassId} {b B N : Nat} {xs : Nat → Int32} {M pc np t : Nat} {q : List Nat} {ls : Array Slot} {L : pw_L} {st : List pw_V} {h : pw_H}
theorem pw_call {st0 rest : List Value} {a : Array Value} {r : Option pw_V} {h1 : pw_H} {mc ms : Nat} (hr : va_Run p l e R s m args below meth c H locs cells slots mc ms (F0 m pc ls st0) rest (pw_Qc D ca b B N xs r h1 a) (pw_A B)) (hS : va_S (pw_A B) s.heap H locs)
    (kk : ∀ (H1 : Heap) (locs1 : List Loc), pw_rep D ca b B N xs h1 H1 → va_S (pw_A B) s.heap H1 locs1 → W p l e R s m args below meth c H1 locs1 (cells + mc) (slots + ms) Q (F0 m (pc + 3) ls ((r.map (pw_v (pw_ad b B))).toList ++ rest))) : W p l e R s m args below meth c H locs cells slots Q (F0 m pc ls st0) := by
  intro T hT X
  obtain ⟨v, st₀, t, T', L, h0, X', hL, e1, e2, ⟨hv, hR1, hz, hk⟩, st⟩ := hr T hT X
  cases hv
  rw [h0] at hz hk
  rw [← e1] at hR1
  obtain ⟨t2, a1, b1⟩ := kk T'.heap (locs ++ L) hR1 ⟨Nat.le_trans hS.1 (by rw [e1]; exact hz), fun q h1 h2 => by rw [e1, hk q (Nat.lt_of_lt_of_le h1 hS.1) h2]; exact hS.2.1 q h1 h2, fun q hq => by
      rcases List.mem_append.mp hq with h | h
      · exact hS.2.2 q h
      · exact hL q h⟩ T' rfl X'
  exact ⟨t2, st t2 a1, b1⟩
theorem pw_pre (C : pw_ctx D ca b B N xs M p s m args meth c) (hR : pw_rep D ca b B N xs h H) (hS : va_S (pw_A B) s.heap H locs) (as : List pw_V) : ∀ U : State, U.heap = H → s.WarmedH U.vm → pw_Pc D ca b B N xs as h (as.map (pw_v (pw_ad b B))).toArray U := by
  obtain ⟨hx, hb, hml, hown, hts, hK, hX, hbB, hnm, hnw⟩ := C
  intro U hU hW
  refine ⟨rfl, by rw [hU]; exact hR, va_K.moved hW.alike hK, ?_, ⟨hbB.1, ?_⟩, hnw.warm hW⟩
  · refine va_X.moved hW.alike ?_
    rw [hU]
    exact hX.kept (hS.2.1 b (Nat.lt_of_lt_of_le hbB.1 hbB.2) (Nat.not_le.mpr hbB.1))
  · rw [hU]
    exact Nat.le_trans hbB.2 hS.1
theorem pw_tail (ad : Nat → Nat) (r : Option pw_V) (rest : List pw_V) : (r.map (pw_v ad)).toList ++ rest.map (pw_v ad) = (r.toList ++ rest).map (pw_v ad) := by cases r <;> rfl
set_option maxHeartbeats 1000000 in
/-- a call of a method of the table -/
theorem pw_calls {n d : Nat} (S : pw_Snd l D ca b B N xs n) (C : pw_ctx D ca b B N xs M p s m args meth c) {i : Instr} (ho : pw_op M pc = some (i, np, t, q)) (hic : pw_isCall i = true) (hq1 : ∀ w, q ≠ [w]) (hq2 : ∀ w k, q ≠ [w, k]) (hLl : L.length = (pw_inf M).2.2.1) (hl : pw_lr (pw_ad b B) ls L) (hR : pw_rep D ca b B N xs h H) (hS : va_S (pw_A B) s.heap H locs) (hfr : d + 1 ≤ R.frames) (hlo : 36 * (d + 1) ≤ R.locals) (ht : 0 < t ∧ t < 115)
    {as rest : List pw_V} (ha : pw_args i q st h = some (as, rest)) (has : as.length ≤ (pw_inf t).2.2.1) {r1 : Option pw_V} {h1 : pw_H} (hrun : pw_run n d t 0 (pw_ent t as) [] h = some (r1, h1)) (hc : cells + h1.length ≤ R.cells + h.length) (hs : slots + pw_size h1 ≤ R.slots + pw_size h)
    (kk : ∀ (H1 : Heap) (locs1 : List Loc), pw_rep D ca b B N xs h1 H1 → va_S (pw_A B) s.heap H1 locs1 → W p l e R s m args below meth c H1 locs1 (cells + (h1.length - h.length)) (slots + (pw_size h1 - pw_size h)) Q (F0 m np ls ((r1.toList ++ rest).map (pw_v (pw_ad b B))))) : W p l e R s m args below meth c H locs cells slots Q (F0 m pc ls (st.map (pw_v (pw_ad b B)))) := by
  have C0 := C
  obtain ⟨hx, hb, hml, hown, hts, hK, hX, hbB, hnm, hnw⟩ := C
  have hmono := pw_mono _ _ _ _ _ _ _ _ _ hrun
  obtain ⟨hd, hnp, hok⟩ := pw_dec1 ho (by intro _ _ _ _ h; rw [h] at hic; cases hic)
  have hsz : ls.size = (pw_inf M).2.2.1 := hl.1.trans hLl
  have hf : cells + (h1.length - h.length) ≤ R.cells ∧ slots + (pw_size h1 - pw_size h) ≤ R.slots := ⟨by omega, by omega⟩
  have hG := pw_good ht.1 ht.2
  have hpre := pw_pre C0 hR hS
  have hCF : CallFix p m c (pw_inf M).2.1 (pw_inf M).2.2.1 s args pw_tbl (pw_inf M).1.cls := ⟨hx, hb, hml, hown, hts⟩
  have fin : ∀ {a : Array Value}, va_Run p l e R s m args below meth c H locs cells slots (h1.length - h.length) (pw_size h1 - pw_size h) (F0 m pc ls (st.map (pw_v (pw_ad b B)))) (rest.map (pw_v (pw_ad b B))) (pw_Qc D ca b B N xs r1 h1 a) (pw_A B) → pw_ilen i = 3 → W p l e R s m args below meth c H locs cells slots Q (F0 m pc ls (st.map (pw_v (pw_ad b B)))) := by
    intro a hr hi3
    rw [hi3] at hnp
    rw [hnp] at kk
    refine pw_call hr hS (fun H1 locs1 hR1 hS1 => ?_)
    rw [pw_tail]
    exact kk H1 locs1 hR1 hS1
  cases i with
  | invokestatic idx =>
    simp only [pw_okI] at hok
    split at hok
    · exact absurd rfl (hq2 _ _)
    · rename_i n0 z w1 w2 w3 w4 w5
      simp only [Bool.and_eq_true] at hok
      obtain ⟨hW, hst⟩ := hok
      simp only [pw_okW, Bool.and_eq_true, decide_eq_true_eq] at hW
      obtain ⟨⟨⟨⟨⟨⟨hlk, hini⟩, hn1⟩, hn2⟩, hpar⟩, hmax⟩, hpl⟩ := hW
      simp only [pw_args] at ha
      split at ha
      · rename_i hnl
        cases ha
        have hM := pw_met S hrun has hpl
        have hstk : st.map (pw_v (pw_ad b B)) = (((st.take n0).reverse).map (pw_v (pw_ad b B))).reverse ++ (st.drop n0).map (pw_v (pw_ad b B)) := by
          rw [List.map_reverse, List.reverse_reverse, ← List.map_append, List.take_append_drop]
        have hln : ((((st.take n0).reverse).map (pw_v (pw_ad b B)))).length = n0 := by
          rw [List.length_map, List.length_reverse, List.length_take]; omega
        have hrm : 2 * (F0 m pc ls (st.map (pw_v (pw_ad b B)))).monitorRoom + (((st.drop n0).map (pw_v (pw_ad b B))).map fun v => v.category).sum ≤ 8 := lv_room (by rw [pw_cats, List.length_drop]; omega)
        have hroom : d + 1 ≤ R.frames ∧ 8 + ((pw_inf t).2.2.1 + 11) + 36 * d ≤ R.locals := ⟨hfr, by omega⟩
        cases z with
        | zero =>
          refine fin (va_runS hCF hM ⟨callB_of n0 hts hG rfl rfl rfl (hts _ (pw_has_in hini)) (hts _ (pw_has_in hlk)) ⟨hn1, hn2, hpar⟩ hroom, hts _ (pw_has_in hst)⟩ ⟨pw_blind _ _ _ _ _ _ _ _, hpre _⟩ rfl hln hsz hstk hrm hd hf) rfl
        | succ z =>
          have hlk2 : va_Nw (.methodLinkNest (pw_inf M).1.cls idx (pw_inf t).1 "BoundWalks") s := hnw.1 _ (List.mem_of_getElem? (of_decide_eq_true hlk)) rfl
          refine fin (va_runSN hCF hM ⟨va_cnB n0 hts hG rfl rfl rfl hlk2 (hts _ (pw_has_in hini)) ⟨hn1, hn2, hpar⟩ hroom, hts _ (pw_has_in hst), trivial⟩ ⟨pw_blind _ _ _ _ _ _ _ _, hpre _⟩ rfl hln hsz hstk hrm hd hf) rfl
      · cases ha
    · cases hok
  | invokevirtual idx =>
    simp only [pw_okI] at hok
    split at hok
    · rename_i n0 k w1 w2 w3 w4 w5
      simp only [Bool.and_eq_true, decide_eq_true_eq] at hok
      obtain ⟨⟨⟨hW, him⟩, hsel⟩, hkc⟩ := hok
      simp only [pw_okW, Bool.and_eq_true, decide_eq_true_eq] at hW
      obtain ⟨⟨⟨⟨⟨⟨hlk, hini⟩, hn1⟩, hn2⟩, hpar⟩, hmax⟩, hpl⟩ := hW
      simp only [pw_args] at ha
      split at ha
      · rename_i hnl
        split at ha
        · rename_i a rest0 hdrop
          split at ha
          · rename_i c0 fs hao
            split at ha
            · rename_i hck
              subst hck
              cases ha
              have hM := pw_met S hrun has hpl
              have hstk : st.map (pw_v (pw_ad b B)) = (((st.take n0).reverse).map (pw_v (pw_ad b B))).reverse ++ .ref (pw_ad b B a) :: rest.map (pw_v (pw_ad b B)) := by
                rw [List.map_reverse, List.reverse_reverse]
                have e1 : (.ref (pw_ad b B a) :: rest.map (pw_v (pw_ad b B)) : List Value) = (st.drop n0).map (pw_v (pw_ad b B)) := by rw [hdrop]; rfl
                rw [e1, ← List.map_append, List.take_append_drop]
              have hln : ((((st.take n0).reverse).map (pw_v (pw_ad b B)))).length = n0 := by
                rw [List.length_map, List.length_reverse, List.length_take]; omega
              have hdl : (st.drop n0).length = rest.length + 1 := by rw [hdrop]; rfl
              rw [List.length_drop] at hdl
              have hrm : 2 * (F0 m pc ls (st.map (pw_v (pw_ad b B)))).monitorRoom + ((rest.map (pw_v (pw_ad b B))).map fun v => v.category).sum ≤ 8 := lv_room (by rw [pw_cats]; omega)
              have hroom : d + 1 ≤ R.frames ∧ 8 + ((pw_inf t).2.2.1 + 11) + 36 * d ≤ R.locals := ⟨hfr, by omega⟩
              obtain ⟨j, rfl, -, hat⟩ := hR.obj hao (by intro h; cases h)
              have hrecv : ∃ cellB : Cell, H[pw_ad b B (j + 1)]? = some cellB ∧ cellB.vm.isStatics = false ∧ s.vm.findClass (pw_inf t).1.cls = some cellB.cls := by
                cases hcc : pw_cl[c0]? with
                | none => rw [hcc] at hkc; cases hkc
                | some cc =>
                  rw [hcc] at hkc
                  have e3 : cc.1 = (pw_inf t).1.cls := Option.some.inj hkc
                  rw [← e3]
                  exact va_recv hK (pw_one hR hao) (ci := c0) (q0 := 0) hcc rfl
              exact fin (va_runV (C := (pw_inf t).1.cls) hCF hM ⟨callB_of n0 hts hG rfl rfl rfl (hts _ (pw_has_in hini)) (hts _ (pw_has_in hlk)) ⟨hn1, hn2, hpar⟩ hroom, hts _ (pw_has_in him), hts _ (pw_has_in hsel)⟩ ⟨pw_blind _ _ _ _ _ _ _ _, hrecv, hpre (.inr (some (j + 1)) :: (st.take n0).reverse)⟩ rfl hln hsz hstk hrm hd hf) rfl
            · cases ha
          · cases ha
        · cases ha
      · cases ha
    · cases hok
  | invokespecial idx =>
    simp only [pw_okI] at hok
    split at hok
    · exact absurd rfl (hq1 _)
    · rename_i n0 k w1 w2 w3 w4 w5
      simp only [Bool.and_eq_true, decide_eq_true_eq] at hok
      obtain ⟨⟨⟨hW, him⟩, hnin⟩, hrno⟩ := hok
      simp only [pw_okW, Bool.and_eq_true, decide_eq_true_eq] at hW
      obtain ⟨⟨⟨⟨⟨⟨hlk, hini⟩, hn1⟩, hn2⟩, hpar⟩, hmax⟩, hpl⟩ := hW
      simp only [pw_args] at ha
      split at ha
      · rename_i hnl
        split at ha
        · rename_i a rest0 hdrop
          split at ha
          · rename_i c0 fs hao
            split at ha
            · rename_i hck
              subst hck
              cases ha
              have hM := pw_met S hrun has hpl
              have hstk : st.map (pw_v (pw_ad b B)) = (((st.take n0).reverse).map (pw_v (pw_ad b B))).reverse ++ .ref (pw_ad b B a) :: rest.map (pw_v (pw_ad b B)) := by
                rw [List.map_reverse, List.reverse_reverse]
                have e1 : (.ref (pw_ad b B a) :: rest.map (pw_v (pw_ad b B)) : List Value) = (st.drop n0).map (pw_v (pw_ad b B)) := by rw [hdrop]; rfl
                rw [e1, ← List.map_append, List.take_append_drop]
              have hln : ((((st.take n0).reverse).map (pw_v (pw_ad b B)))).length = n0 := by
                rw [List.length_map, List.length_reverse, List.length_take]; omega
              have hdl : (st.drop n0).length = rest.length + 1 := by rw [hdrop]; rfl
              rw [List.length_drop] at hdl
              have hrm : 2 * (F0 m pc ls (st.map (pw_v (pw_ad b B)))).monitorRoom + ((rest.map (pw_v (pw_ad b B))).map fun v => v.category).sum ≤ 8 := lv_room (by rw [pw_cats]; omega)
              have hroom : d + 1 ≤ R.frames ∧ 8 + ((pw_inf t).2.2.1 + 11) + 36 * d ≤ R.locals := ⟨hfr, by omega⟩
              exact fin (va_runI hCF hM ⟨callB_of n0 hts hG (by rw [← hrno]; rfl) rfl rfl (hts _ (pw_has_in hini)) (hts _ (pw_has_in hlk)) ⟨hn1, hn2, hpar⟩ hroom, hnin, hts _ (pw_has_in him)⟩ ⟨pw_blind _ _ _ _ _ _ _ _, hpre (.inr (some a) :: (st.take n0).reverse)⟩ rfl hln hsz hstk hrm hd hf) rfl
            · cases ha
          · cases ha
        · cases ha
      · cases ha
    · cases hok
  | _ => cases hic
end PWK
end
section
def pw_tpos (e : Nat × pw_O) : Bool := !pw_isCall e.2.1 || decide (0 < e.2.2.2.1) || decide (e.2.2.2.2.length ≤ 2)
theorem pw_tpos_ok : pw_ms.all (fun m => m.2.all pw_tpos) = true := by decide +kernel
theorem pw_op_tpos {M pc : Nat} {o : pw_O} (h : pw_op M pc = some o) : pw_tpos (pc, o) = true := by
  unfold pw_op at h
  cases hm : pw_ms[M]? with
  | none => rw [hm] at h; cases h
  | some m =>
    rw [hm] at h
    exact List.all_eq_true.mp (List.all_eq_true.mp pw_tpos_ok m (List.mem_of_getElem? hm)) _ (pw_look_mem _ _ _ h)
theorem pw_run_lt {n d M pc : Nat} {L : pw_L} {st : List pw_V} {h : pw_H} {x : Option pw_V × pw_H} (hr : pw_run n d M pc L st h = some x) : M < 115 := by
  cases n with
  | zero => cases hr
  | succ n =>
    rw [pw_run] at hr
    cases ho : pw_op M pc with
    | none => rw [ho] at hr; cases hr
    | some o =>
      unfold pw_op at ho
      cases hm : pw_ms[M]? with
      | none => rw [hm] at ho; cases ho
      | some m => exact (List.getElem?_eq_some_iff.mp hm).1
theorem pw_oi1 : Cond.instanceMethod Lib.objectInit ∈ pw_tbl := pw_has_in (i := 52) (by decide +kernel)
theorem pw_oi2 : Cond.code Lib.objectInit ⟨#[0xb1]⟩ 1 none ∈ pw_tbl := pw_has_in (i := 53) (by decide +kernel)
theorem pw_mi : Cond.initialized "java/lang/Math" ∈ pw_tbl := pw_has_in (i := 41) (by decide +kernel)
theorem pw_mx1 : Cond.static Lib.Math.max.name ∈ pw_tbl := pw_has_in (i := 63) (by decide +kernel)
theorem pw_mx2 : Cond.code Lib.Math.max.name Lib.Math.max.code 2 (some .int) ∈ pw_tbl := pw_has_in (i := 64) (by decide +kernel)
theorem pw_mn1 : Cond.static Lib.Math.min.name ∈ pw_tbl := pw_has_in (i := 238) (by decide +kernel)
theorem pw_mn2 : Cond.code Lib.Math.min.name Lib.Math.min.code 2 (some .int) ∈ pw_tbl := pw_has_in (i := 239) (by decide +kernel)
set_option maxHeartbeats 2000000 in
theorem pw_sound (l : Launch) (D : va_G) (ca : Nat → ClassId) (b B N : Nat) (xs : Nat → Int32) : ∀ n, pw_Snd l D ca b B N xs n := by
  intro n
  induction n with
  | zero =>
    intro d M pc L st h r h' hr
    cases hr
  | succ n ih =>
    intro d M pc L st h r h' hr p e R s m args below meth c H locs cells slots Q ls C hfr hlo hLl hl hR hS hc hs fin
    rw [pw_run] at hr
    cases ho : pw_op M pc with
    | none => rw [ho] at hr; cases hr
    | some o =>
      rw [ho] at hr
      dsimp only at hr
      obtain ⟨i, np, t, q⟩ := o
      dsimp only at hr
      cases hret : pw_isRet i with
      | true =>
        rw [hret] at hr
        dsimp only [cond] at hr
        split at hr
        · rename_i r0 hr0
          cases hr
          have hd : decode (pw_inf M).2.1 pc = .ok (i, 1) := by
            obtain ⟨hd, -, -⟩ := pw_dec1 ho (by intro _ _ _ _ h; rw [h] at hret; cases hret)
            have h1 : pw_ilen i = 1 := by cases i <;> first | rfl | cases hret
            rw [h1] at hd
            exact hd
          exact fin pc ls H locs cells slots i st hd hr0 hR hS (by omega) (by omega)
        · cases hr
      | false =>
        rw [hret] at hr
        dsimp only [cond] at hr
        cases hcall : pw_isCall i with
        | false =>
          rw [hcall] at hr
          dsimp only at hr
          split at hr
          · cases hr
          · rename_i pc' L' st' h1 hst
            have hm1 := pw_step_mono hst
            have hm2 := pw_mono _ _ _ _ _ _ _ _ _ hr
            refine pw_step_sound C ho hst hl hR hS (by omega) (by omega) (fun ls' H' locs' cells' slots' hl' hR' hS' hc' hs' => ?_)
            exact ih d M pc' L' st' h1 r h' hr p e R s m args below meth c H' locs' cells' slots' Q ls' C hfr hlo (hm1.1.trans hLl) hl' hR' hS' (by omega) (by omega) fin
        | true =>
          rw [hcall] at hr
          dsimp only at hr
          have hx := C.1
          have hb := C.2.1
          have hml := C.2.2.1
          have hown := C.2.2.2.1
          have hts := C.2.2.2.2.1
          have hsz : ls.size = (pw_inf M).2.2.1 := hl.1.trans hLl
          cases d with
          | zero => cases hr
          | succ d =>
            dsimp only at hr
            split at hr
            · rename_i w
              split at hr
              · rename_i a st0
                split at hr
                · rename_i hlen
                  have hm2 := pw_mono _ _ _ _ _ _ _ _ _ hr
                  have k1 := ih (d + 1) M np L st0 h r h' hr p e R s m args below meth c H locs cells slots Q ls C hfr hlo hLl hl hR hS hc hs fin
                  obtain ⟨hd, hnp, hok⟩ := pw_dec1 ho (by intro _ _ _ _ h; rw [h] at hcall; cases hcall)
                  cases i with
                  | invokespecial idx =>
                    rw [hnp] at k1
                    refine W.objInit hx hb hown (hts _ (pw_has_in hok)) (hts _ pw_oi1) (hts _ pw_oi2) rfl (hsz.trans hml.symm) (a := pw_ad b B a) (rest := st0.map (pw_v (pw_ad b B))) rfl hd (by omega) ?_ k1
                    show 2 * 0 + _ + 12 ≤ _
                    rw [pw_cats]
                    omega
                  | invokevirtual idx => cases hok
                  | invokestatic idx => cases hok
                  | _ => cases hcall
                · cases hr
              · cases hr
            · rename_i w k
              split at hr
              · rename_i y x st0
                split at hr
                · rename_i hlen
                  have hm2 := pw_mono _ _ _ _ _ _ _ _ _ hr
                  have k1 := ih (d + 1) M np L _ h r h' hr p e R s m args below meth c H locs cells slots Q ls C hfr hlo hLl hl hR hS hc hs fin
                  obtain ⟨hd, hnp, hok⟩ := pw_dec1 ho (by intro _ _ _ _ h; rw [h] at hcall; cases hcall)
                  have hcat : ((st0.map (pw_v (pw_ad b B))).map fun v => v.category).sum + 13 ≤ R.locals := by
                    rw [pw_cats]
                    omega
                  cases i with
                  | invokespecial idx => cases hok
                  | invokevirtual idx => cases hok
                  | invokestatic idx =>
                    rw [hnp] at k1
                    match k, hok, k1 with
                    | 0, hok, k1 => exact va_mmax hx hb (hml.trans hsz.symm) hown (hts _ (pw_has_in hok)) (hts _ pw_mx1) (hts _ pw_mi) (hts _ pw_mx2) (by omega) hcat (by omega) (by omega) hd k1
                    | 1, hok, k1 => exact va_mmin hx hb (hml.trans hsz.symm) hown (hts _ (pw_has_in hok)) (hts _ pw_mn1) (hts _ pw_mi) (hts _ pw_mn2) (by omega) hcat (by omega) (by omega) hd k1
                    | k + 2, hok, k1 => cases hok
                  | _ => cases hcall
                · cases hr
              · cases hr
            · rename_i hq1 hq2
              split at hr
              · cases hr
              · rename_i as rest ha
                split at hr
                · rename_i has
                  split at hr
                  · cases hr
                  · rename_i r1 h1 hr1
                    have hm1 := pw_mono _ _ _ _ _ _ _ _ _ hr1
                    have hm2 := pw_mono _ _ _ _ _ _ _ _ _ hr
                    have htp := pw_op_tpos ho
                    have hq1' : ∀ w, q ≠ [w] := fun w h => hq1 w h
                    have hq2' : ∀ w k, q ≠ [w, k] := fun w k h => hq2 w k h
                    have ht : 0 < t ∧ t < 115 := by
                      refine ⟨?_, pw_run_lt hr1⟩
                      simp only [pw_tpos, hcall, Bool.not_true, Bool.false_or, Bool.or_eq_true, decide_eq_true_eq] at htp
                      rcases htp with h1 | h1
                      · exact h1
                      · exfalso
                        match q, h1, hq1', hq2', ha with
                        | [], _, _, _, ha => cases ha
                        | [w], _, h2, _, _ => exact h2 w rfl
                        | [w, k], _, _, h3, _ => exact h3 w k rfl
                        | _ :: _ :: _ :: _, h1, _, _, _ => simp at h1
                    refine pw_calls ih C ho hcall hq1' hq2' hLl hl hR hS hfr hlo ht ha has hr1 (by omega) (by omega) (fun H1 locs1 hR1 hS1 => ?_)
                    exact ih (d + 1) M np L _ h1 r h' hr p e R s m args below meth c H1 locs1 _ _ Q ls C hfr hlo hLl hl hR1 hS1 (by omega) (by omega) fin
                · cases hr
end
section
/-! THE CLAIM OUT OF ONE WALK OF THE LAW'S BODY. Your part is whole_start (and what it stands on); all else here is the same for every law, but numbers. -/
def R_law : String := "BoundWalksLaw"
def lw_P (b : Addr) (xs : List Int32) (args : Array Value) (s : State) : Prop := args = #[.ref b] ∧ s.IntsAt b xs ∧ xs.length ≤ 4608 ∧ (Jvm.Cond.and given_1 narrow_1).before args s = true
def lw_Q (_ : Array Value) (s : State) (o : Outcome) (t : State) : Prop := o = .returned (some (.int 1)) ∧ Framed s o t [] 600000 7302250
def lw_Z (below : List Frame) (a : Array Value) (s : State) : State → Prop := fun t => ∃ o, t.status = .running ∧ Ended t below o ∧ lw_Q a s o t
/-- the law's own end, with 1 on the stack, nothing written that was there before, its room as the claim has it -/
theorem lw_ret {p : Program} {l : Launch} {e : Env} {s : State} {m : MethodId} {below : List Frame} {meth : Method} {c : Code} {b : Nat} (hx : p.tables.exec = Jvm.exec) (hb : c.code = code) (hr : meth.sig.returnType = ret) (hlocks : meth.locks = false) {pc : Nat} {H : Heap} {ls : Array Slot} (hdg : decode code pc = .ok (.ireturn, 1)) : W p l e room_1 s m #[Value.ref b] below meth c H [] 600000 7302250 (lw_Z below #[Value.ref b] s) (F0 m pc ls [.int 1]) := by
  intro T hT X
  obtain ⟨fs, hret, hrun, hended, hW, hframe⟩ := X.leave (v := some (.int 1)) (hlocks := hlocks) (fun h => by rw [hr] at h; cases h)
  have hmeth' : T.vm.method? m = some meth := X.method'
  refine ⟨T.setFrames fs, ?_, .returned (some (.int 1)), hrun, hended, rfl, ⟨_, rfl⟩, hW, hframe⟩
  jvm_step X.here [X.here.top, hx, hb, hdg, hmeth', hr, ret, narrow_b1]
  (try refine ⟨rfl, ?_⟩); (try refine ⟨rfl, ?_⟩)
  first | (intro acts; rw [hret _ acts rfl rfl rfl]) | rw [hret _ _ rfl rfl rfl]
  exact Steps.refl _
/-- what holds at the law's entry: the machine, the code, the tables' words (any of lw_tbl by 'hts w (by decide +kernel)'), the script of L ints xs at the cell b, what the Statement gives of the start (any of its parts by flat_of_before) -/
def lw_At (p : Program) (s : State) (m : MethodId) (meth : Method) (c : Code) (b L : Nat) (xs : Nat → Int32) : Prop :=
  p.tables.exec = Jvm.exec ∧ c.code = code ∧ meth.sig.returnType = ret ∧ c.maxLocals = 4 ∧ s.vm.findClass R_law = some m.cls ∧ (∀ w ∈ lw_tbl, w.before #[Value.ref b] s = true) ∧ va_X b L xs s s.heap ∧ b < s.heap.size ∧ meth.locks = false ∧ (Jvm.Cond.and given_1 narrow_1).before #[Value.ref b] s = true

theorem pw_hts {s : State} {args : Array Value} (h : ∀ w ∈ lw_tbl, w.before args s = true) : ∀ w ∈ pw_tbl, w.before args s = true := fun w hw => h w (List.mem_filter.mp hw).1
set_option maxHeartbeats 4000000 in
theorem pw_whole_of {p : Program} {e : Env} {s : State} {m : MethodId} {below : List Frame} {meth : Method} {c : Code} (l : Launch) {b N : Nat} {xs : Nat → Int32} (C0 : lw_At p s m meth c b N xs) (hnm : meth.name = "law") {n : Nat} {h' : pw_H} (hrun : pw_run n 9 0 0 (pw_ent 0 [.inr (some 0)]) [] [.inl (2, N, xs)] = some (some (.inl 1), h')) (hlen : h'.length ≤ 600001) (hsize : pw_size h' ≤ 7302250 + N) :
    W p l e room_1 s m #[Value.ref b] below meth c s.heap [] 0 0 (lw_Z below #[Value.ref b] s) (entryFrame m ([Value.ref b] : List Value).toArray 4) := by
  obtain ⟨hx, hb, hr, hml, hown, hts, hX, hbl, hlocks, hgv⟩ := C0
  have hw : ∀ (w : Cond) (i : Nat), lw_tbl[i]? = some w → w.before #[Value.ref b] s = true := fun w i h => hts w (List.mem_of_getElem? h)
  obtain ⟨c0, i0, k0⟩ := u_known (n := 6) hts pw_in0 (hw (.instantiable "BoundWalks$House" 6) 376 (by decide +kernel))
  obtain ⟨c1, i1, k1⟩ := u_known (n := 5) hts pw_in1 (hw (.instantiable "BoundWalks$Ledger" 5) 57 (by decide +kernel))
  obtain ⟨c2, i2, k2⟩ := u_known (n := 10) hts pw_in2 (hw (.instantiable "BoundWalks$Walk" 10) 146 (by decide +kernel))
  obtain ⟨c3, i3, k3⟩ := u_known (n := 17) hts pw_in3 (hw (.instantiable "BoundWalks" 17) 47 (by decide +kernel))
  obtain ⟨c4, i4, k4⟩ := u_known (n := 40) hts pw_in4 (hw (.instantiable "BoundWalksModel" 40) 463 (by decide +kernel))
  obtain ⟨aI, kI, cmI, fI, eI, dI⟩ := Cond.arrayClass_spec (hw (.arrayClass .int) 81 (by decide +kernel))
  obtain ⟨aZ, kZ, cmZ, fZ, eZ, dZ⟩ := Cond.arrayClass_spec (hw (.arrayClass .boolean) 589 (by decide +kernel))
  have aoH : va_AO "BoundWalks$House" s := va_AO.of (hw (.arrayOver (.object "BoundWalks$House")) 83 (by decide +kernel))
  have aoW : va_AO "BoundWalks$Walk" s := va_AO.of (hw (.arrayOver (.object "BoundWalks$Walk")) 55 (by decide +kernel))
  obtain ⟨cmH, aH, kH, h1, h2, h3, h4, h5⟩ := Cond.arrayOver_spec aoH
  obtain ⟨cmW, aW, kW, w1, w2, w3, w4, w5⟩ := Cond.arrayOver_spec aoW
  have hK : va_K ((fun k => match k with | 0 => c0 | 1 => c1 | 2 => c2 | 3 => c3 | _ => c4), (fun k => match k with | 0 => i0 | 1 => i1 | 2 => i2 | 3 => i3 | _ => i4)) pw_cl (pw_tys (fun k => match k with | 0 => aI | 1 => aZ | 2 => aH | _ => aW)) s := by
    refine ⟨fun k r hk => ?_, fun k r hk => ?_⟩
    · match k, hk with
      | 0, hk => obtain rfl := Option.some.inj hk; exact k0
      | 1, hk => obtain rfl := Option.some.inj hk; exact k1
      | 2, hk => obtain rfl := Option.some.inj hk; exact k2
      | 3, hk => obtain rfl := Option.some.inj hk; exact k3
      | 4, hk => obtain rfl := Option.some.inj hk; exact k4
      | k + 5, hk => simp at hk
    · match k, hk with
      | 0, hk => obtain rfl := Option.some.inj hk; exact ⟨fun n z => ⟨fun k h => (by cases h), kI, eI, cmI, dI⟩, fI⟩
      | 1, hk => obtain rfl := Option.some.inj hk; exact ⟨fun n z => ⟨fun k h => (by cases h), kZ, eZ, cmZ, dZ⟩, fZ⟩
      | 2, hk => obtain rfl := Option.some.inj hk; exact ⟨fun n z => ⟨fun k h => (by cases h), kH, h3, cmH, h4⟩, kH, cmH, h3, h4, h1, h5⟩
      | 3, hk => obtain rfl := Option.some.inj hk; exact ⟨fun n z => ⟨fun k h => (by cases h), kW, w3, cmW, w4⟩, kW, cmW, w3, w4, w1, w5⟩
      | k + 4, hk => simp at hk
  have hnw : pw_nw s := by
    refine ⟨fun w hw2 hn => ?_, aoH, aoW⟩
    have hq := hts w hw2
    cases w <;> first | exact va_Nw.of rfl hq | (exact absurd hn (by simp [pw_isN]))
  rw [lg_entry_eq]
  refine pw_sound l _ _ b s.heap.size N xs n 9 0 0 (pw_ent 0 [.inr (some 0)]) [] [.inl (2, N, xs)] (some (.inl 1)) h' hrun p e room_1 s m #[Value.ref b] below meth c s.heap [] 0 0 _ _ ⟨hx, hb, hml, hown, pw_hts hts, hK, hX, ⟨hbl, Nat.le_refl _⟩, hnm, hnw⟩ (by decide) (by decide) rfl (pw_entry (M := 0) (as := [.inr (some 0)]) (by decide)) ⟨rfl, rfl, fun k c hk => by simp at hk⟩ va_S.rf ?_ ?_ ?_
  · show 0 + h'.length ≤ 600000 + 1
    omega
  · show 0 + pw_size h' ≤ 7302250 + (N + 0)
    omega
  · intro pc ls H locs cells slots i st hd hret hR' hS' hc hs
    unfold pw_ret at hret
    split at hret
    · rename_i v
      split at hret
      · cases hret
        refine va_forget (fun q hq => hS'.2.2 q hq) ?_
        refine W.widen (k := 600000) (n := 7302250) hc hs ?_
        exact lw_ret hx hb hr hlocks hd
      · cases hret
    · split at hret <;> cases hret
    · split at hret <;> cases hret
    · cases hret
end
section
theorem pw_fuel : ∀ (n d M pc : Nat) (L : pw_L) (st : List pw_V) (h : pw_H) (x : Option pw_V × pw_H), pw_run n d M pc L st h = some x → pw_run (n + 1) d M pc L st h = some x := by
  intro n
  induction n with
  | zero =>
    intro d M pc L st h x hr
    cases hr
  | succ n ih =>
    intro d M pc L st h x hr
    rw [pw_run] at hr ⊢
    cases ho : pw_op M pc with
    | none => rw [ho] at hr; cases hr
    | some o =>
      rw [ho] at hr
      dsimp only at hr ⊢
      cases hret : pw_isRet o.1 with
      | true =>
        rw [hret] at hr
        exact hr
      | false =>
        rw [hret] at hr
        dsimp only [cond] at hr ⊢
        cases hcall : pw_isCall o.1 with
        | true =>
          rw [hcall] at hr
          dsimp only at hr ⊢
          cases d with
          | zero => cases hr
          | succ d =>
            dsimp only at hr ⊢
            split at hr
            · split at hr
              · split at hr
                · rename_i hl
                  rw [if_pos hl]
                  exact ih _ _ _ _ _ _ _ hr
                · cases hr
              · cases hr
            · split at hr
              · split at hr
                · rename_i hl
                  rw [if_pos hl]
                  exact ih _ _ _ _ _ _ _ hr
                · cases hr
              · cases hr
            · split at hr
              · cases hr
              · rename_i as rest ha
                split at hr
                · rename_i hl
                  rw [if_pos hl]
                  split at hr
                  · cases hr
                  · rename_i r1 h1 hr1
                    rw [ih _ _ _ _ _ _ _ hr1]
                    exact ih _ _ _ _ _ _ _ hr
                · cases hr
        | false =>
          rw [hcall] at hr
          dsimp only at hr ⊢
          split at hr
          · cases hr
          · exact ih _ _ _ _ _ _ _ hr
theorem pw_fuels {n d M pc : Nat} {L : pw_L} {st : List pw_V} {h : pw_H} {x : Option pw_V × pw_H} (hr : pw_run n d M pc L st h = some x) (k : Nat) : pw_run (n + k) d M pc L st h = some x := by
  induction k with
  | zero => exact hr
  | succ k ih => exact pw_fuel _ _ _ _ _ _ _ _ ih
/-- the pure machine comes to an end with Q -/
def pw_W (d M pc : Nat) (L : pw_L) (st : List pw_V) (h : pw_H) (Q : Option pw_V → pw_H → Prop) : Prop := ∃ (n : Nat) (r : Option pw_V) (h' : pw_H), pw_run n d M pc L st h = some (r, h') ∧ Q r h'
def pw_M (d M : Nat) (as : List pw_V) (h : pw_H) (Q : Option pw_V → pw_H → Prop) : Prop := pw_W d M 0 (pw_ent M as) [] h Q
section PWR
variable {d M pc np t : Nat} {q : List Nat} {L : pw_L} {st : List pw_V} {h : pw_H} {Q : Option pw_V → pw_H → Prop}
theorem pr_post {Q' : Option pw_V → pw_H → Prop} (k : pw_W d M pc L st h Q') (hq : ∀ r h', Q' r h' → Q r h') : pw_W d M pc L st h Q := by
  obtain ⟨n, r, h', h1, h2⟩ := k
  exact ⟨n, r, h', h1, hq r h' h2⟩
theorem pr_step {o : pw_O} {pc' : Nat} {L' : pw_L} {st' : List pw_V} {h1 : pw_H} (ho : pw_op M pc = some o) (hr : pw_isRet o.1 = false) (hc : pw_isCall o.1 = false) (hs : pw_step o L st h = some (pc', L', st', h1)) (k : pw_W d M pc' L' st' h1 Q) : pw_W d M pc L st h Q := by
  obtain ⟨n, r, h', e1, e2⟩ := k
  refine ⟨n + 1, r, h', ?_, e2⟩
  rw [pw_run, ho]
  dsimp only
  rw [hr, hc]
  dsimp only [cond]
  rw [hs]
  exact e1
theorem pr_ret {i : Instr} {r : Option pw_V} (ho : pw_op M pc = some (i, np, t, q)) (hr : pw_isRet i = true) (hs : pw_ret M i st = some r) (k : Q r h) : pw_W d M pc L st h Q := by
  refine ⟨1, r, h, ?_, k⟩
  rw [pw_run, ho]
  dsimp only
  rw [hr]
  dsimp only [cond]
  rw [hs]
theorem pr_call {i : Instr} {as rest : List pw_V} {Q1 : Option pw_V → pw_H → Prop} (ho : pw_op M pc = some (i, np, t, q)) (hr : pw_isRet i = false) (hc : pw_isCall i = true) (hq : 2 < q.length) (ha : pw_args i q st h = some (as, rest)) (hl : as.length ≤ (pw_inf t).2.2.1) (hm : pw_M d t as h Q1) (k : ∀ r h1, Q1 r h1 → pw_W (d + 1) M np L (r.toList ++ rest) h1 Q) : pw_W (d + 1) M pc L st h Q := by
  obtain ⟨n1, r1, h1, e1, e2⟩ := hm
  obtain ⟨n2, r2, h2, f1, f2⟩ := k r1 h1 e2
  refine ⟨n1 + n2 + 1, r2, h2, ?_, f2⟩
  rw [pw_run, ho]
  dsimp only
  rw [hr, hc]
  dsimp only [cond]
  have g1 := pw_fuels e1 n2
  have g2 := pw_fuels f1 n1
  rw [Nat.add_comm n2 n1] at g2
  split
  · simp at hq
  · simp at hq
  · rw [ha]
    dsimp only
    rw [if_pos hl, g1]
    exact g2
theorem pr_obj {i : Instr} {w a : Nat} (ho : pw_op M pc = some (i, np, t, [w])) (hr : pw_isRet i = false) (hc : pw_isCall i = true) (hl : st.length ≤ 8) (k : pw_W (d + 1) M np L st h Q) : pw_W (d + 1) M pc L (.inr (some a) :: st) h Q := by
  obtain ⟨n, r, h', e1, e2⟩ := k
  refine ⟨n + 1, r, h', ?_, e2⟩
  rw [pw_run, ho]
  dsimp only
  rw [hr, hc]
  dsimp only [cond]
  rw [if_pos hl]
  exact e1
theorem pr_math {i : Instr} {w m : Nat} {x y : Int32} (ho : pw_op M pc = some (i, np, t, [w, m])) (hr : pw_isRet i = false) (hc : pw_isCall i = true) (hl : st.length ≤ 8) (k : pw_W (d + 1) M np L (.inl (if m = 0 then (if x < y then y else x) else (if y < x then y else x)) :: st) h Q) : pw_W (d + 1) M pc L (.inl y :: .inl x :: st) h Q := by
  obtain ⟨n, r, h', e1, e2⟩ := k
  refine ⟨n + 1, r, h', ?_, e2⟩
  rw [pw_run, ho]
  dsimp only
  rw [hr, hc]
  dsimp only [cond]
  rw [if_pos hl]
  exact e1
/-- a number on top gets another form -/
theorem pr_top {x y : Int32} (e : x = y) (k : pw_W d M pc L (.inl y :: st) h Q) : pw_W d M pc L (.inl x :: st) h Q := by rw [e]; exact k
theorem pr_push {v : Int32} {i : Instr} (ho : pw_op M pc = some (i, np, t, q)) (hv : (match i with
    | .iconst z => decide (Int32.ofInt z = v)
    | .bipush z => decide ((Int8.ofInt z).toInt32 = v)
    | .sipush z => decide ((Int16.ofInt z).toInt32 = v)
    | .ldc_w _ => decide (Int32.ofNat t = v)
    | _ => false) = true) (k : pw_W d M np L (.inl v :: st) h Q) : pw_W d M pc L st h Q := by
  cases i with
  | iconst z => exact pr_step ho rfl rfl (by rw [← of_decide_eq_true hv]; rfl) k
  | bipush z => exact pr_step ho rfl rfl (by rw [← of_decide_eq_true hv]; rfl) k
  | sipush z => exact pr_step ho rfl rfl (by rw [← of_decide_eq_true hv]; rfl) k
  | ldc_w z => exact pr_step ho rfl rfl (by rw [← of_decide_eq_true hv]; rfl) k
  | _ => cases hv
theorem pr_iload {n : Nat} {x : Int32} (ho : pw_op M pc = some (.iload n, np, t, q)) (hl : L[n]? = some (some (.inl x))) (k : pw_W d M np L (.inl x :: st) h Q) : pw_W d M pc L st h Q := pr_step ho rfl rfl (by simp only [pw_step]; rw [hl]) k
theorem pr_iload_n {n : Fin 4} {x : Int32} (ho : pw_op M pc = some (.iload_n n, np, t, q)) (hl : L[n.val]? = some (some (.inl x))) (k : pw_W d M np L (.inl x :: st) h Q) : pw_W d M pc L st h Q := pr_step ho rfl rfl (by simp only [pw_step]; rw [hl]) k
theorem pr_aload {n : Nat} {x : Option Nat} (ho : pw_op M pc = some (.aload n, np, t, q)) (hl : L[n]? = some (some (.inr x))) (k : pw_W d M np L (.inr x :: st) h Q) : pw_W d M pc L st h Q := pr_step ho rfl rfl (by simp only [pw_step]; rw [hl]) k
theorem pr_aload_n {n : Fin 4} {x : Option Nat} (ho : pw_op M pc = some (.aload_n n, np, t, q)) (hl : L[n.val]? = some (some (.inr x))) (k : pw_W d M np L (.inr x :: st) h Q) : pw_W d M pc L st h Q := pr_step ho rfl rfl (by simp only [pw_step]; rw [hl]) k
theorem pr_istore {n : Nat} {x : Int32} {L' : pw_L} (ho : pw_op M pc = some (.istore n, np, t, q)) (hn : n < L.length) (hl : L.set n (some (.inl x)) = L') (k : pw_W d M np L' st h Q) : pw_W d M pc L (.inl x :: st) h Q := by
  subst hl
  exact pr_step ho rfl rfl (by simp only [pw_step]; rw [if_pos hn]) k
theorem pr_istore_n {n : Fin 4} {x : Int32} {L' : pw_L} (ho : pw_op M pc = some (.istore_n n, np, t, q)) (hn : n.val < L.length) (hl : L.set n.val (some (.inl x)) = L') (k : pw_W d M np L' st h Q) : pw_W d M pc L (.inl x :: st) h Q := by
  subst hl
  exact pr_step ho rfl rfl (by simp only [pw_step]; rw [if_pos hn]) k
theorem pr_astore {n : Nat} {x : Option Nat} {L' : pw_L} (ho : pw_op M pc = some (.astore n, np, t, q)) (hn : n < L.length) (hl : L.set n (some (.inr x)) = L') (k : pw_W d M np L' st h Q) : pw_W d M pc L (.inr x :: st) h Q := by
  subst hl
  exact pr_step ho rfl rfl (by simp only [pw_step]; rw [if_pos hn]) k
theorem pr_astore_n {n : Fin 4} {x : Option Nat} {L' : pw_L} (ho : pw_op M pc = some (.astore_n n, np, t, q)) (hn : n.val < L.length) (hl : L.set n.val (some (.inr x)) = L') (k : pw_W d M np L' st h Q) : pw_W d M pc L (.inr x :: st) h Q := by
  subst hl
  exact pr_step ho rfl rfl (by simp only [pw_step]; rw [if_pos hn]) k
theorem pr_iinc {n : Nat} {z : Int} {x v : Int32} {L' : pw_L} (ho : pw_op M pc = some (.iinc n z, np, t, q)) (hl : L[n]? = some (some (.inl x))) (hv : x + Int32.ofInt z = v) (hL : L.set n (some (.inl v)) = L') (k : pw_W d M np L' st h Q) : pw_W d M pc L st h Q := by
  subst hL
  subst hv
  exact pr_step ho rfl rfl (by simp only [pw_step]; rw [hl]) k
theorem pr_div {x y : Int32} (ho : pw_op M pc = some (.idiv, np, t, q)) (hy : y ≠ 0) (k : pw_W d M np L (.inl (x / y) :: st) h Q) : pw_W d M pc L (.inl y :: .inl x :: st) h Q :=
  pr_step ho rfl rfl (by simp only [pw_step]; rw [if_neg hy]) k
theorem pr_rem {x y : Int32} (ho : pw_op M pc = some (.irem, np, t, q)) (hy : y ≠ 0) (k : pw_W d M np L (.inl (x - x / y * y) :: st) h Q) : pw_W d M pc L (.inl y :: .inl x :: st) h Q :=
  pr_step ho rfl rfl (by simp only [pw_step]; rw [if_neg hy]) k
theorem pr_cmp {c : ClassFile.Cond} {off : Int} {x y : Int32} (ho : pw_op M pc = some (.if_icmp c off, np, t, q)) (kt : pw_cond c x y = true → pw_W d M t L st h Q) (kf : pw_cond c x y = false → pw_W d M np L st h Q) : pw_W d M pc L (.inl y :: .inl x :: st) h Q := by
  cases hc : pw_cond c x y with
  | true => exact pr_step ho rfl rfl (by simp only [pw_step]; rw [hc]; rfl) (kt hc)
  | false => exact pr_step ho rfl rfl (by simp only [pw_step]; rw [hc]; rfl) (kf hc)
theorem pr_if {c : ClassFile.Cond} {off : Int} {x : Int32} (ho : pw_op M pc = some (.ifCond c off, np, t, q)) (kt : pw_cond c x 0 = true → pw_W d M t L st h Q) (kf : pw_cond c x 0 = false → pw_W d M np L st h Q) : pw_W d M pc L (.inl x :: st) h Q := by
  cases hc : pw_cond c x 0 with
  | true => exact pr_step ho rfl rfl (by simp only [pw_step]; rw [hc]; rfl) (kt hc)
  | false => exact pr_step ho rfl rfl (by simp only [pw_step]; rw [hc]; rfl) (kf hc)
theorem pr_c_eq {off : Int} {x y : Int32} (ho : pw_op M pc = some (.if_icmp .eq off, np, t, q)) (kt : x = y → pw_W d M t L st h Q) (kf : ¬ x = y → pw_W d M np L st h Q) : pw_W d M pc L (.inl y :: .inl x :: st) h Q := pr_cmp ho (fun e => kt (by simpa [pw_cond] using e)) (fun e => kf (by simpa [pw_cond] using e))
theorem pr_c_ne {off : Int} {x y : Int32} (ho : pw_op M pc = some (.if_icmp .ne off, np, t, q)) (kt : ¬ x = y → pw_W d M t L st h Q) (kf : x = y → pw_W d M np L st h Q) : pw_W d M pc L (.inl y :: .inl x :: st) h Q := pr_cmp ho (fun e => kt (by simpa [pw_cond] using e)) (fun e => kf (by simpa [pw_cond] using e))
theorem pr_c_lt {off : Int} {x y : Int32} (ho : pw_op M pc = some (.if_icmp .lt off, np, t, q)) (kt : x.toInt < y.toInt → pw_W d M t L st h Q) (kf : y.toInt ≤ x.toInt → pw_W d M np L st h Q) : pw_W d M pc L (.inl y :: .inl x :: st) h Q := pr_cmp ho (fun e => kt (Int32.lt_iff_toInt_lt.mp (of_decide_eq_true e))) (fun e => kf (Int.not_lt.mp fun z => of_decide_eq_false e (Int32.lt_iff_toInt_lt.mpr z)))
theorem pr_c_ge {off : Int} {x y : Int32} (ho : pw_op M pc = some (.if_icmp .ge off, np, t, q)) (kt : y.toInt ≤ x.toInt → pw_W d M t L st h Q) (kf : x.toInt < y.toInt → pw_W d M np L st h Q) : pw_W d M pc L (.inl y :: .inl x :: st) h Q := pr_cmp ho (fun e => kt (Int32.le_iff_toInt_le.mp (of_decide_eq_true e))) (fun e => kf (Int.not_le.mp fun z => of_decide_eq_false e (Int32.le_iff_toInt_le.mpr z)))
theorem pr_c_gt {off : Int} {x y : Int32} (ho : pw_op M pc = some (.if_icmp .gt off, np, t, q)) (kt : y.toInt < x.toInt → pw_W d M t L st h Q) (kf : x.toInt ≤ y.toInt → pw_W d M np L st h Q) : pw_W d M pc L (.inl y :: .inl x :: st) h Q := pr_cmp ho (fun e => kt (Int32.lt_iff_toInt_lt.mp (of_decide_eq_true e))) (fun e => kf (Int.not_lt.mp fun z => of_decide_eq_false e (Int32.lt_iff_toInt_lt.mpr z)))
theorem pr_c_le {off : Int} {x y : Int32} (ho : pw_op M pc = some (.if_icmp .le off, np, t, q)) (kt : x.toInt ≤ y.toInt → pw_W d M t L st h Q) (kf : y.toInt < x.toInt → pw_W d M np L st h Q) : pw_W d M pc L (.inl y :: .inl x :: st) h Q := pr_cmp ho (fun e => kt (Int32.le_iff_toInt_le.mp (of_decide_eq_true e))) (fun e => kf (Int.not_le.mp fun z => of_decide_eq_false e (Int32.le_iff_toInt_le.mpr z)))
theorem pr_z_eq {off : Int} {x : Int32} (ho : pw_op M pc = some (.ifCond .eq off, np, t, q)) (kt : x = 0 → pw_W d M t L st h Q) (kf : ¬ x = 0 → pw_W d M np L st h Q) : pw_W d M pc L (.inl x :: st) h Q := pr_if ho (fun e => kt (by simpa [pw_cond] using e)) (fun e => kf (by simpa [pw_cond] using e))
theorem pr_z_ne {off : Int} {x : Int32} (ho : pw_op M pc = some (.ifCond .ne off, np, t, q)) (kt : ¬ x = 0 → pw_W d M t L st h Q) (kf : x = 0 → pw_W d M np L st h Q) : pw_W d M pc L (.inl x :: st) h Q := pr_if ho (fun e => kt (by simpa [pw_cond] using e)) (fun e => kf (by simpa [pw_cond] using e))
theorem pr_z_le {off : Int} {x : Int32} (ho : pw_op M pc = some (.ifCond .le off, np, t, q)) (kt : x.toInt ≤ 0 → pw_W d M t L st h Q) (kf : 0 < x.toInt → pw_W d M np L st h Q) : pw_W d M pc L (.inl x :: st) h Q := pr_if ho (fun e => kt (Int32.le_iff_toInt_le.mp (of_decide_eq_true e))) (fun e => kf (Int.not_le.mp fun z => of_decide_eq_false e (Int32.le_iff_toInt_le.mpr z)))
def pw_b (P : Prop) [Decidable P] : Int32 := if P then 1 else 0
/-- a method's yes or no, asked at once -/
theorem pr_b_eq {off : Int} {P : Prop} [Decidable P] (ho : pw_op M pc = some (.ifCond .eq off, np, t, q)) (kt : ¬ P → pw_W d M t L st h Q) (kf : P → pw_W d M np L st h Q) : pw_W d M pc L (.inl (pw_b P) :: st) h Q := by
  by_cases hp : P
  · exact pr_z_eq ho (fun e => by simp [pw_b, hp] at e) (fun _ => kf hp)
  · exact pr_z_eq ho (fun _ => kt hp) (fun e => by simp [pw_b, hp] at e)
theorem pr_b_ne {off : Int} {P : Prop} [Decidable P] (ho : pw_op M pc = some (.ifCond .ne off, np, t, q)) (kt : P → pw_W d M t L st h Q) (kf : ¬ P → pw_W d M np L st h Q) : pw_W d M pc L (.inl (pw_b P) :: st) h Q := by
  by_cases hp : P
  · exact pr_z_ne ho (fun _ => kt hp) (fun e => by simp [pw_b, hp] at e)
  · exact pr_z_ne ho (fun e => by simp [pw_b, hp] at e) (fun _ => kf hp)
theorem pr_getf {i a n : Nat} {fs : List pw_V} {v : pw_V} {q' : List Nat} (ho : pw_op M pc = some (.getfield i, np, t, n :: q')) (ha : h[a]? = some (.inr (.inr (t, fs)))) (hv : fs[n]? = some v) (k : pw_W d M np L (v :: st) h Q) : pw_W d M pc L (.inr (some a) :: st) h Q :=
  pr_step ho rfl rfl (by simp only [pw_step]; rw [ha]; dsimp only; rw [if_pos rfl, hv]) k
theorem pr_putf {i a n kd : Nat} {fs : List pw_V} {v : pw_V} {q' : List Nat} {h1 : pw_H} (ho : pw_op M pc = some (.putfield i, np, t, n :: kd :: q')) (ha : h[a]? = some (.inr (.inr (t, fs)))) (hn : n < fs.length) (hv : pw_kind kd v = true) (hh : h.set a (.inr (.inr (t, fs.set n v))) = h1) (k : pw_W d M np L st h1 Q) : pw_W d M pc L (v :: .inr (some a) :: st) h Q := by
  subst hh
  exact pr_step ho rfl rfl (by simp only [pw_step]; rw [ha]; dsimp only; rw [if_pos ⟨rfl, hn, hv⟩]) k
theorem pw_inb_n {i : Int32} {n j : Nat} (hi : i = nI j) (hj : j < n) (hn : n < 2147483648) : pw_inb i n = true ∧ i.toNatClampNeg = j := by
  subst hi
  have h1 := nI_toInt (n := j) (by omega)
  refine ⟨?_, nI_clamp (by omega)⟩
  simp only [pw_inb, h1, Bool.and_eq_true, decide_eq_true_eq]
  omega
theorem pr_iald {a g n : Nat} {f : Nat → Int32} {i : Int32} (j : Nat) (ho : pw_op M pc = some (.iaload, np, t, q)) (ha : h[a]? = some (.inl (g, n, f))) (hg : g ≠ 1) (hn : n < 2147483648) (hi : i = nI j) (hj : j < n) (k : pw_W d M np L (.inl (f j) :: st) h Q) : pw_W d M pc L (.inl i :: .inr (some a) :: st) h Q := by
  obtain ⟨h1, h2⟩ := pw_inb_n hi hj hn
  exact pr_step ho rfl rfl (by simp only [pw_step]; rw [ha]; dsimp only; rw [if_pos ⟨hg, h1⟩, h2]) k
theorem pr_zald {a n : Nat} {f : Nat → Int32} {i : Int32} (j : Nat) (ho : pw_op M pc = some (.baload, np, t, q)) (ha : h[a]? = some (.inl (1, n, f))) (hn : n < 2147483648) (hi : i = nI j) (hj : j < n) (k : pw_W d M np L (.inl (f j) :: st) h Q) : pw_W d M pc L (.inl i :: .inr (some a) :: st) h Q := by
  obtain ⟨h1, h2⟩ := pw_inb_n hi hj hn
  exact pr_step ho rfl rfl (by simp only [pw_step]; rw [ha]; dsimp only; rw [if_pos ⟨rfl, h1⟩, h2]) k
theorem pr_iast {a n : Nat} {f : Nat → Int32} {i x : Int32} {h1 : pw_H} (j : Nat) (ho : pw_op M pc = some (.iastore, np, t, q)) (ha : h[a]? = some (.inl (0, n, f))) (hn : n < 2147483648) (hi : i = nI j) (hj : j < n) (hh : h.set a (.inl (0, n, upd f j x)) = h1) (k : pw_W d M np L st h1 Q) : pw_W d M pc L (.inl x :: .inl i :: .inr (some a) :: st) h Q := by
  obtain ⟨e1, e2⟩ := pw_inb_n hi hj hn
  subst hh
  exact pr_step ho rfl rfl (by simp only [pw_step]; rw [ha]; dsimp only; rw [if_pos ⟨rfl, e1⟩, e2]) k
theorem pr_zast {a n : Nat} {f : Nat → Int32} {i x : Int32} {h1 : pw_H} (j : Nat) (ho : pw_op M pc = some (.bastore, np, t, q)) (ha : h[a]? = some (.inl (1, n, f))) (hn : n < 2147483648) (hi : i = nI j) (hj : j < n) (hx : pw_bit x = true) (hh : h.set a (.inl (1, n, upd f j x)) = h1) (k : pw_W d M np L st h1 Q) : pw_W d M pc L (.inl x :: .inl i :: .inr (some a) :: st) h Q := by
  obtain ⟨e1, e2⟩ := pw_inb_n hi hj hn
  subst hh
  exact pr_step ho rfl rfl (by simp only [pw_step]; rw [ha]; dsimp only; rw [if_pos ⟨rfl, e1, hx⟩, e2]) k
theorem pr_aald {a g n : Nat} {f : Nat → Option Nat} {i : Int32} (j : Nat) (ho : pw_op M pc = some (.aaload, np, t, q)) (ha : h[a]? = some (.inr (.inl (g, n, f)))) (hn : n < 2147483648) (hi : i = nI j) (hj : j < n) (k : pw_W d M np L (.inr (f j) :: st) h Q) : pw_W d M pc L (.inl i :: .inr (some a) :: st) h Q := by
  obtain ⟨h1, h2⟩ := pw_inb_n hi hj hn
  exact pr_step ho rfl rfl (by simp only [pw_step]; rw [ha]; dsimp only; rw [if_pos h1, h2]) k
theorem pr_aast {a g n v : Nat} {f : Nat → Option Nat} {vs : List pw_V} {i : Int32} {h1 : pw_H} (j : Nat) (ho : pw_op M pc = some (.aastore, np, t, q)) (ha : h[a]? = some (.inr (.inl (g, n, f)))) (hv : h[v]? = some (.inr (.inr (g, vs)))) (hn : n < 2147483648) (hi : i = nI j) (hj : j < n) (hh : h.set a (.inr (.inl (g, n, va_up f j (some v)))) = h1) (k : pw_W d M np L st h1 Q) : pw_W d M pc L (.inr (some v) :: .inl i :: .inr (some a) :: st) h Q := by
  obtain ⟨e1, e2⟩ := pw_inb_n hi hj hn
  subst hh
  exact pr_step ho rfl rfl (by simp only [pw_step]; rw [ha, hv]; dsimp only; rw [if_pos ⟨rfl, e1⟩, e2]) k
theorem pr_alen {a g n : Nat} {f : Nat → Int32} (ho : pw_op M pc = some (.arraylength, np, t, q)) (ha : h[a]? = some (.inl (g, n, f))) (k : pw_W d M np L (.inl (nI n) :: st) h Q) : pw_W d M pc L (.inr (some a) :: st) h Q :=
  pr_step ho rfl rfl (by simp only [pw_step]; rw [ha]; rfl) k
theorem pr_newi {ty : ArrayType} {n : Int32} {h1 : pw_H} (m a : Nat) (ho : pw_op M pc = some (.newarray ty, np, t, q)) (hn : n = nI m) (hm : m ≤ 100000) (ha : h.length = a) (hh : h ++ [.inl (t, m, fun _ => 0)] = h1) (k : pw_W d M np L (.inr (some a) :: st) h1 Q) : pw_W d M pc L (.inl n :: st) h Q := by
  subst hn
  subst ha
  subst hh
  have h1 := nI_toInt (n := m) (by omega)
  have h2 := nI_clamp (n := m) (by omega)
  exact pr_step ho rfl rfl (by simp only [pw_step]; rw [if_pos (by rw [h1]; omega), h2]) k
theorem pr_newr {ix : Nat} {n : Int32} {h1 : pw_H} (m a : Nat) (ho : pw_op M pc = some (.anewarray ix, np, t, q)) (hn : n = nI m) (hm : m ≤ 100000) (ha : h.length = a) (hh : h ++ [.inr (.inl (t, m, fun _ => none))] = h1) (k : pw_W d M np L (.inr (some a) :: st) h1 Q) : pw_W d M pc L (.inl n :: st) h Q := by
  subst hn
  subst ha
  subst hh
  have h1 := nI_toInt (n := m) (by omega)
  have h2 := nI_clamp (n := m) (by omega)
  exact pr_step ho rfl rfl (by simp only [pw_step]; rw [if_pos (by rw [h1]; omega), h2]) k
theorem pr_new {ix : Nat} {h1 : pw_H} (a : Nat) (ho : pw_op M pc = some (.new ix, np, t, q)) (ha : h.length = a) (hh : h ++ [.inr (.inr (t, pw_def t))] = h1) (k : pw_W d M np L (.inr (some a) :: st) h1 Q) : pw_W d M pc L st h Q := by
  subst ha
  subst hh
  exact pr_step ho rfl rfl rfl k
theorem pr_switch {x : Int32} {df lo hi : Int} {offs : Array Int} (ho : pw_op M pc = some (.tableswitch df lo hi offs, np, t, q)) (kout : x.toInt < lo ∨ hi < x.toInt → pw_W d M t L st h Q) (kin : ∀ (j u : Nat), x.toInt = lo + j → q[j]? = some u → ¬ (x.toInt < lo ∨ hi < x.toInt) → pw_W d M u L st h Q) (hq : (hi - lo).toNat < q.length) : pw_W d M pc L (.inl x :: st) h Q := by
  by_cases hx : x.toInt < lo ∨ hi < x.toInt
  · exact pr_step ho rfl rfl (by simp only [pw_step]; rw [if_pos hx]) (kout hx)
  · have hj : (x.toInt - lo).toNat < q.length := by omega
    have e1 : q[(x.toInt - lo).toNat]? = some q[(x.toInt - lo).toNat] := List.getElem?_eq_getElem hj
    refine pr_step ho rfl rfl (by simp only [pw_step]; rw [if_neg hx, e1]) (kin (x.toInt - lo).toNat _ (by omega) e1 hx)
end PWR
end
section
def pw_qi (Q : Int32 → pw_H → Prop) : Option pw_V → pw_H → Prop := fun r h' => ∃ x, r = some (.inl x) ∧ Q x h'
def pw_qr (Q : Option Nat → pw_H → Prop) : Option pw_V → pw_H → Prop := fun r h' => ∃ x, r = some (.inr x) ∧ Q x h'
def pw_qv (Q : pw_H → Prop) : Option pw_V → pw_H → Prop := fun r h' => r = none ∧ Q h'
section PWX
variable {d M pc np t : Nat} {q : List Nat} {L : pw_L} {st : List pw_V} {h : pw_H} {Q : Option pw_V → pw_H → Prop}
theorem pr_reti {v : Int32} {Qi : Int32 → pw_H → Prop} (ho : pw_op M pc = some (.ireturn, np, t, q)) (hm : (pw_inf M).2.2.2 = some .int) (k : Qi v h) : pw_W d M pc L [.inl v] h (pw_qi Qi) := by
  refine pr_ret ho rfl (r := some (.inl v)) ?_ ⟨v, rfl, k⟩
  simp only [pw_ret]
  rw [if_pos (Or.inl hm)]
theorem pr_retb {v : Int32} {Qi : Int32 → pw_H → Prop} (ho : pw_op M pc = some (.ireturn, np, t, q)) (hm : (pw_inf M).2.2.2 = some .boolean) (hv : pw_bit v = true) (k : Qi v h) : pw_W d M pc L [.inl v] h (pw_qi Qi) := by
  refine pr_ret ho rfl (r := some (.inl v)) ?_ ⟨v, rfl, k⟩
  simp only [pw_ret]
  rw [if_pos (Or.inr ⟨hm, hv⟩)]
theorem pr_retr {v : Option Nat} {C : String} {Qr : Option Nat → pw_H → Prop} (ho : pw_op M pc = some (.areturn, np, t, q)) (hm : (pw_inf M).2.2.2 = some (.object C)) (k : Qr v h) : pw_W d M pc L [.inr v] h (pw_qr Qr) := by
  refine pr_ret ho rfl (r := some (.inr v)) ?_ ⟨v, rfl, k⟩
  simp only [pw_ret]
  rw [hm]
theorem pr_retv {Qv : pw_H → Prop} (ho : pw_op M pc = some (.return_, np, t, q)) (hm : (pw_inf M).2.2.2 = none) (k : Qv h) : pw_W d M pc L [] h (pw_qv Qv) := by
  refine pr_ret ho rfl (r := none) ?_ ⟨rfl, k⟩
  simp only [pw_ret]
  rw [if_pos hm]
theorem pr_si1 {ix z : Nat} {a1 : pw_V} {q1 : List Nat} {Qi : Int32 → pw_H → Prop} (ho : pw_op M pc = some (.invokestatic ix, np, t, 1 :: z :: q1)) (hq : 0 < q1.length) (hst : st.length ≤ 8) (hl : 1 ≤ (pw_inf t).2.2.1) (hm : pw_M d t [a1] h (pw_qi Qi)) (k : (∀ (x : Int32) (h1 : pw_H), Qi x h1 → pw_W (d + 1) M np L (.inl x :: st) h1 Q)) : pw_W (d + 1) M pc L (a1 :: st) h Q := by
  refine pr_call (as := [a1]) (rest := st) ho rfl rfl (by simp only [List.length_cons]; omega) ?_ hl hm ?_
  · simp only [pw_args, List.length_cons, List.take_succ_cons, List.take_zero, List.drop_succ_cons, List.drop_zero]
    rw [if_pos (by omega)]
    rfl
  · intro r h1 hq1
    obtain ⟨x, e, e2⟩ := hq1
    subst e
    exact k x h1 e2
theorem pr_si2 {ix z : Nat} {a1 a2 : pw_V} {q1 : List Nat} {Qi : Int32 → pw_H → Prop} (ho : pw_op M pc = some (.invokestatic ix, np, t, 2 :: z :: q1)) (hq : 0 < q1.length) (hst : st.length ≤ 8) (hl : 2 ≤ (pw_inf t).2.2.1) (hm : pw_M d t [a1, a2] h (pw_qi Qi)) (k : (∀ (x : Int32) (h1 : pw_H), Qi x h1 → pw_W (d + 1) M np L (.inl x :: st) h1 Q)) : pw_W (d + 1) M pc L (a2 :: a1 :: st) h Q := by
  refine pr_call (as := [a1, a2]) (rest := st) ho rfl rfl (by simp only [List.length_cons]; omega) ?_ hl hm ?_
  · simp only [pw_args, List.length_cons, List.take_succ_cons, List.take_zero, List.drop_succ_cons, List.drop_zero]
    rw [if_pos (by omega)]
    rfl
  · intro r h1 hq1
    obtain ⟨x, e, e2⟩ := hq1
    subst e
    exact k x h1 e2
theorem pr_si3 {ix z : Nat} {a1 a2 a3 : pw_V} {q1 : List Nat} {Qi : Int32 → pw_H → Prop} (ho : pw_op M pc = some (.invokestatic ix, np, t, 3 :: z :: q1)) (hq : 0 < q1.length) (hst : st.length ≤ 8) (hl : 3 ≤ (pw_inf t).2.2.1) (hm : pw_M d t [a1, a2, a3] h (pw_qi Qi)) (k : (∀ (x : Int32) (h1 : pw_H), Qi x h1 → pw_W (d + 1) M np L (.inl x :: st) h1 Q)) : pw_W (d + 1) M pc L (a3 :: a2 :: a1 :: st) h Q := by
  refine pr_call (as := [a1, a2, a3]) (rest := st) ho rfl rfl (by simp only [List.length_cons]; omega) ?_ hl hm ?_
  · simp only [pw_args, List.length_cons, List.take_succ_cons, List.take_zero, List.drop_succ_cons, List.drop_zero]
    rw [if_pos (by omega)]
    rfl
  · intro r h1 hq1
    obtain ⟨x, e, e2⟩ := hq1
    subst e
    exact k x h1 e2
theorem pr_vi0 {ix b z : Nat} {fs : List pw_V} {q1 : List Nat} {Qi : Int32 → pw_H → Prop} (ho : pw_op M pc = some (.invokevirtual ix, np, t, 0 :: z :: q1)) (hq : 0 < q1.length) (hst : st.length ≤ 7) (hb : h[b]? = some (.inr (.inr (z, fs)))) (hl : 1 ≤ (pw_inf t).2.2.1) (hm : pw_M d t [.inr (some b)] h (pw_qi Qi)) (k : (∀ (x : Int32) (h1 : pw_H), Qi x h1 → pw_W (d + 1) M np L (.inl x :: st) h1 Q)) : pw_W (d + 1) M pc L (.inr (some b) :: st) h Q := by
  refine pr_call (as := [.inr (some b)]) (rest := st) ho rfl rfl (by simp only [List.length_cons]; omega) ?_ hl hm ?_
  · simp only [pw_args, List.length_cons, List.take_succ_cons, List.take_zero, List.drop_succ_cons, List.drop_zero]
    rw [if_pos (by omega), hb]
    dsimp only
    rw [if_pos rfl]
    rfl
  · intro r h1 hq1
    obtain ⟨x, e, e2⟩ := hq1
    subst e
    exact k x h1 e2
theorem pr_vi1 {ix b z : Nat} {a1 : pw_V} {fs : List pw_V} {q1 : List Nat} {Qi : Int32 → pw_H → Prop} (ho : pw_op M pc = some (.invokevirtual ix, np, t, 1 :: z :: q1)) (hq : 0 < q1.length) (hst : st.length ≤ 7) (hb : h[b]? = some (.inr (.inr (z, fs)))) (hl : 2 ≤ (pw_inf t).2.2.1) (hm : pw_M d t [.inr (some b), a1] h (pw_qi Qi)) (k : (∀ (x : Int32) (h1 : pw_H), Qi x h1 → pw_W (d + 1) M np L (.inl x :: st) h1 Q)) : pw_W (d + 1) M pc L (a1 :: .inr (some b) :: st) h Q := by
  refine pr_call (as := [.inr (some b), a1]) (rest := st) ho rfl rfl (by simp only [List.length_cons]; omega) ?_ hl hm ?_
  · simp only [pw_args, List.length_cons, List.take_succ_cons, List.take_zero, List.drop_succ_cons, List.drop_zero]
    rw [if_pos (by omega), hb]
    dsimp only
    rw [if_pos rfl]
    rfl
  · intro r h1 hq1
    obtain ⟨x, e, e2⟩ := hq1
    subst e
    exact k x h1 e2
theorem pr_vi2 {ix b z : Nat} {a1 a2 : pw_V} {fs : List pw_V} {q1 : List Nat} {Qi : Int32 → pw_H → Prop} (ho : pw_op M pc = some (.invokevirtual ix, np, t, 2 :: z :: q1)) (hq : 0 < q1.length) (hst : st.length ≤ 7) (hb : h[b]? = some (.inr (.inr (z, fs)))) (hl : 3 ≤ (pw_inf t).2.2.1) (hm : pw_M d t [.inr (some b), a1, a2] h (pw_qi Qi)) (k : (∀ (x : Int32) (h1 : pw_H), Qi x h1 → pw_W (d + 1) M np L (.inl x :: st) h1 Q)) : pw_W (d + 1) M pc L (a2 :: a1 :: .inr (some b) :: st) h Q := by
  refine pr_call (as := [.inr (some b), a1, a2]) (rest := st) ho rfl rfl (by simp only [List.length_cons]; omega) ?_ hl hm ?_
  · simp only [pw_args, List.length_cons, List.take_succ_cons, List.take_zero, List.drop_succ_cons, List.drop_zero]
    rw [if_pos (by omega), hb]
    dsimp only
    rw [if_pos rfl]
    rfl
  · intro r h1 hq1
    obtain ⟨x, e, e2⟩ := hq1
    subst e
    exact k x h1 e2
theorem pr_vi3 {ix b z : Nat} {a1 a2 a3 : pw_V} {fs : List pw_V} {q1 : List Nat} {Qi : Int32 → pw_H → Prop} (ho : pw_op M pc = some (.invokevirtual ix, np, t, 3 :: z :: q1)) (hq : 0 < q1.length) (hst : st.length ≤ 7) (hb : h[b]? = some (.inr (.inr (z, fs)))) (hl : 4 ≤ (pw_inf t).2.2.1) (hm : pw_M d t [.inr (some b), a1, a2, a3] h (pw_qi Qi)) (k : (∀ (x : Int32) (h1 : pw_H), Qi x h1 → pw_W (d + 1) M np L (.inl x :: st) h1 Q)) : pw_W (d + 1) M pc L (a3 :: a2 :: a1 :: .inr (some b) :: st) h Q := by
  refine pr_call (as := [.inr (some b), a1, a2, a3]) (rest := st) ho rfl rfl (by simp only [List.length_cons]; omega) ?_ hl hm ?_
  · simp only [pw_args, List.length_cons, List.take_succ_cons, List.take_zero, List.drop_succ_cons, List.drop_zero]
    rw [if_pos (by omega), hb]
    dsimp only
    rw [if_pos rfl]
    rfl
  · intro r h1 hq1
    obtain ⟨x, e, e2⟩ := hq1
    subst e
    exact k x h1 e2
theorem pr_vi4 {ix b z : Nat} {a1 a2 a3 a4 : pw_V} {fs : List pw_V} {q1 : List Nat} {Qi : Int32 → pw_H → Prop} (ho : pw_op M pc = some (.invokevirtual ix, np, t, 4 :: z :: q1)) (hq : 0 < q1.length) (hst : st.length ≤ 7) (hb : h[b]? = some (.inr (.inr (z, fs)))) (hl : 5 ≤ (pw_inf t).2.2.1) (hm : pw_M d t [.inr (some b), a1, a2, a3, a4] h (pw_qi Qi)) (k : (∀ (x : Int32) (h1 : pw_H), Qi x h1 → pw_W (d + 1) M np L (.inl x :: st) h1 Q)) : pw_W (d + 1) M pc L (a4 :: a3 :: a2 :: a1 :: .inr (some b) :: st) h Q := by
  refine pr_call (as := [.inr (some b), a1, a2, a3, a4]) (rest := st) ho rfl rfl (by simp only [List.length_cons]; omega) ?_ hl hm ?_
  · simp only [pw_args, List.length_cons, List.take_succ_cons, List.take_zero, List.drop_succ_cons, List.drop_zero]
    rw [if_pos (by omega), hb]
    dsimp only
    rw [if_pos rfl]
    rfl
  · intro r h1 hq1
    obtain ⟨x, e, e2⟩ := hq1
    subst e
    exact k x h1 e2
theorem pr_vi5 {ix b z : Nat} {a1 a2 a3 a4 a5 : pw_V} {fs : List pw_V} {q1 : List Nat} {Qi : Int32 → pw_H → Prop} (ho : pw_op M pc = some (.invokevirtual ix, np, t, 5 :: z :: q1)) (hq : 0 < q1.length) (hst : st.length ≤ 7) (hb : h[b]? = some (.inr (.inr (z, fs)))) (hl : 6 ≤ (pw_inf t).2.2.1) (hm : pw_M d t [.inr (some b), a1, a2, a3, a4, a5] h (pw_qi Qi)) (k : (∀ (x : Int32) (h1 : pw_H), Qi x h1 → pw_W (d + 1) M np L (.inl x :: st) h1 Q)) : pw_W (d + 1) M pc L (a5 :: a4 :: a3 :: a2 :: a1 :: .inr (some b) :: st) h Q := by
  refine pr_call (as := [.inr (some b), a1, a2, a3, a4, a5]) (rest := st) ho rfl rfl (by simp only [List.length_cons]; omega) ?_ hl hm ?_
  · simp only [pw_args, List.length_cons, List.take_succ_cons, List.take_zero, List.drop_succ_cons, List.drop_zero]
    rw [if_pos (by omega), hb]
    dsimp only
    rw [if_pos rfl]
    rfl
  · intro r h1 hq1
    obtain ⟨x, e, e2⟩ := hq1
    subst e
    exact k x h1 e2
theorem pr_vi6 {ix b z : Nat} {a1 a2 a3 a4 a5 a6 : pw_V} {fs : List pw_V} {q1 : List Nat} {Qi : Int32 → pw_H → Prop} (ho : pw_op M pc = some (.invokevirtual ix, np, t, 6 :: z :: q1)) (hq : 0 < q1.length) (hst : st.length ≤ 7) (hb : h[b]? = some (.inr (.inr (z, fs)))) (hl : 7 ≤ (pw_inf t).2.2.1) (hm : pw_M d t [.inr (some b), a1, a2, a3, a4, a5, a6] h (pw_qi Qi)) (k : (∀ (x : Int32) (h1 : pw_H), Qi x h1 → pw_W (d + 1) M np L (.inl x :: st) h1 Q)) : pw_W (d + 1) M pc L (a6 :: a5 :: a4 :: a3 :: a2 :: a1 :: .inr (some b) :: st) h Q := by
  refine pr_call (as := [.inr (some b), a1, a2, a3, a4, a5, a6]) (rest := st) ho rfl rfl (by simp only [List.length_cons]; omega) ?_ hl hm ?_
  · simp only [pw_args, List.length_cons, List.take_succ_cons, List.take_zero, List.drop_succ_cons, List.drop_zero]
    rw [if_pos (by omega), hb]
    dsimp only
    rw [if_pos rfl]
    rfl
  · intro r h1 hq1
    obtain ⟨x, e, e2⟩ := hq1
    subst e
    exact k x h1 e2
theorem pr_vi7 {ix b z : Nat} {a1 a2 a3 a4 a5 a6 a7 : pw_V} {fs : List pw_V} {q1 : List Nat} {Qi : Int32 → pw_H → Prop} (ho : pw_op M pc = some (.invokevirtual ix, np, t, 7 :: z :: q1)) (hq : 0 < q1.length) (hst : st.length ≤ 7) (hb : h[b]? = some (.inr (.inr (z, fs)))) (hl : 8 ≤ (pw_inf t).2.2.1) (hm : pw_M d t [.inr (some b), a1, a2, a3, a4, a5, a6, a7] h (pw_qi Qi)) (k : (∀ (x : Int32) (h1 : pw_H), Qi x h1 → pw_W (d + 1) M np L (.inl x :: st) h1 Q)) : pw_W (d + 1) M pc L (a7 :: a6 :: a5 :: a4 :: a3 :: a2 :: a1 :: .inr (some b) :: st) h Q := by
  refine pr_call (as := [.inr (some b), a1, a2, a3, a4, a5, a6, a7]) (rest := st) ho rfl rfl (by simp only [List.length_cons]; omega) ?_ hl hm ?_
  · simp only [pw_args, List.length_cons, List.take_succ_cons, List.take_zero, List.drop_succ_cons, List.drop_zero]
    rw [if_pos (by omega), hb]
    dsimp only
    rw [if_pos rfl]
    rfl
  · intro r h1 hq1
    obtain ⟨x, e, e2⟩ := hq1
    subst e
    exact k x h1 e2
theorem pr_vi8 {ix b z : Nat} {a1 a2 a3 a4 a5 a6 a7 a8 : pw_V} {fs : List pw_V} {q1 : List Nat} {Qi : Int32 → pw_H → Prop} (ho : pw_op M pc = some (.invokevirtual ix, np, t, 8 :: z :: q1)) (hq : 0 < q1.length) (hst : st.length ≤ 7) (hb : h[b]? = some (.inr (.inr (z, fs)))) (hl : 9 ≤ (pw_inf t).2.2.1) (hm : pw_M d t [.inr (some b), a1, a2, a3, a4, a5, a6, a7, a8] h (pw_qi Qi)) (k : (∀ (x : Int32) (h1 : pw_H), Qi x h1 → pw_W (d + 1) M np L (.inl x :: st) h1 Q)) : pw_W (d + 1) M pc L (a8 :: a7 :: a6 :: a5 :: a4 :: a3 :: a2 :: a1 :: .inr (some b) :: st) h Q := by
  refine pr_call (as := [.inr (some b), a1, a2, a3, a4, a5, a6, a7, a8]) (rest := st) ho rfl rfl (by simp only [List.length_cons]; omega) ?_ hl hm ?_
  · simp only [pw_args, List.length_cons, List.take_succ_cons, List.take_zero, List.drop_succ_cons, List.drop_zero]
    rw [if_pos (by omega), hb]
    dsimp only
    rw [if_pos rfl]
    rfl
  · intro r h1 hq1
    obtain ⟨x, e, e2⟩ := hq1
    subst e
    exact k x h1 e2
theorem pr_vv0 {ix b z : Nat} {fs : List pw_V} {q1 : List Nat} {Qi : pw_H → Prop} (ho : pw_op M pc = some (.invokevirtual ix, np, t, 0 :: z :: q1)) (hq : 0 < q1.length) (hst : st.length ≤ 7) (hb : h[b]? = some (.inr (.inr (z, fs)))) (hl : 1 ≤ (pw_inf t).2.2.1) (hm : pw_M d t [.inr (some b)] h (pw_qv Qi)) (k : (∀ (h1 : pw_H), Qi h1 → pw_W (d + 1) M np L st h1 Q)) : pw_W (d + 1) M pc L (.inr (some b) :: st) h Q := by
  refine pr_call (as := [.inr (some b)]) (rest := st) ho rfl rfl (by simp only [List.length_cons]; omega) ?_ hl hm ?_
  · simp only [pw_args, List.length_cons, List.take_succ_cons, List.take_zero, List.drop_succ_cons, List.drop_zero]
    rw [if_pos (by omega), hb]
    dsimp only
    rw [if_pos rfl]
    rfl
  · intro r h1 hq1
    obtain ⟨e, e2⟩ := hq1
    subst e
    exact k h1 e2
theorem pr_vv3 {ix b z : Nat} {a1 a2 a3 : pw_V} {fs : List pw_V} {q1 : List Nat} {Qi : pw_H → Prop} (ho : pw_op M pc = some (.invokevirtual ix, np, t, 3 :: z :: q1)) (hq : 0 < q1.length) (hst : st.length ≤ 7) (hb : h[b]? = some (.inr (.inr (z, fs)))) (hl : 4 ≤ (pw_inf t).2.2.1) (hm : pw_M d t [.inr (some b), a1, a2, a3] h (pw_qv Qi)) (k : (∀ (h1 : pw_H), Qi h1 → pw_W (d + 1) M np L st h1 Q)) : pw_W (d + 1) M pc L (a3 :: a2 :: a1 :: .inr (some b) :: st) h Q := by
  refine pr_call (as := [.inr (some b), a1, a2, a3]) (rest := st) ho rfl rfl (by simp only [List.length_cons]; omega) ?_ hl hm ?_
  · simp only [pw_args, List.length_cons, List.take_succ_cons, List.take_zero, List.drop_succ_cons, List.drop_zero]
    rw [if_pos (by omega), hb]
    dsimp only
    rw [if_pos rfl]
    rfl
  · intro r h1 hq1
    obtain ⟨e, e2⟩ := hq1
    subst e
    exact k h1 e2
theorem pr_vr1 {ix b z : Nat} {a1 : pw_V} {fs : List pw_V} {q1 : List Nat} {Qi : Option Nat → pw_H → Prop} (ho : pw_op M pc = some (.invokevirtual ix, np, t, 1 :: z :: q1)) (hq : 0 < q1.length) (hst : st.length ≤ 7) (hb : h[b]? = some (.inr (.inr (z, fs)))) (hl : 2 ≤ (pw_inf t).2.2.1) (hm : pw_M d t [.inr (some b), a1] h (pw_qr Qi)) (k : (∀ (x : Option Nat) (h1 : pw_H), Qi x h1 → pw_W (d + 1) M np L (.inr x :: st) h1 Q)) : pw_W (d + 1) M pc L (a1 :: .inr (some b) :: st) h Q := by
  refine pr_call (as := [.inr (some b), a1]) (rest := st) ho rfl rfl (by simp only [List.length_cons]; omega) ?_ hl hm ?_
  · simp only [pw_args, List.length_cons, List.take_succ_cons, List.take_zero, List.drop_succ_cons, List.drop_zero]
    rw [if_pos (by omega), hb]
    dsimp only
    rw [if_pos rfl]
    rfl
  · intro r h1 hq1
    obtain ⟨x, e, e2⟩ := hq1
    subst e
    exact k x h1 e2
theorem pr_xv0 {ix b z : Nat} {fs : List pw_V} {q1 : List Nat} {Qi : pw_H → Prop} (ho : pw_op M pc = some (.invokespecial ix, np, t, 0 :: z :: q1)) (hq : 0 < q1.length) (hst : st.length ≤ 7) (hb : h[b]? = some (.inr (.inr (z, fs)))) (hl : 1 ≤ (pw_inf t).2.2.1) (hm : pw_M d t [.inr (some b)] h (pw_qv Qi)) (k : (∀ (h1 : pw_H), Qi h1 → pw_W (d + 1) M np L st h1 Q)) : pw_W (d + 1) M pc L (.inr (some b) :: st) h Q := by
  refine pr_call (as := [.inr (some b)]) (rest := st) ho rfl rfl (by simp only [List.length_cons]; omega) ?_ hl hm ?_
  · simp only [pw_args, List.length_cons, List.take_succ_cons, List.take_zero, List.drop_succ_cons, List.drop_zero]
    rw [if_pos (by omega), hb]
    dsimp only
    rw [if_pos rfl]
    rfl
  · intro r h1 hq1
    obtain ⟨e, e2⟩ := hq1
    subst e
    exact k h1 e2
theorem pr_xv1 {ix b z : Nat} {a1 : pw_V} {fs : List pw_V} {q1 : List Nat} {Qi : pw_H → Prop} (ho : pw_op M pc = some (.invokespecial ix, np, t, 1 :: z :: q1)) (hq : 0 < q1.length) (hst : st.length ≤ 7) (hb : h[b]? = some (.inr (.inr (z, fs)))) (hl : 2 ≤ (pw_inf t).2.2.1) (hm : pw_M d t [.inr (some b), a1] h (pw_qv Qi)) (k : (∀ (h1 : pw_H), Qi h1 → pw_W (d + 1) M np L st h1 Q)) : pw_W (d + 1) M pc L (a1 :: .inr (some b) :: st) h Q := by
  refine pr_call (as := [.inr (some b), a1]) (rest := st) ho rfl rfl (by simp only [List.length_cons]; omega) ?_ hl hm ?_
  · simp only [pw_args, List.length_cons, List.take_succ_cons, List.take_zero, List.drop_succ_cons, List.drop_zero]
    rw [if_pos (by omega), hb]
    dsimp only
    rw [if_pos rfl]
    rfl
  · intro r h1 hq1
    obtain ⟨e, e2⟩ := hq1
    subst e
    exact k h1 e2
theorem pr_xv2 {ix b z : Nat} {a1 a2 : pw_V} {fs : List pw_V} {q1 : List Nat} {Qi : pw_H → Prop} (ho : pw_op M pc = some (.invokespecial ix, np, t, 2 :: z :: q1)) (hq : 0 < q1.length) (hst : st.length ≤ 7) (hb : h[b]? = some (.inr (.inr (z, fs)))) (hl : 3 ≤ (pw_inf t).2.2.1) (hm : pw_M d t [.inr (some b), a1, a2] h (pw_qv Qi)) (k : (∀ (h1 : pw_H), Qi h1 → pw_W (d + 1) M np L st h1 Q)) : pw_W (d + 1) M pc L (a2 :: a1 :: .inr (some b) :: st) h Q := by
  refine pr_call (as := [.inr (some b), a1, a2]) (rest := st) ho rfl rfl (by simp only [List.length_cons]; omega) ?_ hl hm ?_
  · simp only [pw_args, List.length_cons, List.take_succ_cons, List.take_zero, List.drop_succ_cons, List.drop_zero]
    rw [if_pos (by omega), hb]
    dsimp only
    rw [if_pos rfl]
    rfl
  · intro r h1 hq1
    obtain ⟨e, e2⟩ := hq1
    subst e
    exact k h1 e2
theorem pr_xv6 {ix b z : Nat} {a1 a2 a3 a4 a5 a6 : pw_V} {fs : List pw_V} {q1 : List Nat} {Qi : pw_H → Prop} (ho : pw_op M pc = some (.invokespecial ix, np, t, 6 :: z :: q1)) (hq : 0 < q1.length) (hst : st.length ≤ 7) (hb : h[b]? = some (.inr (.inr (z, fs)))) (hl : 7 ≤ (pw_inf t).2.2.1) (hm : pw_M d t [.inr (some b), a1, a2, a3, a4, a5, a6] h (pw_qv Qi)) (k : (∀ (h1 : pw_H), Qi h1 → pw_W (d + 1) M np L st h1 Q)) : pw_W (d + 1) M pc L (a6 :: a5 :: a4 :: a3 :: a2 :: a1 :: .inr (some b) :: st) h Q := by
  refine pr_call (as := [.inr (some b), a1, a2, a3, a4, a5, a6]) (rest := st) ho rfl rfl (by simp only [List.length_cons]; omega) ?_ hl hm ?_
  · simp only [pw_args, List.length_cons, List.take_succ_cons, List.take_zero, List.drop_succ_cons, List.drop_zero]
    rw [if_pos (by omega), hb]
    dsimp only
    rw [if_pos rfl]
    rfl
  · intro r h1 hq1
    obtain ⟨e, e2⟩ := hq1
    subst e
    exact k h1 e2
end PWX
end
section
/-- between two bounds, as numbers -/
abbrev pw_bt (v lo hi : Int32) : Prop := lo.toInt ≤ v.toInt ∧ v.toInt ≤ hi.toInt
abbrev pw_is (h : pw_H) (x : Int32) : Int32 → pw_H → Prop := fun x' h' => x' = x ∧ h' = h
theorem pw_b1 {P : Prop} [Decidable P] (h : P) : pw_b P = 1 := if_pos h
theorem pw_b0 {P : Prop} [Decidable P] (h : ¬ P) : pw_b P = 0 := if_neg h
theorem pw_bb {P : Prop} [Decidable P] : pw_bit (pw_b P) = true := by
  by_cases h : P
  · rw [pw_b1 h]; rfl
  · rw [pw_b0 h]; rfl
theorem pz_0 : (0 : Int32).toInt = 0 := rfl
theorem pz_m1 : (-1 : Int32).toInt = -1 := rfl
theorem pz_m2 : (-2 : Int32).toInt = -2 := rfl
theorem pz_m3 : (-3 : Int32).toInt = -3 := rfl
theorem pz_m4 : (-4 : Int32).toInt = -4 := rfl
theorem pz_1 : (1 : Int32).toInt = 1 := rfl
theorem pz_2 : (2 : Int32).toInt = 2 := rfl
theorem pz_3 : (3 : Int32).toInt = 3 := rfl
theorem pz_4 : (4 : Int32).toInt = 4 := rfl
theorem pz_5 : (5 : Int32).toInt = 5 := rfl
theorem pz_6 : (6 : Int32).toInt = 6 := rfl
theorem pz_7 : (7 : Int32).toInt = 7 := rfl
theorem pz_10 : (10 : Int32).toInt = 10 := rfl
theorem pz_11 : (11 : Int32).toInt = 11 := rfl
theorem pz_12 : (12 : Int32).toInt = 12 := rfl
theorem pz_20 : (20 : Int32).toInt = 20 := rfl
theorem pz_30 : (30 : Int32).toInt = 30 := rfl
theorem pz_50 : (50 : Int32).toInt = 50 := rfl
theorem pz_60 : (60 : Int32).toInt = 60 := rfl
theorem pz_80 : (80 : Int32).toInt = 80 := rfl
theorem pz_100 : (100 : Int32).toInt = 100 := rfl
theorem pz_144 : (144 : Int32).toInt = 144 := rfl
theorem pz_300 : (300 : Int32).toInt = 300 := rfl
theorem c_48 (d : Nat) (h : pw_H) (v lo hi : Int32) : pw_M d 48 [.inl v, .inl lo, .inl hi] h (pw_qi (pw_is h (pw_b (pw_bt v lo hi)))) := by
  refine pr_iload_n rfl rfl ?_
  refine pr_iload_n rfl rfl ?_
  refine pr_c_gt rfl (fun c_2 => ?_) (fun c_2 => ?_)
  · skip
    refine pr_push (v := 0) rfl rfl ?_
    exact pr_retb rfl rfl rfl (⟨by first | rw [pw_b1 ⟨by omega, by omega⟩] | rw [pw_b0 (by omega)], rfl⟩)
  · skip
    refine pr_iload_n rfl rfl ?_
    refine pr_iload_n rfl rfl ?_
    refine pr_c_gt rfl (fun c_7 => ?_) (fun c_7 => ?_)
    · skip
      refine pr_push (v := 0) rfl rfl ?_
      exact pr_retb rfl rfl rfl (⟨by first | rw [pw_b1 ⟨by omega, by omega⟩] | rw [pw_b0 (by omega)], rfl⟩)
    · skip
      refine pr_push (v := 1) rfl rfl ?_
      refine pr_step rfl rfl rfl rfl ?_
      exact pr_retb rfl rfl rfl (⟨by first | rw [pw_b1 ⟨by omega, by omega⟩] | rw [pw_b0 (by omega)], rfl⟩)
theorem c_69 (d : Nat) (h : pw_H) (v lo hi : Int32) : pw_M d 69 [.inl v, .inl lo, .inl hi] h (pw_qi (pw_is h (pw_b (pw_bt v lo hi)))) := by
  refine pr_iload_n rfl rfl ?_
  refine pr_iload_n rfl rfl ?_
  refine pr_c_lt rfl (fun c_2 => ?_) (fun c_2 => ?_)
  · skip
    refine pr_push (v := 0) rfl rfl ?_
    exact pr_retb rfl rfl rfl (⟨by first | rw [pw_b1 ⟨by omega, by omega⟩] | rw [pw_b0 (by omega)], rfl⟩)
  · skip
    refine pr_iload_n rfl rfl ?_
    refine pr_iload_n rfl rfl ?_
    refine pr_c_gt rfl (fun c_7 => ?_) (fun c_7 => ?_)
    · skip
      refine pr_push (v := 0) rfl rfl ?_
      exact pr_retb rfl rfl rfl (⟨by first | rw [pw_b1 ⟨by omega, by omega⟩] | rw [pw_b0 (by omega)], rfl⟩)
    · skip
      refine pr_push (v := 1) rfl rfl ?_
      refine pr_step rfl rfl rfl rfl ?_
      exact pr_retb rfl rfl rfl (⟨by first | rw [pw_b1 ⟨by omega, by omega⟩] | rw [pw_b0 (by omega)], rfl⟩)
abbrev pw_pt (x y : Int32) : Prop := pw_bt x 0 12 ∧ pw_bt y 0 12
abbrev pw_fd (x y : Int32) : Prop := pw_bt x 0 11 ∧ pw_bt y 0 11
abbrev pw_yr (y : Int32) : Prop := pw_bt y 0 300
theorem c_49 (d : Nat) (h : pw_H) (x y : Int32) : pw_M (d + 1) 49 [.inl x, .inl y] h (pw_qi (pw_is h (pw_b (pw_pt x y)))) := by
  refine pr_iload_n rfl rfl ?_
  refine pr_push (v := 0) rfl rfl ?_
  refine pr_push (v := 12) rfl rfl ?_
  refine pr_si3 rfl (by decide) (Nat.le_of_ble_eq_true rfl) (Nat.le_of_ble_eq_true rfl) (c_48 _ _ _ _ _) (fun r_4 h_4 q_4 => ?_)
  obtain ⟨rfl, rfl⟩ := q_4
  refine pr_b_eq rfl (fun c_7 => ?_) (fun c_7 => ?_)
  · skip
    refine pr_push (v := 0) rfl rfl ?_
    exact pr_retb rfl rfl rfl (⟨by first | rw [pw_b1 ⟨‹_›, ‹_›⟩] | rw [pw_b0 (fun h => absurd h.1 ‹_›)] | rw [pw_b0 (fun h => absurd h.2 ‹_›)], rfl⟩)
  · skip
    refine pr_iload_n rfl rfl ?_
    refine pr_push (v := 0) rfl rfl ?_
    refine pr_push (v := 12) rfl rfl ?_
    refine pr_si3 rfl (by decide) (Nat.le_of_ble_eq_true rfl) (Nat.le_of_ble_eq_true rfl) (c_48 _ _ _ _ _) (fun r_14 h_14 q_14 => ?_)
    obtain ⟨rfl, rfl⟩ := q_14
    refine pr_b_eq rfl (fun c_17 => ?_) (fun c_17 => ?_)
    · skip
      refine pr_push (v := 0) rfl rfl ?_
      exact pr_retb rfl rfl rfl (⟨by first | rw [pw_b1 ⟨‹_›, ‹_›⟩] | rw [pw_b0 (fun h => absurd h.1 ‹_›)] | rw [pw_b0 (fun h => absurd h.2 ‹_›)], rfl⟩)
    · skip
      refine pr_push (v := 1) rfl rfl ?_
      refine pr_step rfl rfl rfl rfl ?_
      exact pr_retb rfl rfl rfl (⟨by first | rw [pw_b1 ⟨‹_›, ‹_›⟩] | rw [pw_b0 (fun h => absurd h.1 ‹_›)] | rw [pw_b0 (fun h => absurd h.2 ‹_›)], rfl⟩)
theorem c_50 (d : Nat) (h : pw_H) (x y : Int32) : pw_M (d + 1) 50 [.inl x, .inl y] h (pw_qi (pw_is h (pw_b (pw_fd x y)))) := by
  refine pr_iload_n rfl rfl ?_
  refine pr_push (v := 0) rfl rfl ?_
  refine pr_push (v := 11) rfl rfl ?_
  refine pr_si3 rfl (by decide) (Nat.le_of_ble_eq_true rfl) (Nat.le_of_ble_eq_true rfl) (c_48 _ _ _ _ _) (fun r_4 h_4 q_4 => ?_)
  obtain ⟨rfl, rfl⟩ := q_4
  refine pr_b_eq rfl (fun c_7 => ?_) (fun c_7 => ?_)
  · skip
    refine pr_push (v := 0) rfl rfl ?_
    exact pr_retb rfl rfl rfl (⟨by first | rw [pw_b1 ⟨‹_›, ‹_›⟩] | rw [pw_b0 (fun h => absurd h.1 ‹_›)] | rw [pw_b0 (fun h => absurd h.2 ‹_›)], rfl⟩)
  · skip
    refine pr_iload_n rfl rfl ?_
    refine pr_push (v := 0) rfl rfl ?_
    refine pr_push (v := 11) rfl rfl ?_
    refine pr_si3 rfl (by decide) (Nat.le_of_ble_eq_true rfl) (Nat.le_of_ble_eq_true rfl) (c_48 _ _ _ _ _) (fun r_14 h_14 q_14 => ?_)
    obtain ⟨rfl, rfl⟩ := q_14
    refine pr_b_eq rfl (fun c_17 => ?_) (fun c_17 => ?_)
    · skip
      refine pr_push (v := 0) rfl rfl ?_
      exact pr_retb rfl rfl rfl (⟨by first | rw [pw_b1 ⟨‹_›, ‹_›⟩] | rw [pw_b0 (fun h => absurd h.1 ‹_›)] | rw [pw_b0 (fun h => absurd h.2 ‹_›)], rfl⟩)
    · skip
      refine pr_push (v := 1) rfl rfl ?_
      refine pr_step rfl rfl rfl rfl ?_
      exact pr_retb rfl rfl rfl (⟨by first | rw [pw_b1 ⟨‹_›, ‹_›⟩] | rw [pw_b0 (fun h => absurd h.1 ‹_›)] | rw [pw_b0 (fun h => absurd h.2 ‹_›)], rfl⟩)
theorem c_51 (d : Nat) (h : pw_H) (y : Int32) : pw_M (d + 1) 51 [.inl y] h (pw_qi (pw_is h (pw_b (pw_yr y)))) := by
  refine pr_iload_n rfl rfl ?_
  refine pr_push (v := 0) rfl rfl ?_
  refine pr_push (v := 300) rfl rfl ?_
  refine pr_si3 rfl (by decide) (Nat.le_of_ble_eq_true rfl) (Nat.le_of_ble_eq_true rfl) (c_48 _ _ _ _ _) (fun r_5 h_5 q_5 => ?_)
  obtain ⟨rfl, rfl⟩ := q_5
  exact pr_retb rfl rfl pw_bb (⟨rfl, rfl⟩)
theorem c_70 (d : Nat) (h : pw_H) (x y : Int32) : pw_M (d + 1) 70 [.inl x, .inl y] h (pw_qi (pw_is h (pw_b (pw_pt x y)))) := by
  refine pr_iload_n rfl rfl ?_
  refine pr_push (v := 0) rfl rfl ?_
  refine pr_push (v := 12) rfl rfl ?_
  refine pr_si3 rfl (by decide) (Nat.le_of_ble_eq_true rfl) (Nat.le_of_ble_eq_true rfl) (c_69 _ _ _ _ _) (fun r_4 h_4 q_4 => ?_)
  obtain ⟨rfl, rfl⟩ := q_4
  refine pr_b_eq rfl (fun c_7 => ?_) (fun c_7 => ?_)
  · skip
    refine pr_push (v := 0) rfl rfl ?_
    exact pr_retb rfl rfl rfl (⟨by first | rw [pw_b1 ⟨‹_›, ‹_›⟩] | rw [pw_b0 (fun h => absurd h.1 ‹_›)] | rw [pw_b0 (fun h => absurd h.2 ‹_›)], rfl⟩)
  · skip
    refine pr_iload_n rfl rfl ?_
    refine pr_push (v := 0) rfl rfl ?_
    refine pr_push (v := 12) rfl rfl ?_
    refine pr_si3 rfl (by decide) (Nat.le_of_ble_eq_true rfl) (Nat.le_of_ble_eq_true rfl) (c_69 _ _ _ _ _) (fun r_14 h_14 q_14 => ?_)
    obtain ⟨rfl, rfl⟩ := q_14
    refine pr_b_eq rfl (fun c_17 => ?_) (fun c_17 => ?_)
    · skip
      refine pr_push (v := 0) rfl rfl ?_
      exact pr_retb rfl rfl rfl (⟨by first | rw [pw_b1 ⟨‹_›, ‹_›⟩] | rw [pw_b0 (fun h => absurd h.1 ‹_›)] | rw [pw_b0 (fun h => absurd h.2 ‹_›)], rfl⟩)
    · skip
      refine pr_push (v := 1) rfl rfl ?_
      refine pr_step rfl rfl rfl rfl ?_
      exact pr_retb rfl rfl rfl (⟨by first | rw [pw_b1 ⟨‹_›, ‹_›⟩] | rw [pw_b0 (fun h => absurd h.1 ‹_›)] | rw [pw_b0 (fun h => absurd h.2 ‹_›)], rfl⟩)
theorem c_71 (d : Nat) (h : pw_H) (x y : Int32) : pw_M (d + 1) 71 [.inl x, .inl y] h (pw_qi (pw_is h (pw_b (pw_fd x y)))) := by
  refine pr_iload_n rfl rfl ?_
  refine pr_push (v := 0) rfl rfl ?_
  refine pr_push (v := 11) rfl rfl ?_
  refine pr_si3 rfl (by decide) (Nat.le_of_ble_eq_true rfl) (Nat.le_of_ble_eq_true rfl) (c_69 _ _ _ _ _) (fun r_4 h_4 q_4 => ?_)
  obtain ⟨rfl, rfl⟩ := q_4
  refine pr_b_eq rfl (fun c_7 => ?_) (fun c_7 => ?_)
  · skip
    refine pr_push (v := 0) rfl rfl ?_
    exact pr_retb rfl rfl rfl (⟨by first | rw [pw_b1 ⟨‹_›, ‹_›⟩] | rw [pw_b0 (fun h => absurd h.1 ‹_›)] | rw [pw_b0 (fun h => absurd h.2 ‹_›)], rfl⟩)
  · skip
    refine pr_iload_n rfl rfl ?_
    refine pr_push (v := 0) rfl rfl ?_
    refine pr_push (v := 11) rfl rfl ?_
    refine pr_si3 rfl (by decide) (Nat.le_of_ble_eq_true rfl) (Nat.le_of_ble_eq_true rfl) (c_69 _ _ _ _ _) (fun r_14 h_14 q_14 => ?_)
    obtain ⟨rfl, rfl⟩ := q_14
    refine pr_b_eq rfl (fun c_17 => ?_) (fun c_17 => ?_)
    · skip
      refine pr_push (v := 0) rfl rfl ?_
      exact pr_retb rfl rfl rfl (⟨by first | rw [pw_b1 ⟨‹_›, ‹_›⟩] | rw [pw_b0 (fun h => absurd h.1 ‹_›)] | rw [pw_b0 (fun h => absurd h.2 ‹_›)], rfl⟩)
    · skip
      refine pr_push (v := 1) rfl rfl ?_
      refine pr_step rfl rfl rfl rfl ?_
      exact pr_retb rfl rfl rfl (⟨by first | rw [pw_b1 ⟨‹_›, ‹_›⟩] | rw [pw_b0 (fun h => absurd h.1 ‹_›)] | rw [pw_b0 (fun h => absurd h.2 ‹_›)], rfl⟩)
theorem c_72 (d : Nat) (h : pw_H) (y : Int32) : pw_M (d + 1) 72 [.inl y] h (pw_qi (pw_is h (pw_b (pw_yr y)))) := by
  refine pr_iload_n rfl rfl ?_
  refine pr_push (v := 0) rfl rfl ?_
  refine pr_push (v := 300) rfl rfl ?_
  refine pr_si3 rfl (by decide) (Nat.le_of_ble_eq_true rfl) (Nat.le_of_ble_eq_true rfl) (c_69 _ _ _ _ _) (fun r_5 h_5 q_5 => ?_)
  obtain ⟨rfl, rfl⟩ := q_5
  exact pr_retb rfl rfl pw_bb (⟨rfl, rfl⟩)
theorem c_52 (d : Nat) (h : pw_H) (a : Nat) (fs : List pw_V) (n x : Int32) (ha : h[a]? = some (.inr (.inr (3, fs)))) (hv : fs[1]? = some (.inl n)) : pw_M (d + 1) 52 [.inr (some a), .inl x] h (pw_qi (pw_is h (pw_b (pw_bt x 0 (n - 1))))) := by
  refine pr_iload_n rfl rfl ?_
  refine pr_push (v := 0) rfl rfl ?_
  refine pr_aload_n rfl rfl ?_
  refine pr_getf rfl ha hv ?_
  refine pr_push (v := 1) rfl rfl ?_
  refine pr_step rfl rfl rfl rfl ?_
  refine pr_si3 rfl (by decide) (Nat.le_of_ble_eq_true rfl) (Nat.le_of_ble_eq_true rfl) (c_48 _ _ _ _ _) (fun r_8 h_8 q_8 => ?_)
  obtain ⟨rfl, rfl⟩ := q_8
  exact pr_retb rfl rfl pw_bb (⟨rfl, rfl⟩)
theorem c_53 (d : Nat) (h : pw_H) (a : Nat) (fs : List pw_V) (n x : Int32) (ha : h[a]? = some (.inr (.inr (3, fs)))) (hv : fs[7]? = some (.inl n)) : pw_M (d + 1) 53 [.inr (some a), .inl x] h (pw_qi (pw_is h (pw_b (pw_bt x 0 (n - 1))))) := by
  refine pr_iload_n rfl rfl ?_
  refine pr_push (v := 0) rfl rfl ?_
  refine pr_aload_n rfl rfl ?_
  refine pr_getf rfl ha hv ?_
  refine pr_push (v := 1) rfl rfl ?_
  refine pr_step rfl rfl rfl rfl ?_
  refine pr_si3 rfl (by decide) (Nat.le_of_ble_eq_true rfl) (Nat.le_of_ble_eq_true rfl) (c_48 _ _ _ _ _) (fun r_8 h_8 q_8 => ?_)
  obtain ⟨rfl, rfl⟩ := q_8
  exact pr_retb rfl rfl pw_bb (⟨rfl, rfl⟩)
theorem c_73 (d : Nat) (h : pw_H) (a : Nat) (fs : List pw_V) (n x : Int32) (ha : h[a]? = some (.inr (.inr (4, fs)))) (hv : fs[0]? = some (.inl n)) : pw_M (d + 1) 73 [.inr (some a), .inl x] h (pw_qi (pw_is h (pw_b (pw_bt x 0 (n - 1))))) := by
  refine pr_iload_n rfl rfl ?_
  refine pr_push (v := 0) rfl rfl ?_
  refine pr_aload_n rfl rfl ?_
  refine pr_getf rfl ha hv ?_
  refine pr_push (v := 1) rfl rfl ?_
  refine pr_step rfl rfl rfl rfl ?_
  refine pr_si3 rfl (by decide) (Nat.le_of_ble_eq_true rfl) (Nat.le_of_ble_eq_true rfl) (c_69 _ _ _ _ _) (fun r_8 h_8 q_8 => ?_)
  obtain ⟨rfl, rfl⟩ := q_8
  exact pr_retb rfl rfl pw_bb (⟨rfl, rfl⟩)
theorem c_92 (d : Nat) (h : pw_H) (a : Nat) (fs : List pw_V) (n x : Int32) (ha : h[a]? = some (.inr (.inr (4, fs)))) (hv : fs[12]? = some (.inl n)) : pw_M (d + 1) 92 [.inr (some a), .inl x] h (pw_qi (pw_is h (pw_b (pw_bt x 0 (n - 1))))) := by
  refine pr_iload_n rfl rfl ?_
  refine pr_push (v := 0) rfl rfl ?_
  refine pr_aload_n rfl rfl ?_
  refine pr_getf rfl ha hv ?_
  refine pr_push (v := 1) rfl rfl ?_
  refine pr_step rfl rfl rfl rfl ?_
  refine pr_si3 rfl (by decide) (Nat.le_of_ble_eq_true rfl) (Nat.le_of_ble_eq_true rfl) (c_69 _ _ _ _ _) (fun r_8 h_8 q_8 => ?_)
  obtain ⟨rfl, rfl⟩ := q_8
  exact pr_retb rfl rfl pw_bb (⟨rfl, rfl⟩)
theorem c_54 (d : Nat) (h : pw_H) (x y : Int32) : pw_M d 54 [.inl x, .inl y] h (pw_qi (pw_is h (100 * x + y))) := by
  refine pr_push (v := 100) rfl rfl ?_
  refine pr_iload_n rfl rfl ?_
  refine pr_step rfl rfl rfl rfl ?_
  refine pr_iload_n rfl rfl ?_
  refine pr_step rfl rfl rfl rfl ?_
  exact pr_reti rfl rfl (⟨rfl, rfl⟩)
theorem c_55 (d : Nat) (h : pw_H) (x y : Int32) : pw_M d 55 [.inl x, .inl y] h (pw_qi (pw_is h (12 * y + x))) := by
  refine pr_push (v := 12) rfl rfl ?_
  refine pr_iload_n rfl rfl ?_
  refine pr_step rfl rfl rfl rfl ?_
  refine pr_iload_n rfl rfl ?_
  refine pr_step rfl rfl rfl rfl ?_
  exact pr_reti rfl rfl (⟨rfl, rfl⟩)
theorem c_3 (d : Nat) (h : pw_H) (a : Nat) (fs : List pw_V) (n : Int32) (ha : h[a]? = some (.inr (.inr (1, fs)))) (hv : fs[4]? = some (.inl n)) : pw_M d 3 [.inr (some a)] h (pw_qi (pw_is h n)) := by
  refine pr_aload_n rfl rfl ?_
  refine pr_getf rfl ha hv ?_
  exact pr_reti rfl rfl (⟨rfl, rfl⟩)
theorem c_8 (d : Nat) (h : pw_H) (a : Nat) (fs : List pw_V) (n : Int32) (ha : h[a]? = some (.inr (.inr (2, fs)))) (hv : fs[7]? = some (.inl n)) : pw_M d 8 [.inr (some a)] h (pw_qi (pw_is h n)) := by
  refine pr_aload_n rfl rfl ?_
  refine pr_getf rfl ha hv ?_
  exact pr_reti rfl rfl (⟨rfl, rfl⟩)
end
section
theorem pw_inc (i : Nat) : nI i + Int32.ofInt 1 = nI (i + 1) := nI_1 i
theorem pw_T {n : Nat} (h : n < 2147483648) : (nI n).toInt = (n : Int) := nI_toInt h
/-- the latest of a ledger's entries: what the first i of them give, a year and a value -/
def ld_step (th yr kn : Int32) (f1 f2 f3 f4 : Nat → Int32) (i : Nat) (s : Int32 × Int32) : Int32 × Int32 :=
  if f1 i = th ∧ (f2 i).toInt ≤ yr.toInt ∧ (f3 i).toInt ≤ kn.toInt ∧ s.1.toInt ≤ (f2 i).toInt then (f2 i, f4 i) else s
def ld_run (th yr kn ot : Int32) (f1 f2 f3 f4 : Nat → Int32) : Nat → Int32 × Int32
  | 0 => (-1, ot)
  | i + 1 => ld_step th yr kn f1 f2 f3 f4 i (ld_run th yr kn ot f1 f2 f3 f4 i)
/-- a ledger at a: its object, its four rows of n places, e entries -/
def ld_at (h : pw_H) (a t1 t2 t3 t4 n e : Nat) (f1 f2 f3 f4 : Nat → Int32) : Prop :=
  h[a]? = some (.inr (.inr (1, [.inr (some t1), .inr (some t2), .inr (some t3), .inr (some t4), .inl (nI e)]))) ∧ h[t1]? = some (.inl (0, n, f1)) ∧ h[t2]? = some (.inl (0, n, f2)) ∧ h[t3]? = some (.inl (0, n, f3)) ∧ h[t4]? = some (.inl (0, n, f4)) ∧ n < 100000 ∧ e ≤ n
theorem c_4 (d : Nat) (h : pw_H) (a t1 t2 t3 t4 n e : Nat) (f1 f2 f3 f4 : Nat → Int32) (hL : ld_at h a t1 t2 t3 t4 n e f1 f2 f3 f4) : pw_M d 4 [.inr (some a)] h (pw_qi (pw_is h (pw_b (n ≤ e)))) := by
  obtain ⟨ha, h1, h2, h3, h4, hn, he⟩ := hL
  have heT := pw_T (n := e) (by omega)
  have hnT := pw_T (n := n) (by omega)
  refine pr_aload_n rfl rfl ?_
  refine pr_getf rfl ha rfl ?_
  refine pr_aload_n rfl rfl ?_
  refine pr_getf rfl ha rfl ?_
  refine pr_alen rfl h1 ?_
  refine pr_c_lt rfl (fun c_9 => ?_) (fun c_9 => ?_)
  · skip
    refine pr_push (v := 0) rfl rfl ?_
    exact pr_retb rfl rfl rfl (⟨by first | rw [pw_b1 (by omega)] | rw [pw_b0 (by omega)], rfl⟩)
  · skip
    refine pr_push (v := 1) rfl rfl ?_
    refine pr_step rfl rfl rfl rfl ?_
    exact pr_retb rfl rfl rfl (⟨by first | rw [pw_b1 (by omega)] | rw [pw_b0 (by omega)], rfl⟩)
def ld_put (h : pw_H) (a t1 t2 t3 t4 n e : Nat) (f1 f2 f3 f4 : Nat → Int32) (x1 x2 x3 x4 : Int32) : pw_H := ((((h.set t1 (.inl (0, n, upd f1 e x1))).set t2 (.inl (0, n, upd f2 e x2))).set t3 (.inl (0, n, upd f3 e x3))).set t4 (.inl (0, n, upd f4 e x4))).set a (.inr (.inr (1, [.inr (some t1), .inr (some t2), .inr (some t3), .inr (some t4), .inl (nI (e + 1))])))
theorem pw_ne {h : pw_H} {i j : Nat} {x : pw_C} {y : Option pw_C} (hn : i ≠ j) (hy : h[j]? = y) : (h.set i x)[j]? = y := by rw [List.getElem?_set_ne hn]; exact hy
theorem c_5 (d : Nat) (h : pw_H) (a t1 t2 t3 t4 n e : Nat) (f1 f2 f3 f4 : Nat → Int32) (hL : ld_at h a t1 t2 t3 t4 n e f1 f2 f3 f4) (hd : a ≠ t1 ∧ a ≠ t2 ∧ a ≠ t3 ∧ a ≠ t4 ∧ t1 ≠ t2 ∧ t1 ≠ t3 ∧ t1 ≠ t4 ∧ t2 ≠ t3 ∧ t2 ≠ t4 ∧ t3 ≠ t4) (hf : e < n) (x1 x2 x3 x4 : Int32) : pw_M (d + 1) 5 [.inr (some a), .inl x1, .inl x2, .inl x3, .inl x4] h (pw_qi (fun r h1 => r = nI e ∧ h1 = ld_put h a t1 t2 t3 t4 n e f1 f2 f3 f4 x1 x2 x3 x4)) := by
  have hL0 := hL
  obtain ⟨ha, h1, h2, h3, h4, hn, he⟩ := hL
  have heT := pw_T (n := e) (by omega)
  have hnT := pw_T (n := n) (by omega)
  obtain ⟨d1, d2, d3, d4, d5, d6, d7, d8, d9, d10⟩ := hd
  refine pr_aload_n rfl rfl ?_
  refine pr_vi0 rfl (by decide) (Nat.le_of_ble_eq_true rfl) ha (Nat.le_of_ble_eq_true rfl) (c_4 _ _ _ _ _ _ _ _ _ _ _ _ _ hL0) (fun r_1 h_1 q_1 => ?_)
  obtain ⟨rfl, rfl⟩ := q_1
  refine pr_b_eq rfl (fun c_4 => ?_) (fun c_4 => ?_)
  · skip
    refine pr_aload_n rfl rfl ?_
    refine pr_getf rfl ha rfl ?_
    refine pr_aload_n rfl rfl ?_
    refine pr_getf rfl ha rfl ?_
    refine pr_iload_n rfl rfl ?_
    refine pr_iast e rfl h1 (by omega) rfl (by omega) rfl ?_
    refine pr_aload_n rfl rfl ?_
    refine pr_getf rfl (pw_ne (Ne.symm d1) ha) rfl ?_
    refine pr_aload_n rfl rfl ?_
    refine pr_getf rfl (pw_ne (Ne.symm d1) ha) rfl ?_
    refine pr_iload_n rfl rfl ?_
    refine pr_iast e rfl (pw_ne d5 h2) (by omega) rfl (by omega) rfl ?_
    refine pr_aload_n rfl rfl ?_
    refine pr_getf rfl (pw_ne (Ne.symm d2) (pw_ne (Ne.symm d1) ha)) rfl ?_
    refine pr_aload_n rfl rfl ?_
    refine pr_getf rfl (pw_ne (Ne.symm d2) (pw_ne (Ne.symm d1) ha)) rfl ?_
    refine pr_iload_n rfl rfl ?_
    refine pr_iast e rfl (pw_ne d8 (pw_ne d6 h3)) (by omega) rfl (by omega) rfl ?_
    refine pr_aload_n rfl rfl ?_
    refine pr_getf rfl (pw_ne (Ne.symm d3) (pw_ne (Ne.symm d2) (pw_ne (Ne.symm d1) ha))) rfl ?_
    refine pr_aload_n rfl rfl ?_
    refine pr_getf rfl (pw_ne (Ne.symm d3) (pw_ne (Ne.symm d2) (pw_ne (Ne.symm d1) ha))) rfl ?_
    refine pr_iload rfl rfl ?_
    refine pr_iast e rfl (pw_ne d10 (pw_ne d9 (pw_ne d7 h4))) (by omega) rfl (by omega) rfl ?_
    refine pr_aload_n rfl rfl ?_
    refine pr_step rfl rfl rfl rfl ?_
    refine pr_getf rfl (pw_ne (Ne.symm d4) (pw_ne (Ne.symm d3) (pw_ne (Ne.symm d2) (pw_ne (Ne.symm d1) ha)))) rfl ?_
    refine pr_step rfl rfl rfl rfl ?_
    refine pr_push (v := 1) rfl rfl ?_
    refine pr_step rfl rfl rfl rfl ?_
    refine pr_top (nI_1 e) ?_
    refine pr_putf rfl (pw_ne (Ne.symm d4) (pw_ne (Ne.symm d3) (pw_ne (Ne.symm d2) (pw_ne (Ne.symm d1) ha)))) (Nat.le_of_ble_eq_true rfl) rfl rfl ?_
    exact pr_reti rfl rfl (⟨rfl, rfl⟩)
  · skip
    exact absurd c_4 (by omega)
theorem c_6_loop (d : Nat) (h : pw_H) (a t1 t2 t3 t4 n e : Nat) (f1 f2 f3 f4 : Nat → Int32) (hL : ld_at h a t1 t2 t3 t4 n e f1 f2 f3 f4) (th yr kn ot : Int32) : ∀ (k i : Nat) (u v : Int32) (g : Option pw_V), i + k = e → (u, v) = ld_run th yr kn ot f1 f2 f3 f4 i → pw_W d 6 10 [some (.inr (some a)), some (.inl th), some (.inl yr), some (.inl kn), some (.inl ot), some (.inl u), some (.inl v), some (.inl (nI i)), g] [] h (pw_qi (pw_is h (ld_run th yr kn ot f1 f2 f3 f4 e).2)) := by
  obtain ⟨ha, h1, h2, h3, h4, hn, he⟩ := hL
  have heT := pw_T (n := e) (by omega)
  have hnT := pw_T (n := n) (by omega)
  intro k
  induction k with
  | zero =>
    intro i u v g hi hs
    obtain rfl : i = e := by omega
    refine pr_iload rfl rfl ?_
    refine pr_aload_n rfl rfl ?_
    refine pr_getf rfl ha rfl ?_
    refine pr_c_ge rfl (fun c_16 => ?_) (fun c_16 => ?_)
    · skip
      refine pr_iload rfl rfl ?_
      exact pr_reti rfl rfl (⟨by rw [← hs], rfl⟩)
    · skip
      exact absurd c_16 (by omega)
  | succ k ih =>
    intro i u v g hi hs
    have hiT := pw_T (n := i) (by omega)
    refine pr_iload rfl rfl ?_
    refine pr_aload_n rfl rfl ?_
    refine pr_getf rfl ha rfl ?_
    refine pr_c_ge rfl (fun c_16 => ?_) (fun c_16 => ?_)
    · skip
      exact absurd c_16 (by omega)
    · skip
      refine pr_aload_n rfl rfl ?_
      refine pr_getf rfl ha rfl ?_
      refine pr_iload rfl rfl ?_
      refine pr_iald i rfl h1 (by decide) (by omega) rfl (by omega) ?_
      refine pr_iload_n rfl rfl ?_
      refine pr_c_ne rfl (fun c_27 => ?_) (fun c_27 => ?_)
      · skip
        refine pr_push (v := 0) rfl rfl ?_
        refine pr_istore rfl (Nat.le_of_ble_eq_true rfl) rfl ?_
        refine pr_iload rfl rfl ?_
        refine pr_step rfl rfl rfl rfl ?_
        refine pr_iinc rfl rfl (pw_inc i) rfl ?_
        refine pr_step rfl rfl rfl rfl ?_
        exact ih (i + 1) _ _ _ (by omega) (by
          rw [ld_run, ← hs]
          unfold ld_step
          first
            | rw [if_pos ⟨by assumption, by omega, by omega, by dsimp only; omega⟩]
            | rw [if_neg (fun hh => by first | exact absurd hh.1 (by assumption) | (dsimp only at hh; omega))])
      · skip
        refine pr_aload_n rfl rfl ?_
        refine pr_getf rfl ha rfl ?_
        refine pr_iload rfl rfl ?_
        refine pr_iald i rfl h2 (by decide) (by omega) rfl (by omega) ?_
        refine pr_iload_n rfl rfl ?_
        refine pr_c_gt rfl (fun c_38 => ?_) (fun c_38 => ?_)
        · skip
          refine pr_push (v := 0) rfl rfl ?_
          refine pr_istore rfl (Nat.le_of_ble_eq_true rfl) rfl ?_
          refine pr_iload rfl rfl ?_
          refine pr_step rfl rfl rfl rfl ?_
          refine pr_iinc rfl rfl (pw_inc i) rfl ?_
          refine pr_step rfl rfl rfl rfl ?_
          exact ih (i + 1) _ _ _ (by omega) (by
            rw [ld_run, ← hs]
            unfold ld_step
            first
              | rw [if_pos ⟨by assumption, by omega, by omega, by dsimp only; omega⟩]
              | rw [if_neg (fun hh => by first | exact absurd hh.1 (by assumption) | (dsimp only at hh; omega))])
        · skip
          refine pr_aload_n rfl rfl ?_
          refine pr_getf rfl ha rfl ?_
          refine pr_iload rfl rfl ?_
          refine pr_iald i rfl h3 (by decide) (by omega) rfl (by omega) ?_
          refine pr_iload_n rfl rfl ?_
          refine pr_c_gt rfl (fun c_49 => ?_) (fun c_49 => ?_)
          · skip
            refine pr_push (v := 0) rfl rfl ?_
            refine pr_istore rfl (Nat.le_of_ble_eq_true rfl) rfl ?_
            refine pr_iload rfl rfl ?_
            refine pr_step rfl rfl rfl rfl ?_
            refine pr_iinc rfl rfl (pw_inc i) rfl ?_
            refine pr_step rfl rfl rfl rfl ?_
            exact ih (i + 1) _ _ _ (by omega) (by
              rw [ld_run, ← hs]
              unfold ld_step
              first
                | rw [if_pos ⟨by assumption, by omega, by omega, by dsimp only; omega⟩]
                | rw [if_neg (fun hh => by first | exact absurd hh.1 (by assumption) | (dsimp only at hh; omega))])
          · skip
            refine pr_push (v := 1) rfl rfl ?_
            refine pr_step rfl rfl rfl rfl ?_
            refine pr_istore rfl (Nat.le_of_ble_eq_true rfl) rfl ?_
            refine pr_iload rfl rfl ?_
            refine pr_step rfl rfl rfl rfl ?_
            refine pr_aload_n rfl rfl ?_
            refine pr_getf rfl ha rfl ?_
            refine pr_iload rfl rfl ?_
            refine pr_iald i rfl h2 (by decide) (by omega) rfl (by omega) ?_
            refine pr_iload rfl rfl ?_
            refine pr_c_lt rfl (fun c_73 => ?_) (fun c_73 => ?_)
            · skip
              refine pr_iinc rfl rfl (pw_inc i) rfl ?_
              refine pr_step rfl rfl rfl rfl ?_
              exact ih (i + 1) _ _ _ (by omega) (by
                rw [ld_run, ← hs]
                unfold ld_step
                first
                  | rw [if_pos ⟨by assumption, by omega, by omega, by dsimp only; omega⟩]
                  | rw [if_neg (fun hh => by first | exact absurd hh.1 (by assumption) | (dsimp only at hh; omega))])
            · skip
              refine pr_aload_n rfl rfl ?_
              refine pr_getf rfl ha rfl ?_
              refine pr_iload rfl rfl ?_
              refine pr_iald i rfl h2 (by decide) (by omega) rfl (by omega) ?_
              refine pr_istore rfl (Nat.le_of_ble_eq_true rfl) rfl ?_
              refine pr_aload_n rfl rfl ?_
              refine pr_getf rfl ha rfl ?_
              refine pr_iload rfl rfl ?_
              refine pr_iald i rfl h4 (by decide) (by omega) rfl (by omega) ?_
              refine pr_istore rfl (Nat.le_of_ble_eq_true rfl) rfl ?_
              refine pr_iinc rfl rfl (pw_inc i) rfl ?_
              refine pr_step rfl rfl rfl rfl ?_
              exact ih (i + 1) _ _ _ (by omega) (by
                rw [ld_run, ← hs]
                unfold ld_step
                first
                  | rw [if_pos ⟨by assumption, by omega, by omega, by dsimp only; omega⟩]
                  | rw [if_neg (fun hh => by first | exact absurd hh.1 (by assumption) | (dsimp only at hh; omega))])
theorem c_6 (d : Nat) (h : pw_H) (a t1 t2 t3 t4 n e : Nat) (f1 f2 f3 f4 : Nat → Int32) (hL : ld_at h a t1 t2 t3 t4 n e f1 f2 f3 f4) (th yr kn ot : Int32) : pw_M d 6 [.inr (some a), .inl th, .inl yr, .inl kn, .inl ot] h (pw_qi (pw_is h (ld_run th yr kn ot f1 f2 f3 f4 e).2)) := by
  refine pr_push (v := (-1)) rfl rfl ?_
  refine pr_istore rfl (Nat.le_of_ble_eq_true rfl) rfl ?_
  refine pr_iload rfl rfl ?_
  refine pr_istore rfl (Nat.le_of_ble_eq_true rfl) rfl ?_
  refine pr_push (v := 0) rfl rfl ?_
  refine pr_istore rfl (Nat.le_of_ble_eq_true rfl) rfl ?_
  exact c_6_loop d h a t1 t2 t3 t4 n e f1 f2 f3 f4 hL th yr kn ot e 0 _ _ _ (by omega) rfl
end
section
def hp_c (zc : Nat → Int32) : List pw_V := [.inr (some 2), .inl (zc 1), .inr (some 3), .inl (zc 3), .inr (some 8), .inr (some 9), .inr (some 10), .inl (zc 7), .inr (some 11), .inr (some 16), .inl (zc 10), .inr (some 17), .inl (zc 12), .inr (some 18), .inl (zc 14), .inr (some 23), .inr (some 24)]
def hp_m (zm : Nat → Int32) : List pw_V := [.inl (zm 0), .inr (some 26), .inr (some 27), .inr (some 28), .inr (some 29), .inr (some 30), .inr (some 31), .inl (zm 7), .inr (some 32), .inr (some 33), .inr (some 34), .inl (zm 11), .inl (zm 12), .inr (some 35), .inr (some 36), .inr (some 37), .inl (zm 16), .inr (some 38), .inr (some 39), .inr (some 40), .inr (some 41), .inl (zm 21), .inr (some 42), .inl (zm 23), .inr (some 43), .inr (some 44), .inr (some 45), .inr (some 46), .inr (some 47), .inr (some 48), .inl (zm 30), .inr (some 49), .inr (some 50), .inr (some 51), .inl (zm 34), .inr (some 52), .inr (some 53), .inr (some 54), .inr (some 55), .inr (some 56)]
def hp_h (N : Nat) (xs : Nat → Int32) (zc : Nat → Int32) (e3 e11 e18 : Nat) (zm : Nat → Int32) (A : Nat → Nat → Int32) (g gh : Nat → Option Nat) (dy : pw_H) : pw_H :=
  .inl (2, N, xs) ::
  .inr (.inr (3, hp_c zc)) ::
  .inr (.inl (2, 4, g)) ::
  .inr (.inr (1, [.inr (some 4), .inr (some 5), .inr (some 6), .inr (some 7), .inl (nI e3)])) ::
  .inl (0, 12, A 4) ::
  .inl (0, 12, A 5) ::
  .inl (0, 12, A 6) ::
  .inl (0, 12, A 7) ::
  .inl (0, 12, A 8) ::
  .inl (0, 12, A 9) ::
  .inl (0, 12, A 10) ::
  .inr (.inr (1, [.inr (some 12), .inr (some 13), .inr (some 14), .inr (some 15), .inl (nI e11)])) ::
  .inl (0, 60, A 12) ::
  .inl (0, 60, A 13) ::
  .inl (0, 60, A 14) ::
  .inl (0, 60, A 15) ::
  .inl (0, 20, A 16) ::
  .inr (.inl (0, 6, gh)) ::
  .inr (.inr (1, [.inr (some 19), .inr (some 20), .inr (some 21), .inr (some 22), .inl (nI e18)])) ::
  .inl (0, 10, A 19) ::
  .inl (0, 10, A 20) ::
  .inl (0, 10, A 21) ::
  .inl (0, 10, A 22) ::
  .inl (0, 4, A 23) ::
  .inl (0, 12, A 24) ::
  .inr (.inr (4, hp_m zm)) ::
  .inl (0, 4, A 26) ::
  .inl (0, 4, A 27) ::
  .inl (0, 4, A 28) ::
  .inl (0, 48, A 29) ::
  .inl (0, 48, A 30) ::
  .inl (0, 48, A 31) ::
  .inl (0, 12, A 32) ::
  .inl (0, 12, A 33) ::
  .inl (0, 12, A 34) ::
  .inl (0, 12, A 35) ::
  .inl (0, 12, A 36) ::
  .inl (0, 12, A 37) ::
  .inl (0, 60, A 38) ::
  .inl (0, 60, A 39) ::
  .inl (0, 60, A 40) ::
  .inl (0, 60, A 41) ::
  .inl (0, 20, A 42) ::
  .inl (0, 6, A 43) ::
  .inl (0, 6, A 44) ::
  .inl (0, 6, A 45) ::
  .inl (0, 6, A 46) ::
  .inl (0, 6, A 47) ::
  .inl (0, 6, A 48) ::
  .inl (0, 10, A 49) ::
  .inl (0, 10, A 50) ::
  .inl (0, 10, A 51) ::
  .inl (0, 12, A 52) ::
  .inl (1, 156, A 53) ::
  .inl (0, 144, A 54) ::
  .inl (0, 4, A 55) ::
  .inl (0, 12, A 56) :: dy
def uA (A : Nat → Nat → Int32) (k : Nat) (f : Nat → Int32) : Nat → Nat → Int32 := fun j => if j = k then f else A j
section HP
variable {N : Nat} {xs : Nat → Int32} {zc zm : Nat → Int32} {e3 e11 e18 : Nat} {A : Nat → Nat → Int32} {g gh : Nat → Option Nat} {dy : pw_H}
theorem hs_c1 {v : Int32} : (hp_h N xs zc e3 e11 e18 zm A g gh dy).set 1 (.inr (.inr (3, (hp_c zc).set 1 (.inl v)))) = (hp_h N xs (upd zc 1 v) e3 e11 e18 zm A g gh dy) := rfl
theorem hs_c3 {v : Int32} : (hp_h N xs zc e3 e11 e18 zm A g gh dy).set 1 (.inr (.inr (3, (hp_c zc).set 3 (.inl v)))) = (hp_h N xs (upd zc 3 v) e3 e11 e18 zm A g gh dy) := rfl
theorem hs_c7 {v : Int32} : (hp_h N xs zc e3 e11 e18 zm A g gh dy).set 1 (.inr (.inr (3, (hp_c zc).set 7 (.inl v)))) = (hp_h N xs (upd zc 7 v) e3 e11 e18 zm A g gh dy) := rfl
theorem hs_c10 {v : Int32} : (hp_h N xs zc e3 e11 e18 zm A g gh dy).set 1 (.inr (.inr (3, (hp_c zc).set 10 (.inl v)))) = (hp_h N xs (upd zc 10 v) e3 e11 e18 zm A g gh dy) := rfl
theorem hs_c12 {v : Int32} : (hp_h N xs zc e3 e11 e18 zm A g gh dy).set 1 (.inr (.inr (3, (hp_c zc).set 12 (.inl v)))) = (hp_h N xs (upd zc 12 v) e3 e11 e18 zm A g gh dy) := rfl
theorem hs_c14 {v : Int32} : (hp_h N xs zc e3 e11 e18 zm A g gh dy).set 1 (.inr (.inr (3, (hp_c zc).set 14 (.inl v)))) = (hp_h N xs (upd zc 14 v) e3 e11 e18 zm A g gh dy) := rfl
theorem hs_m0 {v : Int32} : (hp_h N xs zc e3 e11 e18 zm A g gh dy).set 25 (.inr (.inr (4, (hp_m zm).set 0 (.inl v)))) = (hp_h N xs zc e3 e11 e18 (upd zm 0 v) A g gh dy) := rfl
theorem hs_m7 {v : Int32} : (hp_h N xs zc e3 e11 e18 zm A g gh dy).set 25 (.inr (.inr (4, (hp_m zm).set 7 (.inl v)))) = (hp_h N xs zc e3 e11 e18 (upd zm 7 v) A g gh dy) := rfl
theorem hs_m11 {v : Int32} : (hp_h N xs zc e3 e11 e18 zm A g gh dy).set 25 (.inr (.inr (4, (hp_m zm).set 11 (.inl v)))) = (hp_h N xs zc e3 e11 e18 (upd zm 11 v) A g gh dy) := rfl
theorem hs_m12 {v : Int32} : (hp_h N xs zc e3 e11 e18 zm A g gh dy).set 25 (.inr (.inr (4, (hp_m zm).set 12 (.inl v)))) = (hp_h N xs zc e3 e11 e18 (upd zm 12 v) A g gh dy) := rfl
theorem hs_m16 {v : Int32} : (hp_h N xs zc e3 e11 e18 zm A g gh dy).set 25 (.inr (.inr (4, (hp_m zm).set 16 (.inl v)))) = (hp_h N xs zc e3 e11 e18 (upd zm 16 v) A g gh dy) := rfl
theorem hs_m21 {v : Int32} : (hp_h N xs zc e3 e11 e18 zm A g gh dy).set 25 (.inr (.inr (4, (hp_m zm).set 21 (.inl v)))) = (hp_h N xs zc e3 e11 e18 (upd zm 21 v) A g gh dy) := rfl
theorem hs_m23 {v : Int32} : (hp_h N xs zc e3 e11 e18 zm A g gh dy).set 25 (.inr (.inr (4, (hp_m zm).set 23 (.inl v)))) = (hp_h N xs zc e3 e11 e18 (upd zm 23 v) A g gh dy) := rfl
theorem hs_m30 {v : Int32} : (hp_h N xs zc e3 e11 e18 zm A g gh dy).set 25 (.inr (.inr (4, (hp_m zm).set 30 (.inl v)))) = (hp_h N xs zc e3 e11 e18 (upd zm 30 v) A g gh dy) := rfl
theorem hs_m34 {v : Int32} : (hp_h N xs zc e3 e11 e18 zm A g gh dy).set 25 (.inr (.inr (4, (hp_m zm).set 34 (.inl v)))) = (hp_h N xs zc e3 e11 e18 (upd zm 34 v) A g gh dy) := rfl
theorem hs_a4 {f : Nat → Int32} : (hp_h N xs zc e3 e11 e18 zm A g gh dy).set 4 (.inl (0, 12, f)) = (hp_h N xs zc e3 e11 e18 zm (uA A 4 f) g gh dy) := rfl
theorem hs_a5 {f : Nat → Int32} : (hp_h N xs zc e3 e11 e18 zm A g gh dy).set 5 (.inl (0, 12, f)) = (hp_h N xs zc e3 e11 e18 zm (uA A 5 f) g gh dy) := rfl
theorem hs_a6 {f : Nat → Int32} : (hp_h N xs zc e3 e11 e18 zm A g gh dy).set 6 (.inl (0, 12, f)) = (hp_h N xs zc e3 e11 e18 zm (uA A 6 f) g gh dy) := rfl
theorem hs_a7 {f : Nat → Int32} : (hp_h N xs zc e3 e11 e18 zm A g gh dy).set 7 (.inl (0, 12, f)) = (hp_h N xs zc e3 e11 e18 zm (uA A 7 f) g gh dy) := rfl
theorem hs_a8 {f : Nat → Int32} : (hp_h N xs zc e3 e11 e18 zm A g gh dy).set 8 (.inl (0, 12, f)) = (hp_h N xs zc e3 e11 e18 zm (uA A 8 f) g gh dy) := rfl
theorem hs_a9 {f : Nat → Int32} : (hp_h N xs zc e3 e11 e18 zm A g gh dy).set 9 (.inl (0, 12, f)) = (hp_h N xs zc e3 e11 e18 zm (uA A 9 f) g gh dy) := rfl
theorem hs_a10 {f : Nat → Int32} : (hp_h N xs zc e3 e11 e18 zm A g gh dy).set 10 (.inl (0, 12, f)) = (hp_h N xs zc e3 e11 e18 zm (uA A 10 f) g gh dy) := rfl
theorem hs_a12 {f : Nat → Int32} : (hp_h N xs zc e3 e11 e18 zm A g gh dy).set 12 (.inl (0, 60, f)) = (hp_h N xs zc e3 e11 e18 zm (uA A 12 f) g gh dy) := rfl
theorem hs_a13 {f : Nat → Int32} : (hp_h N xs zc e3 e11 e18 zm A g gh dy).set 13 (.inl (0, 60, f)) = (hp_h N xs zc e3 e11 e18 zm (uA A 13 f) g gh dy) := rfl
theorem hs_a14 {f : Nat → Int32} : (hp_h N xs zc e3 e11 e18 zm A g gh dy).set 14 (.inl (0, 60, f)) = (hp_h N xs zc e3 e11 e18 zm (uA A 14 f) g gh dy) := rfl
theorem hs_a15 {f : Nat → Int32} : (hp_h N xs zc e3 e11 e18 zm A g gh dy).set 15 (.inl (0, 60, f)) = (hp_h N xs zc e3 e11 e18 zm (uA A 15 f) g gh dy) := rfl
theorem hs_a16 {f : Nat → Int32} : (hp_h N xs zc e3 e11 e18 zm A g gh dy).set 16 (.inl (0, 20, f)) = (hp_h N xs zc e3 e11 e18 zm (uA A 16 f) g gh dy) := rfl
theorem hs_a19 {f : Nat → Int32} : (hp_h N xs zc e3 e11 e18 zm A g gh dy).set 19 (.inl (0, 10, f)) = (hp_h N xs zc e3 e11 e18 zm (uA A 19 f) g gh dy) := rfl
theorem hs_a20 {f : Nat → Int32} : (hp_h N xs zc e3 e11 e18 zm A g gh dy).set 20 (.inl (0, 10, f)) = (hp_h N xs zc e3 e11 e18 zm (uA A 20 f) g gh dy) := rfl
theorem hs_a21 {f : Nat → Int32} : (hp_h N xs zc e3 e11 e18 zm A g gh dy).set 21 (.inl (0, 10, f)) = (hp_h N xs zc e3 e11 e18 zm (uA A 21 f) g gh dy) := rfl
theorem hs_a22 {f : Nat → Int32} : (hp_h N xs zc e3 e11 e18 zm A g gh dy).set 22 (.inl (0, 10, f)) = (hp_h N xs zc e3 e11 e18 zm (uA A 22 f) g gh dy) := rfl
theorem hs_a23 {f : Nat → Int32} : (hp_h N xs zc e3 e11 e18 zm A g gh dy).set 23 (.inl (0, 4, f)) = (hp_h N xs zc e3 e11 e18 zm (uA A 23 f) g gh dy) := rfl
theorem hs_a24 {f : Nat → Int32} : (hp_h N xs zc e3 e11 e18 zm A g gh dy).set 24 (.inl (0, 12, f)) = (hp_h N xs zc e3 e11 e18 zm (uA A 24 f) g gh dy) := rfl
theorem hs_a26 {f : Nat → Int32} : (hp_h N xs zc e3 e11 e18 zm A g gh dy).set 26 (.inl (0, 4, f)) = (hp_h N xs zc e3 e11 e18 zm (uA A 26 f) g gh dy) := rfl
theorem hs_a27 {f : Nat → Int32} : (hp_h N xs zc e3 e11 e18 zm A g gh dy).set 27 (.inl (0, 4, f)) = (hp_h N xs zc e3 e11 e18 zm (uA A 27 f) g gh dy) := rfl
theorem hs_a28 {f : Nat → Int32} : (hp_h N xs zc e3 e11 e18 zm A g gh dy).set 28 (.inl (0, 4, f)) = (hp_h N xs zc e3 e11 e18 zm (uA A 28 f) g gh dy) := rfl
theorem hs_a29 {f : Nat → Int32} : (hp_h N xs zc e3 e11 e18 zm A g gh dy).set 29 (.inl (0, 48, f)) = (hp_h N xs zc e3 e11 e18 zm (uA A 29 f) g gh dy) := rfl
theorem hs_a30 {f : Nat → Int32} : (hp_h N xs zc e3 e11 e18 zm A g gh dy).set 30 (.inl (0, 48, f)) = (hp_h N xs zc e3 e11 e18 zm (uA A 30 f) g gh dy) := rfl
theorem hs_a31 {f : Nat → Int32} : (hp_h N xs zc e3 e11 e18 zm A g gh dy).set 31 (.inl (0, 48, f)) = (hp_h N xs zc e3 e11 e18 zm (uA A 31 f) g gh dy) := rfl
theorem hs_a32 {f : Nat → Int32} : (hp_h N xs zc e3 e11 e18 zm A g gh dy).set 32 (.inl (0, 12, f)) = (hp_h N xs zc e3 e11 e18 zm (uA A 32 f) g gh dy) := rfl
theorem hs_a33 {f : Nat → Int32} : (hp_h N xs zc e3 e11 e18 zm A g gh dy).set 33 (.inl (0, 12, f)) = (hp_h N xs zc e3 e11 e18 zm (uA A 33 f) g gh dy) := rfl
theorem hs_a34 {f : Nat → Int32} : (hp_h N xs zc e3 e11 e18 zm A g gh dy).set 34 (.inl (0, 12, f)) = (hp_h N xs zc e3 e11 e18 zm (uA A 34 f) g gh dy) := rfl
theorem hs_a35 {f : Nat → Int32} : (hp_h N xs zc e3 e11 e18 zm A g gh dy).set 35 (.inl (0, 12, f)) = (hp_h N xs zc e3 e11 e18 zm (uA A 35 f) g gh dy) := rfl
theorem hs_a36 {f : Nat → Int32} : (hp_h N xs zc e3 e11 e18 zm A g gh dy).set 36 (.inl (0, 12, f)) = (hp_h N xs zc e3 e11 e18 zm (uA A 36 f) g gh dy) := rfl
theorem hs_a37 {f : Nat → Int32} : (hp_h N xs zc e3 e11 e18 zm A g gh dy).set 37 (.inl (0, 12, f)) = (hp_h N xs zc e3 e11 e18 zm (uA A 37 f) g gh dy) := rfl
theorem hs_a38 {f : Nat → Int32} : (hp_h N xs zc e3 e11 e18 zm A g gh dy).set 38 (.inl (0, 60, f)) = (hp_h N xs zc e3 e11 e18 zm (uA A 38 f) g gh dy) := rfl
theorem hs_a39 {f : Nat → Int32} : (hp_h N xs zc e3 e11 e18 zm A g gh dy).set 39 (.inl (0, 60, f)) = (hp_h N xs zc e3 e11 e18 zm (uA A 39 f) g gh dy) := rfl
theorem hs_a40 {f : Nat → Int32} : (hp_h N xs zc e3 e11 e18 zm A g gh dy).set 40 (.inl (0, 60, f)) = (hp_h N xs zc e3 e11 e18 zm (uA A 40 f) g gh dy) := rfl
theorem hs_a41 {f : Nat → Int32} : (hp_h N xs zc e3 e11 e18 zm A g gh dy).set 41 (.inl (0, 60, f)) = (hp_h N xs zc e3 e11 e18 zm (uA A 41 f) g gh dy) := rfl
theorem hs_a42 {f : Nat → Int32} : (hp_h N xs zc e3 e11 e18 zm A g gh dy).set 42 (.inl (0, 20, f)) = (hp_h N xs zc e3 e11 e18 zm (uA A 42 f) g gh dy) := rfl
theorem hs_a43 {f : Nat → Int32} : (hp_h N xs zc e3 e11 e18 zm A g gh dy).set 43 (.inl (0, 6, f)) = (hp_h N xs zc e3 e11 e18 zm (uA A 43 f) g gh dy) := rfl
theorem hs_a44 {f : Nat → Int32} : (hp_h N xs zc e3 e11 e18 zm A g gh dy).set 44 (.inl (0, 6, f)) = (hp_h N xs zc e3 e11 e18 zm (uA A 44 f) g gh dy) := rfl
theorem hs_a45 {f : Nat → Int32} : (hp_h N xs zc e3 e11 e18 zm A g gh dy).set 45 (.inl (0, 6, f)) = (hp_h N xs zc e3 e11 e18 zm (uA A 45 f) g gh dy) := rfl
theorem hs_a46 {f : Nat → Int32} : (hp_h N xs zc e3 e11 e18 zm A g gh dy).set 46 (.inl (0, 6, f)) = (hp_h N xs zc e3 e11 e18 zm (uA A 46 f) g gh dy) := rfl
theorem hs_a47 {f : Nat → Int32} : (hp_h N xs zc e3 e11 e18 zm A g gh dy).set 47 (.inl (0, 6, f)) = (hp_h N xs zc e3 e11 e18 zm (uA A 47 f) g gh dy) := rfl
theorem hs_a48 {f : Nat → Int32} : (hp_h N xs zc e3 e11 e18 zm A g gh dy).set 48 (.inl (0, 6, f)) = (hp_h N xs zc e3 e11 e18 zm (uA A 48 f) g gh dy) := rfl
theorem hs_a49 {f : Nat → Int32} : (hp_h N xs zc e3 e11 e18 zm A g gh dy).set 49 (.inl (0, 10, f)) = (hp_h N xs zc e3 e11 e18 zm (uA A 49 f) g gh dy) := rfl
theorem hs_a50 {f : Nat → Int32} : (hp_h N xs zc e3 e11 e18 zm A g gh dy).set 50 (.inl (0, 10, f)) = (hp_h N xs zc e3 e11 e18 zm (uA A 50 f) g gh dy) := rfl
theorem hs_a51 {f : Nat → Int32} : (hp_h N xs zc e3 e11 e18 zm A g gh dy).set 51 (.inl (0, 10, f)) = (hp_h N xs zc e3 e11 e18 zm (uA A 51 f) g gh dy) := rfl
theorem hs_a52 {f : Nat → Int32} : (hp_h N xs zc e3 e11 e18 zm A g gh dy).set 52 (.inl (0, 12, f)) = (hp_h N xs zc e3 e11 e18 zm (uA A 52 f) g gh dy) := rfl
theorem hs_a53 {f : Nat → Int32} : (hp_h N xs zc e3 e11 e18 zm A g gh dy).set 53 (.inl (1, 156, f)) = (hp_h N xs zc e3 e11 e18 zm (uA A 53 f) g gh dy) := rfl
theorem hs_a54 {f : Nat → Int32} : (hp_h N xs zc e3 e11 e18 zm A g gh dy).set 54 (.inl (0, 144, f)) = (hp_h N xs zc e3 e11 e18 zm (uA A 54 f) g gh dy) := rfl
theorem hs_a55 {f : Nat → Int32} : (hp_h N xs zc e3 e11 e18 zm A g gh dy).set 55 (.inl (0, 4, f)) = (hp_h N xs zc e3 e11 e18 zm (uA A 55 f) g gh dy) := rfl
theorem hs_a56 {f : Nat → Int32} : (hp_h N xs zc e3 e11 e18 zm A g gh dy).set 56 (.inl (0, 12, f)) = (hp_h N xs zc e3 e11 e18 zm (uA A 56 f) g gh dy) := rfl
theorem hs_g {f : Nat → Option Nat} : (hp_h N xs zc e3 e11 e18 zm A g gh dy).set 2 (.inr (.inl (2, 4, f))) = (hp_h N xs zc e3 e11 e18 zm A f gh dy) := rfl
theorem hs_gh {f : Nat → Option Nat} : (hp_h N xs zc e3 e11 e18 zm A g gh dy).set 17 (.inr (.inl (0, 6, f))) = (hp_h N xs zc e3 e11 e18 zm A g f dy) := rfl
theorem hl_3 (he : e3 ≤ 12) : ld_at (hp_h N xs zc e3 e11 e18 zm A g gh dy) 3 4 5 6 7 12 e3 (A 4) (A 5) (A 6) (A 7) := ⟨rfl, rfl, rfl, rfl, rfl, by decide, he⟩
theorem hl_put_3 {x1 x2 x3 x4 : Int32} : ld_put (hp_h N xs zc e3 e11 e18 zm A g gh dy) 3 4 5 6 7 12 e3 (A 4) (A 5) (A 6) (A 7) x1 x2 x3 x4 = (hp_h N xs zc (e3 + 1) e11 e18 zm (uA (uA (uA (uA A 4 (upd (A 4) e3 x1)) 5 (upd (A 5) e3 x2)) 6 (upd (A 6) e3 x3)) 7 (upd (A 7) e3 x4)) g gh dy) := rfl
theorem hl_11 (he : e11 ≤ 60) : ld_at (hp_h N xs zc e3 e11 e18 zm A g gh dy) 11 12 13 14 15 60 e11 (A 12) (A 13) (A 14) (A 15) := ⟨rfl, rfl, rfl, rfl, rfl, by decide, he⟩
theorem hl_put_11 {x1 x2 x3 x4 : Int32} : ld_put (hp_h N xs zc e3 e11 e18 zm A g gh dy) 11 12 13 14 15 60 e11 (A 12) (A 13) (A 14) (A 15) x1 x2 x3 x4 = (hp_h N xs zc e3 (e11 + 1) e18 zm (uA (uA (uA (uA A 12 (upd (A 12) e11 x1)) 13 (upd (A 13) e11 x2)) 14 (upd (A 14) e11 x3)) 15 (upd (A 15) e11 x4)) g gh dy) := rfl
theorem hl_18 (he : e18 ≤ 10) : ld_at (hp_h N xs zc e3 e11 e18 zm A g gh dy) 18 19 20 21 22 10 e18 (A 19) (A 20) (A 21) (A 22) := ⟨rfl, rfl, rfl, rfl, rfl, by decide, he⟩
theorem hl_put_18 {x1 x2 x3 x4 : Int32} : ld_put (hp_h N xs zc e3 e11 e18 zm A g gh dy) 18 19 20 21 22 10 e18 (A 19) (A 20) (A 21) (A 22) x1 x2 x3 x4 = (hp_h N xs zc e3 e11 (e18 + 1) zm (uA (uA (uA (uA A 19 (upd (A 19) e18 x1)) 20 (upd (A 20) e18 x2)) 21 (upd (A 21) e18 x3)) 22 (upd (A 22) e18 x4)) g gh dy) := rfl
theorem hp_dy {k : Nat} : (hp_h N xs zc e3 e11 e18 zm A g gh dy)[57 + k]? = dy[k]? := by
  rw [Nat.add_comm]
  rfl
theorem hp_sy {k : Nat} {x : pw_C} : (hp_h N xs zc e3 e11 e18 zm A g gh dy).set (57 + k) x = (hp_h N xs zc e3 e11 e18 zm A g gh (dy.set k x)) := by
  rw [Nat.add_comm]
  rfl
theorem hp_len : (hp_h N xs zc e3 e11 e18 zm A g gh dy).length = 57 + dy.length := by
  rw [Nat.add_comm]
  rfl
theorem hp_app {l : pw_H} : (hp_h N xs zc e3 e11 e18 zm A g gh dy) ++ l = (hp_h N xs zc e3 e11 e18 zm A g gh (dy ++ l)) := rfl
end HP
end
section
theorem pw_s {z : Int32} {n : Nat} (h : z = nI n) : z + 1 = nI (n + 1) := by rw [h]; exact nI_1 n
theorem pw_pred {n : Nat} (h : n < 2147483648) : (nI n - 1).toInt = (n : Int) - 1 := by
  cases n with
  | zero => rfl
  | succ n => rw [nI_pred, pw_T (by omega)]; omega
theorem pw_nat {x : Int32} (h : 0 ≤ x.toInt) : ∃ j : Nat, x = nI j ∧ x.toInt = (j : Int) ∧ j < 2147483648 := by
  have h2 := Int32.toInt_lt x
  refine ⟨x.toInt.toNat, ?_, by omega, by omega⟩
  apply Int32.toInt_inj.mp
  rw [pw_T (by omega)]
  omega
section PWQ
variable {d M pc np t : Nat} {q : List Nat} {L : pw_L} {st : List pw_V} {h : pw_H} {Q : Option pw_V → pw_H → Prop}
theorem pr_u_eq {off : Int} {x y : Int32} (ho : pw_op M pc = some (.if_icmp .eq off, np, t, q)) (kt : x.toInt = y.toInt → pw_W d M t L st h Q) (kf : ¬ x.toInt = y.toInt → pw_W d M np L st h Q) : pw_W d M pc L (.inl y :: .inl x :: st) h Q := pr_c_eq ho (fun e => kt (by rw [e])) (fun e => kf (fun z => e (Int32.toInt_inj.mp z)))
theorem pr_u_ne {off : Int} {x y : Int32} (ho : pw_op M pc = some (.if_icmp .ne off, np, t, q)) (kt : ¬ x.toInt = y.toInt → pw_W d M t L st h Q) (kf : x.toInt = y.toInt → pw_W d M np L st h Q) : pw_W d M pc L (.inl y :: .inl x :: st) h Q := pr_c_ne ho (fun e => kt (fun z => e (Int32.toInt_inj.mp z))) (fun e => kf (by rw [e]))
theorem pr_t_eq {off : Int} {x : Int32} (ho : pw_op M pc = some (.ifCond .eq off, np, t, q)) (kt : x.toInt = 0 → pw_W d M t L st h Q) (kf : ¬ x.toInt = 0 → pw_W d M np L st h Q) : pw_W d M pc L (.inl x :: st) h Q := pr_z_eq ho (fun e => kt (by rw [e]; rfl)) (fun e => kf (fun z => e (Int32.toInt_inj.mp z)))
theorem pr_t_ne {off : Int} {x : Int32} (ho : pw_op M pc = some (.ifCond .ne off, np, t, q)) (kt : ¬ x.toInt = 0 → pw_W d M t L st h Q) (kf : x.toInt = 0 → pw_W d M np L st h Q) : pw_W d M pc L (.inl x :: st) h Q := pr_z_ne ho (fun e => kt (fun z => e (Int32.toInt_inj.mp z))) (fun e => kf (by rw [e]; rfl))
end PWQ
theorem pw_addT {a b : Int32} (h1 : -1000000000 ≤ a.toInt ∧ a.toInt ≤ 1000000000) (h2 : -1000000000 ≤ b.toInt ∧ b.toInt ≤ 1000000000) : (a + b).toInt = a.toInt + b.toInt := by
  rw [Int32.toInt_add]
  exact Int.bmod_eq_of_le (by omega) (by omega)
theorem c_74 (d : Nat) {N : Nat} {xs : Nat → Int32} {zc zm : Nat → Int32} {e3 e11 e18 : Nat} {A : Nat → Nat → Int32} {g gh : Nat → Option Nat} {dy : pw_H} (P : Nat) (hP : zm 0 = nI P) (hPb : P ≤ 4)  (x y : Int32) : pw_M (d + 2) 74 [.inr (some 25), .inl x, .inl y] (hp_h N xs zc e3 e11 e18 zm A g gh dy) (pw_qi (fun r h' => (¬ pw_pt x y ∧ r = -2 ∧ h' = (hp_h N xs zc e3 e11 e18 zm A g gh dy)) ∨ (¬ (¬ pw_pt x y) ∧ P = 4 ∧ r = -4 ∧ h' = (hp_h N xs zc e3 e11 e18 zm A g gh dy)) ∨ (¬ (¬ pw_pt x y) ∧ ¬ (P = 4) ∧ r = nI P ∧ h' = (hp_h N xs zc e3 e11 e18 (upd zm 0 (nI (P + 1))) (uA (uA A 26 (upd (A 26) P x)) 27 (upd (A 27) P y)) g gh dy)))) := by
  have z0 := pz_0
  have z1 := pz_1
  have z2 := pz_2
  have z3 := pz_3
  have z4 := pz_4
  have z6 := pz_6
  have z7 := pz_7
  have z10 := pz_10
  have z11 := pz_11
  have z12 := pz_12
  have z20 := pz_20
  have z30 := pz_30
  have z50 := pz_50
  have z60 := pz_60
  have z80 := pz_80
  have z300 := pz_300
  have hPT : (zm 0).toInt = (P : Int) := by rw [hP]; exact pw_T (by omega)
  have hPP : (zm 0 - 1).toInt = (P : Int) - 1 := by rw [hP]; exact pw_pred (by omega)
  refine pr_iload_n rfl rfl ?_
  refine pr_iload_n rfl rfl ?_
  refine pr_si2 rfl (by decide) (Nat.le_of_ble_eq_true rfl) (Nat.le_of_ble_eq_true rfl) (c_70 _ _ _ _) (fun r_2 h_2 q_2 => ?_)
  obtain ⟨rfl, rfl⟩ := q_2
  refine pr_b_ne rfl (fun c_5 => ?_) (fun c_5 => ?_)
  · skip
    refine pr_aload_n rfl rfl ?_
    refine pr_getf rfl rfl rfl ?_
    refine pr_push (v := 4) rfl rfl ?_
    refine pr_u_ne rfl (fun c_16 => ?_) (fun c_16 => ?_)
    · skip
      refine pr_aload_n rfl rfl ?_
      refine pr_getf rfl rfl rfl ?_
      refine pr_aload_n rfl rfl ?_
      refine pr_getf rfl rfl rfl ?_
      refine pr_iload_n rfl rfl ?_
      refine pr_iast (P) rfl rfl (by decide) hP (by omega) hs_a26 ?_
      refine pr_aload_n rfl rfl ?_
      refine pr_getf rfl rfl rfl ?_
      refine pr_aload_n rfl rfl ?_
      refine pr_getf rfl rfl rfl ?_
      refine pr_iload_n rfl rfl ?_
      refine pr_iast (P) rfl rfl (by decide) hP (by omega) hs_a27 ?_
      refine pr_aload_n rfl rfl ?_
      refine pr_step rfl rfl rfl rfl ?_
      refine pr_getf rfl rfl rfl ?_
      refine pr_push (v := 1) rfl rfl ?_
      refine pr_step rfl rfl rfl rfl ?_
      refine pr_top (pw_s hP) ?_
      refine pr_putf rfl rfl (Nat.le_of_ble_eq_true rfl) rfl hs_m0 ?_
      refine pr_aload_n rfl rfl ?_
      refine pr_getf rfl rfl rfl ?_
      refine pr_push (v := 1) rfl rfl ?_
      refine pr_step rfl rfl rfl rfl ?_
      refine pr_top (nI_pred P) ?_
      exact pr_reti rfl rfl (Or.inr (Or.inr ⟨by omega, by omega, rfl, rfl⟩))
    · skip
      refine pr_push (v := (-4)) rfl rfl ?_
      exact pr_reti rfl rfl (Or.inr (Or.inl ⟨by omega, by omega, rfl, rfl⟩))
  · skip
    refine pr_push (v := (-2)) rfl rfl ?_
    exact pr_reti rfl rfl (Or.inl ⟨by omega, rfl, rfl⟩)
theorem c_91 (d : Nat) {N : Nat} {xs : Nat → Int32} {zc zm : Nat → Int32} {e3 e11 e18 : Nat} {A : Nat → Nat → Int32} {g gh : Nat → Option Nat} {dy : pw_H} (Y : Nat) (hY : zm 11 = nI Y) (hYb : Y ≤ 300)  (n : Int32) : pw_M (d + 2) 91 [.inr (some 25), .inl n] (hp_h N xs zc e3 e11 e18 zm A g gh dy) (pw_qi (fun r h' => ((¬ pw_bt n 1 50 ∨ 300 < (Y : Int) + n.toInt) ∧ r = -2 ∧ h' = (hp_h N xs zc e3 e11 e18 zm A g gh dy)) ∨ (pw_bt n 1 50 ∧ (Y : Int) + n.toInt ≤ 300 ∧ r = zm 11 + n ∧ h' = (hp_h N xs zc e3 e11 e18 (upd zm 11 (zm 11 + n)) A g gh dy)))) := by
  have z0 := pz_0
  have z1 := pz_1
  have z2 := pz_2
  have z3 := pz_3
  have z4 := pz_4
  have z6 := pz_6
  have z7 := pz_7
  have z10 := pz_10
  have z11 := pz_11
  have z12 := pz_12
  have z20 := pz_20
  have z30 := pz_30
  have z50 := pz_50
  have z60 := pz_60
  have z80 := pz_80
  have z300 := pz_300
  have hYT : (zm 11).toInt = (Y : Int) := by rw [hY]; exact pw_T (by omega)
  have hYP : (zm 11 - 1).toInt = (Y : Int) - 1 := by rw [hY]; exact pw_pred (by omega)
  refine pr_iload_n rfl rfl ?_
  refine pr_push (v := 1) rfl rfl ?_
  refine pr_push (v := 50) rfl rfl ?_
  refine pr_si3 rfl (by decide) (Nat.le_of_ble_eq_true rfl) (Nat.le_of_ble_eq_true rfl) (c_69 _ _ _ _ _) (fun r_4 h_4 q_4 => ?_)
  obtain ⟨rfl, rfl⟩ := q_4
  refine pr_b_eq rfl (fun c_7 => ?_) (fun c_7 => ?_)
  · skip
    refine pr_push (v := (-2)) rfl rfl ?_
    exact pr_reti rfl rfl (Or.inl ⟨by omega, rfl, rfl⟩)
  · skip
    refine pr_aload_n rfl rfl ?_
    refine pr_getf rfl rfl rfl ?_
    refine pr_iload_n rfl rfl ?_
    refine pr_step rfl rfl rfl rfl ?_
    have hs : (zm 11 + n).toInt = (Y : Int) + n.toInt := by
      rw [pw_addT (by omega) (by omega)]
      omega
    refine pr_push (v := 300) rfl rfl ?_
    refine pr_c_le rfl (fun c_19 => ?_) (fun c_19 => ?_)
    · skip
      refine pr_aload_n rfl rfl ?_
      refine pr_step rfl rfl rfl rfl ?_
      refine pr_getf rfl rfl rfl ?_
      refine pr_iload_n rfl rfl ?_
      refine pr_step rfl rfl rfl rfl ?_
      refine pr_putf rfl rfl (Nat.le_of_ble_eq_true rfl) rfl hs_m11 ?_
      refine pr_aload_n rfl rfl ?_
      refine pr_getf rfl rfl rfl ?_
      exact pr_reti rfl rfl (Or.inr ⟨by omega, by omega, rfl, rfl⟩)
    · skip
      refine pr_push (v := (-2)) rfl rfl ?_
      exact pr_reti rfl rfl (Or.inl ⟨by omega, rfl, rfl⟩)
theorem c_93 (d : Nat) {N : Nat} {xs : Nat → Int32} {zc zm : Nat → Int32} {e3 e11 e18 : Nat} {A : Nat → Nat → Int32} {g gh : Nat → Option Nat} {dy : pw_H} (S : Nat) (hS : zm 12 = nI S) (hSb : S ≤ 12)  (x y : Int32) : pw_M (d + 2) 93 [.inr (some 25), .inl x, .inl y] (hp_h N xs zc e3 e11 e18 zm A g gh dy) (pw_qi (fun r h' => (¬ pw_pt x y ∧ r = -2 ∧ h' = (hp_h N xs zc e3 e11 e18 zm A g gh dy)) ∨ (¬ (¬ pw_pt x y) ∧ S = 12 ∧ r = -4 ∧ h' = (hp_h N xs zc e3 e11 e18 zm A g gh dy)) ∨ (¬ (¬ pw_pt x y) ∧ ¬ (S = 12) ∧ r = nI S ∧ h' = (hp_h N xs zc e3 e11 e18 (upd zm 12 (nI (S + 1))) (uA (uA (uA A 35 (upd (A 35) S (zm 11))) 36 (upd (A 36) S (100 * x + y))) 37 (upd (A 37) S (zm 11))) g gh dy)))) := by
  have z0 := pz_0
  have z1 := pz_1
  have z2 := pz_2
  have z3 := pz_3
  have z4 := pz_4
  have z6 := pz_6
  have z7 := pz_7
  have z10 := pz_10
  have z11 := pz_11
  have z12 := pz_12
  have z20 := pz_20
  have z30 := pz_30
  have z50 := pz_50
  have z60 := pz_60
  have z80 := pz_80
  have z300 := pz_300
  have hST : (zm 12).toInt = (S : Int) := by rw [hS]; exact pw_T (by omega)
  have hSP : (zm 12 - 1).toInt = (S : Int) - 1 := by rw [hS]; exact pw_pred (by omega)
  refine pr_iload_n rfl rfl ?_
  refine pr_iload_n rfl rfl ?_
  refine pr_si2 rfl (by decide) (Nat.le_of_ble_eq_true rfl) (Nat.le_of_ble_eq_true rfl) (c_70 _ _ _ _) (fun r_2 h_2 q_2 => ?_)
  obtain ⟨rfl, rfl⟩ := q_2
  refine pr_b_ne rfl (fun c_5 => ?_) (fun c_5 => ?_)
  · skip
    refine pr_aload_n rfl rfl ?_
    refine pr_getf rfl rfl rfl ?_
    refine pr_push (v := 12) rfl rfl ?_
    refine pr_u_ne rfl (fun c_17 => ?_) (fun c_17 => ?_)
    · skip
      refine pr_aload_n rfl rfl ?_
      refine pr_getf rfl rfl rfl ?_
      refine pr_aload_n rfl rfl ?_
      refine pr_getf rfl rfl rfl ?_
      refine pr_aload_n rfl rfl ?_
      refine pr_getf rfl rfl rfl ?_
      refine pr_iast (S) rfl rfl (by decide) hS (by omega) hs_a35 ?_
      refine pr_aload_n rfl rfl ?_
      refine pr_getf rfl rfl rfl ?_
      refine pr_aload_n rfl rfl ?_
      refine pr_getf rfl rfl rfl ?_
      refine pr_push (v := 100) rfl rfl ?_
      refine pr_iload_n rfl rfl ?_
      refine pr_step rfl rfl rfl rfl ?_
      refine pr_iload_n rfl rfl ?_
      refine pr_step rfl rfl rfl rfl ?_
      refine pr_iast (S) rfl rfl (by decide) hS (by omega) hs_a36 ?_
      refine pr_aload_n rfl rfl ?_
      refine pr_getf rfl rfl rfl ?_
      refine pr_aload_n rfl rfl ?_
      refine pr_getf rfl rfl rfl ?_
      refine pr_aload_n rfl rfl ?_
      refine pr_getf rfl rfl rfl ?_
      refine pr_iast (S) rfl rfl (by decide) hS (by omega) hs_a37 ?_
      refine pr_aload_n rfl rfl ?_
      refine pr_step rfl rfl rfl rfl ?_
      refine pr_getf rfl rfl rfl ?_
      refine pr_push (v := 1) rfl rfl ?_
      refine pr_step rfl rfl rfl rfl ?_
      refine pr_top (pw_s hS) ?_
      refine pr_putf rfl rfl (Nat.le_of_ble_eq_true rfl) rfl hs_m12 ?_
      refine pr_aload_n rfl rfl ?_
      refine pr_getf rfl rfl rfl ?_
      refine pr_push (v := 1) rfl rfl ?_
      refine pr_step rfl rfl rfl rfl ?_
      refine pr_top (nI_pred S) ?_
      exact pr_reti rfl rfl (Or.inr (Or.inr ⟨by omega, by omega, rfl, rfl⟩))
    · skip
      refine pr_push (v := (-4)) rfl rfl ?_
      exact pr_reti rfl rfl (Or.inr (Or.inl ⟨by omega, by omega, rfl, rfl⟩))
  · skip
    refine pr_push (v := (-2)) rfl rfl ?_
    exact pr_reti rfl rfl (Or.inl ⟨by omega, rfl, rfl⟩)
theorem c_94 (d : Nat) {N : Nat} {xs : Nat → Int32} {zc zm : Nat → Int32} {e3 e11 e18 : Nat} {A : Nat → Nat → Int32} {g gh : Nat → Option Nat} {dy : pw_H} (T : Nat) (hT : zm 16 = nI T) (hTb : T ≤ 60)  (x y v : Int32) : pw_M (d + 0) 94 [.inr (some 25), .inl x, .inl y, .inl v] (hp_h N xs zc e3 e11 e18 zm A g gh dy) (pw_qi (fun r h' => (T = 60 ∧ r = -4 ∧ h' = (hp_h N xs zc e3 e11 e18 zm A g gh dy)) ∨ (¬ T = 60 ∧ r = 1 ∧ h' = (hp_h N xs zc e3 e11 e18 (upd zm 16 (nI (T + 1))) (uA (uA (uA (uA A 38 (upd (A 38) T x)) 39 (upd (A 39) T y)) 40 (upd (A 40) T (zm 11))) 41 (upd (A 41) T v)) g gh dy)))) := by
  have z0 := pz_0
  have z1 := pz_1
  have z2 := pz_2
  have z3 := pz_3
  have z4 := pz_4
  have z6 := pz_6
  have z7 := pz_7
  have z10 := pz_10
  have z11 := pz_11
  have z12 := pz_12
  have z20 := pz_20
  have z30 := pz_30
  have z50 := pz_50
  have z60 := pz_60
  have z80 := pz_80
  have z300 := pz_300
  have hTT : (zm 16).toInt = (T : Int) := by rw [hT]; exact pw_T (by omega)
  have hTP : (zm 16 - 1).toInt = (T : Int) - 1 := by rw [hT]; exact pw_pred (by omega)
  refine pr_aload_n rfl rfl ?_
  refine pr_getf rfl rfl rfl ?_
  refine pr_push (v := 60) rfl rfl ?_
  refine pr_u_ne rfl (fun c_6 => ?_) (fun c_6 => ?_)
  · skip
    refine pr_aload_n rfl rfl ?_
    refine pr_getf rfl rfl rfl ?_
    refine pr_aload_n rfl rfl ?_
    refine pr_getf rfl rfl rfl ?_
    refine pr_iload_n rfl rfl ?_
    refine pr_iast (T) rfl rfl (by decide) hT (by omega) hs_a38 ?_
    refine pr_aload_n rfl rfl ?_
    refine pr_getf rfl rfl rfl ?_
    refine pr_aload_n rfl rfl ?_
    refine pr_getf rfl rfl rfl ?_
    refine pr_iload_n rfl rfl ?_
    refine pr_iast (T) rfl rfl (by decide) hT (by omega) hs_a39 ?_
    refine pr_aload_n rfl rfl ?_
    refine pr_getf rfl rfl rfl ?_
    refine pr_aload_n rfl rfl ?_
    refine pr_getf rfl rfl rfl ?_
    refine pr_aload_n rfl rfl ?_
    refine pr_getf rfl rfl rfl ?_
    refine pr_iast (T) rfl rfl (by decide) hT (by omega) hs_a40 ?_
    refine pr_aload_n rfl rfl ?_
    refine pr_getf rfl rfl rfl ?_
    refine pr_aload_n rfl rfl ?_
    refine pr_getf rfl rfl rfl ?_
    refine pr_iload_n rfl rfl ?_
    refine pr_iast (T) rfl rfl (by decide) hT (by omega) hs_a41 ?_
    refine pr_aload_n rfl rfl ?_
    refine pr_step rfl rfl rfl rfl ?_
    refine pr_getf rfl rfl rfl ?_
    refine pr_push (v := 1) rfl rfl ?_
    refine pr_step rfl rfl rfl rfl ?_
    refine pr_top (pw_s hT) ?_
    refine pr_putf rfl rfl (Nat.le_of_ble_eq_true rfl) rfl hs_m16 ?_
    refine pr_push (v := 1) rfl rfl ?_
    exact pr_reti rfl rfl (Or.inr ⟨by omega, rfl, rfl⟩)
  · skip
    refine pr_push (v := (-4)) rfl rfl ?_
    exact pr_reti rfl rfl (Or.inl ⟨by omega, rfl, rfl⟩)
theorem c_100 (d : Nat) {N : Nat} {xs : Nat → Int32} {zc zm : Nat → Int32} {e3 e11 e18 : Nat} {A : Nat → Nat → Int32} {g gh : Nat → Option Nat} {dy : pw_H} (W : Nat) (hW : zm 21 = nI W) (hWb : W ≤ 20)  (y : Int32) : pw_M (d + 2) 100 [.inr (some 25), .inl y] (hp_h N xs zc e3 e11 e18 zm A g gh dy) (pw_qi (fun r h' => (¬ pw_yr y ∧ r = -2 ∧ h' = (hp_h N xs zc e3 e11 e18 zm A g gh dy)) ∨ (¬ (¬ pw_yr y) ∧ W = 20 ∧ r = -4 ∧ h' = (hp_h N xs zc e3 e11 e18 zm A g gh dy)) ∨ (¬ (¬ pw_yr y) ∧ ¬ (W = 20) ∧ r = nI W ∧ h' = (hp_h N xs zc e3 e11 e18 (upd zm 21 (nI (W + 1))) (uA A 42 (upd (A 42) W y)) g gh dy)))) := by
  have z0 := pz_0
  have z1 := pz_1
  have z2 := pz_2
  have z3 := pz_3
  have z4 := pz_4
  have z6 := pz_6
  have z7 := pz_7
  have z10 := pz_10
  have z11 := pz_11
  have z12 := pz_12
  have z20 := pz_20
  have z30 := pz_30
  have z50 := pz_50
  have z60 := pz_60
  have z80 := pz_80
  have z300 := pz_300
  have hWT : (zm 21).toInt = (W : Int) := by rw [hW]; exact pw_T (by omega)
  have hWP : (zm 21 - 1).toInt = (W : Int) - 1 := by rw [hW]; exact pw_pred (by omega)
  refine pr_iload_n rfl rfl ?_
  refine pr_si1 rfl (by decide) (Nat.le_of_ble_eq_true rfl) (Nat.le_of_ble_eq_true rfl) (c_72 _ _ _) (fun r_1 h_1 q_1 => ?_)
  obtain ⟨rfl, rfl⟩ := q_1
  refine pr_b_ne rfl (fun c_4 => ?_) (fun c_4 => ?_)
  · skip
    refine pr_aload_n rfl rfl ?_
    refine pr_getf rfl rfl rfl ?_
    refine pr_push (v := 20) rfl rfl ?_
    refine pr_u_ne rfl (fun c_16 => ?_) (fun c_16 => ?_)
    · skip
      refine pr_aload_n rfl rfl ?_
      refine pr_getf rfl rfl rfl ?_
      refine pr_aload_n rfl rfl ?_
      refine pr_getf rfl rfl rfl ?_
      refine pr_iload_n rfl rfl ?_
      refine pr_iast (W) rfl rfl (by decide) hW (by omega) hs_a42 ?_
      refine pr_aload_n rfl rfl ?_
      refine pr_step rfl rfl rfl rfl ?_
      refine pr_getf rfl rfl rfl ?_
      refine pr_push (v := 1) rfl rfl ?_
      refine pr_step rfl rfl rfl rfl ?_
      refine pr_top (pw_s hW) ?_
      refine pr_putf rfl rfl (Nat.le_of_ble_eq_true rfl) rfl hs_m21 ?_
      refine pr_aload_n rfl rfl ?_
      refine pr_getf rfl rfl rfl ?_
      refine pr_push (v := 1) rfl rfl ?_
      refine pr_step rfl rfl rfl rfl ?_
      refine pr_top (nI_pred W) ?_
      exact pr_reti rfl rfl (Or.inr (Or.inr ⟨by omega, by omega, rfl, rfl⟩))
    · skip
      refine pr_push (v := (-4)) rfl rfl ?_
      exact pr_reti rfl rfl (Or.inr (Or.inl ⟨by omega, by omega, rfl, rfl⟩))
  · skip
    refine pr_push (v := (-2)) rfl rfl ?_
    exact pr_reti rfl rfl (Or.inl ⟨by omega, rfl, rfl⟩)
end
section
theorem pw_subT {a b : Int32} (h1 : -1000000000 ≤ a.toInt ∧ a.toInt ≤ 1000000000) (h2 : -1000000000 ≤ b.toInt ∧ b.toInt ≤ 1000000000) : (a - b).toInt = a.toInt - b.toInt := by
  rw [Int32.toInt_sub]
  exact Int.bmod_eq_of_le (by omega) (by omega)
/-- the best entry so far, by its place, and what the ledger's run gives -/
def md_inv (bi : Int32) (s : Int32 × Int32) (ot : Int32) (f2 f4 : Nat → Int32) (i : Nat) : Prop := (bi = -1 ∧ s = (-1, ot)) ∨ ∃ b, b < i ∧ bi = nI b ∧ s = (f2 b, f4 b)
section MD
variable {th yr kn ot bi : Int32} {f1 f2 f3 f4 : Nat → Int32} {i : Nat}
theorem md_no (hv : md_inv bi (ld_run th yr kn ot f1 f2 f3 f4 i) ot f2 f4 i) (hc : ¬ (f1 i = th ∧ (f2 i).toInt ≤ yr.toInt ∧ (f3 i).toInt ≤ kn.toInt)) : md_inv bi (ld_run th yr kn ot f1 f2 f3 f4 (i + 1)) ot f2 f4 (i + 1) := by
  have e : ld_run th yr kn ot f1 f2 f3 f4 (i + 1) = ld_run th yr kn ot f1 f2 f3 f4 i := if_neg (fun hh => hc ⟨hh.1, hh.2.1, hh.2.2.1⟩)
  rw [e]
  rcases hv with h | ⟨b, h1, h2⟩
  · exact Or.inl h
  · exact Or.inr ⟨b, by omega, h2⟩
theorem md_yes (hc : f1 i = th ∧ (f2 i).toInt ≤ yr.toInt ∧ (f3 i).toInt ≤ kn.toInt) (hs : (ld_run th yr kn ot f1 f2 f3 f4 i).1.toInt ≤ (f2 i).toInt) : md_inv (nI i) (ld_run th yr kn ot f1 f2 f3 f4 (i + 1)) ot f2 f4 (i + 1) := by
  have e : ld_run th yr kn ot f1 f2 f3 f4 (i + 1) = (f2 i, f4 i) := if_pos ⟨hc.1, hc.2.1, hc.2.2, hs⟩
  rw [e]
  exact Or.inr ⟨i, by omega, rfl, rfl⟩
theorem md_lt (hv : md_inv bi (ld_run th yr kn ot f1 f2 f3 f4 i) ot f2 f4 i) (hs : ¬ (ld_run th yr kn ot f1 f2 f3 f4 i).1.toInt ≤ (f2 i).toInt) : md_inv bi (ld_run th yr kn ot f1 f2 f3 f4 (i + 1)) ot f2 f4 (i + 1) := by
  have e : ld_run th yr kn ot f1 f2 f3 f4 (i + 1) = ld_run th yr kn ot f1 f2 f3 f4 i := if_neg (fun hh => hs hh.2.2.2)
  rw [e]
  rcases hv with h | ⟨b, h1, h2⟩
  · exact Or.inl h
  · exact Or.inr ⟨b, by omega, h2⟩
end MD
def wh_of (A : Nat → Nat → Int32) (T j : Nat) (yr kn : Int32) : Int32 :=
  if yr.toInt < (A 35 j).toInt ∨ kn.toInt < (A 35 j).toInt then -1 else (ld_run (nI j) yr kn (A 36 j) (A 38) (A 39) (A 40) (A 41) T).2
theorem c_98_loop (d : Nat) {N : Nat} {xs : Nat → Int32} {zc zm : Nat → Int32} {e3 e11 e18 : Nat} {A : Nat → Nat → Int32} {g gh : Nat → Option Nat} {dy : pw_H} (T : Nat) (hT : zm 16 = nI T) (hTb : T ≤ 60) (j : Nat) (hj : j < 12) (yr kn : Int32) (hf : ∀ i, i < T → 0 ≤ ((A 39) i).toInt) : ∀ (k i : Nat) (bi : Int32), i + k = T → md_inv bi (ld_run (nI j) yr kn (A 36 j) (A 38) (A 39) (A 40) (A 41) i) (A 36 j) ((A 39)) ((A 41)) i → pw_W (d + 0) 98 28 [some (.inr (some 25)), some (.inl (nI j)), some (.inl yr), some (.inl kn), some (.inl bi), some (.inl (nI i))] [] (hp_h N xs zc e3 e11 e18 zm A g gh dy) (pw_qi (fun r h' => r = (ld_run (nI j) yr kn (A 36 j) (A 38) (A 39) (A 40) (A 41) T).2 ∧ h' = (hp_h N xs zc e3 e11 e18 zm A g gh dy))) := by
  have z0 := pz_0
  have z1 := pz_1
  have z2 := pz_2
  have z3 := pz_3
  have z4 := pz_4
  have z6 := pz_6
  have z7 := pz_7
  have z10 := pz_10
  have z11 := pz_11
  have z12 := pz_12
  have z20 := pz_20
  have z30 := pz_30
  have z50 := pz_50
  have z60 := pz_60
  have z80 := pz_80
  have z300 := pz_300
  have zm1 := pz_m1
  have hTT : (zm 16).toInt = (T : Int) := by rw [hT]; exact pw_T (by omega)
  have hTP : (zm 16 - 1).toInt = (T : Int) - 1 := by rw [hT]; exact pw_pred (by omega)
  intro k
  induction k with
  | zero =>
    intro i bi hi hv
    obtain rfl : i = T := by omega
    have hiT := pw_T (n := i) (by omega)
    rcases hv with ⟨rfl, hs⟩ | ⟨b, hb, rfl, hs⟩
    · skip
      refine pr_iload rfl rfl ?_
      refine pr_aload_n rfl rfl ?_
      refine pr_getf rfl rfl rfl ?_
      refine pr_c_ge rfl (fun c_34 => ?_) (fun c_34 => ?_)
      · skip
        refine pr_iload rfl rfl ?_
        refine pr_push (v := (-1)) rfl rfl ?_
        refine pr_step rfl rfl rfl rfl ?_
        refine pr_aload_n rfl rfl ?_
        refine pr_getf rfl rfl rfl ?_
        refine pr_iload_n rfl rfl ?_
        refine pr_iald (j) rfl rfl (by decide) (by decide) rfl (by omega) ?_
        refine pr_step rfl rfl rfl rfl ?_
        exact pr_reti rfl rfl (⟨by rw [hs], rfl⟩)
      · skip
        exact absurd c_34 (by omega)
    · have hbT := pw_T (n := b) (by omega)
      refine pr_iload rfl rfl ?_
      refine pr_aload_n rfl rfl ?_
      refine pr_getf rfl rfl rfl ?_
      refine pr_c_ge rfl (fun c_34 => ?_) (fun c_34 => ?_)
      · skip
        refine pr_iload rfl rfl ?_
        refine pr_push (v := (-1)) rfl rfl ?_
        refine pr_u_ne rfl (fun c_111 => ?_) (fun c_111 => ?_)
        · skip
          refine pr_aload_n rfl rfl ?_
          refine pr_getf rfl rfl rfl ?_
          refine pr_iload rfl rfl ?_
          refine pr_iald (b) rfl rfl (by decide) (by decide) rfl (by omega) ?_
          exact pr_reti rfl rfl (⟨by rw [hs], rfl⟩)
        · skip
          exact absurd c_111 (by omega)
      · skip
        exact absurd c_34 (by omega)
  | succ k ih =>
    intro i bi hi hv
    have hiT := pw_T (n := i) (by omega)
    have hfi := hf i (by omega)
    have hv0 := hv
    rcases hv with ⟨rfl, hs⟩ | ⟨b, hb, rfl, hs⟩
    · skip
      refine pr_iload rfl rfl ?_
      refine pr_aload_n rfl rfl ?_
      refine pr_getf rfl rfl rfl ?_
      refine pr_c_ge rfl (fun c_34 => ?_) (fun c_34 => ?_)
      · skip
        exact absurd c_34 (by omega)
      · skip
        refine pr_aload_n rfl rfl ?_
        refine pr_getf rfl rfl rfl ?_
        refine pr_iload rfl rfl ?_
        refine pr_iald (i) rfl rfl (by decide) (by decide) rfl (by omega) ?_
        refine pr_iload_n rfl rfl ?_
        refine pr_c_ne rfl (fun c_45 => ?_) (fun c_45 => ?_)
        · skip
          refine pr_iinc rfl rfl (pw_inc i) rfl ?_
          refine pr_step rfl rfl rfl rfl ?_
          first
            | exact ih (i + 1) _ (by omega) (md_no hv0 (by rintro ⟨q1, q2, q3⟩; first | (exact absurd q1 (by assumption)) | omega))
            | exact ih (i + 1) _ (by omega) (md_yes ⟨by assumption, by omega, by first | omega | decide⟩ (by rw [hs]; dsimp only; omega))
        · skip
          refine pr_aload_n rfl rfl ?_
          refine pr_getf rfl rfl rfl ?_
          refine pr_iload rfl rfl ?_
          refine pr_iald (i) rfl rfl (by decide) (by decide) rfl (by omega) ?_
          refine pr_iload_n rfl rfl ?_
          refine pr_c_gt rfl (fun c_56 => ?_) (fun c_56 => ?_)
          · skip
            refine pr_iinc rfl rfl (pw_inc i) rfl ?_
            refine pr_step rfl rfl rfl rfl ?_
            first
              | exact ih (i + 1) _ (by omega) (md_no hv0 (by rintro ⟨q1, q2, q3⟩; first | (exact absurd q1 (by assumption)) | omega))
              | exact ih (i + 1) _ (by omega) (md_yes ⟨by assumption, by omega, by first | omega | decide⟩ (by rw [hs]; dsimp only; omega))
          · skip
            refine pr_aload_n rfl rfl ?_
            refine pr_getf rfl rfl rfl ?_
            refine pr_iload rfl rfl ?_
            refine pr_iald (i) rfl rfl (by decide) (by decide) rfl (by omega) ?_
            refine pr_iload_n rfl rfl ?_
            refine pr_c_gt rfl (fun c_67 => ?_) (fun c_67 => ?_)
            · skip
              refine pr_iinc rfl rfl (pw_inc i) rfl ?_
              refine pr_step rfl rfl rfl rfl ?_
              first
                | exact ih (i + 1) _ (by omega) (md_no hv0 (by rintro ⟨q1, q2, q3⟩; first | (exact absurd q1 (by assumption)) | omega))
                | exact ih (i + 1) _ (by omega) (md_yes ⟨by assumption, by omega, by first | omega | decide⟩ (by rw [hs]; dsimp only; omega))
            · skip
              refine pr_iload rfl rfl ?_
              refine pr_push (v := (-1)) rfl rfl ?_
              refine pr_step rfl rfl rfl rfl ?_
              refine pr_iload rfl rfl ?_
              refine pr_step rfl rfl rfl rfl ?_
              refine pr_istore rfl (Nat.le_of_ble_eq_true rfl) rfl ?_
              refine pr_iinc rfl rfl (pw_inc i) rfl ?_
              refine pr_step rfl rfl rfl rfl ?_
              first
                | exact ih (i + 1) _ (by omega) (md_no hv0 (by rintro ⟨q1, q2, q3⟩; first | (exact absurd q1 (by assumption)) | omega))
                | exact ih (i + 1) _ (by omega) (md_yes ⟨by assumption, by omega, by first | omega | decide⟩ (by rw [hs]; dsimp only; omega))
    · have hbT := pw_T (n := b) (by omega)
      have hfb := hf b (by omega)
      refine pr_iload rfl rfl ?_
      refine pr_aload_n rfl rfl ?_
      refine pr_getf rfl rfl rfl ?_
      refine pr_c_ge rfl (fun c_34 => ?_) (fun c_34 => ?_)
      · skip
        exact absurd c_34 (by omega)
      · skip
        refine pr_aload_n rfl rfl ?_
        refine pr_getf rfl rfl rfl ?_
        refine pr_iload rfl rfl ?_
        refine pr_iald (i) rfl rfl (by decide) (by decide) rfl (by omega) ?_
        refine pr_iload_n rfl rfl ?_
        refine pr_c_ne rfl (fun c_45 => ?_) (fun c_45 => ?_)
        · skip
          refine pr_iinc rfl rfl (pw_inc i) rfl ?_
          refine pr_step rfl rfl rfl rfl ?_
          first
            | exact ih (i + 1) _ (by omega) (md_no hv0 (by rintro ⟨q1, q2, q3⟩; first | (exact absurd q1 (by assumption)) | omega))
            | exact ih (i + 1) _ (by omega) (md_lt hv0 (by rw [hs]; dsimp only; omega))
            | exact ih (i + 1) _ (by omega) (md_yes ⟨by assumption, by omega, by first | omega | decide⟩ (by rw [hs]; dsimp only; omega))
        · skip
          refine pr_aload_n rfl rfl ?_
          refine pr_getf rfl rfl rfl ?_
          refine pr_iload rfl rfl ?_
          refine pr_iald (i) rfl rfl (by decide) (by decide) rfl (by omega) ?_
          refine pr_iload_n rfl rfl ?_
          refine pr_c_gt rfl (fun c_56 => ?_) (fun c_56 => ?_)
          · skip
            refine pr_iinc rfl rfl (pw_inc i) rfl ?_
            refine pr_step rfl rfl rfl rfl ?_
            first
              | exact ih (i + 1) _ (by omega) (md_no hv0 (by rintro ⟨q1, q2, q3⟩; first | (exact absurd q1 (by assumption)) | omega))
              | exact ih (i + 1) _ (by omega) (md_lt hv0 (by rw [hs]; dsimp only; omega))
              | exact ih (i + 1) _ (by omega) (md_yes ⟨by assumption, by omega, by first | omega | decide⟩ (by rw [hs]; dsimp only; omega))
          · skip
            refine pr_aload_n rfl rfl ?_
            refine pr_getf rfl rfl rfl ?_
            refine pr_iload rfl rfl ?_
            refine pr_iald (i) rfl rfl (by decide) (by decide) rfl (by omega) ?_
            refine pr_iload_n rfl rfl ?_
            refine pr_c_gt rfl (fun c_67 => ?_) (fun c_67 => ?_)
            · skip
              refine pr_iinc rfl rfl (pw_inc i) rfl ?_
              refine pr_step rfl rfl rfl rfl ?_
              first
                | exact ih (i + 1) _ (by omega) (md_no hv0 (by rintro ⟨q1, q2, q3⟩; first | (exact absurd q1 (by assumption)) | omega))
                | exact ih (i + 1) _ (by omega) (md_lt hv0 (by rw [hs]; dsimp only; omega))
                | exact ih (i + 1) _ (by omega) (md_yes ⟨by assumption, by omega, by first | omega | decide⟩ (by rw [hs]; dsimp only; omega))
            · skip
              refine pr_iload rfl rfl ?_
              refine pr_push (v := (-1)) rfl rfl ?_
              refine pr_u_eq rfl (fun c_73 => ?_) (fun c_73 => ?_)
              · skip
                exact absurd c_73 (by omega)
              · skip
                refine pr_aload_n rfl rfl ?_
                refine pr_getf rfl rfl rfl ?_
                refine pr_iload rfl rfl ?_
                refine pr_iald (i) rfl rfl (by decide) (by decide) rfl (by omega) ?_
                refine pr_aload_n rfl rfl ?_
                refine pr_getf rfl rfl rfl ?_
                refine pr_iload rfl rfl ?_
                refine pr_iald (b) rfl rfl (by decide) (by decide) rfl (by omega) ?_
                refine pr_c_lt rfl (fun c_90 => ?_) (fun c_90 => ?_)
                · skip
                  refine pr_iload rfl rfl ?_
                  refine pr_istore rfl (Nat.le_of_ble_eq_true rfl) rfl ?_
                  refine pr_iinc rfl rfl (pw_inc i) rfl ?_
                  refine pr_step rfl rfl rfl rfl ?_
                  first
                    | exact ih (i + 1) _ (by omega) (md_no hv0 (by rintro ⟨q1, q2, q3⟩; first | (exact absurd q1 (by assumption)) | omega))
                    | exact ih (i + 1) _ (by omega) (md_lt hv0 (by rw [hs]; dsimp only; omega))
                    | exact ih (i + 1) _ (by omega) (md_yes ⟨by assumption, by omega, by first | omega | decide⟩ (by rw [hs]; dsimp only; omega))
                · skip
                  refine pr_iload rfl rfl ?_
                  refine pr_step rfl rfl rfl rfl ?_
                  refine pr_istore rfl (Nat.le_of_ble_eq_true rfl) rfl ?_
                  refine pr_iinc rfl rfl (pw_inc i) rfl ?_
                  refine pr_step rfl rfl rfl rfl ?_
                  first
                    | exact ih (i + 1) _ (by omega) (md_no hv0 (by rintro ⟨q1, q2, q3⟩; first | (exact absurd q1 (by assumption)) | omega))
                    | exact ih (i + 1) _ (by omega) (md_lt hv0 (by rw [hs]; dsimp only; omega))
                    | exact ih (i + 1) _ (by omega) (md_yes ⟨by assumption, by omega, by first | omega | decide⟩ (by rw [hs]; dsimp only; omega))
theorem c_98 (d : Nat) {N : Nat} {xs : Nat → Int32} {zc zm : Nat → Int32} {e3 e11 e18 : Nat} {A : Nat → Nat → Int32} {g gh : Nat → Option Nat} {dy : pw_H} (T : Nat) (hT : zm 16 = nI T) (hTb : T ≤ 60) (hf : ∀ i, i < T → 0 ≤ (A 39 i).toInt) (j : Nat) (hj : j < 12) (yr kn : Int32) : pw_M (d + 0) 98 [.inr (some 25), .inl (nI j), .inl yr, .inl kn] (hp_h N xs zc e3 e11 e18 zm A g gh dy) (pw_qi (fun r h' => r = wh_of A T j yr kn ∧ h' = (hp_h N xs zc e3 e11 e18 zm A g gh dy))) := by
  refine pr_aload_n rfl rfl ?_
  refine pr_getf rfl rfl rfl ?_
  refine pr_iload_n rfl rfl ?_
  refine pr_iald (j) rfl rfl (by decide) (by decide) rfl (by omega) ?_
  refine pr_iload_n rfl rfl ?_
  refine pr_c_gt rfl (fun c_7 => ?_) (fun c_7 => ?_)
  · skip
    refine pr_push (v := (-1)) rfl rfl ?_
    exact pr_reti rfl rfl (⟨by unfold wh_of; rw [if_pos (by omega)], rfl⟩)
  · skip
    refine pr_aload_n rfl rfl ?_
    refine pr_getf rfl rfl rfl ?_
    refine pr_iload_n rfl rfl ?_
    refine pr_iald (j) rfl rfl (by decide) (by decide) rfl (by omega) ?_
    refine pr_iload_n rfl rfl ?_
    refine pr_c_le rfl (fun c_17 => ?_) (fun c_17 => ?_)
    · skip
      refine pr_push (v := (-1)) rfl rfl ?_
      refine pr_istore rfl (Nat.le_of_ble_eq_true rfl) rfl ?_
      refine pr_push (v := 0) rfl rfl ?_
      refine pr_istore rfl (Nat.le_of_ble_eq_true rfl) rfl ?_
      unfold wh_of
      rw [if_neg (by omega)]
      exact c_98_loop d T hT hTb j hj yr kn hf T 0 (-1) (by omega) (Or.inl ⟨rfl, rfl⟩)
    · skip
      refine pr_push (v := (-1)) rfl rfl ?_
      exact pr_reti rfl rfl (⟨by unfold wh_of; rw [if_pos (by omega)], rfl⟩)
theorem c_104_loop (d : Nat) {N : Nat} {xs : Nat → Int32} {zc zm : Nat → Int32} {e3 e11 e18 : Nat} {A : Nat → Nat → Int32} {g gh : Nat → Option Nat} {dy : pw_H} (U : Nat) (hU : zm 30 = nI U) (hUb : U ≤ 10) (th yr : Int32) (hf : ∀ i, i < U → 0 ≤ ((A 50) i).toInt) : ∀ (k i : Nat) (bi : Int32), i + k = U → md_inv bi (ld_run th yr 0 0 (A 49) (A 50) (fun _ => 0) (A 51) i) 0 ((A 50)) ((A 51)) i → pw_W (d + 0) 104 5 [some (.inr (some 25)), some (.inl th), some (.inl yr), some (.inl bi), some (.inl (nI i))] [] (hp_h N xs zc e3 e11 e18 zm A g gh dy) (pw_qi (fun r h' => r = (ld_run th yr 0 0 (A 49) (A 50) (fun _ => 0) (A 51) U).2 ∧ h' = (hp_h N xs zc e3 e11 e18 zm A g gh dy))) := by
  have z0 := pz_0
  have z1 := pz_1
  have z2 := pz_2
  have z3 := pz_3
  have z4 := pz_4
  have z6 := pz_6
  have z7 := pz_7
  have z10 := pz_10
  have z11 := pz_11
  have z12 := pz_12
  have z20 := pz_20
  have z30 := pz_30
  have z50 := pz_50
  have z60 := pz_60
  have z80 := pz_80
  have z300 := pz_300
  have zm1 := pz_m1
  have hUT : (zm 30).toInt = (U : Int) := by rw [hU]; exact pw_T (by omega)
  have hUP : (zm 30 - 1).toInt = (U : Int) - 1 := by rw [hU]; exact pw_pred (by omega)
  intro k
  induction k with
  | zero =>
    intro i bi hi hv
    obtain rfl : i = U := by omega
    have hiT := pw_T (n := i) (by omega)
    rcases hv with ⟨rfl, hs⟩ | ⟨b, hb, rfl, hs⟩
    · skip
      refine pr_iload rfl rfl ?_
      refine pr_aload_n rfl rfl ?_
      refine pr_getf rfl rfl rfl ?_
      refine pr_c_ge rfl (fun c_11 => ?_) (fun c_11 => ?_)
      · skip
        refine pr_iload_n rfl rfl ?_
        refine pr_push (v := (-1)) rfl rfl ?_
        refine pr_step rfl rfl rfl rfl ?_
        refine pr_push (v := 0) rfl rfl ?_
        refine pr_step rfl rfl rfl rfl ?_
        exact pr_reti rfl rfl (⟨by rw [hs], rfl⟩)
      · skip
        exact absurd c_11 (by omega)
    · have hbT := pw_T (n := b) (by omega)
      refine pr_iload rfl rfl ?_
      refine pr_aload_n rfl rfl ?_
      refine pr_getf rfl rfl rfl ?_
      refine pr_c_ge rfl (fun c_11 => ?_) (fun c_11 => ?_)
      · skip
        refine pr_iload_n rfl rfl ?_
        refine pr_push (v := (-1)) rfl rfl ?_
        refine pr_u_ne rfl (fun c_72 => ?_) (fun c_72 => ?_)
        · skip
          refine pr_aload_n rfl rfl ?_
          refine pr_getf rfl rfl rfl ?_
          refine pr_iload_n rfl rfl ?_
          refine pr_iald (b) rfl rfl (by decide) (by decide) rfl (by omega) ?_
          exact pr_reti rfl rfl (⟨by rw [hs], rfl⟩)
        · skip
          exact absurd c_72 (by omega)
      · skip
        exact absurd c_11 (by omega)
  | succ k ih =>
    intro i bi hi hv
    have hiT := pw_T (n := i) (by omega)
    have hfi := hf i (by omega)
    have hv0 := hv
    rcases hv with ⟨rfl, hs⟩ | ⟨b, hb, rfl, hs⟩
    · skip
      refine pr_iload rfl rfl ?_
      refine pr_aload_n rfl rfl ?_
      refine pr_getf rfl rfl rfl ?_
      refine pr_c_ge rfl (fun c_11 => ?_) (fun c_11 => ?_)
      · skip
        exact absurd c_11 (by omega)
      · skip
        refine pr_aload_n rfl rfl ?_
        refine pr_getf rfl rfl rfl ?_
        refine pr_iload rfl rfl ?_
        refine pr_iald (i) rfl rfl (by decide) (by decide) rfl (by omega) ?_
        refine pr_iload_n rfl rfl ?_
        refine pr_c_ne rfl (fun c_22 => ?_) (fun c_22 => ?_)
        · skip
          refine pr_iinc rfl rfl (pw_inc i) rfl ?_
          refine pr_step rfl rfl rfl rfl ?_
          first
            | exact ih (i + 1) _ (by omega) (md_no hv0 (by rintro ⟨q1, q2, q3⟩; first | (exact absurd q1 (by assumption)) | omega))
            | exact ih (i + 1) _ (by omega) (md_yes ⟨by assumption, by omega, by first | omega | decide⟩ (by rw [hs]; dsimp only; omega))
        · skip
          refine pr_aload_n rfl rfl ?_
          refine pr_getf rfl rfl rfl ?_
          refine pr_iload rfl rfl ?_
          refine pr_iald (i) rfl rfl (by decide) (by decide) rfl (by omega) ?_
          refine pr_iload_n rfl rfl ?_
          refine pr_c_gt rfl (fun c_33 => ?_) (fun c_33 => ?_)
          · skip
            refine pr_iinc rfl rfl (pw_inc i) rfl ?_
            refine pr_step rfl rfl rfl rfl ?_
            first
              | exact ih (i + 1) _ (by omega) (md_no hv0 (by rintro ⟨q1, q2, q3⟩; first | (exact absurd q1 (by assumption)) | omega))
              | exact ih (i + 1) _ (by omega) (md_yes ⟨by assumption, by omega, by first | omega | decide⟩ (by rw [hs]; dsimp only; omega))
          · skip
            refine pr_iload_n rfl rfl ?_
            refine pr_push (v := (-1)) rfl rfl ?_
            refine pr_step rfl rfl rfl rfl ?_
            refine pr_iload rfl rfl ?_
            refine pr_step rfl rfl rfl rfl ?_
            refine pr_istore_n rfl (Nat.le_of_ble_eq_true rfl) rfl ?_
            refine pr_iinc rfl rfl (pw_inc i) rfl ?_
            refine pr_step rfl rfl rfl rfl ?_
            first
              | exact ih (i + 1) _ (by omega) (md_no hv0 (by rintro ⟨q1, q2, q3⟩; first | (exact absurd q1 (by assumption)) | omega))
              | exact ih (i + 1) _ (by omega) (md_yes ⟨by assumption, by omega, by first | omega | decide⟩ (by rw [hs]; dsimp only; omega))
    · have hbT := pw_T (n := b) (by omega)
      have hfb := hf b (by omega)
      refine pr_iload rfl rfl ?_
      refine pr_aload_n rfl rfl ?_
      refine pr_getf rfl rfl rfl ?_
      refine pr_c_ge rfl (fun c_11 => ?_) (fun c_11 => ?_)
      · skip
        exact absurd c_11 (by omega)
      · skip
        refine pr_aload_n rfl rfl ?_
        refine pr_getf rfl rfl rfl ?_
        refine pr_iload rfl rfl ?_
        refine pr_iald (i) rfl rfl (by decide) (by decide) rfl (by omega) ?_
        refine pr_iload_n rfl rfl ?_
        refine pr_c_ne rfl (fun c_22 => ?_) (fun c_22 => ?_)
        · skip
          refine pr_iinc rfl rfl (pw_inc i) rfl ?_
          refine pr_step rfl rfl rfl rfl ?_
          first
            | exact ih (i + 1) _ (by omega) (md_no hv0 (by rintro ⟨q1, q2, q3⟩; first | (exact absurd q1 (by assumption)) | omega))
            | exact ih (i + 1) _ (by omega) (md_lt hv0 (by rw [hs]; dsimp only; omega))
            | exact ih (i + 1) _ (by omega) (md_yes ⟨by assumption, by omega, by first | omega | decide⟩ (by rw [hs]; dsimp only; omega))
        · skip
          refine pr_aload_n rfl rfl ?_
          refine pr_getf rfl rfl rfl ?_
          refine pr_iload rfl rfl ?_
          refine pr_iald (i) rfl rfl (by decide) (by decide) rfl (by omega) ?_
          refine pr_iload_n rfl rfl ?_
          refine pr_c_gt rfl (fun c_33 => ?_) (fun c_33 => ?_)
          · skip
            refine pr_iinc rfl rfl (pw_inc i) rfl ?_
            refine pr_step rfl rfl rfl rfl ?_
            first
              | exact ih (i + 1) _ (by omega) (md_no hv0 (by rintro ⟨q1, q2, q3⟩; first | (exact absurd q1 (by assumption)) | omega))
              | exact ih (i + 1) _ (by omega) (md_lt hv0 (by rw [hs]; dsimp only; omega))
              | exact ih (i + 1) _ (by omega) (md_yes ⟨by assumption, by omega, by first | omega | decide⟩ (by rw [hs]; dsimp only; omega))
          · skip
            refine pr_iload_n rfl rfl ?_
            refine pr_push (v := (-1)) rfl rfl ?_
            refine pr_u_eq rfl (fun c_38 => ?_) (fun c_38 => ?_)
            · skip
              exact absurd c_38 (by omega)
            · skip
              refine pr_aload_n rfl rfl ?_
              refine pr_getf rfl rfl rfl ?_
              refine pr_iload rfl rfl ?_
              refine pr_iald (i) rfl rfl (by decide) (by decide) rfl (by omega) ?_
              refine pr_aload_n rfl rfl ?_
              refine pr_getf rfl rfl rfl ?_
              refine pr_iload_n rfl rfl ?_
              refine pr_iald (b) rfl rfl (by decide) (by decide) rfl (by omega) ?_
              refine pr_c_lt rfl (fun c_54 => ?_) (fun c_54 => ?_)
              · skip
                refine pr_iload_n rfl rfl ?_
                refine pr_istore_n rfl (Nat.le_of_ble_eq_true rfl) rfl ?_
                refine pr_iinc rfl rfl (pw_inc i) rfl ?_
                refine pr_step rfl rfl rfl rfl ?_
                first
                  | exact ih (i + 1) _ (by omega) (md_no hv0 (by rintro ⟨q1, q2, q3⟩; first | (exact absurd q1 (by assumption)) | omega))
                  | exact ih (i + 1) _ (by omega) (md_lt hv0 (by rw [hs]; dsimp only; omega))
                  | exact ih (i + 1) _ (by omega) (md_yes ⟨by assumption, by omega, by first | omega | decide⟩ (by rw [hs]; dsimp only; omega))
              · skip
                refine pr_iload rfl rfl ?_
                refine pr_step rfl rfl rfl rfl ?_
                refine pr_istore_n rfl (Nat.le_of_ble_eq_true rfl) rfl ?_
                refine pr_iinc rfl rfl (pw_inc i) rfl ?_
                refine pr_step rfl rfl rfl rfl ?_
                first
                  | exact ih (i + 1) _ (by omega) (md_no hv0 (by rintro ⟨q1, q2, q3⟩; first | (exact absurd q1 (by assumption)) | omega))
                  | exact ih (i + 1) _ (by omega) (md_lt hv0 (by rw [hs]; dsimp only; omega))
                  | exact ih (i + 1) _ (by omega) (md_yes ⟨by assumption, by omega, by first | omega | decide⟩ (by rw [hs]; dsimp only; omega))
theorem c_104 (d : Nat) {N : Nat} {xs : Nat → Int32} {zc zm : Nat → Int32} {e3 e11 e18 : Nat} {A : Nat → Nat → Int32} {g gh : Nat → Option Nat} {dy : pw_H} (U : Nat) (hU : zm 30 = nI U) (hUb : U ≤ 10) (hf : ∀ i, i < U → 0 ≤ (A 50 i).toInt) (th yr : Int32) : pw_M (d + 0) 104 [.inr (some 25), .inl th, .inl yr] (hp_h N xs zc e3 e11 e18 zm A g gh dy) (pw_qi (fun r h' => r = (ld_run th yr 0 0 (A 49) (A 50) (fun _ => 0) (A 51) U).2 ∧ h' = (hp_h N xs zc e3 e11 e18 zm A g gh dy))) := by
  refine pr_push (v := (-1)) rfl rfl ?_
  refine pr_istore_n rfl (Nat.le_of_ble_eq_true rfl) rfl ?_
  refine pr_push (v := 0) rfl rfl ?_
  refine pr_istore rfl (Nat.le_of_ble_eq_true rfl) rfl ?_
  exact c_104_loop d U hU hUb th yr hf U 0 (-1) (by omega) (Or.inl ⟨rfl, rfl⟩)
theorem c_95 (d : Nat) {N : Nat} {xs : Nat → Int32} {zc zm : Nat → Int32} {e3 e11 e18 : Nat} {A : Nat → Nat → Int32} {g gh : Nat → Option Nat} {dy : pw_H} (Y : Nat) (hY : zm 11 = nI Y) (hYb : Y ≤ 300) (S : Nat) (hS : zm 12 = nI S) (hSb : S ≤ 12) (s y : Int32) : pw_M (d + 2) 95 [.inr (some 25), .inl s, .inl y] (hp_h N xs zc e3 e11 e18 zm A g gh dy) (pw_qi (fun r h' => ((¬ pw_bt s 0 (zm 12 - 1) ∧ r = 0) ∨ ∃ j : Nat, j < S ∧ s = nI j ∧ r = pw_b (pw_bt y (A 35 j) (zm 11))) ∧ h' = (hp_h N xs zc e3 e11 e18 zm A g gh dy))) := by
  have z0 := pz_0
  have z1 := pz_1
  have z2 := pz_2
  have z3 := pz_3
  have z4 := pz_4
  have z6 := pz_6
  have z7 := pz_7
  have z10 := pz_10
  have z11 := pz_11
  have z12 := pz_12
  have z20 := pz_20
  have z30 := pz_30
  have z50 := pz_50
  have z60 := pz_60
  have z80 := pz_80
  have z300 := pz_300
  have hYT : (zm 11).toInt = (Y : Int) := by rw [hY]; exact pw_T (by omega)
  have hYP : (zm 11 - 1).toInt = (Y : Int) - 1 := by rw [hY]; exact pw_pred (by omega)
  have hST : (zm 12).toInt = (S : Int) := by rw [hS]; exact pw_T (by omega)
  have hSP : (zm 12 - 1).toInt = (S : Int) - 1 := by rw [hS]; exact pw_pred (by omega)
  refine pr_aload_n rfl rfl ?_
  refine pr_iload_n rfl rfl ?_
  refine pr_vi1 rfl (by decide) (Nat.le_of_ble_eq_true rfl) rfl (Nat.le_of_ble_eq_true rfl) (c_92 _ _ 25 (hp_m zm) (zm 12) _ rfl rfl) (fun r_2 h_2 q_2 => ?_)
  obtain ⟨rfl, rfl⟩ := q_2
  refine pr_b_eq rfl (fun c_5 => ?_) (fun c_5 => ?_)
  · skip
    refine pr_push (v := 0) rfl rfl ?_
    exact pr_retb rfl rfl rfl (⟨by first
    | exact Or.inl ⟨by assumption, rfl⟩
    | exact Or.inr ⟨j, by omega, rfl, by first | rw [pw_b1 (by assumption)] | rw [pw_b0 (by assumption)]⟩, rfl⟩)
  · skip
    obtain ⟨j, rfl, hjT, hjl⟩ := pw_nat (x := s) (by omega)
    refine pr_iload_n rfl rfl ?_
    refine pr_aload_n rfl rfl ?_
    refine pr_getf rfl rfl rfl ?_
    refine pr_iload_n rfl rfl ?_
    refine pr_iald (j) rfl rfl (by decide) (by decide) rfl (by omega) ?_
    refine pr_aload_n rfl rfl ?_
    refine pr_getf rfl rfl rfl ?_
    refine pr_si3 rfl (by decide) (Nat.le_of_ble_eq_true rfl) (Nat.le_of_ble_eq_true rfl) (c_69 _ _ _ _ _) (fun r_19 h_19 q_19 => ?_)
    obtain ⟨rfl, rfl⟩ := q_19
    refine pr_b_eq rfl (fun c_22 => ?_) (fun c_22 => ?_)
    · skip
      refine pr_push (v := 0) rfl rfl ?_
      exact pr_retb rfl rfl rfl (⟨by first
    | exact Or.inl ⟨by assumption, rfl⟩
    | exact Or.inr ⟨j, by omega, rfl, by first | rw [pw_b1 (by assumption)] | rw [pw_b0 (by assumption)]⟩, rfl⟩)
    · skip
      refine pr_push (v := 1) rfl rfl ?_
      refine pr_step rfl rfl rfl rfl ?_
      exact pr_retb rfl rfl rfl (⟨by first
    | exact Or.inl ⟨by assumption, rfl⟩
    | exact Or.inr ⟨j, by omega, rfl, by first | rw [pw_b1 (by assumption)] | rw [pw_b0 (by assumption)]⟩, rfl⟩)
theorem c_107 (d : Nat) {N : Nat} {xs : Nat → Int32} {zc zm : Nat → Int32} {e3 e11 e18 : Nat} {A : Nat → Nat → Int32} {g gh : Nat → Option Nat} {dy : pw_H} (T : Nat) (hT : zm 16 = nI T) (hTb : T ≤ 60) (hf : ∀ i, i < T → 0 ≤ (A 39 i).toInt) (j : Nat) (hj : j < 12) : pw_M (d + 1) 107 [.inr (some 25), .inl (nI j)] (hp_h N xs zc e3 e11 e18 zm A g gh dy) (pw_qi (fun r h' => r = pw_b (wh_of A T j (zm 11) (zm 11) = -1) ∧ h' = (hp_h N xs zc e3 e11 e18 zm A g gh dy))) := by
  refine pr_aload_n rfl rfl ?_
  refine pr_iload_n rfl rfl ?_
  refine pr_aload_n rfl rfl ?_
  refine pr_getf rfl rfl rfl ?_
  refine pr_aload_n rfl rfl ?_
  refine pr_getf rfl rfl rfl ?_
  refine pr_vi3 rfl (by decide) (Nat.le_of_ble_eq_true rfl) rfl (Nat.le_of_ble_eq_true rfl) (c_98 _ T hT hTb hf j hj _ _) (fun r_10 h_10 q_10 => ?_)
  obtain ⟨rfl, rfl⟩ := q_10
  refine pr_push (v := (-1)) rfl rfl ?_
  refine pr_c_ne rfl (fun c_14 => ?_) (fun c_14 => ?_)
  · skip
    refine pr_push (v := 0) rfl rfl ?_
    exact pr_retb rfl rfl rfl (⟨by first | rw [pw_b1 (by assumption)] | rw [pw_b0 (by assumption)], rfl⟩)
  · skip
    refine pr_push (v := 1) rfl rfl ?_
    refine pr_step rfl rfl rfl rfl ?_
    exact pr_retb rfl rfl rfl (⟨by first | rw [pw_b1 (by assumption)] | rw [pw_b0 (by assumption)], rfl⟩)
theorem c_99 (d : Nat) {N : Nat} {xs : Nat → Int32} {zc zm : Nat → Int32} {e3 e11 e18 : Nat} {A : Nat → Nat → Int32} {g gh : Nat → Option Nat} {dy : pw_H} (S : Nat) (hS : zm 12 = nI S) (hSb : S ≤ 12) (T : Nat) (hT : zm 16 = nI T) (hTb : T ≤ 60) (hf : ∀ i, i < T → 0 ≤ (A 39 i).toInt) (s y k : Int32) : pw_M (d + 2) 99 [.inr (some 25), .inl s, .inl y, .inl k] (hp_h N xs zc e3 e11 e18 zm A g gh dy) (pw_qi (fun r h' => ((¬ (pw_bt s 0 (zm 12 - 1) ∧ pw_yr y ∧ pw_yr k) ∧ r = -2) ∨ ((pw_yr y ∧ pw_yr k) ∧ ∃ j : Nat, j < S ∧ s = nI j ∧ r = wh_of A T j y k)) ∧ h' = (hp_h N xs zc e3 e11 e18 zm A g gh dy))) := by
  have z0 := pz_0
  have z1 := pz_1
  have z2 := pz_2
  have z3 := pz_3
  have z4 := pz_4
  have z6 := pz_6
  have z7 := pz_7
  have z10 := pz_10
  have z11 := pz_11
  have z12 := pz_12
  have z20 := pz_20
  have z30 := pz_30
  have z50 := pz_50
  have z60 := pz_60
  have z80 := pz_80
  have z300 := pz_300
  have hST : (zm 12).toInt = (S : Int) := by rw [hS]; exact pw_T (by omega)
  have hSP : (zm 12 - 1).toInt = (S : Int) - 1 := by rw [hS]; exact pw_pred (by omega)
  have hTT : (zm 16).toInt = (T : Int) := by rw [hT]; exact pw_T (by omega)
  have hTP : (zm 16 - 1).toInt = (T : Int) - 1 := by rw [hT]; exact pw_pred (by omega)
  refine pr_aload_n rfl rfl ?_
  refine pr_iload_n rfl rfl ?_
  refine pr_vi1 rfl (by decide) (Nat.le_of_ble_eq_true rfl) rfl (Nat.le_of_ble_eq_true rfl) (c_92 _ _ 25 (hp_m zm) (zm 12) _ rfl rfl) (fun r_2 h_2 q_2 => ?_)
  obtain ⟨rfl, rfl⟩ := q_2
  refine pr_b_eq rfl (fun c_5 => ?_) (fun c_5 => ?_)
  · skip
    refine pr_push (v := (-2)) rfl rfl ?_
    exact pr_reti rfl rfl (⟨by first | exact Or.inl ⟨by omega, rfl⟩ | exact Or.inr ⟨⟨by assumption, by assumption⟩, j, by omega, rfl, rfl⟩, rfl⟩)
  · skip
    obtain ⟨j, rfl, hjT, hjl⟩ := pw_nat (x := s) (by omega)
    refine pr_iload_n rfl rfl ?_
    refine pr_si1 rfl (by decide) (Nat.le_of_ble_eq_true rfl) (Nat.le_of_ble_eq_true rfl) (c_72 _ _ _) (fun r_9 h_9 q_9 => ?_)
    obtain ⟨rfl, rfl⟩ := q_9
    refine pr_b_eq rfl (fun c_12 => ?_) (fun c_12 => ?_)
    · skip
      refine pr_push (v := (-2)) rfl rfl ?_
      exact pr_reti rfl rfl (⟨by first | exact Or.inl ⟨by omega, rfl⟩ | exact Or.inr ⟨⟨by assumption, by assumption⟩, j, by omega, rfl, rfl⟩, rfl⟩)
    · skip
      refine pr_iload_n rfl rfl ?_
      refine pr_si1 rfl (by decide) (Nat.le_of_ble_eq_true rfl) (Nat.le_of_ble_eq_true rfl) (c_72 _ _ _) (fun r_16 h_16 q_16 => ?_)
      obtain ⟨rfl, rfl⟩ := q_16
      refine pr_b_eq rfl (fun c_19 => ?_) (fun c_19 => ?_)
      · skip
        refine pr_push (v := (-2)) rfl rfl ?_
        exact pr_reti rfl rfl (⟨by first | exact Or.inl ⟨by omega, rfl⟩ | exact Or.inr ⟨⟨by assumption, by assumption⟩, j, by omega, rfl, rfl⟩, rfl⟩)
      · skip
        refine pr_aload_n rfl rfl ?_
        refine pr_iload_n rfl rfl ?_
        refine pr_iload_n rfl rfl ?_
        refine pr_iload_n rfl rfl ?_
        refine pr_vi3 rfl (by decide) (Nat.le_of_ble_eq_true rfl) rfl (Nat.le_of_ble_eq_true rfl) (c_98 _ T hT hTb hf j (by omega) _ _) (fun r_26 h_26 q_26 => ?_)
        obtain ⟨rfl, rfl⟩ := q_26
        refine pr_step rfl rfl rfl rfl ?_
        exact pr_reti rfl rfl (⟨by first | exact Or.inl ⟨by omega, rfl⟩ | exact Or.inr ⟨⟨by assumption, by assumption⟩, j, by omega, rfl, rfl⟩, rfl⟩)
theorem c_96 (d : Nat) {N : Nat} {xs : Nat → Int32} {zc zm : Nat → Int32} {e3 e11 e18 : Nat} {A : Nat → Nat → Int32} {g gh : Nat → Option Nat} {dy : pw_H} (Y : Nat) (hY : zm 11 = nI Y) (hYb : Y ≤ 300) (S : Nat) (hS : zm 12 = nI S) (hSb : S ≤ 12) (T : Nat) (hT : zm 16 = nI T) (hTb : T ≤ 60) (s y x z : Int32) : pw_M (d + 3) 96 [.inr (some 25), .inl s, .inl y, .inl x, .inl z] (hp_h N xs zc e3 e11 e18 zm A g gh dy) (pw_qi (fun r h' => (¬ ((∃ j : Nat, j < S ∧ s = nI j ∧ pw_bt y (A 35 j) (zm 11)) ∧ pw_pt x z) ∧ r = -2 ∧ h' = (hp_h N xs zc e3 e11 e18 zm A g gh dy)) ∨ (((∃ j : Nat, j < S ∧ s = nI j ∧ pw_bt y (A 35 j) (zm 11)) ∧ pw_pt x z) ∧ T = 60 ∧ r = -4 ∧ h' = (hp_h N xs zc e3 e11 e18 zm A g gh dy)) ∨ (((∃ j : Nat, j < S ∧ s = nI j ∧ pw_bt y (A 35 j) (zm 11)) ∧ pw_pt x z) ∧ ¬ T = 60 ∧ r = 1 ∧ h' = (hp_h N xs zc e3 e11 e18 (upd zm 16 (nI (T + 1))) (uA (uA (uA (uA A 38 (upd (A 38) T s)) 39 (upd (A 39) T y)) 40 (upd (A 40) T (zm 11))) 41 (upd (A 41) T (100 * x + z))) g gh dy)))) := by
  have z0 := pz_0
  have z1 := pz_1
  have z2 := pz_2
  have z3 := pz_3
  have z4 := pz_4
  have z6 := pz_6
  have z7 := pz_7
  have z10 := pz_10
  have z11 := pz_11
  have z12 := pz_12
  have z20 := pz_20
  have z30 := pz_30
  have z50 := pz_50
  have z60 := pz_60
  have z80 := pz_80
  have z300 := pz_300
  have hYT : (zm 11).toInt = (Y : Int) := by rw [hY]; exact pw_T (by omega)
  have hYP : (zm 11 - 1).toInt = (Y : Int) - 1 := by rw [hY]; exact pw_pred (by omega)
  have hST : (zm 12).toInt = (S : Int) := by rw [hS]; exact pw_T (by omega)
  have hSP : (zm 12 - 1).toInt = (S : Int) - 1 := by rw [hS]; exact pw_pred (by omega)
  have hTT : (zm 16).toInt = (T : Int) := by rw [hT]; exact pw_T (by omega)
  have hTP : (zm 16 - 1).toInt = (T : Int) - 1 := by rw [hT]; exact pw_pred (by omega)
  refine pr_aload_n rfl rfl ?_
  refine pr_iload_n rfl rfl ?_
  refine pr_iload_n rfl rfl ?_
  refine pr_vi2 rfl (by decide) (Nat.le_of_ble_eq_true rfl) rfl (Nat.le_of_ble_eq_true rfl) (c_95 _ Y hY hYb S hS hSb _ _) (fun r_3 h_3 q_3 => ?_)
  obtain ⟨q, rfl⟩ := q_3
  rcases q with ⟨nb, rfl⟩ | ⟨j, hj, rfl, rfl⟩
  · have nok : ¬ ((∃ j : Nat, j < S ∧ s = nI j ∧ pw_bt y (A 35 j) (zm 11)) ∧ pw_pt x z) := fun hh => by
      obtain ⟨i, hi, e, -⟩ := hh.1
      have e2 := congrArg Int32.toInt e
      rw [pw_T (by omega)] at e2
      omega
    refine pr_step rfl rfl rfl rfl ?_
    refine pr_push (v := (-2)) rfl rfl ?_
    refine pr_step rfl rfl rfl rfl ?_
    exact pr_reti rfl rfl (Or.inl ⟨nok, rfl, rfl⟩)
  · have hjT := pw_T (n := j) (by omega)
    have jj : ∀ i, i < S → nI j = nI i → i = j := fun i hi e => by
      have e2 := congrArg Int32.toInt e
      rw [hjT, pw_T (by omega)] at e2
      omega
    refine pr_b_eq rfl (fun c_6 => ?_) (fun c_6 => ?_)
    · skip
      refine pr_push (v := (-2)) rfl rfl ?_
      refine pr_step rfl rfl rfl rfl ?_
      exact pr_reti rfl rfl (by
      first
      | exact Or.inl ⟨fun hh => by
      obtain ⟨i, hi, e, e2⟩ := hh.1
      rw [jj i hi e] at e2
      first | exact absurd e2 (by assumption) | exact absurd hh.2 (by assumption), rfl, rfl⟩
      | exact (by
      rcases q_33 with ⟨e1, rfl, rfl⟩ | ⟨e1, rfl, rfl⟩
      · exact Or.inr (Or.inl ⟨⟨⟨j, hj, rfl, by assumption⟩, by assumption⟩, e1, rfl, rfl⟩)
      · exact Or.inr (Or.inr ⟨⟨⟨j, hj, rfl, by assumption⟩, by assumption⟩, e1, rfl, rfl⟩)))
    · skip
      refine pr_iload_n rfl rfl ?_
      refine pr_iload rfl rfl ?_
      refine pr_si2 rfl (by decide) (Nat.le_of_ble_eq_true rfl) (Nat.le_of_ble_eq_true rfl) (c_70 _ _ _ _) (fun r_12 h_12 q_12 => ?_)
      obtain ⟨rfl, rfl⟩ := q_12
      refine pr_b_ne rfl (fun c_15 => ?_) (fun c_15 => ?_)
      · skip
        refine pr_aload_n rfl rfl ?_
        refine pr_iload_n rfl rfl ?_
        refine pr_iload_n rfl rfl ?_
        refine pr_push (v := 100) rfl rfl ?_
        refine pr_iload_n rfl rfl ?_
        refine pr_step rfl rfl rfl rfl ?_
        refine pr_iload rfl rfl ?_
        refine pr_step rfl rfl rfl rfl ?_
        refine pr_vi3 rfl (by decide) (Nat.le_of_ble_eq_true rfl) rfl (Nat.le_of_ble_eq_true rfl) (c_94 _ T hT hTb _ _ _) (fun r_33 h_33 q_33 => ?_)
        skip
        exact pr_reti rfl rfl (by
      first
      | exact Or.inl ⟨fun hh => by
      obtain ⟨i, hi, e, e2⟩ := hh.1
      rw [jj i hi e] at e2
      first | exact absurd e2 (by assumption) | exact absurd hh.2 (by assumption), rfl, rfl⟩
      | exact (by
      rcases q_33 with ⟨e1, rfl, rfl⟩ | ⟨e1, rfl, rfl⟩
      · exact Or.inr (Or.inl ⟨⟨⟨j, hj, rfl, by assumption⟩, by assumption⟩, e1, rfl, rfl⟩)
      · exact Or.inr (Or.inr ⟨⟨⟨j, hj, rfl, by assumption⟩, by assumption⟩, e1, rfl, rfl⟩)))
      · skip
        refine pr_push (v := (-2)) rfl rfl ?_
        refine pr_step rfl rfl rfl rfl ?_
        exact pr_reti rfl rfl (by
      first
      | exact Or.inl ⟨fun hh => by
      obtain ⟨i, hi, e, e2⟩ := hh.1
      rw [jj i hi e] at e2
      first | exact absurd e2 (by assumption) | exact absurd hh.2 (by assumption), rfl, rfl⟩
      | exact (by
      rcases q_33 with ⟨e1, rfl, rfl⟩ | ⟨e1, rfl, rfl⟩
      · exact Or.inr (Or.inl ⟨⟨⟨j, hj, rfl, by assumption⟩, by assumption⟩, e1, rfl, rfl⟩)
      · exact Or.inr (Or.inr ⟨⟨⟨j, hj, rfl, by assumption⟩, by assumption⟩, e1, rfl, rfl⟩)))
theorem c_97 (d : Nat) {N : Nat} {xs : Nat → Int32} {zc zm : Nat → Int32} {e3 e11 e18 : Nat} {A : Nat → Nat → Int32} {g gh : Nat → Option Nat} {dy : pw_H} (Y : Nat) (hY : zm 11 = nI Y) (hYb : Y ≤ 300) (S : Nat) (hS : zm 12 = nI S) (hSb : S ≤ 12) (T : Nat) (hT : zm 16 = nI T) (hTb : T ≤ 60) (s y : Int32) : pw_M (d + 3) 97 [.inr (some 25), .inl s, .inl y] (hp_h N xs zc e3 e11 e18 zm A g gh dy) (pw_qi (fun r h' => (¬ ((∃ j : Nat, j < S ∧ s = nI j ∧ pw_bt y (A 35 j) (zm 11)) ) ∧ r = -2 ∧ h' = (hp_h N xs zc e3 e11 e18 zm A g gh dy)) ∨ (((∃ j : Nat, j < S ∧ s = nI j ∧ pw_bt y (A 35 j) (zm 11)) ) ∧ T = 60 ∧ r = -4 ∧ h' = (hp_h N xs zc e3 e11 e18 zm A g gh dy)) ∨ (((∃ j : Nat, j < S ∧ s = nI j ∧ pw_bt y (A 35 j) (zm 11)) ) ∧ ¬ T = 60 ∧ r = 1 ∧ h' = (hp_h N xs zc e3 e11 e18 (upd zm 16 (nI (T + 1))) (uA (uA (uA (uA A 38 (upd (A 38) T s)) 39 (upd (A 39) T y)) 40 (upd (A 40) T (zm 11))) 41 (upd (A 41) T (-1))) g gh dy)))) := by
  have z0 := pz_0
  have z1 := pz_1
  have z2 := pz_2
  have z3 := pz_3
  have z4 := pz_4
  have z6 := pz_6
  have z7 := pz_7
  have z10 := pz_10
  have z11 := pz_11
  have z12 := pz_12
  have z20 := pz_20
  have z30 := pz_30
  have z50 := pz_50
  have z60 := pz_60
  have z80 := pz_80
  have z300 := pz_300
  have hYT : (zm 11).toInt = (Y : Int) := by rw [hY]; exact pw_T (by omega)
  have hYP : (zm 11 - 1).toInt = (Y : Int) - 1 := by rw [hY]; exact pw_pred (by omega)
  have hST : (zm 12).toInt = (S : Int) := by rw [hS]; exact pw_T (by omega)
  have hSP : (zm 12 - 1).toInt = (S : Int) - 1 := by rw [hS]; exact pw_pred (by omega)
  have hTT : (zm 16).toInt = (T : Int) := by rw [hT]; exact pw_T (by omega)
  have hTP : (zm 16 - 1).toInt = (T : Int) - 1 := by rw [hT]; exact pw_pred (by omega)
  refine pr_aload_n rfl rfl ?_
  refine pr_iload_n rfl rfl ?_
  refine pr_iload_n rfl rfl ?_
  refine pr_vi2 rfl (by decide) (Nat.le_of_ble_eq_true rfl) rfl (Nat.le_of_ble_eq_true rfl) (c_95 _ Y hY hYb S hS hSb _ _) (fun r_3 h_3 q_3 => ?_)
  obtain ⟨q, rfl⟩ := q_3
  rcases q with ⟨nb, rfl⟩ | ⟨j, hj, rfl, rfl⟩
  · have nok : ¬ ((∃ j : Nat, j < S ∧ s = nI j ∧ pw_bt y (A 35 j) (zm 11)) ) := fun hh => by
      obtain ⟨i, hi, e, -⟩ := hh
      have e2 := congrArg Int32.toInt e
      rw [pw_T (by omega)] at e2
      omega
    refine pr_step rfl rfl rfl rfl ?_
    refine pr_push (v := (-2)) rfl rfl ?_
    exact pr_reti rfl rfl (Or.inl ⟨nok, rfl, rfl⟩)
  · have hjT := pw_T (n := j) (by omega)
    have jj : ∀ i, i < S → nI j = nI i → i = j := fun i hi e => by
      have e2 := congrArg Int32.toInt e
      rw [hjT, pw_T (by omega)] at e2
      omega
    refine pr_b_eq rfl (fun c_6 => ?_) (fun c_6 => ?_)
    · skip
      refine pr_push (v := (-2)) rfl rfl ?_
      exact pr_reti rfl rfl (by
      first
      | exact Or.inl ⟨fun hh => by
      obtain ⟨i, hi, e, e2⟩ := hh
      rw [jj i hi e] at e2
      first | exact absurd e2 (by assumption) | exact absurd hh.2 (by assumption), rfl, rfl⟩
      | exact (by
      rcases q_13 with ⟨e1, rfl, rfl⟩ | ⟨e1, rfl, rfl⟩
      · exact Or.inr (Or.inl ⟨⟨j, hj, rfl, by assumption⟩, e1, rfl, rfl⟩)
      · exact Or.inr (Or.inr ⟨⟨j, hj, rfl, by assumption⟩, e1, rfl, rfl⟩)))
    · skip
      refine pr_aload_n rfl rfl ?_
      refine pr_iload_n rfl rfl ?_
      refine pr_iload_n rfl rfl ?_
      refine pr_push (v := (-1)) rfl rfl ?_
      refine pr_vi3 rfl (by decide) (Nat.le_of_ble_eq_true rfl) rfl (Nat.le_of_ble_eq_true rfl) (c_94 _ T hT hTb _ _ _) (fun r_13 h_13 q_13 => ?_)
      skip
      refine pr_step rfl rfl rfl rfl ?_
      exact pr_reti rfl rfl (by
      first
      | exact Or.inl ⟨fun hh => by
      obtain ⟨i, hi, e, e2⟩ := hh
      rw [jj i hi e] at e2
      first | exact absurd e2 (by assumption) | exact absurd hh.2 (by assumption), rfl, rfl⟩
      | exact (by
      rcases q_13 with ⟨e1, rfl, rfl⟩ | ⟨e1, rfl, rfl⟩
      · exact Or.inr (Or.inl ⟨⟨j, hj, rfl, by assumption⟩, e1, rfl, rfl⟩)
      · exact Or.inr (Or.inr ⟨⟨j, hj, rfl, by assumption⟩, e1, rfl, rfl⟩)))
theorem c_108 (d : Nat) {N : Nat} {xs : Nat → Int32} {zc zm : Nat → Int32} {e3 e11 e18 : Nat} {A : Nat → Nat → Int32} {g gh : Nat → Option Nat} {dy : pw_H} (Y : Nat) (hY : zm 11 = nI Y) (hYb : Y ≤ 300) (S : Nat) (hS : zm 12 = nI S) (hSb : S ≤ 12) (T : Nat) (hT : zm 16 = nI T) (hTb : T ≤ 60) (hf : ∀ i, i < T → 0 ≤ (A 39 i).toInt) (s : Int32) : pw_M (d + 2) 108 [.inr (some 25), .inl s] (hp_h N xs zc e3 e11 e18 zm A g gh dy) (pw_qi (fun r h' => (¬ pw_bt s 0 (zm 12 - 1) ∧ r = -2 ∧ h' = (hp_h N xs zc e3 e11 e18 zm A g gh dy)) ∨ ∃ j : Nat, j < S ∧ s = nI j ∧ ((wh_of A T j (zm 11) (zm 11) = -1 ∧ r = -3 ∧ h' = (hp_h N xs zc e3 e11 e18 zm A g gh dy)) ∨ (¬ wh_of A T j (zm 11) (zm 11) = -1 ∧ r = zm 11 - A 37 j ∧ h' = (hp_h N xs zc e3 e11 e18 zm (uA A 37 (upd (A 37) j (zm 11))) g gh dy))))) := by
  have z0 := pz_0
  have z1 := pz_1
  have z2 := pz_2
  have z3 := pz_3
  have z4 := pz_4
  have z6 := pz_6
  have z7 := pz_7
  have z10 := pz_10
  have z11 := pz_11
  have z12 := pz_12
  have z20 := pz_20
  have z30 := pz_30
  have z50 := pz_50
  have z60 := pz_60
  have z80 := pz_80
  have z300 := pz_300
  have hYT : (zm 11).toInt = (Y : Int) := by rw [hY]; exact pw_T (by omega)
  have hYP : (zm 11 - 1).toInt = (Y : Int) - 1 := by rw [hY]; exact pw_pred (by omega)
  have hST : (zm 12).toInt = (S : Int) := by rw [hS]; exact pw_T (by omega)
  have hSP : (zm 12 - 1).toInt = (S : Int) - 1 := by rw [hS]; exact pw_pred (by omega)
  have hTT : (zm 16).toInt = (T : Int) := by rw [hT]; exact pw_T (by omega)
  have hTP : (zm 16 - 1).toInt = (T : Int) - 1 := by rw [hT]; exact pw_pred (by omega)
  refine pr_aload_n rfl rfl ?_
  refine pr_iload_n rfl rfl ?_
  refine pr_vi1 rfl (by decide) (Nat.le_of_ble_eq_true rfl) rfl (Nat.le_of_ble_eq_true rfl) (c_92 _ _ 25 (hp_m zm) (zm 12) _ rfl rfl) (fun r_2 h_2 q_2 => ?_)
  obtain ⟨rfl, rfl⟩ := q_2
  refine pr_b_ne rfl (fun c_5 => ?_) (fun c_5 => ?_)
  · skip
    obtain ⟨j, rfl, hjT, hjl⟩ := pw_nat (x := s) (by omega)
    refine pr_aload_n rfl rfl ?_
    refine pr_iload_n rfl rfl ?_
    refine pr_vi1 rfl (by decide) (Nat.le_of_ble_eq_true rfl) rfl (Nat.le_of_ble_eq_true rfl) (c_107 _ T hT hTb hf j (by omega)) (fun r_13 h_13 q_13 => ?_)
    obtain ⟨rfl, rfl⟩ := q_13
    refine pr_b_eq rfl (fun c_16 => ?_) (fun c_16 => ?_)
    · skip
      refine pr_aload_n rfl rfl ?_
      refine pr_getf rfl rfl rfl ?_
      refine pr_aload_n rfl rfl ?_
      refine pr_getf rfl rfl rfl ?_
      refine pr_iload_n rfl rfl ?_
      refine pr_iald (j) rfl rfl (by decide) (by decide) rfl (by omega) ?_
      refine pr_step rfl rfl rfl rfl ?_
      refine pr_istore_n rfl (Nat.le_of_ble_eq_true rfl) rfl ?_
      refine pr_aload_n rfl rfl ?_
      refine pr_getf rfl rfl rfl ?_
      refine pr_iload_n rfl rfl ?_
      refine pr_aload_n rfl rfl ?_
      refine pr_getf rfl rfl rfl ?_
      refine pr_iast (j) rfl rfl (by decide) rfl (by omega) hs_a37 ?_
      refine pr_iload_n rfl rfl ?_
      exact pr_reti rfl rfl (Or.inr ⟨j, by omega, rfl, Or.inr ⟨by assumption, rfl, rfl⟩⟩)
    · skip
      refine pr_push (v := (-3)) rfl rfl ?_
      exact pr_reti rfl rfl (Or.inr ⟨j, by omega, rfl, Or.inl ⟨by assumption, rfl, rfl⟩⟩)
  · skip
    refine pr_push (v := (-2)) rfl rfl ?_
    exact pr_reti rfl rfl (Or.inl ⟨by assumption, rfl, rfl⟩)
theorem c_109 (d : Nat) {N : Nat} {xs : Nat → Int32} {zc zm : Nat → Int32} {e3 e11 e18 : Nat} {A : Nat → Nat → Int32} {g gh : Nat → Option Nat} {dy : pw_H}   (v : Int32) : pw_M (d + 2) 109 [.inr (some 25), .inl v] (hp_h N xs zc e3 e11 e18 zm A g gh dy) (pw_qi (fun r h' => (¬ pw_bt v 1 20 ∧ r = -2 ∧ h' = (hp_h N xs zc e3 e11 e18 zm A g gh dy)) ∨ (pw_bt v 1 20 ∧ r = zm 34 ∧ h' = (hp_h N xs zc e3 e11 e18 (upd zm 34 v) A g gh dy)))) := by
  have z0 := pz_0
  have z1 := pz_1
  have z2 := pz_2
  have z3 := pz_3
  have z4 := pz_4
  have z6 := pz_6
  have z7 := pz_7
  have z10 := pz_10
  have z11 := pz_11
  have z12 := pz_12
  have z20 := pz_20
  have z30 := pz_30
  have z50 := pz_50
  have z60 := pz_60
  have z80 := pz_80
  have z300 := pz_300

  refine pr_iload_n rfl rfl ?_
  refine pr_push (v := 1) rfl rfl ?_
  refine pr_push (v := 20) rfl rfl ?_
  refine pr_si3 rfl (by decide) (Nat.le_of_ble_eq_true rfl) (Nat.le_of_ble_eq_true rfl) (c_69 _ _ _ _ _) (fun r_4 h_4 q_4 => ?_)
  obtain ⟨rfl, rfl⟩ := q_4
  refine pr_b_ne rfl (fun c_7 => ?_) (fun c_7 => ?_)
  · skip
    refine pr_aload_n rfl rfl ?_
    refine pr_getf rfl rfl rfl ?_
    refine pr_istore_n rfl (Nat.le_of_ble_eq_true rfl) rfl ?_
    refine pr_aload_n rfl rfl ?_
    refine pr_iload_n rfl rfl ?_
    refine pr_putf rfl rfl (Nat.le_of_ble_eq_true rfl) rfl hs_m34 ?_
    refine pr_iload_n rfl rfl ?_
    exact pr_reti rfl rfl (Or.inr ⟨by assumption, rfl, rfl⟩)
  · skip
    refine pr_push (v := (-2)) rfl rfl ?_
    exact pr_reti rfl rfl (Or.inl ⟨by assumption, rfl, rfl⟩)
theorem c_103 (d : Nat) {N : Nat} {xs : Nat → Int32} {zc zm : Nat → Int32} {e3 e11 e18 : Nat} {A : Nat → Nat → Int32} {g gh : Nat → Option Nat} {dy : pw_H} (U : Nat) (hU : zm 30 = nI U) (hUb : U ≤ 10)  (u y b : Int32) : pw_M (d + 2) 103 [.inr (some 25), .inl u, .inl y, .inl b] (hp_h N xs zc e3 e11 e18 zm A g gh dy) (pw_qi (fun r h' => (¬ (pw_bt u 0 3 ∧ pw_yr y ∧ pw_bt b 0 2) ∧ r = -2 ∧ h' = (hp_h N xs zc e3 e11 e18 zm A g gh dy)) ∨ (¬ (¬ (pw_bt u 0 3 ∧ pw_yr y ∧ pw_bt b 0 2)) ∧ U = 10 ∧ r = -4 ∧ h' = (hp_h N xs zc e3 e11 e18 zm A g gh dy)) ∨ (¬ (¬ (pw_bt u 0 3 ∧ pw_yr y ∧ pw_bt b 0 2)) ∧ ¬ (U = 10) ∧ r = nI U ∧ h' = (hp_h N xs zc e3 e11 e18 (upd zm 30 (nI (U + 1))) (uA (uA (uA A 49 (upd (A 49) U u)) 50 (upd (A 50) U y)) 51 (upd (A 51) U b)) g gh dy)))) := by
  have z0 := pz_0
  have z1 := pz_1
  have z2 := pz_2
  have z3 := pz_3
  have z4 := pz_4
  have z6 := pz_6
  have z7 := pz_7
  have z10 := pz_10
  have z11 := pz_11
  have z12 := pz_12
  have z20 := pz_20
  have z30 := pz_30
  have z50 := pz_50
  have z60 := pz_60
  have z80 := pz_80
  have z300 := pz_300
  have hUT : (zm 30).toInt = (U : Int) := by rw [hU]; exact pw_T (by omega)
  have hUP : (zm 30 - 1).toInt = (U : Int) - 1 := by rw [hU]; exact pw_pred (by omega)
  refine pr_iload_n rfl rfl ?_
  refine pr_push (v := 0) rfl rfl ?_
  refine pr_push (v := 3) rfl rfl ?_
  refine pr_si3 rfl (by decide) (Nat.le_of_ble_eq_true rfl) (Nat.le_of_ble_eq_true rfl) (c_69 _ _ _ _ _) (fun r_3 h_3 q_3 => ?_)
  obtain ⟨rfl, rfl⟩ := q_3
  refine pr_b_eq rfl (fun c_6 => ?_) (fun c_6 => ?_)
  · skip
    refine pr_push (v := (-2)) rfl rfl ?_
    exact pr_reti rfl rfl (Or.inl ⟨by omega, rfl, rfl⟩)
  · skip
    refine pr_iload_n rfl rfl ?_
    refine pr_si1 rfl (by decide) (Nat.le_of_ble_eq_true rfl) (Nat.le_of_ble_eq_true rfl) (c_72 _ _ _) (fun r_10 h_10 q_10 => ?_)
    obtain ⟨rfl, rfl⟩ := q_10
    refine pr_b_eq rfl (fun c_13 => ?_) (fun c_13 => ?_)
    · skip
      refine pr_push (v := (-2)) rfl rfl ?_
      exact pr_reti rfl rfl (Or.inl ⟨by omega, rfl, rfl⟩)
    · skip
      refine pr_iload_n rfl rfl ?_
      refine pr_push (v := 0) rfl rfl ?_
      refine pr_push (v := 2) rfl rfl ?_
      refine pr_si3 rfl (by decide) (Nat.le_of_ble_eq_true rfl) (Nat.le_of_ble_eq_true rfl) (c_69 _ _ _ _ _) (fun r_19 h_19 q_19 => ?_)
      obtain ⟨rfl, rfl⟩ := q_19
      refine pr_b_ne rfl (fun c_22 => ?_) (fun c_22 => ?_)
      · skip
        refine pr_aload_n rfl rfl ?_
        refine pr_getf rfl rfl rfl ?_
        refine pr_push (v := 10) rfl rfl ?_
        refine pr_u_ne rfl (fun c_34 => ?_) (fun c_34 => ?_)
        · skip
          refine pr_aload_n rfl rfl ?_
          refine pr_getf rfl rfl rfl ?_
          refine pr_aload_n rfl rfl ?_
          refine pr_getf rfl rfl rfl ?_
          refine pr_iload_n rfl rfl ?_
          refine pr_iast (U) rfl rfl (by decide) hU (by omega) hs_a49 ?_
          refine pr_aload_n rfl rfl ?_
          refine pr_getf rfl rfl rfl ?_
          refine pr_aload_n rfl rfl ?_
          refine pr_getf rfl rfl rfl ?_
          refine pr_iload_n rfl rfl ?_
          refine pr_iast (U) rfl rfl (by decide) hU (by omega) hs_a50 ?_
          refine pr_aload_n rfl rfl ?_
          refine pr_getf rfl rfl rfl ?_
          refine pr_aload_n rfl rfl ?_
          refine pr_getf rfl rfl rfl ?_
          refine pr_iload_n rfl rfl ?_
          refine pr_iast (U) rfl rfl (by decide) hU (by omega) hs_a51 ?_
          refine pr_aload_n rfl rfl ?_
          refine pr_step rfl rfl rfl rfl ?_
          refine pr_getf rfl rfl rfl ?_
          refine pr_push (v := 1) rfl rfl ?_
          refine pr_step rfl rfl rfl rfl ?_
          refine pr_top (pw_s hU) ?_
          refine pr_putf rfl rfl (Nat.le_of_ble_eq_true rfl) rfl hs_m30 ?_
          refine pr_aload_n rfl rfl ?_
          refine pr_getf rfl rfl rfl ?_
          refine pr_push (v := 1) rfl rfl ?_
          refine pr_step rfl rfl rfl rfl ?_
          refine pr_top (nI_pred U) ?_
          exact pr_reti rfl rfl (Or.inr (Or.inr ⟨by omega, by omega, rfl, rfl⟩))
        · skip
          refine pr_push (v := (-4)) rfl rfl ?_
          exact pr_reti rfl rfl (Or.inr (Or.inl ⟨by omega, by omega, rfl, rfl⟩))
      · skip
        refine pr_push (v := (-2)) rfl rfl ?_
        exact pr_reti rfl rfl (Or.inl ⟨by omega, rfl, rfl⟩)
theorem c_86 (d : Nat) {N : Nat} {xs : Nat → Int32} {zc zm : Nat → Int32} {e3 e11 e18 : Nat} {A : Nat → Nat → Int32} {g gh : Nat → Option Nat} {dy : pw_H} (P : Nat) (hP : zm 0 = nI P) (hPb : P ≤ 4) (E : Nat) (hE : zm 7 = nI E) (hEb : E ≤ 12)  (one two y x z to : Int32) : pw_M (d + 2) 86 [.inr (some 25), .inl one, .inl two, .inl y, .inl x, .inl z, .inl to] (hp_h N xs zc e3 e11 e18 zm A g gh dy) (pw_qi (fun r h' => (¬ (pw_bt one 0 (zm 0 - 1) ∧ pw_bt two 0 (zm 0 - 1) ∧ ¬ one.toInt = two.toInt ∧ pw_yr y ∧ pw_fd x z ∧ (to.toInt = one.toInt ∨ to.toInt = two.toInt)) ∧ r = -2 ∧ h' = (hp_h N xs zc e3 e11 e18 zm A g gh dy)) ∨ (¬ (¬ (pw_bt one 0 (zm 0 - 1) ∧ pw_bt two 0 (zm 0 - 1) ∧ ¬ one.toInt = two.toInt ∧ pw_yr y ∧ pw_fd x z ∧ (to.toInt = one.toInt ∨ to.toInt = two.toInt))) ∧ E = 12 ∧ r = -4 ∧ h' = (hp_h N xs zc e3 e11 e18 zm A g gh dy)) ∨ (¬ (¬ (pw_bt one 0 (zm 0 - 1) ∧ pw_bt two 0 (zm 0 - 1) ∧ ¬ one.toInt = two.toInt ∧ pw_yr y ∧ pw_fd x z ∧ (to.toInt = one.toInt ∨ to.toInt = two.toInt))) ∧ ¬ (E = 12) ∧ r = nI E ∧ h' = (hp_h N xs zc e3 e11 e18 (upd zm 7 (nI (E + 1))) (uA (uA (uA A 32 (upd (A 32) E y)) 33 (upd (A 33) E (12 * z + x))) 34 (upd (A 34) E to)) g gh dy)))) := by
  have z0 := pz_0
  have z1 := pz_1
  have z2 := pz_2
  have z3 := pz_3
  have z4 := pz_4
  have z6 := pz_6
  have z7 := pz_7
  have z10 := pz_10
  have z11 := pz_11
  have z12 := pz_12
  have z20 := pz_20
  have z30 := pz_30
  have z50 := pz_50
  have z60 := pz_60
  have z80 := pz_80
  have z300 := pz_300
  have hPT : (zm 0).toInt = (P : Int) := by rw [hP]; exact pw_T (by omega)
  have hPP : (zm 0 - 1).toInt = (P : Int) - 1 := by rw [hP]; exact pw_pred (by omega)
  have hET : (zm 7).toInt = (E : Int) := by rw [hE]; exact pw_T (by omega)
  have hEP : (zm 7 - 1).toInt = (E : Int) - 1 := by rw [hE]; exact pw_pred (by omega)
  refine pr_aload_n rfl rfl ?_
  refine pr_iload_n rfl rfl ?_
  refine pr_vi1 rfl (by decide) (Nat.le_of_ble_eq_true rfl) rfl (Nat.le_of_ble_eq_true rfl) (c_73 _ _ 25 (hp_m zm) (zm 0) _ rfl rfl) (fun r_2 h_2 q_2 => ?_)
  obtain ⟨rfl, rfl⟩ := q_2
  refine pr_b_eq rfl (fun c_5 => ?_) (fun c_5 => ?_)
  · skip
    refine pr_push (v := (-2)) rfl rfl ?_
    exact pr_reti rfl rfl (Or.inl ⟨by omega, rfl, rfl⟩)
  · skip
    refine pr_aload_n rfl rfl ?_
    refine pr_iload_n rfl rfl ?_
    refine pr_vi1 rfl (by decide) (Nat.le_of_ble_eq_true rfl) rfl (Nat.le_of_ble_eq_true rfl) (c_73 _ _ 25 (hp_m zm) (zm 0) _ rfl rfl) (fun r_10 h_10 q_10 => ?_)
    obtain ⟨rfl, rfl⟩ := q_10
    refine pr_b_eq rfl (fun c_13 => ?_) (fun c_13 => ?_)
    · skip
      refine pr_push (v := (-2)) rfl rfl ?_
      exact pr_reti rfl rfl (Or.inl ⟨by omega, rfl, rfl⟩)
    · skip
      refine pr_iload_n rfl rfl ?_
      refine pr_iload_n rfl rfl ?_
      refine pr_u_eq rfl (fun c_18 => ?_) (fun c_18 => ?_)
      · skip
        refine pr_push (v := (-2)) rfl rfl ?_
        exact pr_reti rfl rfl (Or.inl ⟨by omega, rfl, rfl⟩)
      · skip
        refine pr_iload_n rfl rfl ?_
        refine pr_si1 rfl (by decide) (Nat.le_of_ble_eq_true rfl) (Nat.le_of_ble_eq_true rfl) (c_72 _ _ _) (fun r_22 h_22 q_22 => ?_)
        obtain ⟨rfl, rfl⟩ := q_22
        refine pr_b_eq rfl (fun c_25 => ?_) (fun c_25 => ?_)
        · skip
          refine pr_push (v := (-2)) rfl rfl ?_
          exact pr_reti rfl rfl (Or.inl ⟨by omega, rfl, rfl⟩)
        · skip
          refine pr_iload rfl rfl ?_
          refine pr_iload rfl rfl ?_
          refine pr_si2 rfl (by decide) (Nat.le_of_ble_eq_true rfl) (Nat.le_of_ble_eq_true rfl) (c_71 _ _ _ _) (fun r_32 h_32 q_32 => ?_)
          obtain ⟨rfl, rfl⟩ := q_32
          refine pr_b_eq rfl (fun c_35 => ?_) (fun c_35 => ?_)
          · skip
            refine pr_push (v := (-2)) rfl rfl ?_
            exact pr_reti rfl rfl (Or.inl ⟨by omega, rfl, rfl⟩)
          · skip
            refine pr_iload rfl rfl ?_
            refine pr_iload_n rfl rfl ?_
            refine pr_u_eq rfl (fun c_41 => ?_) (fun c_41 => ?_)
            · skip
              refine pr_aload_n rfl rfl ?_
              refine pr_getf rfl rfl rfl ?_
              refine pr_push (v := 12) rfl rfl ?_
              refine pr_u_ne rfl (fun c_59 => ?_) (fun c_59 => ?_)
              · skip
                refine pr_aload_n rfl rfl ?_
                refine pr_getf rfl rfl rfl ?_
                refine pr_aload_n rfl rfl ?_
                refine pr_getf rfl rfl rfl ?_
                refine pr_iload_n rfl rfl ?_
                refine pr_iast (E) rfl rfl (by decide) hE (by omega) hs_a32 ?_
                refine pr_aload_n rfl rfl ?_
                refine pr_getf rfl rfl rfl ?_
                refine pr_aload_n rfl rfl ?_
                refine pr_getf rfl rfl rfl ?_
                refine pr_push (v := 12) rfl rfl ?_
                refine pr_iload rfl rfl ?_
                refine pr_step rfl rfl rfl rfl ?_
                refine pr_iload rfl rfl ?_
                refine pr_step rfl rfl rfl rfl ?_
                refine pr_iast (E) rfl rfl (by decide) hE (by omega) hs_a33 ?_
                refine pr_aload_n rfl rfl ?_
                refine pr_getf rfl rfl rfl ?_
                refine pr_aload_n rfl rfl ?_
                refine pr_getf rfl rfl rfl ?_
                refine pr_iload rfl rfl ?_
                refine pr_iast (E) rfl rfl (by decide) hE (by omega) hs_a34 ?_
                refine pr_aload_n rfl rfl ?_
                refine pr_step rfl rfl rfl rfl ?_
                refine pr_getf rfl rfl rfl ?_
                refine pr_push (v := 1) rfl rfl ?_
                refine pr_step rfl rfl rfl rfl ?_
                refine pr_top (pw_s hE) ?_
                refine pr_putf rfl rfl (Nat.le_of_ble_eq_true rfl) rfl hs_m7 ?_
                refine pr_aload_n rfl rfl ?_
                refine pr_getf rfl rfl rfl ?_
                refine pr_push (v := 1) rfl rfl ?_
                refine pr_step rfl rfl rfl rfl ?_
                refine pr_top (nI_pred E) ?_
                exact pr_reti rfl rfl (Or.inr (Or.inr ⟨by omega, by omega, rfl, rfl⟩))
              · skip
                refine pr_push (v := (-4)) rfl rfl ?_
                exact pr_reti rfl rfl (Or.inr (Or.inl ⟨by omega, by omega, rfl, rfl⟩))
            · skip
              refine pr_iload rfl rfl ?_
              refine pr_iload_n rfl rfl ?_
              refine pr_u_eq rfl (fun c_47 => ?_) (fun c_47 => ?_)
              · skip
                refine pr_aload_n rfl rfl ?_
                refine pr_getf rfl rfl rfl ?_
                refine pr_push (v := 12) rfl rfl ?_
                refine pr_u_ne rfl (fun c_59 => ?_) (fun c_59 => ?_)
                · skip
                  refine pr_aload_n rfl rfl ?_
                  refine pr_getf rfl rfl rfl ?_
                  refine pr_aload_n rfl rfl ?_
                  refine pr_getf rfl rfl rfl ?_
                  refine pr_iload_n rfl rfl ?_
                  refine pr_iast (E) rfl rfl (by decide) hE (by omega) hs_a32 ?_
                  refine pr_aload_n rfl rfl ?_
                  refine pr_getf rfl rfl rfl ?_
                  refine pr_aload_n rfl rfl ?_
                  refine pr_getf rfl rfl rfl ?_
                  refine pr_push (v := 12) rfl rfl ?_
                  refine pr_iload rfl rfl ?_
                  refine pr_step rfl rfl rfl rfl ?_
                  refine pr_iload rfl rfl ?_
                  refine pr_step rfl rfl rfl rfl ?_
                  refine pr_iast (E) rfl rfl (by decide) hE (by omega) hs_a33 ?_
                  refine pr_aload_n rfl rfl ?_
                  refine pr_getf rfl rfl rfl ?_
                  refine pr_aload_n rfl rfl ?_
                  refine pr_getf rfl rfl rfl ?_
                  refine pr_iload rfl rfl ?_
                  refine pr_iast (E) rfl rfl (by decide) hE (by omega) hs_a34 ?_
                  refine pr_aload_n rfl rfl ?_
                  refine pr_step rfl rfl rfl rfl ?_
                  refine pr_getf rfl rfl rfl ?_
                  refine pr_push (v := 1) rfl rfl ?_
                  refine pr_step rfl rfl rfl rfl ?_
                  refine pr_top (pw_s hE) ?_
                  refine pr_putf rfl rfl (Nat.le_of_ble_eq_true rfl) rfl hs_m7 ?_
                  refine pr_aload_n rfl rfl ?_
                  refine pr_getf rfl rfl rfl ?_
                  refine pr_push (v := 1) rfl rfl ?_
                  refine pr_step rfl rfl rfl rfl ?_
                  refine pr_top (nI_pred E) ?_
                  exact pr_reti rfl rfl (Or.inr (Or.inr ⟨by omega, by omega, rfl, rfl⟩))
                · skip
                  refine pr_push (v := (-4)) rfl rfl ?_
                  exact pr_reti rfl rfl (Or.inr (Or.inl ⟨by omega, by omega, rfl, rfl⟩))
              · skip
                refine pr_push (v := (-2)) rfl rfl ?_
                exact pr_reti rfl rfl (Or.inl ⟨by omega, rfl, rfl⟩)
theorem c_102 (d : Nat) {N : Nat} {xs : Nat → Int32} {zc zm : Nat → Int32} {e3 e11 e18 : Nat} {A : Nat → Nat → Int32} {g gh : Nat → Option Nat} {dy : pw_H} (K : Nat) (hK : zm 23 = nI K) (hKb : K ≤ 6)  (x y w h dx dz ex ez : Int32) : pw_M (d + 2) 102 [.inr (some 25), .inl x, .inl y, .inl w, .inl h, .inl dx, .inl dz, .inl ex, .inl ez] (hp_h N xs zc e3 e11 e18 zm A g gh dy) (pw_qi (fun r h' => (¬ (pw_bt w 1 4 ∧ pw_bt h 1 4 ∧ (0 ≤ x.toInt ∧ x.toInt + w.toInt ≤ 12) ∧ (0 ≤ y.toInt ∧ y.toInt + h.toInt ≤ 12) ∧ (x.toInt ≤ dx.toInt ∧ dx.toInt < x.toInt + w.toInt) ∧ (y.toInt ≤ dz.toInt ∧ dz.toInt < y.toInt + h.toInt) ∧ (x.toInt ≤ ex.toInt ∧ ex.toInt < x.toInt + w.toInt) ∧ (y.toInt ≤ ez.toInt ∧ ez.toInt < y.toInt + h.toInt)) ∧ r = -2 ∧ h' = (hp_h N xs zc e3 e11 e18 zm A g gh dy)) ∨ (¬ (¬ (pw_bt w 1 4 ∧ pw_bt h 1 4 ∧ (0 ≤ x.toInt ∧ x.toInt + w.toInt ≤ 12) ∧ (0 ≤ y.toInt ∧ y.toInt + h.toInt ≤ 12) ∧ (x.toInt ≤ dx.toInt ∧ dx.toInt < x.toInt + w.toInt) ∧ (y.toInt ≤ dz.toInt ∧ dz.toInt < y.toInt + h.toInt) ∧ (x.toInt ≤ ex.toInt ∧ ex.toInt < x.toInt + w.toInt) ∧ (y.toInt ≤ ez.toInt ∧ ez.toInt < y.toInt + h.toInt))) ∧ K = 6 ∧ r = -4 ∧ h' = (hp_h N xs zc e3 e11 e18 zm A g gh dy)) ∨ (¬ (¬ (pw_bt w 1 4 ∧ pw_bt h 1 4 ∧ (0 ≤ x.toInt ∧ x.toInt + w.toInt ≤ 12) ∧ (0 ≤ y.toInt ∧ y.toInt + h.toInt ≤ 12) ∧ (x.toInt ≤ dx.toInt ∧ dx.toInt < x.toInt + w.toInt) ∧ (y.toInt ≤ dz.toInt ∧ dz.toInt < y.toInt + h.toInt) ∧ (x.toInt ≤ ex.toInt ∧ ex.toInt < x.toInt + w.toInt) ∧ (y.toInt ≤ ez.toInt ∧ ez.toInt < y.toInt + h.toInt))) ∧ ¬ (K = 6) ∧ r = nI K ∧ h' = (hp_h N xs zc e3 e11 e18 (upd zm 23 (nI (K + 1))) (uA (uA (uA (uA (uA (uA A 43 (upd (A 43) K x)) 44 (upd (A 44) K y)) 45 (upd (A 45) K w)) 46 (upd (A 46) K h)) 47 (upd (A 47) K (12 * dz + dx))) 48 (upd (A 48) K (12 * ez + ex))) g gh dy)))) := by
  have z0 := pz_0
  have z1 := pz_1
  have z2 := pz_2
  have z3 := pz_3
  have z4 := pz_4
  have z6 := pz_6
  have z7 := pz_7
  have z10 := pz_10
  have z11 := pz_11
  have z12 := pz_12
  have z20 := pz_20
  have z30 := pz_30
  have z50 := pz_50
  have z60 := pz_60
  have z80 := pz_80
  have z300 := pz_300
  have hKT : (zm 23).toInt = (K : Int) := by rw [hK]; exact pw_T (by omega)
  have hKP : (zm 23 - 1).toInt = (K : Int) - 1 := by rw [hK]; exact pw_pred (by omega)
  refine pr_iload_n rfl rfl ?_
  refine pr_push (v := 1) rfl rfl ?_
  refine pr_push (v := 4) rfl rfl ?_
  refine pr_si3 rfl (by decide) (Nat.le_of_ble_eq_true rfl) (Nat.le_of_ble_eq_true rfl) (c_69 _ _ _ _ _) (fun r_3 h_3 q_3 => ?_)
  obtain ⟨rfl, rfl⟩ := q_3
  refine pr_b_eq rfl (fun c_6 => ?_) (fun c_6 => ?_)
  · skip
    refine pr_push (v := (-2)) rfl rfl ?_
    exact pr_reti rfl rfl (Or.inl ⟨by omega, rfl, rfl⟩)
  · skip
    refine pr_iload rfl rfl ?_
    refine pr_push (v := 1) rfl rfl ?_
    refine pr_push (v := 4) rfl rfl ?_
    refine pr_si3 rfl (by decide) (Nat.le_of_ble_eq_true rfl) (Nat.le_of_ble_eq_true rfl) (c_69 _ _ _ _ _) (fun r_13 h_13 q_13 => ?_)
    obtain ⟨rfl, rfl⟩ := q_13
    refine pr_b_eq rfl (fun c_16 => ?_) (fun c_16 => ?_)
    · skip
      refine pr_push (v := (-2)) rfl rfl ?_
      exact pr_reti rfl rfl (Or.inl ⟨by omega, rfl, rfl⟩)
    · skip
      refine pr_iload_n rfl rfl ?_
      refine pr_push (v := 0) rfl rfl ?_
      refine pr_push (v := 12) rfl rfl ?_
      refine pr_iload_n rfl rfl ?_
      refine pr_step rfl rfl rfl rfl ?_
      have s1 : (12 - w).toInt = 12 - w.toInt := by
        rw [pw_subT (by omega) (by omega)]
        omega
      refine pr_si3 rfl (by decide) (Nat.le_of_ble_eq_true rfl) (Nat.le_of_ble_eq_true rfl) (c_69 _ _ _ _ _) (fun r_25 h_25 q_25 => ?_)
      obtain ⟨rfl, rfl⟩ := q_25
      refine pr_b_eq rfl (fun c_28 => ?_) (fun c_28 => ?_)
      · skip
        refine pr_push (v := (-2)) rfl rfl ?_
        exact pr_reti rfl rfl (Or.inl ⟨by omega, rfl, rfl⟩)
      · skip
        refine pr_iload_n rfl rfl ?_
        refine pr_push (v := 0) rfl rfl ?_
        refine pr_push (v := 12) rfl rfl ?_
        refine pr_iload rfl rfl ?_
        refine pr_step rfl rfl rfl rfl ?_
        have s2 : (12 - h).toInt = 12 - h.toInt := by
          rw [pw_subT (by omega) (by omega)]
          omega
        refine pr_si3 rfl (by decide) (Nat.le_of_ble_eq_true rfl) (Nat.le_of_ble_eq_true rfl) (c_69 _ _ _ _ _) (fun r_38 h_38 q_38 => ?_)
        obtain ⟨rfl, rfl⟩ := q_38
        refine pr_b_eq rfl (fun c_41 => ?_) (fun c_41 => ?_)
        · skip
          refine pr_push (v := (-2)) rfl rfl ?_
          exact pr_reti rfl rfl (Or.inl ⟨by omega, rfl, rfl⟩)
        · skip
          refine pr_iload rfl rfl ?_
          refine pr_iload_n rfl rfl ?_
          refine pr_iload_n rfl rfl ?_
          refine pr_iload_n rfl rfl ?_
          refine pr_step rfl rfl rfl rfl ?_
          refine pr_push (v := 1) rfl rfl ?_
          refine pr_step rfl rfl rfl rfl ?_
          have s3 : (x + w - 1).toInt = x.toInt + w.toInt - 1 := by
            have e := pw_addT (a := x) (b := w) (by omega) (by omega)
            rw [pw_subT (by omega) (by omega)]
            omega
          refine pr_si3 rfl (by decide) (Nat.le_of_ble_eq_true rfl) (Nat.le_of_ble_eq_true rfl) (c_69 _ _ _ _ _) (fun r_52 h_52 q_52 => ?_)
          obtain ⟨rfl, rfl⟩ := q_52
          refine pr_b_eq rfl (fun c_55 => ?_) (fun c_55 => ?_)
          · skip
            refine pr_push (v := (-2)) rfl rfl ?_
            exact pr_reti rfl rfl (Or.inl ⟨by omega, rfl, rfl⟩)
          · skip
            refine pr_iload rfl rfl ?_
            refine pr_iload_n rfl rfl ?_
            refine pr_iload_n rfl rfl ?_
            refine pr_iload rfl rfl ?_
            refine pr_step rfl rfl rfl rfl ?_
            refine pr_push (v := 1) rfl rfl ?_
            refine pr_step rfl rfl rfl rfl ?_
            have s4 : (y + h - 1).toInt = y.toInt + h.toInt - 1 := by
              have e := pw_addT (a := y) (b := h) (by omega) (by omega)
              rw [pw_subT (by omega) (by omega)]
              omega
            refine pr_si3 rfl (by decide) (Nat.le_of_ble_eq_true rfl) (Nat.le_of_ble_eq_true rfl) (c_69 _ _ _ _ _) (fun r_67 h_67 q_67 => ?_)
            obtain ⟨rfl, rfl⟩ := q_67
            refine pr_b_eq rfl (fun c_70 => ?_) (fun c_70 => ?_)
            · skip
              refine pr_push (v := (-2)) rfl rfl ?_
              exact pr_reti rfl rfl (Or.inl ⟨by omega, rfl, rfl⟩)
            · skip
              refine pr_iload rfl rfl ?_
              refine pr_iload_n rfl rfl ?_
              refine pr_iload_n rfl rfl ?_
              refine pr_iload_n rfl rfl ?_
              refine pr_step rfl rfl rfl rfl ?_
              refine pr_push (v := 1) rfl rfl ?_
              refine pr_step rfl rfl rfl rfl ?_
              refine pr_si3 rfl (by decide) (Nat.le_of_ble_eq_true rfl) (Nat.le_of_ble_eq_true rfl) (c_69 _ _ _ _ _) (fun r_81 h_81 q_81 => ?_)
              obtain ⟨rfl, rfl⟩ := q_81
              refine pr_b_eq rfl (fun c_84 => ?_) (fun c_84 => ?_)
              · skip
                refine pr_push (v := (-2)) rfl rfl ?_
                exact pr_reti rfl rfl (Or.inl ⟨by omega, rfl, rfl⟩)
              · skip
                refine pr_iload rfl rfl ?_
                refine pr_iload_n rfl rfl ?_
                refine pr_iload_n rfl rfl ?_
                refine pr_iload rfl rfl ?_
                refine pr_step rfl rfl rfl rfl ?_
                refine pr_push (v := 1) rfl rfl ?_
                refine pr_step rfl rfl rfl rfl ?_
                refine pr_si3 rfl (by decide) (Nat.le_of_ble_eq_true rfl) (Nat.le_of_ble_eq_true rfl) (c_69 _ _ _ _ _) (fun r_96 h_96 q_96 => ?_)
                obtain ⟨rfl, rfl⟩ := q_96
                refine pr_b_ne rfl (fun c_99 => ?_) (fun c_99 => ?_)
                · skip
                  refine pr_aload_n rfl rfl ?_
                  refine pr_getf rfl rfl rfl ?_
                  refine pr_push (v := 6) rfl rfl ?_
                  refine pr_u_ne rfl (fun c_111 => ?_) (fun c_111 => ?_)
                  · skip
                    refine pr_aload_n rfl rfl ?_
                    refine pr_getf rfl rfl rfl ?_
                    refine pr_aload_n rfl rfl ?_
                    refine pr_getf rfl rfl rfl ?_
                    refine pr_iload_n rfl rfl ?_
                    refine pr_iast (K) rfl rfl (by decide) hK (by omega) hs_a43 ?_
                    refine pr_aload_n rfl rfl ?_
                    refine pr_getf rfl rfl rfl ?_
                    refine pr_aload_n rfl rfl ?_
                    refine pr_getf rfl rfl rfl ?_
                    refine pr_iload_n rfl rfl ?_
                    refine pr_iast (K) rfl rfl (by decide) hK (by omega) hs_a44 ?_
                    refine pr_aload_n rfl rfl ?_
                    refine pr_getf rfl rfl rfl ?_
                    refine pr_aload_n rfl rfl ?_
                    refine pr_getf rfl rfl rfl ?_
                    refine pr_iload_n rfl rfl ?_
                    refine pr_iast (K) rfl rfl (by decide) hK (by omega) hs_a45 ?_
                    refine pr_aload_n rfl rfl ?_
                    refine pr_getf rfl rfl rfl ?_
                    refine pr_aload_n rfl rfl ?_
                    refine pr_getf rfl rfl rfl ?_
                    refine pr_iload rfl rfl ?_
                    refine pr_iast (K) rfl rfl (by decide) hK (by omega) hs_a46 ?_
                    refine pr_aload_n rfl rfl ?_
                    refine pr_getf rfl rfl rfl ?_
                    refine pr_aload_n rfl rfl ?_
                    refine pr_getf rfl rfl rfl ?_
                    refine pr_push (v := 12) rfl rfl ?_
                    refine pr_iload rfl rfl ?_
                    refine pr_step rfl rfl rfl rfl ?_
                    refine pr_iload rfl rfl ?_
                    refine pr_step rfl rfl rfl rfl ?_
                    refine pr_iast (K) rfl rfl (by decide) hK (by omega) hs_a47 ?_
                    refine pr_aload_n rfl rfl ?_
                    refine pr_getf rfl rfl rfl ?_
                    refine pr_aload_n rfl rfl ?_
                    refine pr_getf rfl rfl rfl ?_
                    refine pr_push (v := 12) rfl rfl ?_
                    refine pr_iload rfl rfl ?_
                    refine pr_step rfl rfl rfl rfl ?_
                    refine pr_iload rfl rfl ?_
                    refine pr_step rfl rfl rfl rfl ?_
                    refine pr_iast (K) rfl rfl (by decide) hK (by omega) hs_a48 ?_
                    refine pr_aload_n rfl rfl ?_
                    refine pr_step rfl rfl rfl rfl ?_
                    refine pr_getf rfl rfl rfl ?_
                    refine pr_push (v := 1) rfl rfl ?_
                    refine pr_step rfl rfl rfl rfl ?_
                    refine pr_top (pw_s hK) ?_
                    refine pr_putf rfl rfl (Nat.le_of_ble_eq_true rfl) rfl hs_m23 ?_
                    refine pr_aload_n rfl rfl ?_
                    refine pr_getf rfl rfl rfl ?_
                    refine pr_push (v := 1) rfl rfl ?_
                    refine pr_step rfl rfl rfl rfl ?_
                    refine pr_top (nI_pred K) ?_
                    exact pr_reti rfl rfl (Or.inr (Or.inr ⟨by omega, by omega, rfl, rfl⟩))
                  · skip
                    refine pr_push (v := (-4)) rfl rfl ?_
                    exact pr_reti rfl rfl (Or.inr (Or.inl ⟨by omega, by omega, rfl, rfl⟩))
                · skip
                  refine pr_push (v := (-2)) rfl rfl ?_
                  exact pr_reti rfl rfl (Or.inl ⟨by omega, rfl, rfl⟩)
end
section
def rm_run (b : Nat → Int32) (y k : Int32) : Nat → Int32
  | 0 => 0
  | i + 1 => rm_run b y k i + (if (b i).toInt + 7 ≤ y.toInt ∧ y.toInt ≤ k.toInt ∧ k.toInt < (b i).toInt + 80 then 1 else 0)
def du_run (A : Nat → Nat → Int32) (T : Nat) (now gap : Int32) : Nat → Int32
  | 0 => 0
  | i + 1 => du_run A T now gap i ||| (if ¬ wh_of A T i now now = -1 ∧ gap.toInt ≤ (now - A 37 i).toInt then 1 <<< (nI i &&& 31) else 0)
theorem pw_or0 (x : Int32) : x ||| 0 = x := Int32.or_zero
theorem c_101_loop (d : Nat) {N : Nat} {xs : Nat → Int32} {zc zm : Nat → Int32} {e3 e11 e18 : Nat} {A : Nat → Nat → Int32} {g gh : Nat → Option Nat} {dy : pw_H} (W : Nat) (hW : zm 21 = nI W) (hWb : W ≤ 20) (hb : ∀ i, i < W → 0 ≤ (A 42 i).toInt ∧ (A 42 i).toInt ≤ 300) (y k : Int32) : ∀ (n i : Nat), i + n = W → pw_W (d + 2) 101 22 [some (.inr (some 25)), some (.inl y), some (.inl k), some (.inl (rm_run (A 42) y k i)), some (.inl (nI i))] [] (hp_h N xs zc e3 e11 e18 zm A g gh dy) (pw_qi (fun r h' => r = rm_run (A 42) y k W ∧ h' = (hp_h N xs zc e3 e11 e18 zm A g gh dy))) := by
  have z0 := pz_0
  have z1 := pz_1
  have z2 := pz_2
  have z3 := pz_3
  have z4 := pz_4
  have z6 := pz_6
  have z7 := pz_7
  have z10 := pz_10
  have z11 := pz_11
  have z12 := pz_12
  have z20 := pz_20
  have z30 := pz_30
  have z50 := pz_50
  have z60 := pz_60
  have z80 := pz_80
  have z300 := pz_300
  have hWT : (zm 21).toInt = (W : Int) := by rw [hW]; exact pw_T (by omega)
  have hWP : (zm 21 - 1).toInt = (W : Int) - 1 := by rw [hW]; exact pw_pred (by omega)
  intro n
  induction n with
  | zero =>
    intro i hi
    obtain rfl : i = W := by omega
    have hiT := pw_T (n := i) (by omega)
    refine pr_iload rfl rfl ?_
    refine pr_aload_n rfl rfl ?_
    refine pr_getf rfl rfl rfl ?_
    refine pr_c_ge rfl (fun c_28 => ?_) (fun c_28 => ?_)
    · skip
      refine pr_iload_n rfl rfl ?_
      exact pr_reti rfl rfl (⟨rfl, rfl⟩)
    · skip
      exact absurd c_28 (by omega)
  | succ n ih =>
    intro i hi
    have hiT := pw_T (n := i) (by omega)
    have hbi := hb i (by omega)
    have e7 := pw_addT (a := A 42 i) (b := 7) (by omega) (by omega)
    have e80 := pw_addT (a := A 42 i) (b := 80) (by omega) (by omega)
    refine pr_iload rfl rfl ?_
    refine pr_aload_n rfl rfl ?_
    refine pr_getf rfl rfl rfl ?_
    refine pr_c_ge rfl (fun c_28 => ?_) (fun c_28 => ?_)
    · skip
      exact absurd c_28 (by omega)
    · skip
      refine pr_iload_n rfl rfl ?_
      refine pr_iload_n rfl rfl ?_
      refine pr_aload_n rfl rfl ?_
      refine pr_getf rfl rfl rfl ?_
      refine pr_iload rfl rfl ?_
      refine pr_iald (i) rfl rfl (by decide) (by decide) rfl (by omega) ?_
      refine pr_push (v := 7) rfl rfl ?_
      refine pr_step rfl rfl rfl rfl ?_
      refine pr_c_lt rfl (fun c_43 => ?_) (fun c_43 => ?_)
      · skip
        refine pr_push (v := 0) rfl rfl ?_
        refine pr_step rfl rfl rfl rfl ?_
        refine pr_top (y := rm_run (A 42) y k (i + 1)) (by
          rw [rm_run]
          first | rw [if_pos ⟨by omega, by omega, by omega⟩] | rw [if_neg (by omega)]) ?_
        refine pr_istore_n rfl (Nat.le_of_ble_eq_true rfl) rfl ?_
        refine pr_iinc rfl rfl (pw_inc i) rfl ?_
        refine pr_step rfl rfl rfl rfl ?_
        exact ih (i + 1) (by omega)
      · skip
        refine pr_iload_n rfl rfl ?_
        refine pr_iload_n rfl rfl ?_
        refine pr_c_lt rfl (fun c_48 => ?_) (fun c_48 => ?_)
        · skip
          refine pr_push (v := 0) rfl rfl ?_
          refine pr_step rfl rfl rfl rfl ?_
          refine pr_top (y := rm_run (A 42) y k (i + 1)) (by
            rw [rm_run]
            first | rw [if_pos ⟨by omega, by omega, by omega⟩] | rw [if_neg (by omega)]) ?_
          refine pr_istore_n rfl (Nat.le_of_ble_eq_true rfl) rfl ?_
          refine pr_iinc rfl rfl (pw_inc i) rfl ?_
          refine pr_step rfl rfl rfl rfl ?_
          exact ih (i + 1) (by omega)
        · skip
          refine pr_iload_n rfl rfl ?_
          refine pr_aload_n rfl rfl ?_
          refine pr_getf rfl rfl rfl ?_
          refine pr_iload rfl rfl ?_
          refine pr_iald (i) rfl rfl (by decide) (by decide) rfl (by omega) ?_
          refine pr_push (v := 80) rfl rfl ?_
          refine pr_step rfl rfl rfl rfl ?_
          refine pr_c_ge rfl (fun c_62 => ?_) (fun c_62 => ?_)
          · skip
            refine pr_push (v := 0) rfl rfl ?_
            refine pr_step rfl rfl rfl rfl ?_
            refine pr_top (y := rm_run (A 42) y k (i + 1)) (by
              rw [rm_run]
              first | rw [if_pos ⟨by omega, by omega, by omega⟩] | rw [if_neg (by omega)]) ?_
            refine pr_istore_n rfl (Nat.le_of_ble_eq_true rfl) rfl ?_
            refine pr_iinc rfl rfl (pw_inc i) rfl ?_
            refine pr_step rfl rfl rfl rfl ?_
            exact ih (i + 1) (by omega)
          · skip
            refine pr_push (v := 1) rfl rfl ?_
            refine pr_step rfl rfl rfl rfl ?_
            refine pr_step rfl rfl rfl rfl ?_
            refine pr_top (y := rm_run (A 42) y k (i + 1)) (by
              rw [rm_run]
              first | rw [if_pos ⟨by omega, by omega, by omega⟩] | rw [if_neg (by omega)]) ?_
            refine pr_istore_n rfl (Nat.le_of_ble_eq_true rfl) rfl ?_
            refine pr_iinc rfl rfl (pw_inc i) rfl ?_
            refine pr_step rfl rfl rfl rfl ?_
            exact ih (i + 1) (by omega)
theorem c_101 (d : Nat) {N : Nat} {xs : Nat → Int32} {zc zm : Nat → Int32} {e3 e11 e18 : Nat} {A : Nat → Nat → Int32} {g gh : Nat → Option Nat} {dy : pw_H} (W : Nat) (hW : zm 21 = nI W) (hWb : W ≤ 20) (hb : ∀ i, i < W → 0 ≤ (A 42 i).toInt ∧ (A 42 i).toInt ≤ 300) (y k : Int32) : pw_M (d + 2) 101 [.inr (some 25), .inl y, .inl k] (hp_h N xs zc e3 e11 e18 zm A g gh dy) (pw_qi (fun r h' => (¬ (pw_yr y ∧ pw_yr k) ∧ r = -2 ∧ h' = (hp_h N xs zc e3 e11 e18 zm A g gh dy)) ∨ ((pw_yr y ∧ pw_yr k) ∧ r = rm_run (A 42) y k W ∧ h' = (hp_h N xs zc e3 e11 e18 zm A g gh dy)))) := by
  have z0 := pz_0
  have z1 := pz_1
  have z2 := pz_2
  have z3 := pz_3
  have z4 := pz_4
  have z6 := pz_6
  have z7 := pz_7
  have z10 := pz_10
  have z11 := pz_11
  have z12 := pz_12
  have z20 := pz_20
  have z30 := pz_30
  have z50 := pz_50
  have z60 := pz_60
  have z80 := pz_80
  have z300 := pz_300
  have hWT : (zm 21).toInt = (W : Int) := by rw [hW]; exact pw_T (by omega)
  have hWP : (zm 21 - 1).toInt = (W : Int) - 1 := by rw [hW]; exact pw_pred (by omega)
  refine pr_iload_n rfl rfl ?_
  refine pr_si1 rfl (by decide) (Nat.le_of_ble_eq_true rfl) (Nat.le_of_ble_eq_true rfl) (c_72 _ _ _) (fun r_1 h_1 q_1 => ?_)
  obtain ⟨rfl, rfl⟩ := q_1
  refine pr_b_eq rfl (fun c_4 => ?_) (fun c_4 => ?_)
  · skip
    refine pr_push (v := (-2)) rfl rfl ?_
    exact pr_reti rfl rfl (Or.inl ⟨by omega, rfl, rfl⟩)
  · skip
    refine pr_iload_n rfl rfl ?_
    refine pr_si1 rfl (by decide) (Nat.le_of_ble_eq_true rfl) (Nat.le_of_ble_eq_true rfl) (c_72 _ _ _) (fun r_8 h_8 q_8 => ?_)
    obtain ⟨rfl, rfl⟩ := q_8
    refine pr_b_ne rfl (fun c_11 => ?_) (fun c_11 => ?_)
    · skip
      refine pr_push (v := 0) rfl rfl ?_
      refine pr_istore_n rfl (Nat.le_of_ble_eq_true rfl) rfl ?_
      refine pr_push (v := 0) rfl rfl ?_
      refine pr_istore rfl (Nat.le_of_ble_eq_true rfl) rfl ?_
      exact pr_post (c_101_loop d W hW hWb hb y k W 0 (by omega)) (fun r h1 hq => by
        obtain ⟨x, e1, e2, e3⟩ := hq
        exact ⟨x, e1, Or.inr ⟨by omega, e2, e3⟩⟩)
    · skip
      refine pr_push (v := (-2)) rfl rfl ?_
      exact pr_reti rfl rfl (Or.inl ⟨by omega, rfl, rfl⟩)
theorem c_110_loop (d : Nat) {N : Nat} {xs : Nat → Int32} {zc zm : Nat → Int32} {e3 e11 e18 : Nat} {A : Nat → Nat → Int32} {g gh : Nat → Option Nat} {dy : pw_H} (S : Nat) (hS : zm 12 = nI S) (hSb : S ≤ 12) (T : Nat) (hT : zm 16 = nI T) (hTb : T ≤ 60) (hf : ∀ i, i < T → 0 ≤ (A 39 i).toInt) : ∀ (n i : Nat), i + n = S → pw_W (d + 2) 110 4 [some (.inr (some 25)), some (.inl (du_run A T (zm 11) (zm 34) i)), some (.inl (nI i))] [] (hp_h N xs zc e3 e11 e18 zm A g gh dy) (pw_qi (fun r h' => r = du_run A T (zm 11) (zm 34) S ∧ h' = (hp_h N xs zc e3 e11 e18 zm A g gh dy))) := by
  have z0 := pz_0
  have z1 := pz_1
  have z2 := pz_2
  have z3 := pz_3
  have z4 := pz_4
  have z6 := pz_6
  have z7 := pz_7
  have z10 := pz_10
  have z11 := pz_11
  have z12 := pz_12
  have z20 := pz_20
  have z30 := pz_30
  have z50 := pz_50
  have z60 := pz_60
  have z80 := pz_80
  have z300 := pz_300
  have hST : (zm 12).toInt = (S : Int) := by rw [hS]; exact pw_T (by omega)
  have hSP : (zm 12 - 1).toInt = (S : Int) - 1 := by rw [hS]; exact pw_pred (by omega)
  have hTT : (zm 16).toInt = (T : Int) := by rw [hT]; exact pw_T (by omega)
  have hTP : (zm 16 - 1).toInt = (T : Int) - 1 := by rw [hT]; exact pw_pred (by omega)
  intro n
  induction n with
  | zero =>
    intro i hi
    obtain rfl : i = S := by omega
    have hiT := pw_T (n := i) (by omega)
    refine pr_iload_n rfl rfl ?_
    refine pr_aload_n rfl rfl ?_
    refine pr_getf rfl rfl rfl ?_
    refine pr_c_ge rfl (fun c_9 => ?_) (fun c_9 => ?_)
    · skip
      refine pr_iload_n rfl rfl ?_
      exact pr_reti rfl rfl (⟨rfl, rfl⟩)
    · skip
      exact absurd c_9 (by omega)
  | succ n ih =>
    intro i hi
    have hiT := pw_T (n := i) (by omega)
    refine pr_iload_n rfl rfl ?_
    refine pr_aload_n rfl rfl ?_
    refine pr_getf rfl rfl rfl ?_
    refine pr_c_ge rfl (fun c_9 => ?_) (fun c_9 => ?_)
    · skip
      exact absurd c_9 (by omega)
    · skip
      refine pr_iload_n rfl rfl ?_
      refine pr_aload_n rfl rfl ?_
      refine pr_iload_n rfl rfl ?_
      refine pr_vi1 rfl (by decide) (Nat.le_of_ble_eq_true rfl) rfl (Nat.le_of_ble_eq_true rfl) (c_107 _ T hT hTb hf i (by omega)) (fun r_15 h_15 q_15 => ?_)
      obtain ⟨rfl, rfl⟩ := q_15
      refine pr_b_ne rfl (fun c_18 => ?_) (fun c_18 => ?_)
      · skip
        refine pr_push (v := 0) rfl rfl ?_
        refine pr_step rfl rfl rfl rfl ?_
        refine pr_top (y := du_run A T (zm 11) (zm 34) (i + 1)) (by
          rw [du_run]
          first | rw [if_pos ⟨by assumption, by omega⟩] | rw [if_neg (fun hh => by first | exact absurd (by assumption) hh.1 | exact absurd hh.2 (by omega))]) ?_
        refine pr_istore_n rfl (Nat.le_of_ble_eq_true rfl) rfl ?_
        refine pr_iinc rfl rfl (pw_inc i) rfl ?_
        refine pr_step rfl rfl rfl rfl ?_
        exact ih (i + 1) (by omega)
      · skip
        refine pr_aload_n rfl rfl ?_
        refine pr_getf rfl rfl rfl ?_
        refine pr_aload_n rfl rfl ?_
        refine pr_getf rfl rfl rfl ?_
        refine pr_iload_n rfl rfl ?_
        refine pr_iald (i) rfl rfl (by decide) (by decide) rfl (by omega) ?_
        refine pr_step rfl rfl rfl rfl ?_
        refine pr_aload_n rfl rfl ?_
        refine pr_getf rfl rfl rfl ?_
        refine pr_c_lt rfl (fun c_36 => ?_) (fun c_36 => ?_)
        · skip
          refine pr_push (v := 0) rfl rfl ?_
          refine pr_step rfl rfl rfl rfl ?_
          refine pr_top (y := du_run A T (zm 11) (zm 34) (i + 1)) (by
            rw [du_run]
            first | rw [if_pos ⟨by assumption, by omega⟩] | rw [if_neg (fun hh => by first | exact absurd (by assumption) hh.1 | exact absurd hh.2 (by omega))]) ?_
          refine pr_istore_n rfl (Nat.le_of_ble_eq_true rfl) rfl ?_
          refine pr_iinc rfl rfl (pw_inc i) rfl ?_
          refine pr_step rfl rfl rfl rfl ?_
          exact ih (i + 1) (by omega)
        · skip
          refine pr_push (v := 1) rfl rfl ?_
          refine pr_iload_n rfl rfl ?_
          refine pr_step rfl rfl rfl rfl ?_
          refine pr_step rfl rfl rfl rfl ?_
          refine pr_step rfl rfl rfl rfl ?_
          refine pr_top (y := du_run A T (zm 11) (zm 34) (i + 1)) (by
            rw [du_run]
            first | rw [if_pos ⟨by assumption, by omega⟩] | rw [if_neg (fun hh => by first | exact absurd (by assumption) hh.1 | exact absurd hh.2 (by omega))]) ?_
          refine pr_istore_n rfl (Nat.le_of_ble_eq_true rfl) rfl ?_
          refine pr_iinc rfl rfl (pw_inc i) rfl ?_
          refine pr_step rfl rfl rfl rfl ?_
          exact ih (i + 1) (by omega)
theorem c_110 (d : Nat) {N : Nat} {xs : Nat → Int32} {zc zm : Nat → Int32} {e3 e11 e18 : Nat} {A : Nat → Nat → Int32} {g gh : Nat → Option Nat} {dy : pw_H} (S : Nat) (hS : zm 12 = nI S) (hSb : S ≤ 12) (T : Nat) (hT : zm 16 = nI T) (hTb : T ≤ 60) (hf : ∀ i, i < T → 0 ≤ (A 39 i).toInt) : pw_M (d + 2) 110 [.inr (some 25)] (hp_h N xs zc e3 e11 e18 zm A g gh dy) (pw_qi (fun r h' => r = du_run A T (zm 11) (zm 34) S ∧ h' = (hp_h N xs zc e3 e11 e18 zm A g gh dy))) := by
  refine pr_push (v := 0) rfl rfl ?_
  refine pr_istore_n rfl (Nat.le_of_ble_eq_true rfl) rfl ?_
  refine pr_push (v := 0) rfl rfl ?_
  refine pr_istore_n rfl (Nat.le_of_ble_eq_true rfl) rfl ?_
  exact c_110_loop d S hS hSb T hT hTb hf S 0 (by omega)
def ct_of (z : Nat → Int32) (x : Int32) : Int32 :=
  if x.toInt = 0 then z 0 else if x.toInt = 1 then z 1 else if x.toInt = 2 then z 2 else if x.toInt = 3 then z 3 else if x.toInt = 4 then z 4 else if x.toInt = 5 then z 5 else if x.toInt = 6 then z 6 else if x.toInt = 7 then z 7 else -2
theorem c_113 (d : Nat) {N : Nat} {xs : Nat → Int32} {zc zm : Nat → Int32} {e3 e11 e18 : Nat} {A : Nat → Nat → Int32} {g gh : Nat → Option Nat} {dy : pw_H} (x : Int32) : pw_M d 113 [.inr (some 25), .inl x] (hp_h N xs zc e3 e11 e18 zm A g gh dy) (pw_qi (fun r h' => r = ct_of (fun k => match k with | 0 => zm 0 | 1 => zm 11 | 2 => zm 12 | 3 => zm 16 | 4 => zm 21 | 5 => zm 23 | 6 => zm 7 | _ => zm 30) x ∧ h' = (hp_h N xs zc e3 e11 e18 zm A g gh dy))) := by
  refine pr_iload_n rfl rfl ?_
  refine pr_switch rfl (fun hx => ?_) (fun j u hj hu hx => ?_) (by decide)
  · refine pr_push (v := (-2)) rfl rfl ?_
    exact pr_reti rfl rfl ⟨by unfold ct_of; simp only [show ¬ x.toInt = 0 by omega, show ¬ x.toInt = 1 by omega, show ¬ x.toInt = 2 by omega, show ¬ x.toInt = 3 by omega, show ¬ x.toInt = 4 by omega, show ¬ x.toInt = 5 by omega, show ¬ x.toInt = 6 by omega, show ¬ x.toInt = 7 by omega, if_false], rfl⟩
  · match j, hj, hu with
    | 0, hj, hu =>
      obtain rfl := Option.some.inj hu
      refine pr_aload_n rfl rfl ?_
      refine pr_getf rfl rfl rfl ?_
      exact pr_reti rfl rfl (⟨by unfold ct_of; rw [hj]; rfl, rfl⟩)
    | 1, hj, hu =>
      obtain rfl := Option.some.inj hu
      refine pr_aload_n rfl rfl ?_
      refine pr_getf rfl rfl rfl ?_
      exact pr_reti rfl rfl (⟨by unfold ct_of; rw [hj]; rfl, rfl⟩)
    | 2, hj, hu =>
      obtain rfl := Option.some.inj hu
      refine pr_aload_n rfl rfl ?_
      refine pr_getf rfl rfl rfl ?_
      exact pr_reti rfl rfl (⟨by unfold ct_of; rw [hj]; rfl, rfl⟩)
    | 3, hj, hu =>
      obtain rfl := Option.some.inj hu
      refine pr_aload_n rfl rfl ?_
      refine pr_getf rfl rfl rfl ?_
      exact pr_reti rfl rfl (⟨by unfold ct_of; rw [hj]; rfl, rfl⟩)
    | 4, hj, hu =>
      obtain rfl := Option.some.inj hu
      refine pr_aload_n rfl rfl ?_
      refine pr_getf rfl rfl rfl ?_
      exact pr_reti rfl rfl (⟨by unfold ct_of; rw [hj]; rfl, rfl⟩)
    | 5, hj, hu =>
      obtain rfl := Option.some.inj hu
      refine pr_aload_n rfl rfl ?_
      refine pr_getf rfl rfl rfl ?_
      exact pr_reti rfl rfl (⟨by unfold ct_of; rw [hj]; rfl, rfl⟩)
    | 6, hj, hu =>
      obtain rfl := Option.some.inj hu
      refine pr_aload_n rfl rfl ?_
      refine pr_getf rfl rfl rfl ?_
      exact pr_reti rfl rfl (⟨by unfold ct_of; rw [hj]; rfl, rfl⟩)
    | 7, hj, hu =>
      obtain rfl := Option.some.inj hu
      refine pr_aload_n rfl rfl ?_
      refine pr_getf rfl rfl rfl ?_
      exact pr_reti rfl rfl (⟨by unfold ct_of; rw [hj]; rfl, rfl⟩)
    | j + 8, hj, hu => exact absurd hx (by omega)
def on_f (c : Int32) : Nat → Nat → Int32
  | 0, _ => -1
  | k + 1, p => if c = 1 <<< (nI p &&& 31) then nI p else on_f c k (p + 1)
def ow_of (A : Nat → Nat → Int32) (E P f : Nat) (yr : Int32) : Int32 := (ld_run (nI f) yr 0 (on_f (A 54 f) P 0) (A 33) (A 32) (fun _ => 0) (A 34) E).2
theorem c_87_two (d : Nat) {N : Nat} {xs : Nat → Int32} {zc zm : Nat → Int32} {e3 e11 e18 : Nat} {A : Nat → Nat → Int32} {g gh : Nat → Option Nat} {dy : pw_H} (P : Nat) (hP : zm 0 = nI P) (hPb : P ≤ 4) (f : Nat) (hf : f < 144) (yr : Int32) (g3 : Option pw_V) : ∀ (n i : Nat), i + n = P → pw_W (d + 0) 87 85 [some (.inr (some 25)), some (.inl (nI f)), some (.inl yr), g3, some (.inl (nI i))] [] (hp_h N xs zc e3 e11 e18 zm A g gh dy) (pw_qi (fun r h' => r = on_f (A 54 f) n i ∧ h' = (hp_h N xs zc e3 e11 e18 zm A g gh dy))) := by
  have z0 := pz_0
  have z1 := pz_1
  have z2 := pz_2
  have z3 := pz_3
  have z4 := pz_4
  have z6 := pz_6
  have z7 := pz_7
  have z10 := pz_10
  have z11 := pz_11
  have z12 := pz_12
  have z20 := pz_20
  have z30 := pz_30
  have z50 := pz_50
  have z60 := pz_60
  have z80 := pz_80
  have z300 := pz_300
  have hPT : (zm 0).toInt = (P : Int) := by rw [hP]; exact pw_T (by omega)
  have hPP : (zm 0 - 1).toInt = (P : Int) - 1 := by rw [hP]; exact pw_pred (by omega)
  intro n
  induction n with
  | zero =>
    intro i hi
    obtain rfl : i = P := by omega
    have hiT := pw_T (n := i) (by omega)
    refine pr_iload rfl rfl ?_
    refine pr_aload_n rfl rfl ?_
    refine pr_getf rfl rfl rfl ?_
    refine pr_c_ge rfl (fun c_91 => ?_) (fun c_91 => ?_)
    · skip
      refine pr_push (v := (-1)) rfl rfl ?_
      exact pr_reti rfl rfl (⟨rfl, rfl⟩)
    · skip
      exact absurd c_91 (by omega)
  | succ n ih =>
    intro i hi
    have hiT := pw_T (n := i) (by omega)
    refine pr_iload rfl rfl ?_
    refine pr_aload_n rfl rfl ?_
    refine pr_getf rfl rfl rfl ?_
    refine pr_c_ge rfl (fun c_91 => ?_) (fun c_91 => ?_)
    · skip
      exact absurd c_91 (by omega)
    · skip
      refine pr_aload_n rfl rfl ?_
      refine pr_getf rfl rfl rfl ?_
      refine pr_iload_n rfl rfl ?_
      refine pr_iald (f) rfl rfl (by decide) (by decide) rfl (by omega) ?_
      refine pr_push (v := 1) rfl rfl ?_
      refine pr_iload rfl rfl ?_
      refine pr_step rfl rfl rfl rfl ?_
      refine pr_c_ne rfl (fun c_104 => ?_) (fun c_104 => ?_)
      · skip
        refine pr_iinc rfl rfl (pw_inc i) rfl ?_
        refine pr_step rfl rfl rfl rfl ?_
        rw [on_f, if_neg (by assumption)]
        exact ih (i + 1) (by omega)
      · skip
        refine pr_iload rfl rfl ?_
        exact pr_reti rfl rfl (⟨by rw [on_f, if_pos (by assumption)], rfl⟩)
theorem c_87_loop (d : Nat) {N : Nat} {xs : Nat → Int32} {zc zm : Nat → Int32} {e3 e11 e18 : Nat} {A : Nat → Nat → Int32} {g gh : Nat → Option Nat} {dy : pw_H} (P : Nat) (hP : zm 0 = nI P) (hPb : P ≤ 4) (E : Nat) (hE : zm 7 = nI E) (hEb : E ≤ 12) (hf : ∀ i, i < E → 0 ≤ (A 32 i).toInt) (f : Nat) (hff : f < 144) (yr : Int32) : ∀ (k i : Nat) (bi : Int32), i + k = E → md_inv bi (ld_run (nI f) yr 0 (on_f (A 54 f) P 0) (A 33) (A 32) (fun _ => 0) (A 34) i) (on_f (A 54 f) P 0) (A 32) (A 34) i → pw_W (d + 0) 87 5 [some (.inr (some 25)), some (.inl (nI f)), some (.inl yr), some (.inl bi), some (.inl (nI i))] [] (hp_h N xs zc e3 e11 e18 zm A g gh dy) (pw_qi (fun r h' => r = ow_of A E P f yr ∧ h' = (hp_h N xs zc e3 e11 e18 zm A g gh dy))) := by
  have z0 := pz_0
  have z1 := pz_1
  have z2 := pz_2
  have z3 := pz_3
  have z4 := pz_4
  have z6 := pz_6
  have z7 := pz_7
  have z10 := pz_10
  have z11 := pz_11
  have z12 := pz_12
  have z20 := pz_20
  have z30 := pz_30
  have z50 := pz_50
  have z60 := pz_60
  have z80 := pz_80
  have z300 := pz_300
  have zm1 := pz_m1
  have hPT : (zm 0).toInt = (P : Int) := by rw [hP]; exact pw_T (by omega)
  have hPP : (zm 0 - 1).toInt = (P : Int) - 1 := by rw [hP]; exact pw_pred (by omega)
  have hET : (zm 7).toInt = (E : Int) := by rw [hE]; exact pw_T (by omega)
  have hEP : (zm 7 - 1).toInt = (E : Int) - 1 := by rw [hE]; exact pw_pred (by omega)
  intro k
  induction k with
  | zero =>
    intro i bi hi hv
    obtain rfl : i = E := by omega
    have hiT := pw_T (n := i) (by omega)
    unfold ow_of
    rcases hv with ⟨rfl, hs⟩ | ⟨b, hb, rfl, hs⟩
    · rw [hs]
      refine pr_iload rfl rfl ?_
      refine pr_aload_n rfl rfl ?_
      refine pr_getf rfl rfl rfl ?_
      refine pr_c_ge rfl (fun c_11 => ?_) (fun c_11 => ?_)
      · skip
        refine pr_iload_n rfl rfl ?_
        refine pr_push (v := (-1)) rfl rfl ?_
        refine pr_step rfl rfl rfl rfl ?_
        refine pr_push (v := 0) rfl rfl ?_
        refine pr_istore rfl (Nat.le_of_ble_eq_true rfl) rfl ?_
        exact c_87_two d P hP hPb f hff yr _ P 0 (by omega)
      · skip
        exact absurd c_11 (by omega)
    · have hbT := pw_T (n := b) (by omega)
      rw [hs]
      refine pr_iload rfl rfl ?_
      refine pr_aload_n rfl rfl ?_
      refine pr_getf rfl rfl rfl ?_
      refine pr_c_ge rfl (fun c_11 => ?_) (fun c_11 => ?_)
      · skip
        refine pr_iload_n rfl rfl ?_
        refine pr_push (v := (-1)) rfl rfl ?_
        refine pr_u_eq rfl (fun c_72 => ?_) (fun c_72 => ?_)
        · skip
          exact absurd c_72 (by omega)
        · skip
          refine pr_aload_n rfl rfl ?_
          refine pr_getf rfl rfl rfl ?_
          refine pr_iload_n rfl rfl ?_
          refine pr_iald (b) rfl rfl (by decide) (by decide) rfl (by omega) ?_
          exact pr_reti rfl rfl (⟨rfl, rfl⟩)
      · skip
        exact absurd c_11 (by omega)
  | succ k ih =>
    intro i bi hi hv
    have hiT := pw_T (n := i) (by omega)
    have hfi := hf i (by omega)
    have hv0 := hv
    rcases hv with ⟨rfl, hs⟩ | ⟨b, hb, rfl, hs⟩
    · skip
      refine pr_iload rfl rfl ?_
      refine pr_aload_n rfl rfl ?_
      refine pr_getf rfl rfl rfl ?_
      refine pr_c_ge rfl (fun c_11 => ?_) (fun c_11 => ?_)
      · skip
        exact absurd c_11 (by omega)
      · skip
        refine pr_aload_n rfl rfl ?_
        refine pr_getf rfl rfl rfl ?_
        refine pr_iload rfl rfl ?_
        refine pr_iald (i) rfl rfl (by decide) (by decide) rfl (by omega) ?_
        refine pr_iload_n rfl rfl ?_
        refine pr_c_ne rfl (fun c_22 => ?_) (fun c_22 => ?_)
        · skip
          refine pr_iinc rfl rfl (pw_inc i) rfl ?_
          refine pr_step rfl rfl rfl rfl ?_
          first
            | exact ih (i + 1) _ (by omega) (md_no hv0 (by rintro ⟨q1, q2, q3⟩; first | (exact absurd q1 (by assumption)) | omega))
            | exact ih (i + 1) _ (by omega) (md_yes ⟨by assumption, by omega, by first | omega | decide⟩ (by rw [hs]; dsimp only; omega))
        · skip
          refine pr_aload_n rfl rfl ?_
          refine pr_getf rfl rfl rfl ?_
          refine pr_iload rfl rfl ?_
          refine pr_iald (i) rfl rfl (by decide) (by decide) rfl (by omega) ?_
          refine pr_iload_n rfl rfl ?_
          refine pr_c_gt rfl (fun c_33 => ?_) (fun c_33 => ?_)
          · skip
            refine pr_iinc rfl rfl (pw_inc i) rfl ?_
            refine pr_step rfl rfl rfl rfl ?_
            first
              | exact ih (i + 1) _ (by omega) (md_no hv0 (by rintro ⟨q1, q2, q3⟩; first | (exact absurd q1 (by assumption)) | omega))
              | exact ih (i + 1) _ (by omega) (md_yes ⟨by assumption, by omega, by first | omega | decide⟩ (by rw [hs]; dsimp only; omega))
          · skip
            refine pr_iload_n rfl rfl ?_
            refine pr_push (v := (-1)) rfl rfl ?_
            refine pr_step rfl rfl rfl rfl ?_
            refine pr_iload rfl rfl ?_
            refine pr_step rfl rfl rfl rfl ?_
            refine pr_istore_n rfl (Nat.le_of_ble_eq_true rfl) rfl ?_
            refine pr_iinc rfl rfl (pw_inc i) rfl ?_
            refine pr_step rfl rfl rfl rfl ?_
            first
              | exact ih (i + 1) _ (by omega) (md_no hv0 (by rintro ⟨q1, q2, q3⟩; first | (exact absurd q1 (by assumption)) | omega))
              | exact ih (i + 1) _ (by omega) (md_yes ⟨by assumption, by omega, by first | omega | decide⟩ (by rw [hs]; dsimp only; omega))
    · have hbT := pw_T (n := b) (by omega)
      have hfb := hf b (by omega)
      refine pr_iload rfl rfl ?_
      refine pr_aload_n rfl rfl ?_
      refine pr_getf rfl rfl rfl ?_
      refine pr_c_ge rfl (fun c_11 => ?_) (fun c_11 => ?_)
      · skip
        exact absurd c_11 (by omega)
      · skip
        refine pr_aload_n rfl rfl ?_
        refine pr_getf rfl rfl rfl ?_
        refine pr_iload rfl rfl ?_
        refine pr_iald (i) rfl rfl (by decide) (by decide) rfl (by omega) ?_
        refine pr_iload_n rfl rfl ?_
        refine pr_c_ne rfl (fun c_22 => ?_) (fun c_22 => ?_)
        · skip
          refine pr_iinc rfl rfl (pw_inc i) rfl ?_
          refine pr_step rfl rfl rfl rfl ?_
          first
            | exact ih (i + 1) _ (by omega) (md_no hv0 (by rintro ⟨q1, q2, q3⟩; first | (exact absurd q1 (by assumption)) | omega))
            | exact ih (i + 1) _ (by omega) (md_lt hv0 (by rw [hs]; dsimp only; omega))
            | exact ih (i + 1) _ (by omega) (md_yes ⟨by assumption, by omega, by first | omega | decide⟩ (by rw [hs]; dsimp only; omega))
        · skip
          refine pr_aload_n rfl rfl ?_
          refine pr_getf rfl rfl rfl ?_
          refine pr_iload rfl rfl ?_
          refine pr_iald (i) rfl rfl (by decide) (by decide) rfl (by omega) ?_
          refine pr_iload_n rfl rfl ?_
          refine pr_c_gt rfl (fun c_33 => ?_) (fun c_33 => ?_)
          · skip
            refine pr_iinc rfl rfl (pw_inc i) rfl ?_
            refine pr_step rfl rfl rfl rfl ?_
            first
              | exact ih (i + 1) _ (by omega) (md_no hv0 (by rintro ⟨q1, q2, q3⟩; first | (exact absurd q1 (by assumption)) | omega))
              | exact ih (i + 1) _ (by omega) (md_lt hv0 (by rw [hs]; dsimp only; omega))
              | exact ih (i + 1) _ (by omega) (md_yes ⟨by assumption, by omega, by first | omega | decide⟩ (by rw [hs]; dsimp only; omega))
          · skip
            refine pr_iload_n rfl rfl ?_
            refine pr_push (v := (-1)) rfl rfl ?_
            refine pr_u_eq rfl (fun c_38 => ?_) (fun c_38 => ?_)
            · skip
              exact absurd c_38 (by omega)
            · skip
              refine pr_aload_n rfl rfl ?_
              refine pr_getf rfl rfl rfl ?_
              refine pr_iload rfl rfl ?_
              refine pr_iald (i) rfl rfl (by decide) (by decide) rfl (by omega) ?_
              refine pr_aload_n rfl rfl ?_
              refine pr_getf rfl rfl rfl ?_
              refine pr_iload_n rfl rfl ?_
              refine pr_iald (b) rfl rfl (by decide) (by decide) rfl (by omega) ?_
              refine pr_c_lt rfl (fun c_54 => ?_) (fun c_54 => ?_)
              · skip
                refine pr_iload_n rfl rfl ?_
                refine pr_istore_n rfl (Nat.le_of_ble_eq_true rfl) rfl ?_
                refine pr_iinc rfl rfl (pw_inc i) rfl ?_
                refine pr_step rfl rfl rfl rfl ?_
                first
                  | exact ih (i + 1) _ (by omega) (md_no hv0 (by rintro ⟨q1, q2, q3⟩; first | (exact absurd q1 (by assumption)) | omega))
                  | exact ih (i + 1) _ (by omega) (md_lt hv0 (by rw [hs]; dsimp only; omega))
                  | exact ih (i + 1) _ (by omega) (md_yes ⟨by assumption, by omega, by first | omega | decide⟩ (by rw [hs]; dsimp only; omega))
              · skip
                refine pr_iload rfl rfl ?_
                refine pr_step rfl rfl rfl rfl ?_
                refine pr_istore_n rfl (Nat.le_of_ble_eq_true rfl) rfl ?_
                refine pr_iinc rfl rfl (pw_inc i) rfl ?_
                refine pr_step rfl rfl rfl rfl ?_
                first
                  | exact ih (i + 1) _ (by omega) (md_no hv0 (by rintro ⟨q1, q2, q3⟩; first | (exact absurd q1 (by assumption)) | omega))
                  | exact ih (i + 1) _ (by omega) (md_lt hv0 (by rw [hs]; dsimp only; omega))
                  | exact ih (i + 1) _ (by omega) (md_yes ⟨by assumption, by omega, by first | omega | decide⟩ (by rw [hs]; dsimp only; omega))
theorem c_87 (d : Nat) {N : Nat} {xs : Nat → Int32} {zc zm : Nat → Int32} {e3 e11 e18 : Nat} {A : Nat → Nat → Int32} {g gh : Nat → Option Nat} {dy : pw_H} (P : Nat) (hP : zm 0 = nI P) (hPb : P ≤ 4) (E : Nat) (hE : zm 7 = nI E) (hEb : E ≤ 12) (hf : ∀ i, i < E → 0 ≤ (A 32 i).toInt) (f : Nat) (hff : f < 144) (yr : Int32) : pw_M (d + 0) 87 [.inr (some 25), .inl (nI f), .inl yr] (hp_h N xs zc e3 e11 e18 zm A g gh dy) (pw_qi (fun r h' => r = ow_of A E P f yr ∧ h' = (hp_h N xs zc e3 e11 e18 zm A g gh dy))) := by
  refine pr_push (v := (-1)) rfl rfl ?_
  refine pr_istore_n rfl (Nat.le_of_ble_eq_true rfl) rfl ?_
  refine pr_push (v := 0) rfl rfl ?_
  refine pr_istore rfl (Nat.le_of_ble_eq_true rfl) rfl ?_
  exact c_87_loop d P hP hPb E hE hEb hf f hff yr E 0 (-1) (by omega) (Or.inl ⟨rfl, rfl⟩)
end
section
theorem pw_at (j k : Nat) : 12 * nI j + nI k = nI (12 * j + k) := by
  rw [show (12 : Int32) = nI 12 from rfl, pk_mul, nI_add]
theorem pw_rem2 {x : Int32} (h : 0 ≤ x.toInt) : (x - x / 2 * 2).toInt = x.toInt % 2 := by
  obtain ⟨a, rfl, hT, hl⟩ := pw_nat h
  rw [show (2 : Int32) = nI 2 from rfl, pk_rem hl (by decide) (by decide), pw_T (by omega), hT]
  omega
theorem pw_negT {x : Int32} (h : -1000000000 ≤ x.toInt ∧ x.toInt ≤ 1000000000) : (-x).toInt = - x.toInt := by
  rw [Int32.toInt_neg]
  exact Int.bmod_eq_of_le (by omega) (by omega)
theorem pw_x1 (x : Int32) : 1 * x = x := Int32.one_mul x
theorem pw_xm (x : Int32) : (-1) * x = -x := by rw [Int32.neg_mul, Int32.one_mul]
/-- the walk's pure numbers: directions, least and greatest lengths -/
def wl_mn (D L U : Nat → Int) (ax : Int) (k : Nat) : Int := if D k % 2 = ax then (if D k < 2 then L k else -(U k)) else 0
def wl_mx (D L U : Nat → Int) (ax : Int) (k : Nat) : Int := if D k % 2 = ax then (if D k < 2 then U k else -(L k)) else 0
def wl_s (f : Nat → Int) : Nat → Nat → Int
  | 0, _ => 0
  | c + 1, i => f i + wl_s f c (i + 1)
def wl_pick (D L U : Nat → Int) (n : Nat) (ax nd : Int) (i : Nat) : Int :=
  if D i < 2 then max (L i) (nd - wl_s (wl_mx D L U ax) (n - (i + 1)) (i + 1)) else max (L i) (wl_s (wl_mn D L U ax) (n - (i + 1)) (i + 1) - nd)
def wl_nd (D L U : Nat → Int) (n : Nat) (ax : Int) : Nat → Int
  | 0 => 0
  | i + 1 => if D i % 2 = ax then wl_nd D L U n ax i - (if D i < 2 then 1 else -1) * wl_pick D L U n ax (wl_nd D L U n ax i) i else wl_nd D L U n ax i
def wl_len (D L U : Nat → Int) (n i : Nat) : Int := wl_pick D L U n (D i % 2) (wl_nd D L U n (D i % 2) i) i
/-- legs as they may stand -/
def wl_ok (D L U : Nat → Int) (n : Nat) : Prop := n ≤ 12 ∧ ∀ k, k < n → (0 ≤ D k ∧ D k ≤ 3) ∧ 1 ≤ L k ∧ L k ≤ U k ∧ U k ≤ 12
abbrev wl_feas (D L U : Nat → Int) (n : Nat) (ax : Int) : Prop := wl_s (wl_mn D L U ax) n 0 ≤ 0 ∧ 0 ≤ wl_s (wl_mx D L U ax) n 0
section WL
variable {D L U : Nat → Int} {n : Nat}
theorem wl_mn_le (h : wl_ok D L U n) {ax : Int} {k : Nat} (hk : k < n) : wl_mn D L U ax k ≤ wl_mx D L U ax k ∧ -12 ≤ wl_mn D L U ax k ∧ wl_mx D L U ax k ≤ 12 := by
  obtain ⟨-, h⟩ := h
  have := h k hk
  unfold wl_mn wl_mx
  split
  · split <;> omega
  · omega
theorem wl_s_le (h : wl_ok D L U n) {ax : Int} : ∀ (c i : Nat), i + c = n → wl_s (wl_mn D L U ax) c i ≤ wl_s (wl_mx D L U ax) c i ∧ -(12 * (c : Int)) ≤ wl_s (wl_mn D L U ax) c i ∧ wl_s (wl_mx D L U ax) c i ≤ 12 * (c : Int) := by
  intro c
  induction c with
  | zero => intro i _; exact ⟨Int.le_refl _, by simp [wl_s], by simp [wl_s]⟩
  | succ c ih =>
    intro i hi
    have h1 := wl_mn_le h (ax := ax) (k := i) (by omega)
    have h2 := ih (i + 1) (by omega)
    simp only [wl_s]
    omega
/-- if it can be undone from i on, the leg's length is found, within its span, and the rest can be undone -/
theorem wl_step (h : wl_ok D L U n) {ax nd : Int} {i c : Nat} (hi : i + (c + 1) = n) (hf : wl_s (wl_mn D L U ax) (c + 1) i ≤ nd ∧ nd ≤ wl_s (wl_mx D L U ax) (c + 1) i) (hd : D i % 2 = ax) :
    L i ≤ wl_pick D L U n ax nd i ∧ wl_pick D L U n ax nd i ≤ U i ∧ (∀ l : Int, L i ≤ l → l ≤ wl_pick D L U n ax nd i → (wl_s (wl_mn D L U ax) c (i + 1) ≤ nd - (if D i < 2 then 1 else -1) * l ∧ nd - (if D i < 2 then 1 else -1) * l ≤ wl_s (wl_mx D L U ax) c (i + 1) ↔ l = wl_pick D L U n ax nd i)) := by
  have hc : n - (i + 1) = c := by omega
  have h1 := wl_s_le h (ax := ax) c (i + 1) (by omega)
  have h2 := h.2 i (by omega)
  have e1 : wl_mn D L U ax i = if D i < 2 then L i else -(U i) := if_pos hd
  have e2 : wl_mx D L U ax i = if D i < 2 then U i else -(L i) := if_pos hd
  simp only [wl_s] at hf
  rw [e1, e2] at hf
  unfold wl_pick
  rw [hc]
  by_cases hs : D i < 2
  · simp only [if_pos hs] at hf ⊢
    refine ⟨by omega, by omega, fun l l1 l2 => ⟨fun hh => by omega, fun hh => by omega⟩⟩
  · simp only [if_neg hs] at hf ⊢
    refine ⟨by omega, by omega, fun l l1 l2 => ⟨fun hh => by omega, fun hh => by omega⟩⟩
theorem wl_keep (h : wl_ok D L U n) {ax : Int} : ∀ (i : Nat), i ≤ n → wl_feas D L U n ax → wl_s (wl_mn D L U ax) (n - i) i ≤ wl_nd D L U n ax i ∧ wl_nd D L U n ax i ≤ wl_s (wl_mx D L U ax) (n - i) i := by
  intro i
  induction i with
  | zero => intro _ hf; exact hf
  | succ i ih =>
    intro hi hf
    have h1 := ih (by omega) hf
    obtain ⟨c, hc⟩ : ∃ c, n - i = c + 1 := ⟨n - i - 1, by omega⟩
    have hc2 : n - (i + 1) = c := by omega
    rw [hc] at h1
    rw [hc2]
    by_cases hd : D i % 2 = ax
    · have h3 := wl_step h (c := c) (i := i) (by omega) h1 hd
      have h4 := (h3.2.2 _ h3.1 (Int.le_refl _)).mpr rfl
      have e : wl_nd D L U n ax (i + 1) = wl_nd D L U n ax i - (if D i < 2 then 1 else -1) * wl_pick D L U n ax (wl_nd D L U n ax i) i := if_pos hd
      rw [e]
      exact h4
    · have e : wl_nd D L U n ax (i + 1) = wl_nd D L U n ax i := if_neg hd
      have e1 : wl_mn D L U ax i = 0 := if_neg hd
      have e2 : wl_mx D L U ax i = 0 := if_neg hd
      rw [e]
      simp only [wl_s] at h1
      rw [e1, e2] at h1
      omega
theorem wl_nd_b (h : wl_ok D L U n) {ax : Int} {i : Nat} (hi : i ≤ n) (hf : wl_feas D L U n ax) : -144 ≤ wl_nd D L U n ax i ∧ wl_nd D L U n ax i ≤ 144 := by
  have h1 := wl_keep h (ax := ax) i hi hf
  have h2 := wl_s_le h (ax := ax) (n - i) i (by omega)
  have := h.1
  omega
end WL
abbrev md_D (A : Nat → Nat → Int32) (j : Nat) : Nat → Int := fun k => (A 29 (12 * j + k)).toInt
abbrev md_L (A : Nat → Nat → Int32) (j : Nat) : Nat → Int := fun k => (A 30 (12 * j + k)).toInt
abbrev md_U (A : Nat → Nat → Int32) (j : Nat) : Nat → Int := fun k => (A 31 (12 * j + k)).toInt
theorem c_75 (d : Nat) {N : Nat} {xs : Nat → Int32} {zc zm : Nat → Int32} {e3 e11 e18 : Nat} {A : Nat → Nat → Int32} {g gh : Nat → Option Nat} {dy : pw_H} (P : Nat) (hP : zm 0 = nI P) (hPb : P ≤ 4) (hl : ∀ j, j < P → ∃ n : Nat, n ≤ 12 ∧ A 28 j = nI n) (p e l h : Int32) : pw_M (d + 2) 75 [.inr (some 25), .inl p, .inl e, .inl l, .inl h] (hp_h N xs zc e3 e11 e18 zm A g gh dy) (pw_qi (fun r h' => (¬ (pw_bt p 0 (zm 0 - 1) ∧ pw_bt e 0 3 ∧ pw_bt l 1 12 ∧ pw_bt h l 12) ∧ r = -2 ∧ h' = (hp_h N xs zc e3 e11 e18 zm A g gh dy)) ∨ ((pw_bt p 0 (zm 0 - 1) ∧ pw_bt e 0 3 ∧ pw_bt l 1 12 ∧ pw_bt h l 12) ∧ ∃ j n : Nat, j < P ∧ p = nI j ∧ A 28 j = nI n ∧ n ≤ 12 ∧ ((n = 12 ∧ r = -4 ∧ h' = (hp_h N xs zc e3 e11 e18 zm A g gh dy)) ∨ (n < 12 ∧ r = nI (n + 1) ∧ h' = (hp_h N xs zc e3 e11 e18 zm (uA (uA (uA (uA A 29 (upd (A 29) (12 * j + n) e)) 30 (upd (A 30) (12 * j + n) l)) 31 (upd (A 31) (12 * j + n) h)) 28 (upd (A 28) j (nI (n + 1)))) g gh dy)))))) := by
  have z0 := pz_0
  have z1 := pz_1
  have z2 := pz_2
  have z3 := pz_3
  have z4 := pz_4
  have z6 := pz_6
  have z7 := pz_7
  have z10 := pz_10
  have z11 := pz_11
  have z12 := pz_12
  have z20 := pz_20
  have z30 := pz_30
  have z50 := pz_50
  have z60 := pz_60
  have z80 := pz_80
  have z300 := pz_300
  have hPT : (zm 0).toInt = (P : Int) := by rw [hP]; exact pw_T (by omega)
  have hPP : (zm 0 - 1).toInt = (P : Int) - 1 := by rw [hP]; exact pw_pred (by omega)
  refine pr_aload_n rfl rfl ?_
  refine pr_iload_n rfl rfl ?_
  refine pr_vi1 rfl (by decide) (Nat.le_of_ble_eq_true rfl) rfl (Nat.le_of_ble_eq_true rfl) (c_73 _ _ 25 (hp_m zm) (zm 0) _ rfl rfl) (fun r_2 h_2 q_2 => ?_)
  obtain ⟨rfl, rfl⟩ := q_2
  refine pr_b_eq rfl (fun c_5 => ?_) (fun c_5 => ?_)
  · skip
    refine pr_push (v := (-2)) rfl rfl ?_
    exact pr_reti rfl rfl (Or.inl ⟨by omega, rfl, rfl⟩)
  · skip
    obtain ⟨j, rfl, hjT, hjl⟩ := pw_nat (x := p) (by omega)
    obtain ⟨n, hn12, hn⟩ := hl j (by omega)
    have hnT : (A 28 j).toInt = (n : Int) := by rw [hn]; exact pw_T (by omega)
    refine pr_iload_n rfl rfl ?_
    refine pr_push (v := 0) rfl rfl ?_
    refine pr_push (v := 3) rfl rfl ?_
    refine pr_si3 rfl (by decide) (Nat.le_of_ble_eq_true rfl) (Nat.le_of_ble_eq_true rfl) (c_69 _ _ _ _ _) (fun r_11 h_11 q_11 => ?_)
    obtain ⟨rfl, rfl⟩ := q_11
    refine pr_b_eq rfl (fun c_14 => ?_) (fun c_14 => ?_)
    · skip
      refine pr_push (v := (-2)) rfl rfl ?_
      exact pr_reti rfl rfl (Or.inl ⟨by omega, rfl, rfl⟩)
    · skip
      refine pr_iload_n rfl rfl ?_
      refine pr_push (v := 1) rfl rfl ?_
      refine pr_push (v := 12) rfl rfl ?_
      refine pr_si3 rfl (by decide) (Nat.le_of_ble_eq_true rfl) (Nat.le_of_ble_eq_true rfl) (c_69 _ _ _ _ _) (fun r_21 h_21 q_21 => ?_)
      obtain ⟨rfl, rfl⟩ := q_21
      refine pr_b_eq rfl (fun c_24 => ?_) (fun c_24 => ?_)
      · skip
        refine pr_push (v := (-2)) rfl rfl ?_
        exact pr_reti rfl rfl (Or.inl ⟨by omega, rfl, rfl⟩)
      · skip
        refine pr_iload rfl rfl ?_
        refine pr_iload_n rfl rfl ?_
        refine pr_push (v := 12) rfl rfl ?_
        refine pr_si3 rfl (by decide) (Nat.le_of_ble_eq_true rfl) (Nat.le_of_ble_eq_true rfl) (c_69 _ _ _ _ _) (fun r_32 h_32 q_32 => ?_)
        obtain ⟨rfl, rfl⟩ := q_32
        refine pr_b_ne rfl (fun c_35 => ?_) (fun c_35 => ?_)
        · skip
          refine pr_aload_n rfl rfl ?_
          refine pr_getf rfl rfl rfl ?_
          refine pr_iload_n rfl rfl ?_
          refine pr_iald (j) rfl rfl (by decide) (by decide) rfl (by omega) ?_
          refine pr_push (v := 12) rfl rfl ?_
          refine pr_u_ne rfl (fun c_49 => ?_) (fun c_49 => ?_)
          · skip
            refine pr_push (v := 12) rfl rfl ?_
            refine pr_iload_n rfl rfl ?_
            refine pr_step rfl rfl rfl rfl ?_
            refine pr_aload_n rfl rfl ?_
            refine pr_getf rfl rfl rfl ?_
            refine pr_iload_n rfl rfl ?_
            refine pr_iald (j) rfl rfl (by decide) (by decide) rfl (by omega) ?_
            refine pr_step rfl rfl rfl rfl ?_
            refine pr_top ((by rw [hn]; exact pw_at j n : 12 * nI j + A 28 j = nI (12 * j + n))) ?_
            refine pr_istore rfl (Nat.le_of_ble_eq_true rfl) rfl ?_
            refine pr_aload_n rfl rfl ?_
            refine pr_getf rfl rfl rfl ?_
            refine pr_iload rfl rfl ?_
            refine pr_iload_n rfl rfl ?_
            refine pr_iast (12 * j + n) rfl rfl (by decide) rfl (by omega) hs_a29 ?_
            refine pr_aload_n rfl rfl ?_
            refine pr_getf rfl rfl rfl ?_
            refine pr_iload rfl rfl ?_
            refine pr_iload_n rfl rfl ?_
            refine pr_iast (12 * j + n) rfl rfl (by decide) rfl (by omega) hs_a30 ?_
            refine pr_aload_n rfl rfl ?_
            refine pr_getf rfl rfl rfl ?_
            refine pr_iload rfl rfl ?_
            refine pr_iload rfl rfl ?_
            refine pr_iast (12 * j + n) rfl rfl (by decide) rfl (by omega) hs_a31 ?_
            refine pr_aload_n rfl rfl ?_
            refine pr_getf rfl rfl rfl ?_
            refine pr_iload_n rfl rfl ?_
            refine pr_step rfl rfl rfl rfl ?_
            refine pr_iald (j) rfl rfl (by decide) (by decide) rfl (by omega) ?_
            refine pr_push (v := 1) rfl rfl ?_
            refine pr_step rfl rfl rfl rfl ?_
            refine pr_top (pw_s hn) ?_
            refine pr_iast (j) rfl rfl (by decide) rfl (by omega) hs_a28 ?_
            refine pr_aload_n rfl rfl ?_
            refine pr_getf rfl rfl rfl ?_
            refine pr_iload_n rfl rfl ?_
            refine pr_iald (j) rfl rfl (by decide) (by decide) rfl (by omega) ?_
            exact pr_reti rfl rfl (Or.inr ⟨by omega, j, n, by omega, rfl, hn, hn12, Or.inr ⟨by omega, by simp [uA, upd], rfl⟩⟩)
          · skip
            refine pr_push (v := (-4)) rfl rfl ?_
            exact pr_reti rfl rfl (Or.inr ⟨by omega, j, n, by omega, rfl, hn, hn12, Or.inl ⟨by omega, rfl, rfl⟩⟩)
        · skip
          refine pr_push (v := (-2)) rfl rfl ?_
          exact pr_reti rfl rfl (Or.inl ⟨by omega, rfl, rfl⟩)
theorem c_76 (d : Nat) {N : Nat} {xs : Nat → Int32} {zc zm : Nat → Int32} {e3 e11 e18 : Nat} {A : Nat → Nat → Int32} {g gh : Nat → Option Nat} {dy : pw_H} (P : Nat) (hP : zm 0 = nI P) (hPb : P ≤ 4) (hl : ∀ j, j < P → ∃ n : Nat, n ≤ 12 ∧ A 28 j = nI n) (p : Int32) : pw_M (d + 2) 76 [.inr (some 25), .inl p] (hp_h N xs zc e3 e11 e18 zm A g gh dy) (pw_qi (fun r h' => (¬ pw_bt p 0 (zm 0 - 1) ∧ r = -2 ∧ h' = (hp_h N xs zc e3 e11 e18 zm A g gh dy)) ∨ (pw_bt p 0 (zm 0 - 1) ∧ ∃ j n : Nat, j < P ∧ p = nI j ∧ A 28 j = nI n ∧ n ≤ 12 ∧ ((n = 0 ∧ r = -3 ∧ h' = (hp_h N xs zc e3 e11 e18 zm A g gh dy)) ∨ (0 < n ∧ r = nI (n - 1) ∧ h' = (hp_h N xs zc e3 e11 e18 zm (uA A 28 (upd (A 28) j (nI (n - 1)))) g gh dy)))))) := by
  have z0 := pz_0
  have z1 := pz_1
  have z2 := pz_2
  have z3 := pz_3
  have z4 := pz_4
  have z6 := pz_6
  have z7 := pz_7
  have z10 := pz_10
  have z11 := pz_11
  have z12 := pz_12
  have z20 := pz_20
  have z30 := pz_30
  have z50 := pz_50
  have z60 := pz_60
  have z80 := pz_80
  have z300 := pz_300
  have hPT : (zm 0).toInt = (P : Int) := by rw [hP]; exact pw_T (by omega)
  have hPP : (zm 0 - 1).toInt = (P : Int) - 1 := by rw [hP]; exact pw_pred (by omega)
  refine pr_aload_n rfl rfl ?_
  refine pr_iload_n rfl rfl ?_
  refine pr_vi1 rfl (by decide) (Nat.le_of_ble_eq_true rfl) rfl (Nat.le_of_ble_eq_true rfl) (c_73 _ _ 25 (hp_m zm) (zm 0) _ rfl rfl) (fun r_2 h_2 q_2 => ?_)
  obtain ⟨rfl, rfl⟩ := q_2
  refine pr_b_ne rfl (fun c_5 => ?_) (fun c_5 => ?_)
  · skip
    obtain ⟨j, rfl, hjT, hjl⟩ := pw_nat (x := p) (by omega)
    obtain ⟨n, hn12, hn⟩ := hl j (by omega)
    have hnT : (A 28 j).toInt = (n : Int) := by rw [hn]; exact pw_T (by omega)
    refine pr_aload_n rfl rfl ?_
    refine pr_getf rfl rfl rfl ?_
    refine pr_iload_n rfl rfl ?_
    refine pr_iald (j) rfl rfl (by decide) (by decide) rfl (by omega) ?_
    refine pr_t_ne rfl (fun c_17 => ?_) (fun c_17 => ?_)
    · skip
      refine pr_aload_n rfl rfl ?_
      refine pr_getf rfl rfl rfl ?_
      refine pr_iload_n rfl rfl ?_
      refine pr_step rfl rfl rfl rfl ?_
      refine pr_iald (j) rfl rfl (by decide) (by decide) rfl (by omega) ?_
      refine pr_push (v := 1) rfl rfl ?_
      refine pr_step rfl rfl rfl rfl ?_
      refine pr_top ((by rw [hn]; obtain ⟨k, rfl⟩ : ∃ k, n = k + 1 := ⟨n - 1, by omega⟩; exact nI_pred k : A 28 j - 1 = nI (n - 1))) ?_
      refine pr_iast (j) rfl rfl (by decide) rfl (by omega) hs_a28 ?_
      refine pr_aload_n rfl rfl ?_
      refine pr_getf rfl rfl rfl ?_
      refine pr_iload_n rfl rfl ?_
      refine pr_iald (j) rfl rfl (by decide) (by decide) rfl (by omega) ?_
      exact pr_reti rfl rfl (Or.inr ⟨by omega, j, n, by omega, rfl, hn, hn12, Or.inr ⟨by omega, by simp [uA, upd], rfl⟩⟩)
    · skip
      refine pr_push (v := (-3)) rfl rfl ?_
      exact pr_reti rfl rfl (Or.inr ⟨by omega, j, n, by omega, rfl, hn, hn12, Or.inl ⟨by omega, rfl, rfl⟩⟩)
  · skip
    refine pr_push (v := (-2)) rfl rfl ?_
    exact pr_reti rfl rfl (Or.inl ⟨by omega, rfl, rfl⟩)
theorem c_77_loop (d : Nat) {N : Nat} {xs : Nat → Int32} {zc zm : Nat → Int32} {e3 e11 e18 : Nat} {A : Nat → Nat → Int32} {g gh : Nat → Option Nat} {dy : pw_H} (j n : Nat) (hj : j < 4) (hn : A 28 j = nI n) (hw : wl_ok (md_D A j) (md_L A j) (md_U A j) n) (ax : Int32) (i0 : Int32) : ∀ (c k : Nat) (s : Int32) (g6 : Option pw_V), k + c = n → (-(12 * (k : Int)) ≤ s.toInt ∧ s.toInt ≤ 12 * (k : Int)) → pw_W (d + 0) 77 6 [some (.inr (some 25)), some (.inl (nI j)), some (.inl i0), some (.inl ax), some (.inl s), some (.inl (nI k)), g6] [] (hp_h N xs zc e3 e11 e18 zm A g gh dy) (pw_qi (fun r h' => r.toInt = s.toInt + wl_s (wl_mn (md_D A j) (md_L A j) (md_U A j) ax.toInt) c k ∧ h' = (hp_h N xs zc e3 e11 e18 zm A g gh dy))) := by
  have z0 := pz_0
  have z1 := pz_1
  have z2 := pz_2
  have z3 := pz_3
  have z4 := pz_4
  have z6 := pz_6
  have z7 := pz_7
  have z10 := pz_10
  have z11 := pz_11
  have z12 := pz_12
  have z20 := pz_20
  have z30 := pz_30
  have z50 := pz_50
  have z60 := pz_60
  have z80 := pz_80
  have z300 := pz_300
  have hn12 := hw.1
  have hnT : (A 28 j).toInt = (n : Int) := by rw [hn]; exact pw_T (by omega)
  intro c
  induction c with
  | zero =>
    intro k s g6 hk hs
    have hkT := pw_T (n := k) (by omega)
    refine pr_iload rfl rfl ?_
    refine pr_aload_n rfl rfl ?_
    refine pr_getf rfl rfl rfl ?_
    refine pr_iload_n rfl rfl ?_
    refine pr_iald (j) rfl rfl (by decide) (by decide) rfl (by omega) ?_
    refine pr_c_ge rfl (fun c_14 => ?_) (fun c_14 => ?_)
    · skip
      refine pr_iload rfl rfl ?_
      exact pr_reti rfl rfl (⟨by simp only [wl_s]; omega, rfl⟩)
    · skip
      exact absurd c_14 (by omega)
  | succ c ih =>
    intro k s g6 hk hs
    have hkT := pw_T (n := k) (by omega)
    have hwk : (0 ≤ (A 29 (12 * j + k)).toInt ∧ (A 29 (12 * j + k)).toInt ≤ 3) ∧ 1 ≤ (A 30 (12 * j + k)).toInt ∧ (A 30 (12 * j + k)).toInt ≤ (A 31 (12 * j + k)).toInt ∧ (A 31 (12 * j + k)).toInt ≤ 12 := hw.2 k (by omega)
    have hr := pw_rem2 (x := A 29 (12 * j + k)) (by omega)
    have hng := pw_negT (x := A 31 (12 * j + k)) (by omega)
    have hng2 := pw_negT (x := A 30 (12 * j + k)) (by omega)
    have ha1 := pw_addT (a := s) (b := A 30 (12 * j + k)) (by omega) (by omega)
    have ha2 := pw_addT (a := s) (b := A 31 (12 * j + k)) (by omega) (by omega)
    have ha3 := pw_addT (a := s) (b := -A 31 (12 * j + k)) (by omega) (by omega)
    have ha4 := pw_addT (a := s) (b := -A 30 (12 * j + k)) (by omega) (by omega)
    refine pr_iload rfl rfl ?_
    refine pr_aload_n rfl rfl ?_
    refine pr_getf rfl rfl rfl ?_
    refine pr_iload_n rfl rfl ?_
    refine pr_iald (j) rfl rfl (by decide) (by decide) rfl (by omega) ?_
    refine pr_c_ge rfl (fun c_14 => ?_) (fun c_14 => ?_)
    · skip
      exact absurd c_14 (by omega)
    · skip
      refine pr_push (v := 12) rfl rfl ?_
      refine pr_iload_n rfl rfl ?_
      refine pr_step rfl rfl rfl rfl ?_
      refine pr_iload rfl rfl ?_
      refine pr_step rfl rfl rfl rfl ?_
      refine pr_top (pw_at j k) ?_
      refine pr_istore rfl (Nat.le_of_ble_eq_true rfl) rfl ?_
      refine pr_aload_n rfl rfl ?_
      refine pr_getf rfl rfl rfl ?_
      refine pr_iload rfl rfl ?_
      refine pr_iald (12 * j + k) rfl rfl (by decide) (by decide) rfl (by omega) ?_
      refine pr_push (v := 2) rfl rfl ?_
      refine pr_rem rfl (by decide) ?_
      refine pr_iload_n rfl rfl ?_
      refine pr_u_ne rfl (fun c_36 => ?_) (fun c_36 => ?_)
      · skip
        refine pr_iinc rfl rfl (pw_inc k) rfl ?_
        refine pr_step rfl rfl rfl rfl ?_
        refine pr_post (ih (k + 1) _ _ (by omega) (by omega)) (fun r h1 hq => ?_)
        obtain ⟨x, e1, e2, e3⟩ := hq
        refine ⟨x, e1, ?_, e3⟩
        rw [e2]
        simp only [wl_s, wl_mn, md_D, md_L, md_U]
        first
          | (rw [if_pos (by omega), if_pos (by omega)]; omega)
          | (rw [if_pos (by omega), if_neg (by omega)]; omega)
          | (rw [if_neg (by omega)]; omega)
      · skip
        refine pr_iload rfl rfl ?_
        refine pr_aload_n rfl rfl ?_
        refine pr_getf rfl rfl rfl ?_
        refine pr_iload rfl rfl ?_
        refine pr_iald (12 * j + k) rfl rfl (by decide) (by decide) rfl (by omega) ?_
        refine pr_push (v := 2) rfl rfl ?_
        refine pr_c_ge rfl (fun c_49 => ?_) (fun c_49 => ?_)
        · skip
          refine pr_aload_n rfl rfl ?_
          refine pr_getf rfl rfl rfl ?_
          refine pr_iload rfl rfl ?_
          refine pr_iald (12 * j + k) rfl rfl (by decide) (by decide) rfl (by omega) ?_
          refine pr_step rfl rfl rfl rfl ?_
          refine pr_step rfl rfl rfl rfl ?_
          refine pr_istore rfl (Nat.le_of_ble_eq_true rfl) rfl ?_
          refine pr_iinc rfl rfl (pw_inc k) rfl ?_
          refine pr_step rfl rfl rfl rfl ?_
          refine pr_post (ih (k + 1) _ _ (by omega) (by omega)) (fun r h1 hq => ?_)
          obtain ⟨x, e1, e2, e3⟩ := hq
          refine ⟨x, e1, ?_, e3⟩
          rw [e2]
          simp only [wl_s, wl_mn, md_D, md_L, md_U]
          first
            | (rw [if_pos (by omega), if_pos (by omega)]; omega)
            | (rw [if_pos (by omega), if_neg (by omega)]; omega)
            | (rw [if_neg (by omega)]; omega)
        · skip
          refine pr_aload_n rfl rfl ?_
          refine pr_getf rfl rfl rfl ?_
          refine pr_iload rfl rfl ?_
          refine pr_iald (12 * j + k) rfl rfl (by decide) (by decide) rfl (by omega) ?_
          refine pr_step rfl rfl rfl rfl ?_
          refine pr_step rfl rfl rfl rfl ?_
          refine pr_istore rfl (Nat.le_of_ble_eq_true rfl) rfl ?_
          refine pr_iinc rfl rfl (pw_inc k) rfl ?_
          refine pr_step rfl rfl rfl rfl ?_
          refine pr_post (ih (k + 1) _ _ (by omega) (by omega)) (fun r h1 hq => ?_)
          obtain ⟨x, e1, e2, e3⟩ := hq
          refine ⟨x, e1, ?_, e3⟩
          rw [e2]
          simp only [wl_s, wl_mn, md_D, md_L, md_U]
          first
            | (rw [if_pos (by omega), if_pos (by omega)]; omega)
            | (rw [if_pos (by omega), if_neg (by omega)]; omega)
            | (rw [if_neg (by omega)]; omega)
theorem c_77 (d : Nat) {N : Nat} {xs : Nat → Int32} {zc zm : Nat → Int32} {e3 e11 e18 : Nat} {A : Nat → Nat → Int32} {g gh : Nat → Option Nat} {dy : pw_H} (j n : Nat) (hj : j < 4) (hn : A 28 j = nI n) (hw : wl_ok (md_D A j) (md_L A j) (md_U A j) n) (ax : Int32) (i : Nat) (hi : i ≤ n) : pw_M (d + 0) 77 [.inr (some 25), .inl (nI j), .inl (nI i), .inl ax] (hp_h N xs zc e3 e11 e18 zm A g gh dy) (pw_qi (fun r h' => r.toInt = wl_s (wl_mn (md_D A j) (md_L A j) (md_U A j) ax.toInt) (n - i) i ∧ h' = (hp_h N xs zc e3 e11 e18 zm A g gh dy))) := by
  refine pr_push (v := 0) rfl rfl ?_
  refine pr_istore rfl (Nat.le_of_ble_eq_true rfl) rfl ?_
  refine pr_iload_n rfl rfl ?_
  refine pr_istore rfl (Nat.le_of_ble_eq_true rfl) rfl ?_
  refine pr_post (c_77_loop d j n hj hn hw ax (nI i) (n - i) i 0 none (by omega) (by rw [pz_0]; omega)) (fun r h1 hq => ?_)
  obtain ⟨x, e1, e2, e3⟩ := hq
  refine ⟨x, e1, ?_, e3⟩
  rw [e2, pz_0]
  omega
theorem c_78_loop (d : Nat) {N : Nat} {xs : Nat → Int32} {zc zm : Nat → Int32} {e3 e11 e18 : Nat} {A : Nat → Nat → Int32} {g gh : Nat → Option Nat} {dy : pw_H} (j n : Nat) (hj : j < 4) (hn : A 28 j = nI n) (hw : wl_ok (md_D A j) (md_L A j) (md_U A j) n) (ax : Int32) (i0 : Int32) : ∀ (c k : Nat) (s : Int32) (g6 : Option pw_V), k + c = n → (-(12 * (k : Int)) ≤ s.toInt ∧ s.toInt ≤ 12 * (k : Int)) → pw_W (d + 0) 78 6 [some (.inr (some 25)), some (.inl (nI j)), some (.inl i0), some (.inl ax), some (.inl s), some (.inl (nI k)), g6] [] (hp_h N xs zc e3 e11 e18 zm A g gh dy) (pw_qi (fun r h' => r.toInt = s.toInt + wl_s (wl_mx (md_D A j) (md_L A j) (md_U A j) ax.toInt) c k ∧ h' = (hp_h N xs zc e3 e11 e18 zm A g gh dy))) := by
  have z0 := pz_0
  have z1 := pz_1
  have z2 := pz_2
  have z3 := pz_3
  have z4 := pz_4
  have z6 := pz_6
  have z7 := pz_7
  have z10 := pz_10
  have z11 := pz_11
  have z12 := pz_12
  have z20 := pz_20
  have z30 := pz_30
  have z50 := pz_50
  have z60 := pz_60
  have z80 := pz_80
  have z300 := pz_300
  have hn12 := hw.1
  have hnT : (A 28 j).toInt = (n : Int) := by rw [hn]; exact pw_T (by omega)
  intro c
  induction c with
  | zero =>
    intro k s g6 hk hs
    have hkT := pw_T (n := k) (by omega)
    refine pr_iload rfl rfl ?_
    refine pr_aload_n rfl rfl ?_
    refine pr_getf rfl rfl rfl ?_
    refine pr_iload_n rfl rfl ?_
    refine pr_iald (j) rfl rfl (by decide) (by decide) rfl (by omega) ?_
    refine pr_c_ge rfl (fun c_14 => ?_) (fun c_14 => ?_)
    · skip
      refine pr_iload rfl rfl ?_
      exact pr_reti rfl rfl (⟨by simp only [wl_s]; omega, rfl⟩)
    · skip
      exact absurd c_14 (by omega)
  | succ c ih =>
    intro k s g6 hk hs
    have hkT := pw_T (n := k) (by omega)
    have hwk : (0 ≤ (A 29 (12 * j + k)).toInt ∧ (A 29 (12 * j + k)).toInt ≤ 3) ∧ 1 ≤ (A 30 (12 * j + k)).toInt ∧ (A 30 (12 * j + k)).toInt ≤ (A 31 (12 * j + k)).toInt ∧ (A 31 (12 * j + k)).toInt ≤ 12 := hw.2 k (by omega)
    have hr := pw_rem2 (x := A 29 (12 * j + k)) (by omega)
    have hng := pw_negT (x := A 31 (12 * j + k)) (by omega)
    have hng2 := pw_negT (x := A 30 (12 * j + k)) (by omega)
    have ha1 := pw_addT (a := s) (b := A 30 (12 * j + k)) (by omega) (by omega)
    have ha2 := pw_addT (a := s) (b := A 31 (12 * j + k)) (by omega) (by omega)
    have ha3 := pw_addT (a := s) (b := -A 31 (12 * j + k)) (by omega) (by omega)
    have ha4 := pw_addT (a := s) (b := -A 30 (12 * j + k)) (by omega) (by omega)
    refine pr_iload rfl rfl ?_
    refine pr_aload_n rfl rfl ?_
    refine pr_getf rfl rfl rfl ?_
    refine pr_iload_n rfl rfl ?_
    refine pr_iald (j) rfl rfl (by decide) (by decide) rfl (by omega) ?_
    refine pr_c_ge rfl (fun c_14 => ?_) (fun c_14 => ?_)
    · skip
      exact absurd c_14 (by omega)
    · skip
      refine pr_push (v := 12) rfl rfl ?_
      refine pr_iload_n rfl rfl ?_
      refine pr_step rfl rfl rfl rfl ?_
      refine pr_iload rfl rfl ?_
      refine pr_step rfl rfl rfl rfl ?_
      refine pr_top (pw_at j k) ?_
      refine pr_istore rfl (Nat.le_of_ble_eq_true rfl) rfl ?_
      refine pr_aload_n rfl rfl ?_
      refine pr_getf rfl rfl rfl ?_
      refine pr_iload rfl rfl ?_
      refine pr_iald (12 * j + k) rfl rfl (by decide) (by decide) rfl (by omega) ?_
      refine pr_push (v := 2) rfl rfl ?_
      refine pr_rem rfl (by decide) ?_
      refine pr_iload_n rfl rfl ?_
      refine pr_u_ne rfl (fun c_36 => ?_) (fun c_36 => ?_)
      · skip
        refine pr_iinc rfl rfl (pw_inc k) rfl ?_
        refine pr_step rfl rfl rfl rfl ?_
        refine pr_post (ih (k + 1) _ _ (by omega) (by omega)) (fun r h1 hq => ?_)
        obtain ⟨x, e1, e2, e3⟩ := hq
        refine ⟨x, e1, ?_, e3⟩
        rw [e2]
        simp only [wl_s, wl_mx, md_D, md_L, md_U]
        first
          | (rw [if_pos (by omega), if_pos (by omega)]; omega)
          | (rw [if_pos (by omega), if_neg (by omega)]; omega)
          | (rw [if_neg (by omega)]; omega)
      · skip
        refine pr_iload rfl rfl ?_
        refine pr_aload_n rfl rfl ?_
        refine pr_getf rfl rfl rfl ?_
        refine pr_iload rfl rfl ?_
        refine pr_iald (12 * j + k) rfl rfl (by decide) (by decide) rfl (by omega) ?_
        refine pr_push (v := 2) rfl rfl ?_
        refine pr_c_ge rfl (fun c_49 => ?_) (fun c_49 => ?_)
        · skip
          refine pr_aload_n rfl rfl ?_
          refine pr_getf rfl rfl rfl ?_
          refine pr_iload rfl rfl ?_
          refine pr_iald (12 * j + k) rfl rfl (by decide) (by decide) rfl (by omega) ?_
          refine pr_step rfl rfl rfl rfl ?_
          refine pr_step rfl rfl rfl rfl ?_
          refine pr_istore rfl (Nat.le_of_ble_eq_true rfl) rfl ?_
          refine pr_iinc rfl rfl (pw_inc k) rfl ?_
          refine pr_step rfl rfl rfl rfl ?_
          refine pr_post (ih (k + 1) _ _ (by omega) (by omega)) (fun r h1 hq => ?_)
          obtain ⟨x, e1, e2, e3⟩ := hq
          refine ⟨x, e1, ?_, e3⟩
          rw [e2]
          simp only [wl_s, wl_mx, md_D, md_L, md_U]
          first
            | (rw [if_pos (by omega), if_pos (by omega)]; omega)
            | (rw [if_pos (by omega), if_neg (by omega)]; omega)
            | (rw [if_neg (by omega)]; omega)
        · skip
          refine pr_aload_n rfl rfl ?_
          refine pr_getf rfl rfl rfl ?_
          refine pr_iload rfl rfl ?_
          refine pr_iald (12 * j + k) rfl rfl (by decide) (by decide) rfl (by omega) ?_
          refine pr_step rfl rfl rfl rfl ?_
          refine pr_step rfl rfl rfl rfl ?_
          refine pr_istore rfl (Nat.le_of_ble_eq_true rfl) rfl ?_
          refine pr_iinc rfl rfl (pw_inc k) rfl ?_
          refine pr_step rfl rfl rfl rfl ?_
          refine pr_post (ih (k + 1) _ _ (by omega) (by omega)) (fun r h1 hq => ?_)
          obtain ⟨x, e1, e2, e3⟩ := hq
          refine ⟨x, e1, ?_, e3⟩
          rw [e2]
          simp only [wl_s, wl_mx, md_D, md_L, md_U]
          first
            | (rw [if_pos (by omega), if_pos (by omega)]; omega)
            | (rw [if_pos (by omega), if_neg (by omega)]; omega)
            | (rw [if_neg (by omega)]; omega)
theorem c_78 (d : Nat) {N : Nat} {xs : Nat → Int32} {zc zm : Nat → Int32} {e3 e11 e18 : Nat} {A : Nat → Nat → Int32} {g gh : Nat → Option Nat} {dy : pw_H} (j n : Nat) (hj : j < 4) (hn : A 28 j = nI n) (hw : wl_ok (md_D A j) (md_L A j) (md_U A j) n) (ax : Int32) (i : Nat) (hi : i ≤ n) : pw_M (d + 0) 78 [.inr (some 25), .inl (nI j), .inl (nI i), .inl ax] (hp_h N xs zc e3 e11 e18 zm A g gh dy) (pw_qi (fun r h' => r.toInt = wl_s (wl_mx (md_D A j) (md_L A j) (md_U A j) ax.toInt) (n - i) i ∧ h' = (hp_h N xs zc e3 e11 e18 zm A g gh dy))) := by
  refine pr_push (v := 0) rfl rfl ?_
  refine pr_istore rfl (Nat.le_of_ble_eq_true rfl) rfl ?_
  refine pr_iload_n rfl rfl ?_
  refine pr_istore rfl (Nat.le_of_ble_eq_true rfl) rfl ?_
  refine pr_post (c_78_loop d j n hj hn hw ax (nI i) (n - i) i 0 none (by omega) (by rw [pz_0]; omega)) (fun r h1 hq => ?_)
  obtain ⟨x, e1, e2, e3⟩ := hq
  refine ⟨x, e1, ?_, e3⟩
  rw [e2, pz_0]
  omega
end
section
theorem uA_self (A : Nat → Nat → Int32) (k : Nat) : uA A k (A k) = A := by
  funext i
  unfold uA
  split
  · rename_i h; rw [h]
  · rfl
theorem uA_uA (A : Nat → Nat → Int32) (k : Nat) (f f2 : Nat → Int32) : uA (uA A k f) k f2 = uA A k f2 := by
  funext i
  unfold uA
  split <;> rfl
theorem pr_heap {d M pc : Nat} {L : pw_L} {st : List pw_V} {h h1 : pw_H} {Q : Option pw_V → pw_H → Prop} (e : h = h1) (k : pw_W d M pc L st h1 Q) : pw_W d M pc L st h Q := by rw [e]; exact k
section HP2
variable {N : Nat} {xs : Nat → Int32} {zc zm : Nat → Int32} {e3 e11 e18 : Nat} {A : Nat → Nat → Int32} {g gh : Nat → Option Nat} {dy : pw_H}
theorem ht_a52 {f f2 : Nat → Int32} : (hp_h N xs zc e3 e11 e18 zm (uA A 52 f) g gh dy).set 52 (.inl (0, 12, f2)) = (hp_h N xs zc e3 e11 e18 zm (uA A 52 f2) g gh dy) := rfl
theorem ht_a53 {f f2 : Nat → Int32} : (hp_h N xs zc e3 e11 e18 zm (uA A 53 f) g gh dy).set 53 (.inl (1, 156, f2)) = (hp_h N xs zc e3 e11 e18 zm (uA A 53 f2) g gh dy) := rfl
theorem ht_a54 {f f2 : Nat → Int32} : (hp_h N xs zc e3 e11 e18 zm (uA A 54 f) g gh dy).set 54 (.inl (0, 144, f2)) = (hp_h N xs zc e3 e11 e18 zm (uA A 54 f2) g gh dy) := rfl
theorem ht_a55 {f f2 : Nat → Int32} : (hp_h N xs zc e3 e11 e18 zm (uA A 55 f) g gh dy).set 55 (.inl (0, 4, f2)) = (hp_h N xs zc e3 e11 e18 zm (uA A 55 f2) g gh dy) := rfl
theorem ht_a56 {f f2 : Nat → Int32} : (hp_h N xs zc e3 e11 e18 zm (uA A 56 f) g gh dy).set 56 (.inl (0, 12, f2)) = (hp_h N xs zc e3 e11 e18 zm (uA A 56 f2) g gh dy) := rfl
end HP2
theorem c_79_w (d : Nat) {N : Nat} {xs : Nat → Int32} {zc zm : Nat → Int32} {e3 e11 e18 : Nat} {A : Nat → Nat → Int32} {g gh : Nat → Option Nat} {dy : pw_H} (j n : Nat) (hj : j < 4) (hn : A 28 j = nI n) (hw : wl_ok (md_D A j) (md_L A j) (md_U A j) n) (a : Nat) (ha : a < 2) (hfe : wl_feas (md_D A j) (md_L A j) (md_U A j) n (a : Int)) (f : Nat → Int32) (i : Nat) (hi : i < n) (hd : (A 29 (12 * j + i)).toInt % 2 = (a : Int)) (s sg : Int32) (hs : s.toInt = wl_nd (md_D A j) (md_L A j) (md_U A j) n (a : Int) i) (hsg : (sg = 1 ∧ (A 29 (12 * j + i)).toInt < 2) ∨ (sg = -1 ∧ ¬ (A 29 (12 * j + i)).toInt < 2)) (Q : Option pw_V → pw_H → Prop) (K : ∀ l : Int32, l.toInt = wl_pick (md_D A j) (md_L A j) (md_U A j) n (a : Int) (wl_nd (md_D A j) (md_L A j) (md_U A j) n (a : Int) i) i → pw_W (d + 1) 79 134 [some (.inr (some 25)), some (.inl (nI j)), some (.inl (nI a)), some (.inl s), some (.inl (nI i)), some (.inl (nI (12 * j + i))), some (.inl sg), some (.inl l)] [] (hp_h N xs zc e3 e11 e18 zm (uA A 52 f) g gh dy) Q) : ∀ (c : Nat) (l : Int32), (A 30 (12 * j + i)).toInt ≤ l.toInt → l.toInt + c = wl_pick (md_D A j) (md_L A j) (md_U A j) n (a : Int) (wl_nd (md_D A j) (md_L A j) (md_U A j) n (a : Int) i) i → pw_W (d + 1) 79 95 [some (.inr (some 25)), some (.inl (nI j)), some (.inl (nI a)), some (.inl s), some (.inl (nI i)), some (.inl (nI (12 * j + i))), some (.inl sg), some (.inl l)] [] (hp_h N xs zc e3 e11 e18 zm (uA A 52 f) g gh dy) Q := by
  have z0 := pz_0
  have z1 := pz_1
  have z2 := pz_2
  have z3 := pz_3
  have z4 := pz_4
  have z6 := pz_6
  have z7 := pz_7
  have z10 := pz_10
  have z11 := pz_11
  have z12 := pz_12
  have z20 := pz_20
  have z30 := pz_30
  have z50 := pz_50
  have z60 := pz_60
  have z80 := pz_80
  have z300 := pz_300
  have zm1 := pz_m1
  have hn12 := hw.1
  have hnT : (A 28 j).toInt = (n : Int) := by rw [hn]; exact pw_T (by omega)
  have haT := pw_T (n := a) (by omega)
  have hiT := pw_T (n := i) (by omega)
  have hwk : (0 ≤ (A 29 (12 * j + i)).toInt ∧ (A 29 (12 * j + i)).toInt ≤ 3) ∧ 1 ≤ (A 30 (12 * j + i)).toInt ∧ (A 30 (12 * j + i)).toInt ≤ (A 31 (12 * j + i)).toInt ∧ (A 31 (12 * j + i)).toInt ≤ 12 := hw.2 i hi
  have hkp := wl_keep hw (ax := (a : Int)) i (by omega) hfe
  have hnb := wl_nd_b hw (ax := (a : Int)) (i := i) (by omega) hfe
  obtain ⟨c0, hc0⟩ : ∃ c0, n - i = c0 + 1 := ⟨n - i - 1, by omega⟩
  have hc1 : n - (i + 1) = c0 := by omega
  rw [hc0] at hkp
  have hst := wl_step hw (c := c0) (i := i) (by omega) hkp hd
  have hpU : wl_pick (md_D A j) (md_L A j) (md_U A j) n (a : Int) (wl_nd (md_D A j) (md_L A j) (md_U A j) n (a : Int) i) i ≤ (A 31 (12 * j + i)).toInt := hst.2.1
  intro c
  induction c with
  | zero =>
    intro l hl1 hl2
    have hsl : (s - sg * l).toInt = wl_nd (md_D A j) (md_L A j) (md_U A j) n (a : Int) i - (if md_D A j i < 2 then 1 else -1) * (l).toInt := by
      rcases hsg with ⟨rfl, h2⟩ | ⟨rfl, h2⟩
      · rw [pw_x1, pw_subT (by omega) (by omega), if_pos h2]
        omega
      · have hng := pw_negT (x := l) (by omega)
        rw [pw_xm, pw_subT (by omega) (by omega), if_neg h2]
        omega
    refine pr_iload_n rfl rfl ?_
    refine pr_iload rfl rfl ?_
    refine pr_iload rfl rfl ?_
    refine pr_step rfl rfl rfl rfl ?_
    refine pr_step rfl rfl rfl rfl ?_
    refine pr_aload_n rfl rfl ?_
    refine pr_iload_n rfl rfl ?_
    refine pr_iload rfl rfl ?_
    refine pr_push (v := 1) rfl rfl ?_
    refine pr_step rfl rfl rfl rfl ?_
    refine pr_top (nI_1 i) ?_
    refine pr_iload_n rfl rfl ?_
    refine pr_vi3 rfl (by decide) (Nat.le_of_ble_eq_true rfl) rfl (Nat.le_of_ble_eq_true rfl) (c_77 (A := uA A 52 f) _ j n hj hn hw _ (i + 1) (by omega)) (fun r_109 h_109 q_109 => ?_)
    obtain ⟨ea, rfl⟩ := q_109
    have ea_109 : r_109.toInt = wl_s (wl_mn (md_D A j) (md_L A j) (md_U A j) (nI a).toInt) (n - (i + 1)) (i + 1) := ea
    clear ea
    refine pr_aload_n rfl rfl ?_
    refine pr_iload_n rfl rfl ?_
    refine pr_iload rfl rfl ?_
    refine pr_push (v := 1) rfl rfl ?_
    refine pr_step rfl rfl rfl rfl ?_
    refine pr_top (nI_1 i) ?_
    refine pr_iload_n rfl rfl ?_
    refine pr_vi3 rfl (by decide) (Nat.le_of_ble_eq_true rfl) rfl (Nat.le_of_ble_eq_true rfl) (c_78 (A := uA A 52 f) _ j n hj hn hw _ (i + 1) (by omega)) (fun r_119 h_119 q_119 => ?_)
    obtain ⟨ea, rfl⟩ := q_119
    have ea_119 : r_119.toInt = wl_s (wl_mx (md_D A j) (md_L A j) (md_U A j) (nI a).toInt) (n - (i + 1)) (i + 1) := ea
    clear ea
    refine pr_si3 rfl (by decide) (Nat.le_of_ble_eq_true rfl) (Nat.le_of_ble_eq_true rfl) (c_69 _ _ _ _ _) (fun r_122 h_122 q_122 => ?_)
    obtain ⟨rfl, rfl⟩ := q_122
    have hiff := hst.2.2 l.toInt hl1 (by omega)
    rw [← hsl] at hiff
    rw [hc1, haT] at ea_109 ea_119
    have hiff2 : (r_109.toInt ≤ (s - sg * l).toInt ∧ (s - sg * l).toInt ≤ r_119.toInt) ↔ l.toInt = wl_pick (md_D A j) (md_L A j) (md_U A j) n (a : Int) (wl_nd (md_D A j) (md_L A j) (md_U A j) n (a : Int) i) i := by
      rw [ea_109, ea_119]
      exact hiff
    refine pr_b_ne rfl (fun c_125 => ?_) (fun c_125 => ?_)
    · skip
      exact K l (hiff2.mp c_125)
    · skip
      exact absurd (hiff2.mpr (by omega)) c_125
  | succ c ih =>
    intro l hl1 hl2
    have hsl : (s - sg * l).toInt = wl_nd (md_D A j) (md_L A j) (md_U A j) n (a : Int) i - (if md_D A j i < 2 then 1 else -1) * (l).toInt := by
      rcases hsg with ⟨rfl, h2⟩ | ⟨rfl, h2⟩
      · rw [pw_x1, pw_subT (by omega) (by omega), if_pos h2]
        omega
      · have hng := pw_negT (x := l) (by omega)
        rw [pw_xm, pw_subT (by omega) (by omega), if_neg h2]
        omega
    refine pr_iload_n rfl rfl ?_
    refine pr_iload rfl rfl ?_
    refine pr_iload rfl rfl ?_
    refine pr_step rfl rfl rfl rfl ?_
    refine pr_step rfl rfl rfl rfl ?_
    refine pr_aload_n rfl rfl ?_
    refine pr_iload_n rfl rfl ?_
    refine pr_iload rfl rfl ?_
    refine pr_push (v := 1) rfl rfl ?_
    refine pr_step rfl rfl rfl rfl ?_
    refine pr_top (nI_1 i) ?_
    refine pr_iload_n rfl rfl ?_
    refine pr_vi3 rfl (by decide) (Nat.le_of_ble_eq_true rfl) rfl (Nat.le_of_ble_eq_true rfl) (c_77 (A := uA A 52 f) _ j n hj hn hw _ (i + 1) (by omega)) (fun r_109 h_109 q_109 => ?_)
    obtain ⟨ea, rfl⟩ := q_109
    have ea_109 : r_109.toInt = wl_s (wl_mn (md_D A j) (md_L A j) (md_U A j) (nI a).toInt) (n - (i + 1)) (i + 1) := ea
    clear ea
    refine pr_aload_n rfl rfl ?_
    refine pr_iload_n rfl rfl ?_
    refine pr_iload rfl rfl ?_
    refine pr_push (v := 1) rfl rfl ?_
    refine pr_step rfl rfl rfl rfl ?_
    refine pr_top (nI_1 i) ?_
    refine pr_iload_n rfl rfl ?_
    refine pr_vi3 rfl (by decide) (Nat.le_of_ble_eq_true rfl) rfl (Nat.le_of_ble_eq_true rfl) (c_78 (A := uA A 52 f) _ j n hj hn hw _ (i + 1) (by omega)) (fun r_119 h_119 q_119 => ?_)
    obtain ⟨ea, rfl⟩ := q_119
    have ea_119 : r_119.toInt = wl_s (wl_mx (md_D A j) (md_L A j) (md_U A j) (nI a).toInt) (n - (i + 1)) (i + 1) := ea
    clear ea
    refine pr_si3 rfl (by decide) (Nat.le_of_ble_eq_true rfl) (Nat.le_of_ble_eq_true rfl) (c_69 _ _ _ _ _) (fun r_122 h_122 q_122 => ?_)
    obtain ⟨rfl, rfl⟩ := q_122
    have hiff := hst.2.2 l.toInt hl1 (by omega)
    rw [← hsl] at hiff
    rw [hc1, haT] at ea_109 ea_119
    have hiff2 : (r_109.toInt ≤ (s - sg * l).toInt ∧ (s - sg * l).toInt ≤ r_119.toInt) ↔ l.toInt = wl_pick (md_D A j) (md_L A j) (md_U A j) n (a : Int) (wl_nd (md_D A j) (md_L A j) (md_U A j) n (a : Int) i) i := by
      rw [ea_109, ea_119]
      exact hiff
    refine pr_b_ne rfl (fun c_125 => ?_) (fun c_125 => ?_)
    · skip
      exact K l (hiff2.mp c_125)
    · skip
      have hne : ¬ l.toInt = wl_pick (md_D A j) (md_L A j) (md_U A j) n (a : Int) (wl_nd (md_D A j) (md_L A j) (md_U A j) n (a : Int) i) i := fun e => c_125 (hiff2.mpr e)
      have hl3 := pw_addT (a := l) (b := 1) (by omega) (by omega)
      refine pr_iinc rfl rfl (show l + Int32.ofInt 1 = l + 1 from rfl) rfl ?_
      refine pr_step rfl rfl rfl rfl ?_
      exact ih _ (by omega) (by omega)
theorem c_79_for (d : Nat) {N : Nat} {xs : Nat → Int32} {zc zm : Nat → Int32} {e3 e11 e18 : Nat} {A : Nat → Nat → Int32} {g gh : Nat → Option Nat} {dy : pw_H} (j n : Nat) (hj : j < 4) (hn : A 28 j = nI n) (hw : wl_ok (md_D A j) (md_L A j) (md_U A j) n) (a : Nat) (ha : a < 2) (hfe : wl_feas (md_D A j) (md_L A j) (md_U A j) n (a : Int)) (f0 : Nat → Int32) (Q : Option pw_V → pw_H → Prop) (K : ∀ (f : Nat → Int32) (s : Int32) (i : Nat) (g5 g6 g7 : Option pw_V), (∀ k, (k < n → md_D A j k % 2 = (a : Int) → (f k).toInt = wl_len (md_D A j) (md_L A j) (md_U A j) n k) ∧ (¬ (k < n ∧ md_D A j k % 2 = (a : Int)) → f k = f0 k)) → pw_W (d + 1) 79 157 [some (.inr (some 25)), some (.inl (nI j)), some (.inl (nI a)), some (.inl s), some (.inl (nI i)), g5, g6, g7] [] (hp_h N xs zc e3 e11 e18 zm (uA A 52 f) g gh dy) Q) : ∀ (c i : Nat) (f : Nat → Int32) (s : Int32) (g5 g6 g7 : Option pw_V), i + c = n → s.toInt = wl_nd (md_D A j) (md_L A j) (md_U A j) n (a : Int) i → (∀ k, (k < i → md_D A j k % 2 = (a : Int) → (f k).toInt = wl_len (md_D A j) (md_L A j) (md_U A j) n k) ∧ (¬ (k < i ∧ md_D A j k % 2 = (a : Int)) → f k = f0 k)) → pw_W (d + 1) 79 35 [some (.inr (some 25)), some (.inl (nI j)), some (.inl (nI a)), some (.inl s), some (.inl (nI i)), g5, g6, g7] [] (hp_h N xs zc e3 e11 e18 zm (uA A 52 f) g gh dy) Q := by
  have z0 := pz_0
  have z1 := pz_1
  have z2 := pz_2
  have z3 := pz_3
  have z4 := pz_4
  have z6 := pz_6
  have z7 := pz_7
  have z10 := pz_10
  have z11 := pz_11
  have z12 := pz_12
  have z20 := pz_20
  have z30 := pz_30
  have z50 := pz_50
  have z60 := pz_60
  have z80 := pz_80
  have z300 := pz_300
  have zm1 := pz_m1
  have hn12 := hw.1
  have hnT : (A 28 j).toInt = (n : Int) := by rw [hn]; exact pw_T (by omega)
  have haT := pw_T (n := a) (by omega)
  intro c
  induction c with
  | zero =>
    intro i f s g5 g6 g7 hi hs hp
    obtain rfl : i = n := by omega
    have hiT := pw_T (n := i) (by omega)
    refine pr_iload rfl rfl ?_
    refine pr_aload_n rfl rfl ?_
    refine pr_getf rfl rfl rfl ?_
    refine pr_iload_n rfl rfl ?_
    refine pr_iald (f := A 28) (j) rfl rfl (by decide) (by decide) rfl (by omega) ?_
    refine pr_c_ge rfl (fun c_43 => ?_) (fun c_43 => ?_)
    · skip
      exact K f s i g5 g6 g7 hp
    · skip
      exact absurd c_43 (by omega)
  | succ c ih =>
    intro i f s g5 g6 g7 hi hs hp
    have hiT := pw_T (n := i) (by omega)
    have hwk : (0 ≤ (A 29 (12 * j + i)).toInt ∧ (A 29 (12 * j + i)).toInt ≤ 3) ∧ 1 ≤ (A 30 (12 * j + i)).toInt ∧ (A 30 (12 * j + i)).toInt ≤ (A 31 (12 * j + i)).toInt ∧ (A 31 (12 * j + i)).toInt ≤ 12 := hw.2 i (by omega)
    have hr := pw_rem2 (x := A 29 (12 * j + i)) (by omega)
    have hnb := wl_nd_b hw (ax := (a : Int)) (i := i) (by omega) hfe
    have hkp := wl_keep hw (ax := (a : Int)) i (by omega) hfe
    rw [show n - i = c + 1 by omega] at hkp
    refine pr_iload rfl rfl ?_
    refine pr_aload_n rfl rfl ?_
    refine pr_getf rfl rfl rfl ?_
    refine pr_iload_n rfl rfl ?_
    refine pr_iald (f := A 28) (j) rfl rfl (by decide) (by decide) rfl (by omega) ?_
    refine pr_c_ge rfl (fun c_43 => ?_) (fun c_43 => ?_)
    · skip
      exact absurd c_43 (by omega)
    · skip
      refine pr_push (v := 12) rfl rfl ?_
      refine pr_iload_n rfl rfl ?_
      refine pr_step rfl rfl rfl rfl ?_
      refine pr_iload rfl rfl ?_
      refine pr_step rfl rfl rfl rfl ?_
      refine pr_top (pw_at j i) ?_
      refine pr_istore rfl (Nat.le_of_ble_eq_true rfl) rfl ?_
      refine pr_aload_n rfl rfl ?_
      refine pr_getf rfl rfl rfl ?_
      refine pr_iload rfl rfl ?_
      refine pr_iald (f := A 29) (12 * j + i) rfl rfl (by decide) (by decide) rfl (by omega) ?_
      refine pr_push (v := 2) rfl rfl ?_
      refine pr_rem rfl (by decide) ?_
      refine pr_iload_n rfl rfl ?_
      refine pr_u_ne rfl (fun c_65 => ?_) (fun c_65 => ?_)
      · skip
        refine pr_iinc rfl rfl (pw_inc i) rfl ?_
        refine pr_step rfl rfl rfl rfl ?_
        refine ih (i + 1) f s _ _ _ (by omega) ?_ ?_
        · have e : wl_nd (md_D A j) (md_L A j) (md_U A j) n (a : Int) (i + 1) = wl_nd (md_D A j) (md_L A j) (md_U A j) n (a : Int) i := if_neg (by show ¬ (A 29 (12 * j + i)).toInt % 2 = (a : Int); omega)
          rw [e]
          exact hs
        · intro k
          have hpk := hp k
          refine ⟨fun h1 h2 => ?_, fun hh => hpk.2 (fun h3 => hh ⟨by omega, h3.2⟩)⟩
          by_cases hki : k = i
          · subst hki
            exact absurd (show (A 29 (12 * j + k)).toInt % 2 = (a : Int) from h2) (by omega)
          · exact hpk.1 (by omega) h2
      · skip
        refine pr_aload_n rfl rfl ?_
        refine pr_getf rfl rfl rfl ?_
        refine pr_iload rfl rfl ?_
        refine pr_iald (f := A 29) (12 * j + i) rfl rfl (by decide) (by decide) rfl (by omega) ?_
        refine pr_push (v := 2) rfl rfl ?_
        refine pr_c_ge rfl (fun c_76 => ?_) (fun c_76 => ?_)
        · skip
          refine pr_push (v := (-1)) rfl rfl ?_
          refine pr_istore rfl (Nat.le_of_ble_eq_true rfl) rfl ?_
          refine pr_aload_n rfl rfl ?_
          refine pr_getf rfl rfl rfl ?_
          refine pr_iload rfl rfl ?_
          refine pr_iald (f := A 30) (12 * j + i) rfl rfl (by decide) (by decide) rfl (by omega) ?_
          refine pr_istore rfl (Nat.le_of_ble_eq_true rfl) rfl ?_
          have hd : (A 29 (12 * j + i)).toInt % 2 = (a : Int) := by omega
          have hst := wl_step hw (c := c) (i := i) (by omega) hkp hd
          have hpL : (A 30 (12 * j + i)).toInt ≤ wl_pick (md_D A j) (md_L A j) (md_U A j) n (a : Int) (wl_nd (md_D A j) (md_L A j) (md_U A j) n (a : Int) i) i := hst.1
          have hpU : wl_pick (md_D A j) (md_L A j) (md_U A j) n (a : Int) (wl_nd (md_D A j) (md_L A j) (md_U A j) n (a : Int) i) i ≤ (A 31 (12 * j + i)).toInt := hst.2.1
          refine c_79_w d j n hj hn hw a ha hfe f i (by omega) hd s _ hs (by first | exact Or.inl ⟨rfl, by omega⟩ | exact Or.inr ⟨rfl, by omega⟩) Q (fun l hl => ?_) (wl_pick (md_D A j) (md_L A j) (md_U A j) n (a : Int) (wl_nd (md_D A j) (md_L A j) (md_U A j) n (a : Int) i) i - (A 30 (12 * j + i)).toInt).toNat _ (Int.le_refl _) (by show (A 30 (12 * j + i)).toInt + _ = _; omega)
          refine pr_aload_n rfl rfl ?_
          refine pr_getf rfl rfl rfl ?_
          refine pr_iload rfl rfl ?_
          refine pr_iload rfl rfl ?_
          refine pr_iast i rfl rfl (by decide) rfl (by omega) ht_a52 ?_
          refine pr_iload_n rfl rfl ?_
          refine pr_iload rfl rfl ?_
          refine pr_iload rfl rfl ?_
          refine pr_step rfl rfl rfl rfl ?_
          refine pr_step rfl rfl rfl rfl ?_
          refine pr_istore_n rfl (Nat.le_of_ble_eq_true rfl) rfl ?_
          refine pr_iinc rfl rfl (pw_inc i) rfl ?_
          refine pr_step rfl rfl rfl rfl ?_
          refine ih (i + 1) _ _ _ _ _ (by omega) ?_ ?_
          · have hng := pw_negT (x := l) (by omega)
            have es1 := pw_subT (a := s) (b := l) (by omega) (by omega)
            have es2 := pw_subT (a := s) (b := -l) (by omega) (by omega)
            have e : wl_nd (md_D A j) (md_L A j) (md_U A j) n (a : Int) (i + 1) = wl_nd (md_D A j) (md_L A j) (md_U A j) n (a : Int) i - (if md_D A j i < 2 then 1 else -1) * wl_pick (md_D A j) (md_L A j) (md_U A j) n (a : Int) (wl_nd (md_D A j) (md_L A j) (md_U A j) n (a : Int) i) i := if_pos hd
            rw [e]
            first
              | (rw [pw_x1, es1, if_pos (by show (A 29 (12 * j + i)).toInt < 2; omega)]; omega)
              | (rw [pw_xm, es2, if_neg (by show ¬ (A 29 (12 * j + i)).toInt < 2; omega)]; omega)
          · intro k
            have hpk := hp k
            by_cases hki : k = i
            · subst hki
              refine ⟨fun _ _ => ?_, fun hh => absurd ⟨by omega, hd⟩ hh⟩
              rw [pk_us, hl]
              unfold wl_len
              rw [show md_D A j k % 2 = (a : Int) from hd]
            · rw [pk_un hki]
              exact ⟨fun h1 h2 => hpk.1 (by omega) h2, fun hh => hpk.2 (fun h3 => hh ⟨by omega, h3.2⟩)⟩
        · skip
          refine pr_push (v := 1) rfl rfl ?_
          refine pr_step rfl rfl rfl rfl ?_
          refine pr_istore rfl (Nat.le_of_ble_eq_true rfl) rfl ?_
          refine pr_aload_n rfl rfl ?_
          refine pr_getf rfl rfl rfl ?_
          refine pr_iload rfl rfl ?_
          refine pr_iald (f := A 30) (12 * j + i) rfl rfl (by decide) (by decide) rfl (by omega) ?_
          refine pr_istore rfl (Nat.le_of_ble_eq_true rfl) rfl ?_
          have hd : (A 29 (12 * j + i)).toInt % 2 = (a : Int) := by omega
          have hst := wl_step hw (c := c) (i := i) (by omega) hkp hd
          have hpL : (A 30 (12 * j + i)).toInt ≤ wl_pick (md_D A j) (md_L A j) (md_U A j) n (a : Int) (wl_nd (md_D A j) (md_L A j) (md_U A j) n (a : Int) i) i := hst.1
          have hpU : wl_pick (md_D A j) (md_L A j) (md_U A j) n (a : Int) (wl_nd (md_D A j) (md_L A j) (md_U A j) n (a : Int) i) i ≤ (A 31 (12 * j + i)).toInt := hst.2.1
          refine c_79_w d j n hj hn hw a ha hfe f i (by omega) hd s _ hs (by first | exact Or.inl ⟨rfl, by omega⟩ | exact Or.inr ⟨rfl, by omega⟩) Q (fun l hl => ?_) (wl_pick (md_D A j) (md_L A j) (md_U A j) n (a : Int) (wl_nd (md_D A j) (md_L A j) (md_U A j) n (a : Int) i) i - (A 30 (12 * j + i)).toInt).toNat _ (Int.le_refl _) (by show (A 30 (12 * j + i)).toInt + _ = _; omega)
          refine pr_aload_n rfl rfl ?_
          refine pr_getf rfl rfl rfl ?_
          refine pr_iload rfl rfl ?_
          refine pr_iload rfl rfl ?_
          refine pr_iast i rfl rfl (by decide) rfl (by omega) ht_a52 ?_
          refine pr_iload_n rfl rfl ?_
          refine pr_iload rfl rfl ?_
          refine pr_iload rfl rfl ?_
          refine pr_step rfl rfl rfl rfl ?_
          refine pr_step rfl rfl rfl rfl ?_
          refine pr_istore_n rfl (Nat.le_of_ble_eq_true rfl) rfl ?_
          refine pr_iinc rfl rfl (pw_inc i) rfl ?_
          refine pr_step rfl rfl rfl rfl ?_
          refine ih (i + 1) _ _ _ _ _ (by omega) ?_ ?_
          · have hng := pw_negT (x := l) (by omega)
            have es1 := pw_subT (a := s) (b := l) (by omega) (by omega)
            have es2 := pw_subT (a := s) (b := -l) (by omega) (by omega)
            have e : wl_nd (md_D A j) (md_L A j) (md_U A j) n (a : Int) (i + 1) = wl_nd (md_D A j) (md_L A j) (md_U A j) n (a : Int) i - (if md_D A j i < 2 then 1 else -1) * wl_pick (md_D A j) (md_L A j) (md_U A j) n (a : Int) (wl_nd (md_D A j) (md_L A j) (md_U A j) n (a : Int) i) i := if_pos hd
            rw [e]
            first
              | (rw [pw_x1, es1, if_pos (by show (A 29 (12 * j + i)).toInt < 2; omega)]; omega)
              | (rw [pw_xm, es2, if_neg (by show ¬ (A 29 (12 * j + i)).toInt < 2; omega)]; omega)
          · intro k
            have hpk := hp k
            by_cases hki : k = i
            · subst hki
              refine ⟨fun _ _ => ?_, fun hh => absurd ⟨by omega, hd⟩ hh⟩
              rw [pk_us, hl]
              unfold wl_len
              rw [show md_D A j k % 2 = (a : Int) from hd]
            · rw [pk_un hki]
              exact ⟨fun h1 h2 => hpk.1 (by omega) h2, fun hh => hpk.2 (fun h3 => hh ⟨by omega, h3.2⟩)⟩
theorem c_79 (d : Nat) {N : Nat} {xs : Nat → Int32} {zc zm : Nat → Int32} {e3 e11 e18 : Nat} {A : Nat → Nat → Int32} {g gh : Nat → Option Nat} {dy : pw_H} (j n : Nat) (hj : j < 4) (hn : A 28 j = nI n) (hw : wl_ok (md_D A j) (md_L A j) (md_U A j) n) : pw_M (d + 1) 79 [.inr (some 25), .inl (nI j)] (hp_h N xs zc e3 e11 e18 zm A g gh dy) (pw_qi (fun r h' => r = pw_b (wl_feas (md_D A j) (md_L A j) (md_U A j) n 0 ∧ wl_feas (md_D A j) (md_L A j) (md_U A j) n 1) ∧ ∃ f : Nat → Int32, h' = (hp_h N xs zc e3 e11 e18 zm (uA A 52 f) g gh dy) ∧ ((wl_feas (md_D A j) (md_L A j) (md_U A j) n 0 ∧ wl_feas (md_D A j) (md_L A j) (md_U A j) n 1) → ∀ k, k < n → (f k).toInt = wl_len (md_D A j) (md_L A j) (md_U A j) n k))) := by
  have z0 := pz_0
  have z1 := pz_1
  have z2 := pz_2
  have z3 := pz_3
  have z4 := pz_4
  have z6 := pz_6
  have z7 := pz_7
  have z10 := pz_10
  have z11 := pz_11
  have z12 := pz_12
  have z20 := pz_20
  have z30 := pz_30
  have z50 := pz_50
  have z60 := pz_60
  have z80 := pz_80
  have z300 := pz_300
  have zm1 := pz_m1
  have hn12 := hw.1
  have hnT : (A 28 j).toInt = (n : Int) := by rw [hn]; exact pw_T (by omega)
  refine pr_push (v := 0) rfl rfl ?_
  refine pr_istore_n rfl (Nat.le_of_ble_eq_true rfl) rfl ?_
  refine pr_iload_n rfl rfl ?_
  refine pr_push (v := 2) rfl rfl ?_
  refine pr_step rfl rfl rfl rfl ?_
  refine pr_push (v := 0) rfl rfl ?_
  refine pr_istore_n rfl (Nat.le_of_ble_eq_true rfl) rfl ?_
  refine pr_iload_n rfl rfl ?_
  refine pr_aload_n rfl rfl ?_
  refine pr_iload_n rfl rfl ?_
  refine pr_push (v := 0) rfl rfl ?_
  refine pr_iload_n rfl rfl ?_
  refine pr_vi3 rfl (by decide) (Nat.le_of_ble_eq_true rfl) rfl (Nat.le_of_ble_eq_true rfl) (c_77 _ j n hj hn hw _ 0 (by omega)) (fun r_14 h_14 q_14 => ?_)
  obtain ⟨ea_14, rfl⟩ := q_14
  rw [Nat.sub_zero] at ea_14
  refine pr_aload_n rfl rfl ?_
  refine pr_iload_n rfl rfl ?_
  refine pr_push (v := 0) rfl rfl ?_
  refine pr_iload_n rfl rfl ?_
  refine pr_vi3 rfl (by decide) (Nat.le_of_ble_eq_true rfl) rfl (Nat.le_of_ble_eq_true rfl) (c_78 _ j n hj hn hw _ 0 (by omega)) (fun r_21 h_21 q_21 => ?_)
  obtain ⟨ea_21, rfl⟩ := q_21
  rw [Nat.sub_zero] at ea_21
  refine pr_si3 rfl (by decide) (Nat.le_of_ble_eq_true rfl) (Nat.le_of_ble_eq_true rfl) (c_69 _ _ _ _ _) (fun r_24 h_24 q_24 => ?_)
  obtain ⟨rfl, rfl⟩ := q_24
  refine pr_b_ne rfl (fun c_27 => ?_) (fun c_27 => ?_)
  · skip
    refine pr_push (v := 0) rfl rfl ?_
    refine pr_istore rfl (Nat.le_of_ble_eq_true rfl) rfl ?_
    have hf0 : wl_feas (md_D A j) (md_L A j) (md_U A j) n ((0 : Nat) : Int) := by
      have e1 : wl_s (wl_mn (md_D A j) (md_L A j) (md_U A j) (Int32.toInt 0)) n 0 = wl_s (wl_mn (md_D A j) (md_L A j) (md_U A j) ((0 : Nat) : Int)) n 0 := rfl
      have e2 : wl_s (wl_mx (md_D A j) (md_L A j) (md_U A j) (Int32.toInt 0)) n 0 = wl_s (wl_mx (md_D A j) (md_L A j) (md_U A j) ((0 : Nat) : Int)) n 0 := rfl
      exact ⟨by omega, by omega⟩
    refine pr_heap (show (hp_h N xs zc e3 e11 e18 zm A g gh dy) = (hp_h N xs zc e3 e11 e18 zm (uA A 52 (A 52)) g gh dy) by rw [uA_self]) ?_
    refine c_79_for d j n hj hn hw 0 (by decide) hf0 (A 52) _ (fun f1 s1 i1 g5 g6 g7 hp1 => ?_) n 0 (A 52) 0 _ _ _ (by omega) rfl (fun k => ⟨fun h => absurd h (Nat.not_lt_zero k), fun _ => rfl⟩)
    refine pr_iinc rfl rfl (show nI 0 + Int32.ofInt 1 = 1 from rfl) rfl ?_
    refine pr_step rfl rfl rfl rfl ?_
    refine pr_iload_n rfl rfl ?_
    refine pr_push (v := 2) rfl rfl ?_
    refine pr_step rfl rfl rfl rfl ?_
    refine pr_push (v := 0) rfl rfl ?_
    refine pr_istore_n rfl (Nat.le_of_ble_eq_true rfl) rfl ?_
    refine pr_iload_n rfl rfl ?_
    refine pr_aload_n rfl rfl ?_
    refine pr_iload_n rfl rfl ?_
    refine pr_push (v := 0) rfl rfl ?_
    refine pr_iload_n rfl rfl ?_
    refine pr_vi3 rfl (by decide) (Nat.le_of_ble_eq_true rfl) rfl (Nat.le_of_ble_eq_true rfl) (c_77 (A := uA A 52 f1) _ j n hj hn hw _ 0 (by omega)) (fun r_14 h_14 q_14 => ?_)
    obtain ⟨ea, rfl⟩ := q_14
    rw [Nat.sub_zero] at ea
    have ea_14 : r_14.toInt = wl_s (wl_mn (md_D A j) (md_L A j) (md_U A j) (Int32.toInt 1)) n 0 := ea
    clear ea
    refine pr_aload_n rfl rfl ?_
    refine pr_iload_n rfl rfl ?_
    refine pr_push (v := 0) rfl rfl ?_
    refine pr_iload_n rfl rfl ?_
    refine pr_vi3 rfl (by decide) (Nat.le_of_ble_eq_true rfl) rfl (Nat.le_of_ble_eq_true rfl) (c_78 (A := uA A 52 f1) _ j n hj hn hw _ 0 (by omega)) (fun r_21 h_21 q_21 => ?_)
    obtain ⟨ea, rfl⟩ := q_21
    rw [Nat.sub_zero] at ea
    have ea_21 : r_21.toInt = wl_s (wl_mx (md_D A j) (md_L A j) (md_U A j) (Int32.toInt 1)) n 0 := ea
    clear ea
    refine pr_si3 rfl (by decide) (Nat.le_of_ble_eq_true rfl) (Nat.le_of_ble_eq_true rfl) (c_69 _ _ _ _ _) (fun r_24 h_24 q_24 => ?_)
    obtain ⟨rfl, rfl⟩ := q_24
    refine pr_b_ne rfl (fun c_27 => ?_) (fun c_27 => ?_)
    · skip
      refine pr_push (v := 0) rfl rfl ?_
      refine pr_istore rfl (Nat.le_of_ble_eq_true rfl) rfl ?_
      have hf1 : wl_feas (md_D A j) (md_L A j) (md_U A j) n ((1 : Nat) : Int) := by
        have e1 : wl_s (wl_mn (md_D A j) (md_L A j) (md_U A j) (Int32.toInt 1)) n 0 = wl_s (wl_mn (md_D A j) (md_L A j) (md_U A j) ((1 : Nat) : Int)) n 0 := rfl
        have e2 : wl_s (wl_mx (md_D A j) (md_L A j) (md_U A j) (Int32.toInt 1)) n 0 = wl_s (wl_mx (md_D A j) (md_L A j) (md_U A j) ((1 : Nat) : Int)) n 0 := rfl
        exact ⟨by omega, by omega⟩
      refine c_79_for d j n hj hn hw 1 (by decide) hf1 f1 _ (fun f2 s2 i2 g5 g6 g7 hp2 => ?_) n 0 f1 0 _ _ _ (by omega) rfl (fun k => ⟨fun h => absurd h (Nat.not_lt_zero k), fun _ => rfl⟩)
      refine pr_iinc rfl rfl (show nI 1 + Int32.ofInt 1 = 2 from rfl) rfl ?_
      refine pr_step rfl rfl rfl rfl ?_
      refine pr_iload_n rfl rfl ?_
      refine pr_push (v := 2) rfl rfl ?_
      refine pr_step rfl rfl rfl rfl ?_
      refine pr_push (v := 1) rfl rfl ?_
      exact pr_retb rfl rfl rfl (⟨by rw [pw_b1 ⟨hf0, hf1⟩], f2, rfl, fun _ k hk => by
        have hwk : (0 ≤ (A 29 (12 * j + k)).toInt ∧ (A 29 (12 * j + k)).toInt ≤ 3) ∧ _ := hw.2 k hk
        by_cases h1 : md_D A j k % 2 = ((1 : Nat) : Int)
        · exact (hp2 k).1 hk h1
        · rw [(hp2 k).2 (fun hh => h1 hh.2)]
          exact (hp1 k).1 hk (by
            have h1 : ¬ (A 29 (12 * j + k)).toInt % 2 = ((1 : Nat) : Int) := h1
            show (A 29 (12 * j + k)).toInt % 2 = ((0 : Nat) : Int)
            omega)⟩)
    · skip
      refine pr_push (v := 0) rfl rfl ?_
      exact pr_retb rfl rfl rfl (⟨by rw [pw_b0 (fun hh => by have h2 := hh.2; have e1 : wl_s (wl_mn (md_D A j) (md_L A j) (md_U A j) (Int32.toInt 1)) n 0 = wl_s (wl_mn (md_D A j) (md_L A j) (md_U A j) 1) n 0 := rfl; have e2 : wl_s (wl_mx (md_D A j) (md_L A j) (md_U A j) (Int32.toInt 1)) n 0 = wl_s (wl_mx (md_D A j) (md_L A j) (md_U A j) 1) n 0 := rfl; omega)], f1, rfl, fun hh => absurd hh.2 (fun h2 => by have e1 : wl_s (wl_mn (md_D A j) (md_L A j) (md_U A j) (Int32.toInt 1)) n 0 = wl_s (wl_mn (md_D A j) (md_L A j) (md_U A j) 1) n 0 := rfl; have e2 : wl_s (wl_mx (md_D A j) (md_L A j) (md_U A j) (Int32.toInt 1)) n 0 = wl_s (wl_mx (md_D A j) (md_L A j) (md_U A j) 1) n 0 := rfl; omega)⟩)
  · skip
    refine pr_push (v := 0) rfl rfl ?_
    exact pr_retb rfl rfl rfl (⟨by rw [pw_b0 (fun hh => by have h2 := hh.1; have e1 : wl_s (wl_mn (md_D A j) (md_L A j) (md_U A j) (Int32.toInt 0)) n 0 = wl_s (wl_mn (md_D A j) (md_L A j) (md_U A j) 0) n 0 := rfl; have e2 : wl_s (wl_mx (md_D A j) (md_L A j) (md_U A j) (Int32.toInt 0)) n 0 = wl_s (wl_mx (md_D A j) (md_L A j) (md_U A j) 0) n 0 := rfl; omega)], A 52, by rw [uA_self], fun hh => absurd hh.1 (fun h2 => by have e1 : wl_s (wl_mn (md_D A j) (md_L A j) (md_U A j) (Int32.toInt 0)) n 0 = wl_s (wl_mn (md_D A j) (md_L A j) (md_U A j) 0) n 0 := rfl; have e2 : wl_s (wl_mx (md_D A j) (md_L A j) (md_U A j) (Int32.toInt 0)) n 0 = wl_s (wl_mx (md_D A j) (md_L A j) (md_U A j) 0) n 0 := rfl; omega)⟩)
end
section
theorem uA_comm (A : Nat → Nat → Int32) {k l : Nat} (h : k ≠ l) (f f2 : Nat → Int32) : uA (uA A k f) l f2 = uA (uA A l f2) k f := by
  funext i
  unfold uA
  by_cases h1 : i = l
  · rw [if_pos h1, if_neg (by omega), if_pos h1]
  · rw [if_neg h1, if_neg h1]
theorem dec_xor {p q r : Prop} [Decidable p] [Decidable q] [Decidable r] (h : p ↔ (q ∧ ¬ r) ∨ (¬ q ∧ r)) : decide p = (decide q ^^ decide r) := by
  by_cases hq : q <;> by_cases hr : r <;> by_cases hp : p <;> simp_all
def pw_bo (b : Bool) : Int32 := bif b then 1 else 0
/-- where the walk stands -/
def wl_px (D ln : Nat → Int) (x0 : Int) : Nat → Int
  | 0 => x0
  | i + 1 => wl_px D ln x0 i + (if D i = 0 then ln i else if D i = 2 then -(ln i) else 0)
def wl_py (D ln : Nat → Int) (y0 : Int) : Nat → Int
  | 0 => y0
  | i + 1 => wl_py D ln y0 i + (if D i = 1 then ln i else if D i = 3 then -(ln i) else 0)
abbrev wl_land (D ln : Nat → Int) (x0 y0 : Int) (n : Nat) : Prop := ∀ i, i < n → (0 ≤ wl_px D ln x0 (i + 1) ∧ wl_px D ln x0 (i + 1) ≤ 12) ∧ 0 ≤ wl_py D ln y0 (i + 1) ∧ wl_py D ln y0 (i + 1) ≤ 12
/-- the sides at column X, row Y that t steps in a direction lay -/
def wl_cov (dr px py t X Y : Int) : Bool := decide ((dr = 1 ∧ X = px ∧ py ≤ Y ∧ Y < py + t) ∨ (dr = 3 ∧ X = px ∧ py - t ≤ Y ∧ Y < py))
def wl_V (D ln : Nat → Int) (x0 y0 : Int) : Nat → Int → Int → Bool
  | 0, _, _ => false
  | i + 1, X, Y => wl_V D ln x0 y0 i X Y ^^ wl_cov (D i) (wl_px D ln x0 i) (wl_py D ln y0 i) (ln i) X Y
theorem wl_cov0 (dr px py X Y : Int) : wl_cov dr px py 0 X Y = false := by
  unfold wl_cov
  exact decide_eq_false (by omega)
theorem wl_cov1 {px py t X Y : Int} (h : 0 ≤ t) : wl_cov 1 px py (t + 1) X Y = (wl_cov 1 px py t X Y ^^ decide (X = px ∧ Y = py + t)) := by
  unfold wl_cov
  exact dec_xor (by omega)
theorem wl_cov3 {px py t X Y : Int} (h : 0 ≤ t) : wl_cov 3 px py (t + 1) X Y = (wl_cov 3 px py t X Y ^^ decide (X = px ∧ Y = py - t - 1)) := by
  unfold wl_cov
  exact dec_xor (by omega)
theorem wl_covE {dr px py t t2 X Y : Int} (h : dr = 0 ∨ dr = 2) : wl_cov dr px py t X Y = wl_cov dr px py t2 X Y := by
  unfold wl_cov
  rw [decide_eq_false (by omega), decide_eq_false (by omega)]
theorem pw_bo_0 {b : Bool} (h : (pw_bo b).toInt = 0) : b = false := by
  cases b with
  | true => exact absurd h (by decide)
  | false => rfl
theorem pw_bo_1 {b : Bool} (h : ¬ (pw_bo b).toInt = 0) : b = true := by
  cases b with
  | true => rfl
  | false => exact absurd rfl h
def wl_sd (V : Int → Int → Bool) (s : Nat → Int32) : Prop := ∀ X Y : Nat, X ≤ 12 → Y < 12 → s (12 * X + Y) = pw_bo (V X Y)
theorem wl_sd_tog {V V2 : Int → Int → Bool} {s : Nat → Int32} {X0 Y0 : Nat} {v : Int32} {b : Bool} (h : wl_sd V s) (hY : Y0 < 12) (hb : V X0 Y0 = b) (hv : v = pw_bo (!b)) (h2 : ∀ X Y : Int, V2 X Y = (V X Y ^^ decide (X = X0 ∧ Y = Y0))) : wl_sd V2 (upd s (12 * X0 + Y0) v) := by
  intro X Y hX hYY
  by_cases he : 12 * X + Y = 12 * X0 + Y0
  · obtain ⟨rfl, rfl⟩ : X = X0 ∧ Y = Y0 := by omega
    rw [pk_us, h2, hv, hb]
    simp
  · rw [pk_un he, h X Y hX hYY, h2, decide_eq_false (by omega)]
    simp
end
section
section HR
variable {N : Nat} {xs : Nat → Int32} {zc zm : Nat → Int32} {e3 e11 e18 : Nat} {A : Nat → Nat → Int32} {g gh : Nat → Option Nat} {dy : pw_H} {f s : Nat → Int32}
theorem hr_26 : (hp_h N xs zc e3 e11 e18 zm (uA (uA A 52 f) 53 s) g gh dy)[26]? = some (.inl (0, 4, A 26)) := rfl
theorem hr_27 : (hp_h N xs zc e3 e11 e18 zm (uA (uA A 52 f) 53 s) g gh dy)[27]? = some (.inl (0, 4, A 27)) := rfl
theorem hr_28 : (hp_h N xs zc e3 e11 e18 zm (uA (uA A 52 f) 53 s) g gh dy)[28]? = some (.inl (0, 4, A 28)) := rfl
theorem hr_29 : (hp_h N xs zc e3 e11 e18 zm (uA (uA A 52 f) 53 s) g gh dy)[29]? = some (.inl (0, 48, A 29)) := rfl
theorem hr_52 : (hp_h N xs zc e3 e11 e18 zm (uA (uA A 52 f) 53 s) g gh dy)[52]? = some (.inl (0, 12, f)) := rfl
theorem hr_53 : (hp_h N xs zc e3 e11 e18 zm (uA (uA A 52 f) 53 s) g gh dy)[53]? = some (.inl (1, 156, s)) := rfl
end HR
set_option maxRecDepth 20000 in
theorem c_81_st0 (d : Nat) {N : Nat} {xs : Nat → Int32} {zc zm : Nat → Int32} {e3 e11 e18 : Nat} {A : Nat → Nat → Int32} {g gh : Nat → Option Nat} {dy : pw_H} (j i m : Nat) (hj : j < 4) (hi : i < 12) (hm : m ≤ 12) (f : Nat → Int32) (hfi : f i = nI m) (V : Int → Int → Bool) (px py : Int) (hp0 : (0 ≤ px ∧ px ≤ 12) ∧ 0 ≤ py ∧ py ≤ 12) (Qi : Int32 → pw_H → Prop) (Kf : ¬ ((0 ≤ px + (m : Int) ∧ px + (m : Int) ≤ 12) ∧ 0 ≤ py ∧ py ≤ 12) → ∀ s, Qi 0 (hp_h N xs zc e3 e11 e18 zm (uA (uA A 52 f) 53 s) g gh dy)) (K : ∀ (x y : Int32) (s : Nat → Int32) (g7 g8 g9 : Option pw_V), x.toInt = px + (m : Int) → y.toInt = py → (0 ≤ x.toInt ∧ x.toInt ≤ 12) → (0 ≤ y.toInt ∧ y.toInt ≤ 12) → wl_sd (fun X Y => V X Y ^^ wl_cov 0 px py m X Y) s → pw_W (d + 2) 81 209 [some (.inr (some 25)), some (.inl (nI j)), some (.inl x), some (.inl y), some (.inl (nI i)), some (.inl 0), some (.inl (nI m)), g7, g8, g9] [] (hp_h N xs zc e3 e11 e18 zm (uA (uA A 52 f) 53 s) g gh dy) (pw_qi Qi)) : ∀ (c t : Nat) (x y : Int32) (s : Nat → Int32) (g7 g8 g9 : Option pw_V), t + c = m → x.toInt = px + (t : Int) → y.toInt = py → (0 ≤ x.toInt ∧ x.toInt ≤ 12) → (0 ≤ y.toInt ∧ y.toInt ≤ 12) → wl_sd (fun X Y => V X Y ^^ wl_cov 0 px py t X Y) s → pw_W (d + 2) 81 77 [some (.inr (some 25)), some (.inl (nI j)), some (.inl x), some (.inl y), some (.inl (nI i)), some (.inl 0), some (.inl (nI t)), g7, g8, g9] [] (hp_h N xs zc e3 e11 e18 zm (uA (uA A 52 f) 53 s) g gh dy) (pw_qi Qi) := by
  have z0 := pz_0
  have z1 := pz_1
  have z2 := pz_2
  have z3 := pz_3
  have z4 := pz_4
  have z6 := pz_6
  have z7 := pz_7
  have z10 := pz_10
  have z11 := pz_11
  have z12 := pz_12
  have z20 := pz_20
  have z30 := pz_30
  have z50 := pz_50
  have z60 := pz_60
  have z80 := pz_80
  have z300 := pz_300
  obtain ⟨mo, hmo⟩ : ∃ mo : Int32, mo = -1 := ⟨_, rfl⟩
  have hmoT : mo.toInt = -1 := by rw [hmo]; rfl
  have hmT : (f i).toInt = (m : Int) := by rw [hfi]; exact pw_T (by omega)
  intro c
  induction c with
  | zero =>
    intro t x y s g7 g8 g9 ht hx hy rx ry hs
    obtain rfl : t = m := by omega
    have htT := pw_T (n := t) (by omega)
    refine pr_iload rfl rfl ?_
    refine pr_aload_n rfl rfl ?_
    refine pr_getf rfl rfl rfl ?_
    refine pr_iload rfl rfl ?_
    refine pr_iald (i) rfl hr_52 (by decide) (by decide) rfl (by omega) ?_
    refine pr_c_ge rfl (fun c_86 => ?_) (fun c_86 => ?_)
    · skip
      exact K x y s g7 g8 g9 hx hy rx ry hs
    · skip
      exact absurd c_86 (by omega)
  | succ c ih =>
    intro t x y s g7 g8 g9 ht hx hy rx ry hs
    have htT := pw_T (n := t) (by omega)
    obtain ⟨u, hu, huT, hul⟩ := pw_nat (x := x) (by omega)
    obtain ⟨v, hv, hvT, hvl⟩ := pw_nat (x := y) (by omega)
    have ax := pw_addT (a := x) (b := 1) (by omega) (by omega)
    have ay := pw_addT (a := y) (b := 0) (by omega) (by omega)
    refine pr_iload rfl rfl ?_
    refine pr_aload_n rfl rfl ?_
    refine pr_getf rfl rfl rfl ?_
    refine pr_iload rfl rfl ?_
    refine pr_iald (i) rfl hr_52 (by decide) (by decide) rfl (by omega) ?_
    refine pr_c_ge rfl (fun c_86 => ?_) (fun c_86 => ?_)
    · skip
      exact absurd c_86 (by omega)
    · skip
      refine pr_iload_n rfl rfl ?_
      refine pr_iload rfl rfl ?_
      refine pr_step rfl rfl rfl rfl ?_
      refine pr_push (v := 1) rfl rfl ?_
      refine pr_step rfl rfl rfl rfl ?_
      refine pr_step rfl rfl rfl rfl ?_
      refine pr_istore rfl (Nat.le_of_ble_eq_true rfl) rfl ?_
      refine pr_iload_n rfl rfl ?_
      refine pr_iload rfl rfl ?_
      refine pr_push (v := 1) rfl rfl ?_
      refine pr_step rfl rfl rfl rfl ?_
      refine pr_iload rfl rfl ?_
      refine pr_push (v := 3) rfl rfl ?_
      refine pr_step rfl rfl rfl rfl ?_
      refine pr_push (v := 0) rfl rfl ?_
      refine pr_step rfl rfl rfl rfl ?_
      refine pr_istore rfl (Nat.le_of_ble_eq_true rfl) rfl ?_
      refine pr_iload rfl rfl ?_
      refine pr_iload rfl rfl ?_
      refine pr_si2 rfl (by decide) (Nat.le_of_ble_eq_true rfl) (Nat.le_of_ble_eq_true rfl) (c_70 _ _ (x + 1) (y + 0)) (fun r_142 h_142 q_142 => ?_)
      obtain ⟨e_142, f_142⟩ := q_142
      subst f_142
      rw [e_142]
      clear e_142
      refine pr_b_ne rfl (fun c_145 => ?_) (fun c_145 => ?_)
      · skip
        refine pr_iload rfl rfl ?_
        refine pr_iload_n rfl rfl ?_
        refine pr_u_eq rfl (fun c_153 => ?_) (fun c_153 => ?_)
        · skip
          refine pr_iload rfl rfl ?_
          refine pr_istore_n rfl (Nat.le_of_ble_eq_true rfl) rfl ?_
          refine pr_iload rfl rfl ?_
          refine pr_istore_n rfl (Nat.le_of_ble_eq_true rfl) rfl ?_
          refine pr_iinc rfl rfl (pw_inc t) rfl ?_
          refine pr_step rfl rfl rfl rfl ?_
          exact ih (t + 1) _ _ s _ _ _ (by omega) (by omega) (by omega) (by omega) (by omega) (by
            intro X Y hX hY
            rw [hs X Y hX hY]
            dsimp only
            rw [wl_covE (t2 := ((t + 1 : Nat) : Int)) (by omega)])
        · skip
          exact absurd c_153 (by omega)
      · skip
        refine pr_push (v := 0) rfl rfl ?_
        exact pr_retb rfl rfl rfl (Kf (by omega) s)
set_option maxRecDepth 20000 in
theorem c_81_st1 (d : Nat) {N : Nat} {xs : Nat → Int32} {zc zm : Nat → Int32} {e3 e11 e18 : Nat} {A : Nat → Nat → Int32} {g gh : Nat → Option Nat} {dy : pw_H} (j i m : Nat) (hj : j < 4) (hi : i < 12) (hm : m ≤ 12) (f : Nat → Int32) (hfi : f i = nI m) (V : Int → Int → Bool) (px py : Int) (hp0 : (0 ≤ px ∧ px ≤ 12) ∧ 0 ≤ py ∧ py ≤ 12) (Qi : Int32 → pw_H → Prop) (Kf : ¬ ((0 ≤ px ∧ px ≤ 12) ∧ 0 ≤ py + (m : Int) ∧ py + (m : Int) ≤ 12) → ∀ s, Qi 0 (hp_h N xs zc e3 e11 e18 zm (uA (uA A 52 f) 53 s) g gh dy)) (K : ∀ (x y : Int32) (s : Nat → Int32) (g7 g8 g9 : Option pw_V), x.toInt = px → y.toInt = py + (m : Int) → (0 ≤ x.toInt ∧ x.toInt ≤ 12) → (0 ≤ y.toInt ∧ y.toInt ≤ 12) → wl_sd (fun X Y => V X Y ^^ wl_cov 1 px py m X Y) s → pw_W (d + 2) 81 209 [some (.inr (some 25)), some (.inl (nI j)), some (.inl x), some (.inl y), some (.inl (nI i)), some (.inl 1), some (.inl (nI m)), g7, g8, g9] [] (hp_h N xs zc e3 e11 e18 zm (uA (uA A 52 f) 53 s) g gh dy) (pw_qi Qi)) : ∀ (c t : Nat) (x y : Int32) (s : Nat → Int32) (g7 g8 g9 : Option pw_V), t + c = m → x.toInt = px → y.toInt = py + (t : Int) → (0 ≤ x.toInt ∧ x.toInt ≤ 12) → (0 ≤ y.toInt ∧ y.toInt ≤ 12) → wl_sd (fun X Y => V X Y ^^ wl_cov 1 px py t X Y) s → pw_W (d + 2) 81 77 [some (.inr (some 25)), some (.inl (nI j)), some (.inl x), some (.inl y), some (.inl (nI i)), some (.inl 1), some (.inl (nI t)), g7, g8, g9] [] (hp_h N xs zc e3 e11 e18 zm (uA (uA A 52 f) 53 s) g gh dy) (pw_qi Qi) := by
  have z0 := pz_0
  have z1 := pz_1
  have z2 := pz_2
  have z3 := pz_3
  have z4 := pz_4
  have z6 := pz_6
  have z7 := pz_7
  have z10 := pz_10
  have z11 := pz_11
  have z12 := pz_12
  have z20 := pz_20
  have z30 := pz_30
  have z50 := pz_50
  have z60 := pz_60
  have z80 := pz_80
  have z300 := pz_300
  obtain ⟨mo, hmo⟩ : ∃ mo : Int32, mo = -1 := ⟨_, rfl⟩
  have hmoT : mo.toInt = -1 := by rw [hmo]; rfl
  have hmT : (f i).toInt = (m : Int) := by rw [hfi]; exact pw_T (by omega)
  intro c
  induction c with
  | zero =>
    intro t x y s g7 g8 g9 ht hx hy rx ry hs
    obtain rfl : t = m := by omega
    have htT := pw_T (n := t) (by omega)
    refine pr_iload rfl rfl ?_
    refine pr_aload_n rfl rfl ?_
    refine pr_getf rfl rfl rfl ?_
    refine pr_iload rfl rfl ?_
    refine pr_iald (i) rfl hr_52 (by decide) (by decide) rfl (by omega) ?_
    refine pr_c_ge rfl (fun c_86 => ?_) (fun c_86 => ?_)
    · skip
      exact K x y s g7 g8 g9 hx hy rx ry hs
    · skip
      exact absurd c_86 (by omega)
  | succ c ih =>
    intro t x y s g7 g8 g9 ht hx hy rx ry hs
    have htT := pw_T (n := t) (by omega)
    obtain ⟨u, hu, huT, hul⟩ := pw_nat (x := x) (by omega)
    obtain ⟨v, hv, hvT, hvl⟩ := pw_nat (x := y) (by omega)
    have ax := pw_addT (a := x) (b := 0) (by omega) (by omega)
    have ay := pw_addT (a := y) (b := 1) (by omega) (by omega)
    refine pr_iload rfl rfl ?_
    refine pr_aload_n rfl rfl ?_
    refine pr_getf rfl rfl rfl ?_
    refine pr_iload rfl rfl ?_
    refine pr_iald (i) rfl hr_52 (by decide) (by decide) rfl (by omega) ?_
    refine pr_c_ge rfl (fun c_86 => ?_) (fun c_86 => ?_)
    · skip
      exact absurd c_86 (by omega)
    · skip
      refine pr_iload_n rfl rfl ?_
      refine pr_iload rfl rfl ?_
      refine pr_step rfl rfl rfl rfl ?_
      refine pr_iload rfl rfl ?_
      refine pr_push (v := 2) rfl rfl ?_
      refine pr_step rfl rfl rfl rfl ?_
      refine pr_push (v := 0) rfl rfl ?_
      refine pr_step rfl rfl rfl rfl ?_
      refine pr_istore rfl (Nat.le_of_ble_eq_true rfl) rfl ?_
      refine pr_iload_n rfl rfl ?_
      refine pr_iload rfl rfl ?_
      refine pr_push (v := 1) rfl rfl ?_
      refine pr_step rfl rfl rfl rfl ?_
      refine pr_push (v := 1) rfl rfl ?_
      refine pr_step rfl rfl rfl rfl ?_
      refine pr_step rfl rfl rfl rfl ?_
      refine pr_istore rfl (Nat.le_of_ble_eq_true rfl) rfl ?_
      refine pr_iload rfl rfl ?_
      refine pr_iload rfl rfl ?_
      refine pr_si2 rfl (by decide) (Nat.le_of_ble_eq_true rfl) (Nat.le_of_ble_eq_true rfl) (c_70 _ _ (x + 0) (y + 1)) (fun r_142 h_142 q_142 => ?_)
      obtain ⟨e_142, f_142⟩ := q_142
      subst f_142
      rw [e_142]
      clear e_142
      refine pr_b_ne rfl (fun c_145 => ?_) (fun c_145 => ?_)
      · skip
        refine pr_iload rfl rfl ?_
        refine pr_iload_n rfl rfl ?_
        refine pr_u_eq rfl (fun c_153 => ?_) (fun c_153 => ?_)
        · skip
          exact absurd c_153 (by omega)
        · skip
          refine pr_push (v := 12) rfl rfl ?_
          refine pr_iload_n rfl rfl ?_
          refine pr_step rfl rfl rfl rfl ?_
          refine pr_iload rfl rfl ?_
          refine pr_iload_n rfl rfl ?_
          refine pr_c_le rfl (fun c_163 => ?_) (fun c_163 => ?_)
          · skip
            exact absurd c_163 (by omega)
          · skip
            refine pr_iload_n rfl rfl ?_
            refine pr_step rfl rfl rfl rfl ?_
            refine pr_step rfl rfl rfl rfl ?_
            refine pr_top ((by rw [hu, hv]; exact pw_at u v : 12 * x + y = nI (12 * u + v))) ?_
            refine pr_istore rfl (Nat.le_of_ble_eq_true rfl) rfl ?_
            refine pr_aload_n rfl rfl ?_
            refine pr_getf rfl rfl rfl ?_
            refine pr_iload rfl rfl ?_
            refine pr_aload_n rfl rfl ?_
            refine pr_getf rfl rfl rfl ?_
            refine pr_iload rfl rfl ?_
            refine pr_zald (12 * u + v) rfl hr_53 (by decide) rfl (by omega) ?_
            refine pr_t_ne rfl (fun c_188 => ?_) (fun c_188 => ?_)
            · skip
              have hbb := hs u v (by omega) (by omega)
              rw [hbb] at c_188
              have BB := pw_bo_1 c_188
              clear c_188 hbb
              dsimp only at BB
              refine pr_push (v := 0) rfl rfl ?_
              refine pr_zast (12 * u + v) rfl hr_53 (by decide) rfl (by omega) rfl ht_a53 ?_
              refine pr_iload rfl rfl ?_
              refine pr_istore_n rfl (Nat.le_of_ble_eq_true rfl) rfl ?_
              refine pr_iload rfl rfl ?_
              refine pr_istore_n rfl (Nat.le_of_ble_eq_true rfl) rfl ?_
              refine pr_iinc rfl rfl (pw_inc t) rfl ?_
              refine pr_step rfl rfl rfl rfl ?_
              exact ih (t + 1) _ _ _ _ _ _ (by omega) (by omega) (by omega) (by omega) (by omega) (wl_sd_tog (X0 := u) (Y0 := v) (b := V u v ^^ wl_cov 1 px py t u v) hs (by omega) rfl (by rw [BB]; rfl) (fun X Y => by
                rw [show ((t + 1 : Nat) : Int) = (t : Int) + 1 from by omega, wl_cov1 (by omega)]
                rw [show (u : Int) = px from by omega, show (v : Int) = py + t from by omega]
                simp only [Bool.xor_assoc]))
            · skip
              have hbb := hs u v (by omega) (by omega)
              rw [hbb] at c_188
              have BB := pw_bo_0 c_188
              clear c_188 hbb
              dsimp only at BB
              refine pr_push (v := 1) rfl rfl ?_
              refine pr_step rfl rfl rfl rfl ?_
              refine pr_zast (12 * u + v) rfl hr_53 (by decide) rfl (by omega) rfl ht_a53 ?_
              refine pr_iload rfl rfl ?_
              refine pr_istore_n rfl (Nat.le_of_ble_eq_true rfl) rfl ?_
              refine pr_iload rfl rfl ?_
              refine pr_istore_n rfl (Nat.le_of_ble_eq_true rfl) rfl ?_
              refine pr_iinc rfl rfl (pw_inc t) rfl ?_
              refine pr_step rfl rfl rfl rfl ?_
              exact ih (t + 1) _ _ _ _ _ _ (by omega) (by omega) (by omega) (by omega) (by omega) (wl_sd_tog (X0 := u) (Y0 := v) (b := V u v ^^ wl_cov 1 px py t u v) hs (by omega) rfl (by rw [BB]; rfl) (fun X Y => by
                rw [show ((t + 1 : Nat) : Int) = (t : Int) + 1 from by omega, wl_cov1 (by omega)]
                rw [show (u : Int) = px from by omega, show (v : Int) = py + t from by omega]
                simp only [Bool.xor_assoc]))
      · skip
        refine pr_push (v := 0) rfl rfl ?_
        exact pr_retb rfl rfl rfl (Kf (by omega) s)
set_option maxRecDepth 20000 in
theorem c_81_st2 (d : Nat) {N : Nat} {xs : Nat → Int32} {zc zm : Nat → Int32} {e3 e11 e18 : Nat} {A : Nat → Nat → Int32} {g gh : Nat → Option Nat} {dy : pw_H} (j i m : Nat) (hj : j < 4) (hi : i < 12) (hm : m ≤ 12) (f : Nat → Int32) (hfi : f i = nI m) (V : Int → Int → Bool) (px py : Int) (hp0 : (0 ≤ px ∧ px ≤ 12) ∧ 0 ≤ py ∧ py ≤ 12) (Qi : Int32 → pw_H → Prop) (Kf : ¬ ((0 ≤ px - (m : Int) ∧ px - (m : Int) ≤ 12) ∧ 0 ≤ py ∧ py ≤ 12) → ∀ s, Qi 0 (hp_h N xs zc e3 e11 e18 zm (uA (uA A 52 f) 53 s) g gh dy)) (K : ∀ (x y : Int32) (s : Nat → Int32) (g7 g8 g9 : Option pw_V), x.toInt = px - (m : Int) → y.toInt = py → (0 ≤ x.toInt ∧ x.toInt ≤ 12) → (0 ≤ y.toInt ∧ y.toInt ≤ 12) → wl_sd (fun X Y => V X Y ^^ wl_cov 2 px py m X Y) s → pw_W (d + 2) 81 209 [some (.inr (some 25)), some (.inl (nI j)), some (.inl x), some (.inl y), some (.inl (nI i)), some (.inl 2), some (.inl (nI m)), g7, g8, g9] [] (hp_h N xs zc e3 e11 e18 zm (uA (uA A 52 f) 53 s) g gh dy) (pw_qi Qi)) : ∀ (c t : Nat) (x y : Int32) (s : Nat → Int32) (g7 g8 g9 : Option pw_V), t + c = m → x.toInt = px - (t : Int) → y.toInt = py → (0 ≤ x.toInt ∧ x.toInt ≤ 12) → (0 ≤ y.toInt ∧ y.toInt ≤ 12) → wl_sd (fun X Y => V X Y ^^ wl_cov 2 px py t X Y) s → pw_W (d + 2) 81 77 [some (.inr (some 25)), some (.inl (nI j)), some (.inl x), some (.inl y), some (.inl (nI i)), some (.inl 2), some (.inl (nI t)), g7, g8, g9] [] (hp_h N xs zc e3 e11 e18 zm (uA (uA A 52 f) 53 s) g gh dy) (pw_qi Qi) := by
  have z0 := pz_0
  have z1 := pz_1
  have z2 := pz_2
  have z3 := pz_3
  have z4 := pz_4
  have z6 := pz_6
  have z7 := pz_7
  have z10 := pz_10
  have z11 := pz_11
  have z12 := pz_12
  have z20 := pz_20
  have z30 := pz_30
  have z50 := pz_50
  have z60 := pz_60
  have z80 := pz_80
  have z300 := pz_300
  obtain ⟨mo, hmo⟩ : ∃ mo : Int32, mo = -1 := ⟨_, rfl⟩
  have hmoT : mo.toInt = -1 := by rw [hmo]; rfl
  have hmT : (f i).toInt = (m : Int) := by rw [hfi]; exact pw_T (by omega)
  intro c
  induction c with
  | zero =>
    intro t x y s g7 g8 g9 ht hx hy rx ry hs
    obtain rfl : t = m := by omega
    have htT := pw_T (n := t) (by omega)
    refine pr_iload rfl rfl ?_
    refine pr_aload_n rfl rfl ?_
    refine pr_getf rfl rfl rfl ?_
    refine pr_iload rfl rfl ?_
    refine pr_iald (i) rfl hr_52 (by decide) (by decide) rfl (by omega) ?_
    refine pr_c_ge rfl (fun c_86 => ?_) (fun c_86 => ?_)
    · skip
      exact K x y s g7 g8 g9 hx hy rx ry hs
    · skip
      exact absurd c_86 (by omega)
  | succ c ih =>
    intro t x y s g7 g8 g9 ht hx hy rx ry hs
    have htT := pw_T (n := t) (by omega)
    obtain ⟨u, hu, huT, hul⟩ := pw_nat (x := x) (by omega)
    obtain ⟨v, hv, hvT, hvl⟩ := pw_nat (x := y) (by omega)
    have ax := pw_addT (a := x) (b := mo) (by omega) (by omega)
    have ay := pw_addT (a := y) (b := 0) (by omega) (by omega)
    refine pr_iload rfl rfl ?_
    refine pr_aload_n rfl rfl ?_
    refine pr_getf rfl rfl rfl ?_
    refine pr_iload rfl rfl ?_
    refine pr_iald (i) rfl hr_52 (by decide) (by decide) rfl (by omega) ?_
    refine pr_c_ge rfl (fun c_86 => ?_) (fun c_86 => ?_)
    · skip
      exact absurd c_86 (by omega)
    · skip
      refine pr_iload_n rfl rfl ?_
      refine pr_iload rfl rfl ?_
      refine pr_step rfl rfl rfl rfl ?_
      refine pr_iload rfl rfl ?_
      refine pr_push (v := 2) rfl rfl ?_
      refine pr_step rfl rfl rfl rfl ?_
      refine pr_push (v := (-1)) rfl rfl ?_
      refine pr_top hmo.symm ?_
      refine pr_step rfl rfl rfl rfl ?_
      refine pr_step rfl rfl rfl rfl ?_
      refine pr_istore rfl (Nat.le_of_ble_eq_true rfl) rfl ?_
      refine pr_iload_n rfl rfl ?_
      refine pr_iload rfl rfl ?_
      refine pr_push (v := 1) rfl rfl ?_
      refine pr_step rfl rfl rfl rfl ?_
      refine pr_iload rfl rfl ?_
      refine pr_push (v := 3) rfl rfl ?_
      refine pr_step rfl rfl rfl rfl ?_
      refine pr_push (v := 0) rfl rfl ?_
      refine pr_step rfl rfl rfl rfl ?_
      refine pr_istore rfl (Nat.le_of_ble_eq_true rfl) rfl ?_
      refine pr_iload rfl rfl ?_
      refine pr_iload rfl rfl ?_
      refine pr_si2 rfl (by decide) (Nat.le_of_ble_eq_true rfl) (Nat.le_of_ble_eq_true rfl) (c_70 _ _ (x + mo) (y + 0)) (fun r_142 h_142 q_142 => ?_)
      obtain ⟨e_142, f_142⟩ := q_142
      subst f_142
      rw [e_142]
      clear e_142
      refine pr_b_ne rfl (fun c_145 => ?_) (fun c_145 => ?_)
      · skip
        refine pr_iload rfl rfl ?_
        refine pr_iload_n rfl rfl ?_
        refine pr_u_eq rfl (fun c_153 => ?_) (fun c_153 => ?_)
        · skip
          refine pr_iload rfl rfl ?_
          refine pr_istore_n rfl (Nat.le_of_ble_eq_true rfl) rfl ?_
          refine pr_iload rfl rfl ?_
          refine pr_istore_n rfl (Nat.le_of_ble_eq_true rfl) rfl ?_
          refine pr_iinc rfl rfl (pw_inc t) rfl ?_
          refine pr_step rfl rfl rfl rfl ?_
          exact ih (t + 1) _ _ s _ _ _ (by omega) (by omega) (by omega) (by omega) (by omega) (by
            intro X Y hX hY
            rw [hs X Y hX hY]
            dsimp only
            rw [wl_covE (t2 := ((t + 1 : Nat) : Int)) (by omega)])
        · skip
          exact absurd c_153 (by omega)
      · skip
        refine pr_push (v := 0) rfl rfl ?_
        exact pr_retb rfl rfl rfl (Kf (by omega) s)
set_option maxRecDepth 20000 in
theorem c_81_st3 (d : Nat) {N : Nat} {xs : Nat → Int32} {zc zm : Nat → Int32} {e3 e11 e18 : Nat} {A : Nat → Nat → Int32} {g gh : Nat → Option Nat} {dy : pw_H} (j i m : Nat) (hj : j < 4) (hi : i < 12) (hm : m ≤ 12) (f : Nat → Int32) (hfi : f i = nI m) (V : Int → Int → Bool) (px py : Int) (hp0 : (0 ≤ px ∧ px ≤ 12) ∧ 0 ≤ py ∧ py ≤ 12) (Qi : Int32 → pw_H → Prop) (Kf : ¬ ((0 ≤ px ∧ px ≤ 12) ∧ 0 ≤ py - (m : Int) ∧ py - (m : Int) ≤ 12) → ∀ s, Qi 0 (hp_h N xs zc e3 e11 e18 zm (uA (uA A 52 f) 53 s) g gh dy)) (K : ∀ (x y : Int32) (s : Nat → Int32) (g7 g8 g9 : Option pw_V), x.toInt = px → y.toInt = py - (m : Int) → (0 ≤ x.toInt ∧ x.toInt ≤ 12) → (0 ≤ y.toInt ∧ y.toInt ≤ 12) → wl_sd (fun X Y => V X Y ^^ wl_cov 3 px py m X Y) s → pw_W (d + 2) 81 209 [some (.inr (some 25)), some (.inl (nI j)), some (.inl x), some (.inl y), some (.inl (nI i)), some (.inl 3), some (.inl (nI m)), g7, g8, g9] [] (hp_h N xs zc e3 e11 e18 zm (uA (uA A 52 f) 53 s) g gh dy) (pw_qi Qi)) : ∀ (c t : Nat) (x y : Int32) (s : Nat → Int32) (g7 g8 g9 : Option pw_V), t + c = m → x.toInt = px → y.toInt = py - (t : Int) → (0 ≤ x.toInt ∧ x.toInt ≤ 12) → (0 ≤ y.toInt ∧ y.toInt ≤ 12) → wl_sd (fun X Y => V X Y ^^ wl_cov 3 px py t X Y) s → pw_W (d + 2) 81 77 [some (.inr (some 25)), some (.inl (nI j)), some (.inl x), some (.inl y), some (.inl (nI i)), some (.inl 3), some (.inl (nI t)), g7, g8, g9] [] (hp_h N xs zc e3 e11 e18 zm (uA (uA A 52 f) 53 s) g gh dy) (pw_qi Qi) := by
  have z0 := pz_0
  have z1 := pz_1
  have z2 := pz_2
  have z3 := pz_3
  have z4 := pz_4
  have z6 := pz_6
  have z7 := pz_7
  have z10 := pz_10
  have z11 := pz_11
  have z12 := pz_12
  have z20 := pz_20
  have z30 := pz_30
  have z50 := pz_50
  have z60 := pz_60
  have z80 := pz_80
  have z300 := pz_300
  obtain ⟨mo, hmo⟩ : ∃ mo : Int32, mo = -1 := ⟨_, rfl⟩
  have hmoT : mo.toInt = -1 := by rw [hmo]; rfl
  have hmT : (f i).toInt = (m : Int) := by rw [hfi]; exact pw_T (by omega)
  intro c
  induction c with
  | zero =>
    intro t x y s g7 g8 g9 ht hx hy rx ry hs
    obtain rfl : t = m := by omega
    have htT := pw_T (n := t) (by omega)
    refine pr_iload rfl rfl ?_
    refine pr_aload_n rfl rfl ?_
    refine pr_getf rfl rfl rfl ?_
    refine pr_iload rfl rfl ?_
    refine pr_iald (i) rfl hr_52 (by decide) (by decide) rfl (by omega) ?_
    refine pr_c_ge rfl (fun c_86 => ?_) (fun c_86 => ?_)
    · skip
      exact K x y s g7 g8 g9 hx hy rx ry hs
    · skip
      exact absurd c_86 (by omega)
  | succ c ih =>
    intro t x y s g7 g8 g9 ht hx hy rx ry hs
    have htT := pw_T (n := t) (by omega)
    obtain ⟨u, hu, huT, hul⟩ := pw_nat (x := x) (by omega)
    obtain ⟨v, hv, hvT, hvl⟩ := pw_nat (x := y) (by omega)
    have ax := pw_addT (a := x) (b := 0) (by omega) (by omega)
    have ay := pw_addT (a := y) (b := mo) (by omega) (by omega)
    refine pr_iload rfl rfl ?_
    refine pr_aload_n rfl rfl ?_
    refine pr_getf rfl rfl rfl ?_
    refine pr_iload rfl rfl ?_
    refine pr_iald (i) rfl hr_52 (by decide) (by decide) rfl (by omega) ?_
    refine pr_c_ge rfl (fun c_86 => ?_) (fun c_86 => ?_)
    · skip
      exact absurd c_86 (by omega)
    · skip
      refine pr_iload_n rfl rfl ?_
      refine pr_iload rfl rfl ?_
      refine pr_step rfl rfl rfl rfl ?_
      refine pr_iload rfl rfl ?_
      refine pr_push (v := 2) rfl rfl ?_
      refine pr_step rfl rfl rfl rfl ?_
      refine pr_push (v := 0) rfl rfl ?_
      refine pr_step rfl rfl rfl rfl ?_
      refine pr_istore rfl (Nat.le_of_ble_eq_true rfl) rfl ?_
      refine pr_iload_n rfl rfl ?_
      refine pr_iload rfl rfl ?_
      refine pr_push (v := 1) rfl rfl ?_
      refine pr_step rfl rfl rfl rfl ?_
      refine pr_iload rfl rfl ?_
      refine pr_push (v := 3) rfl rfl ?_
      refine pr_step rfl rfl rfl rfl ?_
      refine pr_push (v := (-1)) rfl rfl ?_
      refine pr_top hmo.symm ?_
      refine pr_step rfl rfl rfl rfl ?_
      refine pr_step rfl rfl rfl rfl ?_
      refine pr_istore rfl (Nat.le_of_ble_eq_true rfl) rfl ?_
      refine pr_iload rfl rfl ?_
      refine pr_iload rfl rfl ?_
      refine pr_si2 rfl (by decide) (Nat.le_of_ble_eq_true rfl) (Nat.le_of_ble_eq_true rfl) (c_70 _ _ (x + 0) (y + mo)) (fun r_142 h_142 q_142 => ?_)
      obtain ⟨e_142, f_142⟩ := q_142
      subst f_142
      rw [e_142]
      clear e_142
      refine pr_b_ne rfl (fun c_145 => ?_) (fun c_145 => ?_)
      · skip
        obtain ⟨w, hw0, hwT, hwl⟩ := pw_nat (x := y + mo) (by omega)
        refine pr_iload rfl rfl ?_
        refine pr_iload_n rfl rfl ?_
        refine pr_u_eq rfl (fun c_153 => ?_) (fun c_153 => ?_)
        · skip
          exact absurd c_153 (by omega)
        · skip
          refine pr_push (v := 12) rfl rfl ?_
          refine pr_iload_n rfl rfl ?_
          refine pr_step rfl rfl rfl rfl ?_
          refine pr_iload rfl rfl ?_
          refine pr_iload_n rfl rfl ?_
          refine pr_c_le rfl (fun c_163 => ?_) (fun c_163 => ?_)
          · skip
            refine pr_iload rfl rfl ?_
            refine pr_step rfl rfl rfl rfl ?_
            refine pr_top ((by rw [hw0, hu]; exact pw_at u w : 12 * x + (y + mo) = nI (12 * u + w))) ?_
            refine pr_istore rfl (Nat.le_of_ble_eq_true rfl) rfl ?_
            refine pr_aload_n rfl rfl ?_
            refine pr_getf rfl rfl rfl ?_
            refine pr_iload rfl rfl ?_
            refine pr_aload_n rfl rfl ?_
            refine pr_getf rfl rfl rfl ?_
            refine pr_iload rfl rfl ?_
            refine pr_zald (12 * u + w) rfl hr_53 (by decide) rfl (by omega) ?_
            refine pr_t_ne rfl (fun c_188 => ?_) (fun c_188 => ?_)
            · skip
              have hbb := hs u w (by omega) (by omega)
              rw [hbb] at c_188
              have BB := pw_bo_1 c_188
              clear c_188 hbb
              dsimp only at BB
              refine pr_push (v := 0) rfl rfl ?_
              refine pr_zast (12 * u + w) rfl hr_53 (by decide) rfl (by omega) rfl ht_a53 ?_
              refine pr_iload rfl rfl ?_
              refine pr_istore_n rfl (Nat.le_of_ble_eq_true rfl) rfl ?_
              refine pr_iload rfl rfl ?_
              refine pr_istore_n rfl (Nat.le_of_ble_eq_true rfl) rfl ?_
              refine pr_iinc rfl rfl (pw_inc t) rfl ?_
              refine pr_step rfl rfl rfl rfl ?_
              exact ih (t + 1) _ _ _ _ _ _ (by omega) (by omega) (by omega) (by omega) (by omega) (wl_sd_tog (X0 := u) (Y0 := w) (b := V u w ^^ wl_cov 3 px py t u w) hs (by omega) rfl (by rw [BB]; rfl) (fun X Y => by
                rw [show ((t + 1 : Nat) : Int) = (t : Int) + 1 from by omega, wl_cov3 (by omega)]
                rw [show (u : Int) = px from by omega, show (w : Int) = py - t - 1 from by omega]
                simp only [Bool.xor_assoc]))
            · skip
              have hbb := hs u w (by omega) (by omega)
              rw [hbb] at c_188
              have BB := pw_bo_0 c_188
              clear c_188 hbb
              dsimp only at BB
              refine pr_push (v := 1) rfl rfl ?_
              refine pr_step rfl rfl rfl rfl ?_
              refine pr_zast (12 * u + w) rfl hr_53 (by decide) rfl (by omega) rfl ht_a53 ?_
              refine pr_iload rfl rfl ?_
              refine pr_istore_n rfl (Nat.le_of_ble_eq_true rfl) rfl ?_
              refine pr_iload rfl rfl ?_
              refine pr_istore_n rfl (Nat.le_of_ble_eq_true rfl) rfl ?_
              refine pr_iinc rfl rfl (pw_inc t) rfl ?_
              refine pr_step rfl rfl rfl rfl ?_
              exact ih (t + 1) _ _ _ _ _ _ (by omega) (by omega) (by omega) (by omega) (by omega) (wl_sd_tog (X0 := u) (Y0 := w) (b := V u w ^^ wl_cov 3 px py t u w) hs (by omega) rfl (by rw [BB]; rfl) (fun X Y => by
                rw [show ((t + 1 : Nat) : Int) = (t : Int) + 1 from by omega, wl_cov3 (by omega)]
                rw [show (u : Int) = px from by omega, show (w : Int) = py - t - 1 from by omega]
                simp only [Bool.xor_assoc]))
          · skip
            exact absurd c_163 (by omega)
      · skip
        refine pr_push (v := 0) rfl rfl ?_
        exact pr_retb rfl rfl rfl (Kf (by omega) s)
end
section
theorem wl_len_b {D L U : Nat → Int} {n k : Nat} (h : wl_ok D L U n) (hf : wl_feas D L U n 0 ∧ wl_feas D L U n 1) (hk : k < n) : 1 ≤ wl_len D L U n k ∧ wl_len D L U n k ≤ 12 := by
  have hd := (h.2 k hk).1
  have hfa : wl_feas D L U n (D k % 2) := by
    have h1 : D k % 2 = 0 ∨ D k % 2 = 1 := by omega
    rcases h1 with h1 | h1 <;> rw [h1]
    · exact hf.1
    · exact hf.2
  have hkp := wl_keep h (ax := D k % 2) k (by omega) hfa
  obtain ⟨c, hc⟩ : ∃ c, n - k = c + 1 := ⟨n - k - 1, by omega⟩
  rw [hc] at hkp
  have hst := wl_step h (c := c) (i := k) (by omega) hkp rfl
  have h2 := (h.2 k hk).2
  unfold wl_len
  exact ⟨by omega, by omega⟩
theorem c_81_legs (d : Nat) {N : Nat} {xs : Nat → Int32} {zc zm : Nat → Int32} {e3 e11 e18 : Nat} {A : Nat → Nat → Int32} {g gh : Nat → Option Nat} {dy : pw_H} (j n : Nat) (hj : j < 4) (hn : A 28 j = nI n) (hw : wl_ok (md_D A j) (md_L A j) (md_U A j) n) (hx0 : 0 ≤ (A 26 j).toInt ∧ (A 26 j).toInt ≤ 12) (hy0 : 0 ≤ (A 27 j).toInt ∧ (A 27 j).toInt ≤ 12) (hfe : (wl_feas (md_D A j) (md_L A j) (md_U A j) n 0 ∧ wl_feas (md_D A j) (md_L A j) (md_U A j) n 1)) (f : Nat → Int32) (hf : ∀ k, k < n → (f k).toInt = (wl_len (md_D A j) (md_L A j) (md_U A j) n) k) : ∀ (c i : Nat) (x y : Int32) (s : Nat → Int32) (g5 g6 g7 g8 g9 : Option pw_V), i + c = n → x.toInt = wl_px (md_D A j) (wl_len (md_D A j) (md_L A j) (md_U A j) n) (A 26 j).toInt i → y.toInt = wl_py (md_D A j) (wl_len (md_D A j) (md_L A j) (md_U A j) n) (A 27 j).toInt i → ((0 ≤ x.toInt ∧ x.toInt ≤ 12) ∧ 0 ≤ y.toInt ∧ y.toInt ≤ 12) → (∀ k, k < i → (0 ≤ wl_px (md_D A j) (wl_len (md_D A j) (md_L A j) (md_U A j) n) (A 26 j).toInt (k + 1) ∧ wl_px (md_D A j) (wl_len (md_D A j) (md_L A j) (md_U A j) n) (A 26 j).toInt (k + 1) ≤ 12) ∧ 0 ≤ wl_py (md_D A j) (wl_len (md_D A j) (md_L A j) (md_U A j) n) (A 27 j).toInt (k + 1) ∧ wl_py (md_D A j) (wl_len (md_D A j) (md_L A j) (md_U A j) n) (A 27 j).toInt (k + 1) ≤ 12) → wl_sd (wl_V (md_D A j) (wl_len (md_D A j) (md_L A j) (md_U A j) n) (A 26 j).toInt (A 27 j).toInt i) s → pw_W (d + 2) 81 49 [some (.inr (some 25)), some (.inl (nI j)), some (.inl x), some (.inl y), some (.inl (nI i)), g5, g6, g7, g8, g9] [] (hp_h N xs zc e3 e11 e18 zm (uA (uA A 52 f) 53 s) g gh dy) (pw_qi (fun r h' => ∃ f s : Nat → Int32, h' = (hp_h N xs zc e3 e11 e18 zm (uA (uA A 52 f) 53 s) g gh dy) ∧ r = pw_b ((wl_feas (md_D A j) (md_L A j) (md_U A j) n 0 ∧ wl_feas (md_D A j) (md_L A j) (md_U A j) n 1) ∧ wl_land (md_D A j) (wl_len (md_D A j) (md_L A j) (md_U A j) n) (A 26 j).toInt (A 27 j).toInt n) ∧ (((wl_feas (md_D A j) (md_L A j) (md_U A j) n 0 ∧ wl_feas (md_D A j) (md_L A j) (md_U A j) n 1) ∧ wl_land (md_D A j) (wl_len (md_D A j) (md_L A j) (md_U A j) n) (A 26 j).toInt (A 27 j).toInt n) → wl_sd (wl_V (md_D A j) (wl_len (md_D A j) (md_L A j) (md_U A j) n) (A 26 j).toInt (A 27 j).toInt n) s))) := by
  have z0 := pz_0
  have z1 := pz_1
  have z2 := pz_2
  have z3 := pz_3
  have z4 := pz_4
  have z6 := pz_6
  have z7 := pz_7
  have z10 := pz_10
  have z11 := pz_11
  have z12 := pz_12
  have z20 := pz_20
  have z30 := pz_30
  have z50 := pz_50
  have z60 := pz_60
  have z80 := pz_80
  have z300 := pz_300
  have hn12 := hw.1
  have hnT : (A 28 j).toInt = (n : Int) := by rw [hn]; exact pw_T (by omega)
  intro c
  induction c with
  | zero =>
    intro i x y s g5 g6 g7 g8 g9 hi hx hy hr hla hs
    obtain rfl : i = n := by omega
    have hiT := pw_T (n := i) (by omega)
    refine pr_iload rfl rfl ?_
    refine pr_aload_n rfl rfl ?_
    refine pr_getf rfl rfl rfl ?_
    refine pr_iload_n rfl rfl ?_
    refine pr_iald (j) rfl hr_28 (by decide) (by decide) rfl (by omega) ?_
    refine pr_c_ge rfl (fun c_57 => ?_) (fun c_57 => ?_)
    · skip
      refine pr_push (v := 1) rfl rfl ?_
      exact pr_retb rfl rfl rfl (⟨f, s, rfl, by rw [pw_b1 ⟨hfe, hla⟩], fun _ => hs⟩)
    · skip
      exact absurd c_57 (by omega)
  | succ c ih =>
    intro i x y s g5 g6 g7 g8 g9 hi hx hy hr hla hs
    have hiT := pw_T (n := i) (by omega)
    have hwk : (0 ≤ (A 29 (12 * j + i)).toInt ∧ (A 29 (12 * j + i)).toInt ≤ 3) ∧ _ := hw.2 i (by omega)
    have hlb := wl_len_b hw hfe (k := i) (by omega)
    have hfi := hf i (by omega)
    obtain ⟨m, hm, hmT, -⟩ := pw_nat (x := f i) (by omega)
    refine pr_iload rfl rfl ?_
    refine pr_aload_n rfl rfl ?_
    refine pr_getf rfl rfl rfl ?_
    refine pr_iload_n rfl rfl ?_
    refine pr_iald (j) rfl hr_28 (by decide) (by decide) rfl (by omega) ?_
    refine pr_c_ge rfl (fun c_57 => ?_) (fun c_57 => ?_)
    · skip
      exact absurd c_57 (by omega)
    · skip
      refine pr_aload_n rfl rfl ?_
      refine pr_getf rfl rfl rfl ?_
      refine pr_push (v := 12) rfl rfl ?_
      refine pr_iload_n rfl rfl ?_
      refine pr_step rfl rfl rfl rfl ?_
      refine pr_iload rfl rfl ?_
      refine pr_step rfl rfl rfl rfl ?_
      refine pr_top (pw_at j i) ?_
      refine pr_iald (12 * j + i) rfl hr_29 (by decide) (by decide) rfl (by omega) ?_
      have hD : A 29 (12 * j + i) = 0 ∨ A 29 (12 * j + i) = 1 ∨ A 29 (12 * j + i) = 2 ∨ A 29 (12 * j + i) = 3 := by
        have h1 : (A 29 (12 * j + i)).toInt = 0 ∨ (A 29 (12 * j + i)).toInt = 1 ∨ (A 29 (12 * j + i)).toInt = 2 ∨ (A 29 (12 * j + i)).toInt = 3 := by omega
        rcases h1 with h1 | h1 | h1 | h1
        · exact Or.inl (Int32.toInt_inj.mp (h1.trans pz_0.symm))
        · exact Or.inr (Or.inl (Int32.toInt_inj.mp (h1.trans pz_1.symm)))
        · exact Or.inr (Or.inr (Or.inl (Int32.toInt_inj.mp (h1.trans pz_2.symm))))
        · exact Or.inr (Or.inr (Or.inr (Int32.toInt_inj.mp (h1.trans pz_3.symm))))
      rcases hD with hD | hD | hD | hD
      · refine pr_top hD ?_
        have eD : md_D A j i = 0 := by
          show (A 29 (12 * j + i)).toInt = 0
          rw [hD]; rfl
        have hml : ((m : Nat) : Int) = (wl_len (md_D A j) (md_L A j) (md_U A j) n) i := by omega
        have ex1 : wl_px (md_D A j) (wl_len (md_D A j) (md_L A j) (md_U A j) n) (A 26 j).toInt (i + 1) = wl_px (md_D A j) (wl_len (md_D A j) (md_L A j) (md_U A j) n) (A 26 j).toInt i + (m : Int) := by
          show wl_px (md_D A j) (wl_len (md_D A j) (md_L A j) (md_U A j) n) (A 26 j).toInt i + _ = _
          rw [eD]
          simp; omega
        have ey1 : wl_py (md_D A j) (wl_len (md_D A j) (md_L A j) (md_U A j) n) (A 27 j).toInt (i + 1) = wl_py (md_D A j) (wl_len (md_D A j) (md_L A j) (md_U A j) n) (A 27 j).toInt i := by
          show wl_py (md_D A j) (wl_len (md_D A j) (md_L A j) (md_U A j) n) (A 27 j).toInt i + _ = _
          rw [eD]
          simp
        refine pr_istore rfl (Nat.le_of_ble_eq_true rfl) rfl ?_
        refine pr_push (v := 0) rfl rfl ?_
        refine pr_istore rfl (Nat.le_of_ble_eq_true rfl) rfl ?_
        refine c_81_st0 d j i m hj (by omega) (by omega) f hm (wl_V (md_D A j) (wl_len (md_D A j) (md_L A j) (md_U A j) n) (A 26 j).toInt (A 27 j).toInt i) (wl_px (md_D A j) (wl_len (md_D A j) (md_L A j) (md_U A j) n) (A 26 j).toInt i) (wl_py (md_D A j) (wl_len (md_D A j) (md_L A j) (md_U A j) n) (A 27 j).toInt i) (by omega) _ (fun hno s3 => ⟨f, s3, rfl, by
          rw [pw_b0 (fun hh => hno (by
            have h3 := hh.2 i (by omega)
            rw [ex1, ey1] at h3
            exact h3))], fun hh => absurd (hh.2 i (by omega)) (fun h3 => hno (by
            rw [ex1, ey1] at h3
            exact h3))⟩) (fun x2 y2 s2 g27 g28 g29 hx2 hy2 rx2 ry2 hs2 => ?_) m 0 x y s _ _ _ (by omega) (by omega) (by omega) hr.1 hr.2 (by
          intro X Y hX hY
          rw [hs X Y hX hY]
          dsimp only
          rw [show ((0 : Nat) : Int) = 0 from rfl, wl_cov0]
          simp)
        refine pr_iinc rfl rfl (pw_inc i) rfl ?_
        refine pr_step rfl rfl rfl rfl ?_
        exact ih (i + 1) x2 y2 s2 _ _ _ _ _ (by omega) (by rw [ex1]; omega) (by rw [ey1]; omega) ⟨rx2, ry2⟩ (fun k hk => by
          by_cases hki : k = i
          · subst hki; rw [ex1, ey1]; omega
          · exact hla k (by omega)) (by
          intro X Y hX hY
          rw [hs2 X Y hX hY]
          dsimp only [wl_V]
          rw [eD, hml])
      · refine pr_top hD ?_
        have eD : md_D A j i = 1 := by
          show (A 29 (12 * j + i)).toInt = 1
          rw [hD]; rfl
        have hml : ((m : Nat) : Int) = (wl_len (md_D A j) (md_L A j) (md_U A j) n) i := by omega
        have ex1 : wl_px (md_D A j) (wl_len (md_D A j) (md_L A j) (md_U A j) n) (A 26 j).toInt (i + 1) = wl_px (md_D A j) (wl_len (md_D A j) (md_L A j) (md_U A j) n) (A 26 j).toInt i := by
          show wl_px (md_D A j) (wl_len (md_D A j) (md_L A j) (md_U A j) n) (A 26 j).toInt i + _ = _
          rw [eD]
          simp
        have ey1 : wl_py (md_D A j) (wl_len (md_D A j) (md_L A j) (md_U A j) n) (A 27 j).toInt (i + 1) = wl_py (md_D A j) (wl_len (md_D A j) (md_L A j) (md_U A j) n) (A 27 j).toInt i + (m : Int) := by
          show wl_py (md_D A j) (wl_len (md_D A j) (md_L A j) (md_U A j) n) (A 27 j).toInt i + _ = _
          rw [eD]
          simp; omega
        refine pr_istore rfl (Nat.le_of_ble_eq_true rfl) rfl ?_
        refine pr_push (v := 0) rfl rfl ?_
        refine pr_istore rfl (Nat.le_of_ble_eq_true rfl) rfl ?_
        refine c_81_st1 d j i m hj (by omega) (by omega) f hm (wl_V (md_D A j) (wl_len (md_D A j) (md_L A j) (md_U A j) n) (A 26 j).toInt (A 27 j).toInt i) (wl_px (md_D A j) (wl_len (md_D A j) (md_L A j) (md_U A j) n) (A 26 j).toInt i) (wl_py (md_D A j) (wl_len (md_D A j) (md_L A j) (md_U A j) n) (A 27 j).toInt i) (by omega) _ (fun hno s3 => ⟨f, s3, rfl, by
          rw [pw_b0 (fun hh => hno (by
            have h3 := hh.2 i (by omega)
            rw [ex1, ey1] at h3
            exact h3))], fun hh => absurd (hh.2 i (by omega)) (fun h3 => hno (by
            rw [ex1, ey1] at h3
            exact h3))⟩) (fun x2 y2 s2 g27 g28 g29 hx2 hy2 rx2 ry2 hs2 => ?_) m 0 x y s _ _ _ (by omega) (by omega) (by omega) hr.1 hr.2 (by
          intro X Y hX hY
          rw [hs X Y hX hY]
          dsimp only
          rw [show ((0 : Nat) : Int) = 0 from rfl, wl_cov0]
          simp)
        refine pr_iinc rfl rfl (pw_inc i) rfl ?_
        refine pr_step rfl rfl rfl rfl ?_
        exact ih (i + 1) x2 y2 s2 _ _ _ _ _ (by omega) (by rw [ex1]; omega) (by rw [ey1]; omega) ⟨rx2, ry2⟩ (fun k hk => by
          by_cases hki : k = i
          · subst hki; rw [ex1, ey1]; omega
          · exact hla k (by omega)) (by
          intro X Y hX hY
          rw [hs2 X Y hX hY]
          dsimp only [wl_V]
          rw [eD, hml])
      · refine pr_top hD ?_
        have eD : md_D A j i = 2 := by
          show (A 29 (12 * j + i)).toInt = 2
          rw [hD]; rfl
        have hml : ((m : Nat) : Int) = (wl_len (md_D A j) (md_L A j) (md_U A j) n) i := by omega
        have ex1 : wl_px (md_D A j) (wl_len (md_D A j) (md_L A j) (md_U A j) n) (A 26 j).toInt (i + 1) = wl_px (md_D A j) (wl_len (md_D A j) (md_L A j) (md_U A j) n) (A 26 j).toInt i - (m : Int) := by
          show wl_px (md_D A j) (wl_len (md_D A j) (md_L A j) (md_U A j) n) (A 26 j).toInt i + _ = _
          rw [eD]
          simp; omega
        have ey1 : wl_py (md_D A j) (wl_len (md_D A j) (md_L A j) (md_U A j) n) (A 27 j).toInt (i + 1) = wl_py (md_D A j) (wl_len (md_D A j) (md_L A j) (md_U A j) n) (A 27 j).toInt i := by
          show wl_py (md_D A j) (wl_len (md_D A j) (md_L A j) (md_U A j) n) (A 27 j).toInt i + _ = _
          rw [eD]
          simp
        refine pr_istore rfl (Nat.le_of_ble_eq_true rfl) rfl ?_
        refine pr_push (v := 0) rfl rfl ?_
        refine pr_istore rfl (Nat.le_of_ble_eq_true rfl) rfl ?_
        refine c_81_st2 d j i m hj (by omega) (by omega) f hm (wl_V (md_D A j) (wl_len (md_D A j) (md_L A j) (md_U A j) n) (A 26 j).toInt (A 27 j).toInt i) (wl_px (md_D A j) (wl_len (md_D A j) (md_L A j) (md_U A j) n) (A 26 j).toInt i) (wl_py (md_D A j) (wl_len (md_D A j) (md_L A j) (md_U A j) n) (A 27 j).toInt i) (by omega) _ (fun hno s3 => ⟨f, s3, rfl, by
          rw [pw_b0 (fun hh => hno (by
            have h3 := hh.2 i (by omega)
            rw [ex1, ey1] at h3
            exact h3))], fun hh => absurd (hh.2 i (by omega)) (fun h3 => hno (by
            rw [ex1, ey1] at h3
            exact h3))⟩) (fun x2 y2 s2 g27 g28 g29 hx2 hy2 rx2 ry2 hs2 => ?_) m 0 x y s _ _ _ (by omega) (by omega) (by omega) hr.1 hr.2 (by
          intro X Y hX hY
          rw [hs X Y hX hY]
          dsimp only
          rw [show ((0 : Nat) : Int) = 0 from rfl, wl_cov0]
          simp)
        refine pr_iinc rfl rfl (pw_inc i) rfl ?_
        refine pr_step rfl rfl rfl rfl ?_
        exact ih (i + 1) x2 y2 s2 _ _ _ _ _ (by omega) (by rw [ex1]; omega) (by rw [ey1]; omega) ⟨rx2, ry2⟩ (fun k hk => by
          by_cases hki : k = i
          · subst hki; rw [ex1, ey1]; omega
          · exact hla k (by omega)) (by
          intro X Y hX hY
          rw [hs2 X Y hX hY]
          dsimp only [wl_V]
          rw [eD, hml])
      · refine pr_top hD ?_
        have eD : md_D A j i = 3 := by
          show (A 29 (12 * j + i)).toInt = 3
          rw [hD]; rfl
        have hml : ((m : Nat) : Int) = (wl_len (md_D A j) (md_L A j) (md_U A j) n) i := by omega
        have ex1 : wl_px (md_D A j) (wl_len (md_D A j) (md_L A j) (md_U A j) n) (A 26 j).toInt (i + 1) = wl_px (md_D A j) (wl_len (md_D A j) (md_L A j) (md_U A j) n) (A 26 j).toInt i := by
          show wl_px (md_D A j) (wl_len (md_D A j) (md_L A j) (md_U A j) n) (A 26 j).toInt i + _ = _
          rw [eD]
          simp
        have ey1 : wl_py (md_D A j) (wl_len (md_D A j) (md_L A j) (md_U A j) n) (A 27 j).toInt (i + 1) = wl_py (md_D A j) (wl_len (md_D A j) (md_L A j) (md_U A j) n) (A 27 j).toInt i - (m : Int) := by
          show wl_py (md_D A j) (wl_len (md_D A j) (md_L A j) (md_U A j) n) (A 27 j).toInt i + _ = _
          rw [eD]
          simp; omega
        refine pr_istore rfl (Nat.le_of_ble_eq_true rfl) rfl ?_
        refine pr_push (v := 0) rfl rfl ?_
        refine pr_istore rfl (Nat.le_of_ble_eq_true rfl) rfl ?_
        refine c_81_st3 d j i m hj (by omega) (by omega) f hm (wl_V (md_D A j) (wl_len (md_D A j) (md_L A j) (md_U A j) n) (A 26 j).toInt (A 27 j).toInt i) (wl_px (md_D A j) (wl_len (md_D A j) (md_L A j) (md_U A j) n) (A 26 j).toInt i) (wl_py (md_D A j) (wl_len (md_D A j) (md_L A j) (md_U A j) n) (A 27 j).toInt i) (by omega) _ (fun hno s3 => ⟨f, s3, rfl, by
          rw [pw_b0 (fun hh => hno (by
            have h3 := hh.2 i (by omega)
            rw [ex1, ey1] at h3
            exact h3))], fun hh => absurd (hh.2 i (by omega)) (fun h3 => hno (by
            rw [ex1, ey1] at h3
            exact h3))⟩) (fun x2 y2 s2 g27 g28 g29 hx2 hy2 rx2 ry2 hs2 => ?_) m 0 x y s _ _ _ (by omega) (by omega) (by omega) hr.1 hr.2 (by
          intro X Y hX hY
          rw [hs X Y hX hY]
          dsimp only
          rw [show ((0 : Nat) : Int) = 0 from rfl, wl_cov0]
          simp)
        refine pr_iinc rfl rfl (pw_inc i) rfl ?_
        refine pr_step rfl rfl rfl rfl ?_
        exact ih (i + 1) x2 y2 s2 _ _ _ _ _ (by omega) (by rw [ex1]; omega) (by rw [ey1]; omega) ⟨rx2, ry2⟩ (fun k hk => by
          by_cases hki : k = i
          · subst hki; rw [ex1, ey1]; omega
          · exact hla k (by omega)) (by
          intro X Y hX hY
          rw [hs2 X Y hX hY]
          dsimp only [wl_V]
          rw [eD, hml])
end
section
section HR2
variable {N : Nat} {xs : Nat → Int32} {zc zm : Nat → Int32} {e3 e11 e18 : Nat} {A : Nat → Nat → Int32} {g gh : Nat → Option Nat} {dy : pw_H} {f s : Nat → Int32}
theorem hq_53 : (hp_h N xs zc e3 e11 e18 zm (uA A 53 s) g gh dy)[53]? = some (.inl (1, 156, s)) := rfl
end HR2
theorem pz_156 : (156 : Int32).toInt = 156 := rfl
theorem c_81_clr (d : Nat) {N : Nat} {xs : Nat → Int32} {zc zm : Nat → Int32} {e3 e11 e18 : Nat} {A : Nat → Nat → Int32} {g gh : Nat → Option Nat} {dy : pw_H} (j : Nat) (Q : Option pw_V → pw_H → Prop) (K : ∀ (s : Nat → Int32) (x : Int32) (g3 g4 g5 g6 g7 g8 g9 : Option pw_V), (∀ k, k < 156 → s k = 0) → pw_W (d + 2) 81 22 [some (.inr (some 25)), some (.inl (nI j)), some (.inl x), g3, g4, g5, g6, g7, g8, g9] [] (hp_h N xs zc e3 e11 e18 zm (uA A 53 s) g gh dy) Q) (g3 g4 g5 g6 g7 g8 g9 : Option pw_V) : ∀ (c k : Nat) (s : Nat → Int32), k + c = 156 → (∀ q, q < k → s q = 0) → pw_W (d + 2) 81 2 [some (.inr (some 25)), some (.inl (nI j)), some (.inl (nI k)), g3, g4, g5, g6, g7, g8, g9] [] (hp_h N xs zc e3 e11 e18 zm (uA A 53 s) g gh dy) Q := by
  have z156 := pz_156
  intro c
  induction c with
  | zero =>
    intro k s hk hs
    obtain rfl : k = 156 := by omega
    have hkT := pw_T (n := 156) (by omega)
    refine pr_iload_n rfl rfl ?_
    refine pr_push (v := 156) rfl rfl ?_
    refine pr_c_ge rfl (fun c_6 => ?_) (fun c_6 => ?_)
    · skip
      exact K s _ g3 g4 g5 g6 g7 g8 g9 hs
    · skip
      exact absurd c_6 (by omega)
  | succ c ih =>
    intro k s hk hs
    have hkT := pw_T (n := k) (by omega)
    refine pr_iload_n rfl rfl ?_
    refine pr_push (v := 156) rfl rfl ?_
    refine pr_c_ge rfl (fun c_6 => ?_) (fun c_6 => ?_)
    · skip
      exact absurd c_6 (by omega)
    · skip
      refine pr_aload_n rfl rfl ?_
      refine pr_getf rfl rfl rfl ?_
      refine pr_iload_n rfl rfl ?_
      refine pr_push (v := 0) rfl rfl ?_
      refine pr_zast (k) rfl hq_53 (by decide) rfl (by omega) rfl ht_a53 ?_
      refine pr_iinc rfl rfl (pw_inc k) rfl ?_
      refine pr_step rfl rfl rfl rfl ?_
      exact ih (k + 1) _ (by omega) (fun q hq => by
        by_cases hqk : q = k
        · rw [hqk, pk_us]
        · rw [pk_un hqk]; exact hs q (by omega))
theorem c_81 (d : Nat) {N : Nat} {xs : Nat → Int32} {zc zm : Nat → Int32} {e3 e11 e18 : Nat} {A : Nat → Nat → Int32} {g gh : Nat → Option Nat} {dy : pw_H} (j n : Nat) (hj : j < 4) (hn : A 28 j = nI n) (hw : wl_ok (md_D A j) (md_L A j) (md_U A j) n) (hx0 : 0 ≤ (A 26 j).toInt ∧ (A 26 j).toInt ≤ 12) (hy0 : 0 ≤ (A 27 j).toInt ∧ (A 27 j).toInt ≤ 12) : pw_M (d + 2) 81 [.inr (some 25), .inl (nI j)] (hp_h N xs zc e3 e11 e18 zm A g gh dy) (pw_qi (fun r h' => ∃ f s : Nat → Int32, h' = (hp_h N xs zc e3 e11 e18 zm (uA (uA A 52 f) 53 s) g gh dy) ∧ r = pw_b ((wl_feas (md_D A j) (md_L A j) (md_U A j) n 0 ∧ wl_feas (md_D A j) (md_L A j) (md_U A j) n 1) ∧ wl_land (md_D A j) (wl_len (md_D A j) (md_L A j) (md_U A j) n) (A 26 j).toInt (A 27 j).toInt n) ∧ (((wl_feas (md_D A j) (md_L A j) (md_U A j) n 0 ∧ wl_feas (md_D A j) (md_L A j) (md_U A j) n 1) ∧ wl_land (md_D A j) (wl_len (md_D A j) (md_L A j) (md_U A j) n) (A 26 j).toInt (A 27 j).toInt n) → wl_sd (wl_V (md_D A j) (wl_len (md_D A j) (md_L A j) (md_U A j) n) (A 26 j).toInt (A 27 j).toInt n) s))) := by
  refine pr_push (v := 0) rfl rfl ?_
  refine pr_istore_n rfl (Nat.le_of_ble_eq_true rfl) rfl ?_
  refine pr_heap (show (hp_h N xs zc e3 e11 e18 zm A g gh dy) = (hp_h N xs zc e3 e11 e18 zm (uA A 53 (A 53)) g gh dy) by rw [uA_self]) ?_
  refine c_81_clr d j _ (fun s x g3 g4 g5 g6 g7 g8 g9 hs0 => ?_) _ _ _ _ _ _ _ 156 0 (A 53) (by omega) (fun q hq => absurd hq (Nat.not_lt_zero q))
  refine pr_aload_n rfl rfl ?_
  refine pr_iload_n rfl rfl ?_
  refine pr_vi1 rfl (by decide) (Nat.le_of_ble_eq_true rfl) rfl (Nat.le_of_ble_eq_true rfl) (c_79 (A := uA A 53 s) _ j n hj hn hw) (fun r_24 h_24 q_24 => ?_)
  obtain ⟨e_24, f, eh_24, hfl⟩ := q_24
  subst eh_24
  refine pr_heap (show (hp_h N xs zc e3 e11 e18 zm (uA (uA A 53 s) 52 f) g gh dy) = (hp_h N xs zc e3 e11 e18 zm (uA (uA A 52 f) 53 s) g gh dy) by rw [uA_comm A (by decide)]) ?_
  rw [show r_24 = pw_b (wl_feas (md_D A j) (md_L A j) (md_U A j) n 0 ∧ wl_feas (md_D A j) (md_L A j) (md_U A j) n 1) from e_24]
  clear e_24
  refine pr_b_ne rfl (fun c_27 => ?_) (fun c_27 => ?_)
  · skip
    have hfk : ∀ k, k < n → (f k).toInt = (wl_len (md_D A j) (md_L A j) (md_U A j) n) k := hfl c_27
    refine pr_aload_n rfl rfl ?_
    refine pr_getf rfl rfl rfl ?_
    refine pr_iload_n rfl rfl ?_
    refine pr_iald (j) rfl hr_26 (by decide) (by decide) rfl (by omega) ?_
    refine pr_istore_n rfl (Nat.le_of_ble_eq_true rfl) rfl ?_
    refine pr_aload_n rfl rfl ?_
    refine pr_getf rfl rfl rfl ?_
    refine pr_iload_n rfl rfl ?_
    refine pr_iald (j) rfl hr_27 (by decide) (by decide) rfl (by omega) ?_
    refine pr_istore_n rfl (Nat.le_of_ble_eq_true rfl) rfl ?_
    refine pr_push (v := 0) rfl rfl ?_
    refine pr_istore rfl (Nat.le_of_ble_eq_true rfl) rfl ?_
    exact c_81_legs d j n hj hn hw hx0 hy0 c_27 f hfk n 0 _ _ s _ _ _ _ _ (by omega) rfl rfl ⟨hx0, hy0⟩ (fun k hk => absurd hk (Nat.not_lt_zero k)) (fun X Y hX hY => by rw [hs0 _ (by omega)]; rfl)
  · skip
    refine pr_push (v := 0) rfl rfl ?_
    exact pr_retb rfl rfl rfl (⟨f, s, rfl, by rw [pw_b0 (fun hh => c_27 hh.1)], fun hh => absurd hh.1 c_27⟩)
end
section
/-- inside: the sides to the left of a field's middle, up to column x - 1 -/
def wl_pf (V : Int → Int → Bool) (y : Int) : Nat → Bool
  | 0 => false
  | x + 1 => wl_pf V y x ^^ V x y
def wl_rc (V : Int → Int → Bool) (y : Int) : Nat → Nat
  | 0 => 0
  | x + 1 => wl_rc V y x + (if wl_pf V y (x + 1) then 1 else 0)
def wl_ct (V : Int → Int → Bool) : Nat → Nat
  | 0 => 0
  | y + 1 => wl_ct V y + wl_rc V y 12
theorem wl_rc_le (V : Int → Int → Bool) (y : Int) : ∀ x, wl_rc V y x ≤ x
  | 0 => Nat.le_refl 0
  | x + 1 => by
    have h := wl_rc_le V y x
    unfold wl_rc
    split <;> omega
theorem wl_ct_le (V : Int → Int → Bool) : ∀ y, wl_ct V y ≤ 12 * y
  | 0 => Nat.le_refl 0
  | y + 1 => by
    have h := wl_ct_le V y
    have h2 := wl_rc_le V y 12
    unfold wl_ct
    omega
/-- the claims with the fields of the first y rows and x of row y laid -/
def wl_cl (V : Int → Int → Bool) (p : Int32) (q0 q : Nat → Int32) (y x : Nat) : Prop := ∀ Y X : Nat, Y < 12 → X < 12 → q (12 * Y + X) = if Y < y ∨ (Y = y ∧ X < x) then q0 (12 * Y + X) ||| (if wl_pf V Y (X + 1) then 1 <<< (p &&& 31) else 0) else q0 (12 * Y + X)
theorem pw_bo_eq {a b : Bool} (h : (pw_bo a).toInt = (pw_bo b).toInt) : (a ^^ b) = false := by
  cases a <;> cases b <;> first | rfl | exact absurd h (by decide)
theorem pw_bo_ne {a b : Bool} (h : ¬ (pw_bo a).toInt = (pw_bo b).toInt) : (a ^^ b) = true := by
  cases a <;> cases b <;> first | rfl | exact absurd rfl h
theorem wl_ifc {p q : Prop} [Decidable p] [Decidable q] {a b : Int32} (h : p ↔ q) (_ : a = a) (_ : b = b) : (if p then a else b) = if q then a else b := by
  by_cases hp : p
  · rw [if_pos hp, if_pos (h.mp hp)]
  · rw [if_neg hp, if_neg (fun hq => hp (h.mpr hq))]
theorem pr_L {d M pc : Nat} {L L1 : pw_L} {st : List pw_V} {h : pw_H} {Q : Option pw_V → pw_H → Prop} (e : L = L1) (k : pw_W d M pc L1 st h Q) : pw_W d M pc L st h Q := by rw [e]; exact k
section HR3
variable {N : Nat} {xs : Nat → Int32} {zc zm : Nat → Int32} {e3 e11 e18 : Nat} {A : Nat → Nat → Int32} {g gh : Nat → Option Nat} {dy : pw_H} {q : Nat → Int32}
theorem hv_53 : (hp_h N xs zc e3 e11 e18 zm (uA A 54 q) g gh dy)[53]? = some (.inl (1, 156, A 53)) := rfl
theorem hv_54 : (hp_h N xs zc e3 e11 e18 zm (uA A 54 q) g gh dy)[54]? = some (.inl (0, 144, q)) := rfl
end HR3
theorem c_82_x (d : Nat) {N : Nat} {xs : Nat → Int32} {zc zm : Nat → Int32} {e3 e11 e18 : Nat} {A : Nat → Nat → Int32} {g gh : Nat → Option Nat} {dy : pw_H} (V : Int → Int → Bool) (hV : wl_sd V (A 53)) (p : Int32) (q0 : Nat → Int32) (y : Nat) (hy : y < 12) (Q : Option pw_V → pw_H → Prop) (K : ∀ (q : Nat → Int32) (g4 g5 : Option pw_V), wl_cl V p q0 q (y + 1) 0 → pw_W (d + 3) 82 103 [some (.inr (some 25)), some (.inl p), some (.inl (nI (wl_ct V (y + 1)))), some (.inl (nI y)), g4, g5] [] (hp_h N xs zc e3 e11 e18 zm (uA A 54 q) g gh dy) Q) : ∀ (k x : Nat) (q : Nat → Int32), x + k = 12 → wl_cl V p q0 q y x → pw_W (d + 3) 82 26 [some (.inr (some 25)), some (.inl p), some (.inl (nI (wl_ct V y + wl_rc V y x))), some (.inl (nI y)), some (.inl (pw_bo (wl_pf V y x))), some (.inl (nI x))] [] (hp_h N xs zc e3 e11 e18 zm (uA A 54 q) g gh dy) Q := by
  have z12 := pz_12
  have hyT := pw_T (n := y) (by omega)
  intro k
  induction k with
  | zero =>
    intro x q hx hq
    obtain rfl : x = 12 := by omega
    have hxT := pw_T (n := 12) (by omega)
    refine pr_iload rfl rfl ?_
    refine pr_push (v := 12) rfl rfl ?_
    refine pr_c_ge rfl (fun c_30 => ?_) (fun c_30 => ?_)
    · skip
      exact K q _ _ (fun Y X hY hX => (hq Y X hY hX).trans (wl_ifc (by omega) rfl rfl))
    · skip
      exact absurd c_30 (by omega)
  | succ k ih =>
    intro x q hx hq
    have hxT := pw_T (n := x) (by omega)
    have hcl : wl_ct V y ≤ 144 := by have := wl_ct_le V y; omega
    refine pr_iload rfl rfl ?_
    refine pr_push (v := 12) rfl rfl ?_
    refine pr_c_ge rfl (fun c_30 => ?_) (fun c_30 => ?_)
    · skip
      exact absurd c_30 (by omega)
    · skip
      refine pr_iload rfl rfl ?_
      refine pr_aload_n rfl rfl ?_
      refine pr_getf rfl rfl rfl ?_
      refine pr_push (v := 12) rfl rfl ?_
      refine pr_iload rfl rfl ?_
      refine pr_step rfl rfl rfl rfl ?_
      refine pr_iload_n rfl rfl ?_
      refine pr_step rfl rfl rfl rfl ?_
      refine pr_top (pw_at x y) ?_
      refine pr_zald (12 * x + y) rfl hv_53 (by decide) rfl (by omega) ?_
      refine pr_u_eq rfl (fun c_47 => ?_) (fun c_47 => ?_)
      · skip
        rw [hV x y (by omega) hy] at c_47
        have BP : wl_pf V y (x + 1) = false := pw_bo_eq c_47
        clear c_47
        refine pr_push (v := 0) rfl rfl ?_
        refine pr_istore rfl (Nat.le_of_ble_eq_true rfl) rfl ?_
        refine pr_aload_n rfl rfl ?_
        refine pr_getf rfl rfl rfl ?_
        refine pr_push (v := 12) rfl rfl ?_
        refine pr_iload_n rfl rfl ?_
        refine pr_step rfl rfl rfl rfl ?_
        refine pr_iload rfl rfl ?_
        refine pr_step rfl rfl rfl rfl ?_
        refine pr_top (pw_at y x) ?_
        refine pr_step rfl rfl rfl rfl ?_
        refine pr_iald (12 * y + x) rfl hv_54 (by decide) (by decide) rfl (by omega) ?_
        refine pr_iload rfl rfl ?_
        refine pr_step rfl rfl rfl rfl ?_
        refine pr_push (v := 0) rfl rfl ?_
        refine pr_step rfl rfl rfl rfl ?_
        refine pr_iast (12 * y + x) rfl hv_54 (by decide) rfl (by omega) ht_a54 ?_
        refine pr_iload_n rfl rfl ?_
        refine pr_iload rfl rfl ?_
        refine pr_step rfl rfl rfl rfl ?_
        refine pr_push (v := 0) rfl rfl ?_
        refine pr_step rfl rfl rfl rfl ?_
        refine pr_istore_n rfl (Nat.le_of_ble_eq_true rfl) rfl ?_
        refine pr_iinc rfl rfl (pw_inc x) rfl ?_
        refine pr_step rfl rfl rfl rfl ?_
        have hc1 : nI (wl_ct V y + wl_rc V y (x + 1)) = nI (wl_ct V y + wl_rc V y x) + (if wl_pf V y (x + 1) then 1 else 0) := by
          rw [wl_rc, BP]
          first | (rw [if_pos rfl, if_pos rfl]; exact (nI_1 _).symm) | (rw [if_neg Bool.false_ne_true, if_neg Bool.false_ne_true]; exact (Int32.add_zero _).symm)
        rw [BP] at hc1
        refine pr_L (show _ = [some (.inr (some 25)), some (.inl p), some (.inl (nI (wl_ct V y + wl_rc V y (x + 1)))), some (.inl (nI y)), some (.inl (pw_bo (wl_pf V y (x + 1)))), some (.inl (nI (x + 1)))] from by rw [hc1, BP]; rfl) ?_
        refine ih (x + 1) (upd q (12 * y + x) _) (by omega) (fun Y X hY hX => ?_)
        by_cases he : 12 * Y + X = 12 * y + x
        · have hYX : Y = y ∧ X = x := by omega
          rw [he, pk_us, ← he, hq Y X hY hX, if_neg (by omega), hYX.1, hYX.2, if_pos (show y < y ∨ y = y ∧ x < x + 1 by omega), BP]
          rfl
        · rw [pk_un he, hq Y X hY hX]
          exact wl_ifc (by omega) rfl rfl
      · skip
        rw [hV x y (by omega) hy] at c_47
        have BP : wl_pf V y (x + 1) = true := pw_bo_ne c_47
        clear c_47
        refine pr_push (v := 1) rfl rfl ?_
        refine pr_step rfl rfl rfl rfl ?_
        refine pr_istore rfl (Nat.le_of_ble_eq_true rfl) rfl ?_
        refine pr_aload_n rfl rfl ?_
        refine pr_getf rfl rfl rfl ?_
        refine pr_push (v := 12) rfl rfl ?_
        refine pr_iload_n rfl rfl ?_
        refine pr_step rfl rfl rfl rfl ?_
        refine pr_iload rfl rfl ?_
        refine pr_step rfl rfl rfl rfl ?_
        refine pr_top (pw_at y x) ?_
        refine pr_step rfl rfl rfl rfl ?_
        refine pr_iald (12 * y + x) rfl hv_54 (by decide) (by decide) rfl (by omega) ?_
        refine pr_iload rfl rfl ?_
        refine pr_step rfl rfl rfl rfl ?_
        refine pr_push (v := 1) rfl rfl ?_
        refine pr_iload_n rfl rfl ?_
        refine pr_step rfl rfl rfl rfl ?_
        refine pr_step rfl rfl rfl rfl ?_
        refine pr_step rfl rfl rfl rfl ?_
        refine pr_iast (12 * y + x) rfl hv_54 (by decide) rfl (by omega) ht_a54 ?_
        refine pr_iload_n rfl rfl ?_
        refine pr_iload rfl rfl ?_
        refine pr_step rfl rfl rfl rfl ?_
        refine pr_push (v := 1) rfl rfl ?_
        refine pr_step rfl rfl rfl rfl ?_
        refine pr_step rfl rfl rfl rfl ?_
        refine pr_istore_n rfl (Nat.le_of_ble_eq_true rfl) rfl ?_
        refine pr_iinc rfl rfl (pw_inc x) rfl ?_
        refine pr_step rfl rfl rfl rfl ?_
        have hc1 : nI (wl_ct V y + wl_rc V y (x + 1)) = nI (wl_ct V y + wl_rc V y x) + (if wl_pf V y (x + 1) then 1 else 0) := by
          rw [wl_rc, BP]
          first | (rw [if_pos rfl, if_pos rfl]; exact (nI_1 _).symm) | (rw [if_neg Bool.false_ne_true, if_neg Bool.false_ne_true]; exact (Int32.add_zero _).symm)
        rw [BP] at hc1
        refine pr_L (show _ = [some (.inr (some 25)), some (.inl p), some (.inl (nI (wl_ct V y + wl_rc V y (x + 1)))), some (.inl (nI y)), some (.inl (pw_bo (wl_pf V y (x + 1)))), some (.inl (nI (x + 1)))] from by rw [hc1, BP]; rfl) ?_
        refine ih (x + 1) (upd q (12 * y + x) _) (by omega) (fun Y X hY hX => ?_)
        by_cases he : 12 * Y + X = 12 * y + x
        · have hYX : Y = y ∧ X = x := by omega
          rw [he, pk_us, ← he, hq Y X hY hX, if_neg (by omega), hYX.1, hYX.2, if_pos (show y < y ∨ y = y ∧ x < x + 1 by omega), BP]
          rfl
        · rw [pk_un he, hq Y X hY hX]
          exact wl_ifc (by omega) rfl rfl
end
section
theorem c_82_y (d : Nat) {N : Nat} {xs : Nat → Int32} {zc zm : Nat → Int32} {e3 e11 e18 : Nat} {A : Nat → Nat → Int32} {g gh : Nat → Option Nat} {dy : pw_H} (V : Int → Int → Bool) (hV : wl_sd V (A 53)) (p : Int32) (q0 : Nat → Int32) : ∀ (k y : Nat) (q : Nat → Int32) (g4 g5 : Option pw_V), y + k = 12 → wl_cl V p q0 q y 0 → pw_W (d + 3) 82 14 [some (.inr (some 25)), some (.inl p), some (.inl (nI (wl_ct V y))), some (.inl (nI y)), g4, g5] [] (hp_h N xs zc e3 e11 e18 zm (uA A 54 q) g gh dy) (pw_qi (fun r h' => r = nI (wl_ct V 12) ∧ ∃ q, h' = (hp_h N xs zc e3 e11 e18 zm (uA A 54 q) g gh dy) ∧ wl_cl V p q0 q 12 0)) := by
  have z12 := pz_12
  intro k
  induction k with
  | zero =>
    intro y q g4 g5 hy hq
    obtain rfl : y = 12 := by omega
    have hyT := pw_T (n := 12) (by omega)
    refine pr_iload_n rfl rfl ?_
    refine pr_push (v := 12) rfl rfl ?_
    refine pr_c_ge rfl (fun c_17 => ?_) (fun c_17 => ?_)
    · skip
      refine pr_iload_n rfl rfl ?_
      exact pr_reti rfl rfl (⟨rfl, q, rfl, hq⟩)
    · skip
      exact absurd c_17 (by omega)
  | succ k ih =>
    intro y q g4 g5 hy hq
    have hyT := pw_T (n := y) (by omega)
    refine pr_iload_n rfl rfl ?_
    refine pr_push (v := 12) rfl rfl ?_
    refine pr_c_ge rfl (fun c_17 => ?_) (fun c_17 => ?_)
    · skip
      exact absurd c_17 (by omega)
    · skip
      refine pr_push (v := 0) rfl rfl ?_
      refine pr_istore rfl (Nat.le_of_ble_eq_true rfl) rfl ?_
      refine pr_push (v := 0) rfl rfl ?_
      refine pr_istore rfl (Nat.le_of_ble_eq_true rfl) rfl ?_
      refine c_82_x d V hV p q0 y (by omega) _ (fun q2 g24 g25 hq2 => ?_) 12 0 q (by omega) hq
      refine pr_iinc rfl rfl (pw_inc y) rfl ?_
      refine pr_step rfl rfl rfl rfl ?_
      exact ih (y + 1) q2 _ _ (by omega) hq2
theorem c_82 (d : Nat) {N : Nat} {xs : Nat → Int32} {zc zm : Nat → Int32} {e3 e11 e18 : Nat} {A : Nat → Nat → Int32} {g gh : Nat → Option Nat} {dy : pw_H} (j n : Nat) (hj : j < 4) (hn : A 28 j = nI n) (hw : wl_ok (md_D A j) (md_L A j) (md_U A j) n) (hx0 : 0 ≤ (A 26 j).toInt ∧ (A 26 j).toInt ≤ 12) (hy0 : 0 ≤ (A 27 j).toInt ∧ (A 27 j).toInt ≤ 12) : pw_M (d + 3) 82 [.inr (some 25), .inl (nI j)] (hp_h N xs zc e3 e11 e18 zm A g gh dy) (pw_qi (fun r h' => (¬ ((wl_feas (md_D A j) (md_L A j) (md_U A j) n 0 ∧ wl_feas (md_D A j) (md_L A j) (md_U A j) n 1) ∧ wl_land (md_D A j) (wl_len (md_D A j) (md_L A j) (md_U A j) n) (A 26 j).toInt (A 27 j).toInt n) ∧ r = -1 ∧ ∃ f s : Nat → Int32, h' = (hp_h N xs zc e3 e11 e18 zm (uA (uA A 52 f) 53 s) g gh dy)) ∨ (((wl_feas (md_D A j) (md_L A j) (md_U A j) n 0 ∧ wl_feas (md_D A j) (md_L A j) (md_U A j) n 1) ∧ wl_land (md_D A j) (wl_len (md_D A j) (md_L A j) (md_U A j) n) (A 26 j).toInt (A 27 j).toInt n) ∧ r = nI (wl_ct (wl_V (md_D A j) (wl_len (md_D A j) (md_L A j) (md_U A j) n) (A 26 j).toInt (A 27 j).toInt n) 12) ∧ ∃ f s q : Nat → Int32, h' = (hp_h N xs zc e3 e11 e18 zm (uA (uA (uA A 52 f) 53 s) 54 q) g gh dy) ∧ wl_cl (wl_V (md_D A j) (wl_len (md_D A j) (md_L A j) (md_U A j) n) (A 26 j).toInt (A 27 j).toInt n) (nI j) (A 54) q 12 0))) := by
  refine pr_aload_n rfl rfl ?_
  refine pr_iload_n rfl rfl ?_
  refine pr_vi1 rfl (by decide) (Nat.le_of_ble_eq_true rfl) rfl (Nat.le_of_ble_eq_true rfl) (c_81 _ j n hj hn hw hx0 hy0) (fun r_2 h_2 q_2 => ?_)
  obtain ⟨f, s, e1_2, e2_2, hsd⟩ := q_2
  subst e1_2
  subst e2_2
  refine pr_b_ne rfl (fun c_5 => ?_) (fun c_5 => ?_)
  · skip
    refine pr_push (v := 0) rfl rfl ?_
    refine pr_istore_n rfl (Nat.le_of_ble_eq_true rfl) rfl ?_
    refine pr_push (v := 0) rfl rfl ?_
    refine pr_istore_n rfl (Nat.le_of_ble_eq_true rfl) rfl ?_
    refine pr_heap (show (hp_h N xs zc e3 e11 e18 zm (uA (uA A 52 f) 53 s) g gh dy) = (hp_h N xs zc e3 e11 e18 zm (uA (uA (uA A 52 f) 53 s) 54 (A 54)) g gh dy) by rw [← uA_self (uA (uA A 52 f) 53 s) 54]; rfl) ?_
    refine pr_post (c_82_y (A := uA (uA A 52 f) 53 s) d (wl_V (md_D A j) (wl_len (md_D A j) (md_L A j) (md_U A j) n) (A 26 j).toInt (A 27 j).toInt n) (hsd c_5) (nI j) (A 54) 12 0 (A 54) _ _ (by omega) (fun Y X hY hX => (if_neg (by omega)).symm)) (fun r h1 hq => ?_)
    obtain ⟨x, e1, e2, q, e3, e4⟩ := hq
    exact ⟨x, e1, Or.inr ⟨c_5, e2, f, s, q, e3, e4⟩⟩
  · skip
    refine pr_push (v := (-1)) rfl rfl ?_
    exact pr_reti rfl rfl (Or.inl ⟨c_5, rfl, f, s, rfl⟩)
end
section
/-- parish j of the model: its legs' number, its legs, its start -/
def md_par (A : Nat → Nat → Int32) (j n : Nat) : Prop := A 28 j = nI n ∧ wl_ok (md_D A j) (md_L A j) (md_U A j) n ∧ (0 ≤ (A 26 j).toInt ∧ (A 26 j).toInt ≤ 12) ∧ 0 ≤ (A 27 j).toInt ∧ (A 27 j).toInt ≤ 12
abbrev md_ring (A : Nat → Nat → Int32) (j n : Nat) : Prop := ((wl_feas (md_D A j) (md_L A j) (md_U A j) n 0 ∧ wl_feas (md_D A j) (md_L A j) (md_U A j) n 1) ∧ wl_land (md_D A j) (wl_len (md_D A j) (md_L A j) (md_U A j) n) (A 26 j).toInt (A 27 j).toInt n)
abbrev md_V (A : Nat → Nat → Int32) (j n : Nat) : Int → Int → Bool := wl_V (md_D A j) (wl_len (md_D A j) (md_L A j) (md_U A j) n) (A 26 j).toInt (A 27 j).toInt n
theorem pz_144b : (144 : Int32).toInt = 144 := rfl
theorem c_83 (d : Nat) {N : Nat} {xs : Nat → Int32} {zc zm : Nat → Int32} {e3 e11 e18 : Nat} {A : Nat → Nat → Int32} {g gh : Nat → Option Nat} {dy : pw_H} (P : Nat) (hP : zm 0 = nI P) (hPb : P ≤ 4) (ns : Nat → Nat) (hpar : ∀ j, j < P → md_par A j (ns j)) (p : Int32) : pw_M (d + 4) 83 [.inr (some 25), .inl p] (hp_h N xs zc e3 e11 e18 zm A g gh dy) (pw_qi (fun r h' => (¬ pw_bt p 0 (zm 0 - 1) ∧ r = -2 ∧ h' = (hp_h N xs zc e3 e11 e18 zm A g gh dy)) ∨ ∃ j : Nat, j < P ∧ p = nI j ∧ ((¬ md_ring A j (ns j) ∧ r = -1) ∨ (md_ring A j (ns j) ∧ r = nI (wl_ct (md_V A j (ns j)) 12))) ∧ ∃ f s q : Nat → Int32, h' = (hp_h N xs zc e3 e11 e18 zm (uA (uA (uA A 52 f) 53 s) 54 q) g gh dy))) := by
  have z0 := pz_0
  have z1 := pz_1
  have z2 := pz_2
  have z3 := pz_3
  have z4 := pz_4
  have z6 := pz_6
  have z7 := pz_7
  have z10 := pz_10
  have z11 := pz_11
  have z12 := pz_12
  have z20 := pz_20
  have z30 := pz_30
  have z50 := pz_50
  have z60 := pz_60
  have z80 := pz_80
  have z300 := pz_300
  have hPT : (zm 0).toInt = (P : Int) := by rw [hP]; exact pw_T (by omega)
  have hPP : (zm 0 - 1).toInt = (P : Int) - 1 := by rw [hP]; exact pw_pred (by omega)
  refine pr_aload_n rfl rfl ?_
  refine pr_iload_n rfl rfl ?_
  refine pr_vi1 rfl (by decide) (Nat.le_of_ble_eq_true rfl) rfl (Nat.le_of_ble_eq_true rfl) (c_73 _ _ 25 (hp_m zm) (zm 0) _ rfl rfl) (fun r_2 h_2 q_2 => ?_)
  obtain ⟨rfl, rfl⟩ := q_2
  refine pr_b_eq rfl (fun c_5 => ?_) (fun c_5 => ?_)
  · skip
    refine pr_push (v := (-2)) rfl rfl ?_
    exact pr_reti rfl rfl (by
  first
  | exact Or.inl ⟨by assumption, rfl, rfl⟩
  | (rcases q_10 with ⟨h1, h2, f, s, h3⟩ | ⟨h1, h2, f, s, q, h3, h4⟩
     · exact Or.inr ⟨j, by omega, rfl, Or.inl ⟨h1, h2⟩, f, s, A 54, by rw [h3, ← uA_self (uA (uA A 52 f) 53 s) 54]; rfl⟩
     · exact Or.inr ⟨j, by omega, rfl, Or.inr ⟨h1, h2⟩, f, s, q, h3⟩))
  · skip
    obtain ⟨j, rfl, hjT, hjl⟩ := pw_nat (x := p) (by omega)
    obtain ⟨hn, hw, hx0, hy0⟩ := hpar j (by omega)
    refine pr_aload_n rfl rfl ?_
    refine pr_iload_n rfl rfl ?_
    refine pr_vi1 rfl (by decide) (Nat.le_of_ble_eq_true rfl) rfl (Nat.le_of_ble_eq_true rfl) (c_82 _ j (ns j) (by omega) hn hw hx0 hy0) (fun r_10 h_10 q_10 => ?_)
    skip
    refine pr_step rfl rfl rfl rfl ?_
    exact pr_reti rfl rfl (by
  first
  | exact Or.inl ⟨by assumption, rfl, rfl⟩
  | (rcases q_10 with ⟨h1, h2, f, s, h3⟩ | ⟨h1, h2, f, s, q, h3, h4⟩
     · exact Or.inr ⟨j, by omega, rfl, Or.inl ⟨h1, h2⟩, f, s, A 54, by rw [h3, ← uA_self (uA (uA A 52 f) 53 s) 54]; rfl⟩
     · exact Or.inr ⟨j, by omega, rfl, Or.inr ⟨h1, h2⟩, f, s, q, h3⟩))
end
section
def md_bits (A : Nat → Nat → Int32) (ns : Nat → Nat) (Y X : Nat) : Nat → Int32
  | 0 => 0
  | p + 1 => md_bits A ns Y X p ||| (if md_ring A p (ns p) ∧ wl_pf (md_V A p (ns p)) Y (X + 1) = true then 1 <<< (nI p &&& 31) else 0)
theorem uA_3 (A : Nat → Nat → Int32) (f s q f2 s2 q2 : Nat → Int32) : uA (uA (uA (uA (uA (uA A 52 f) 53 s) 54 q) 52 f2) 53 s2) 54 q2 = uA (uA (uA A 52 f2) 53 s2) 54 q2 := by
  funext i
  by_cases h1 : i = 54 <;> by_cases h2 : i = 53 <;> by_cases h3 : i = 52 <;> simp [uA, h1, h2, h3]
theorem uA_2 (A : Nat → Nat → Int32) (f s q f2 s2 : Nat → Int32) : uA (uA (uA (uA (uA A 52 f) 53 s) 54 q) 52 f2) 53 s2 = uA (uA (uA A 52 f2) 53 s2) 54 q := by
  funext i
  by_cases h1 : i = 54 <;> by_cases h2 : i = 53 <;> by_cases h3 : i = 52 <;> simp [uA, h1, h2, h3]
section HR4
variable {N : Nat} {xs : Nat → Int32} {zc zm : Nat → Int32} {e3 e11 e18 : Nat} {A : Nat → Nat → Int32} {g gh : Nat → Option Nat} {dy : pw_H} {f s q : Nat → Int32}
theorem hw_54 : (hp_h N xs zc e3 e11 e18 zm (uA (uA (uA A 52 f) 53 s) 54 q) g gh dy)[54]? = some (.inl (0, 144, q)) := rfl
end HR4
theorem c_84_two (d : Nat) {N : Nat} {xs : Nat → Int32} {zc zm : Nat → Int32} {e3 e11 e18 : Nat} {A : Nat → Nat → Int32} {g gh : Nat → Option Nat} {dy : pw_H} (P : Nat) (hP : zm 0 = nI P) (hPb : P ≤ 4) (ns : Nat → Nat) (hpar : ∀ j, j < P → md_par A j (ns j)) : ∀ (k p : Nat) (f s q : Nat → Int32), p + k = P → (∀ Y X : Nat, Y < 12 → X < 12 → q (12 * Y + X) = md_bits A ns Y X p) → pw_W (d + 4) 84 24 [some (.inr (some 25)), some (.inl (nI p))] [] (hp_h N xs zc e3 e11 e18 zm (uA (uA (uA A 52 f) 53 s) 54 q) g gh dy) (pw_qv (fun h' => ∃ f s q : Nat → Int32, h' = (hp_h N xs zc e3 e11 e18 zm (uA (uA (uA A 52 f) 53 s) 54 q) g gh dy) ∧ ∀ Y X : Nat, Y < 12 → X < 12 → q (12 * Y + X) = md_bits A ns Y X P)) := by
  have hPT : (zm 0).toInt = (P : Int) := by rw [hP]; exact pw_T (by omega)
  have hPP : (zm 0 - 1).toInt = (P : Int) - 1 := by rw [hP]; exact pw_pred (by omega)
  intro k
  induction k with
  | zero =>
    intro p f s q hp hq
    obtain rfl : p = P := by omega
    have hpT := pw_T (n := p) (by omega)
    refine pr_iload_n rfl rfl ?_
    refine pr_aload_n rfl rfl ?_
    refine pr_getf rfl rfl rfl ?_
    refine pr_c_ge rfl (fun c_29 => ?_) (fun c_29 => ?_)
    · skip
      exact pr_retv rfl rfl (⟨f, s, q, rfl, hq⟩)
    · skip
      exact absurd c_29 (by omega)
  | succ k ih =>
    intro p f s q hp hq
    have hpT := pw_T (n := p) (by omega)
    obtain ⟨hn, hw, hx0, hy0⟩ := hpar p (by omega)
    refine pr_iload_n rfl rfl ?_
    refine pr_aload_n rfl rfl ?_
    refine pr_getf rfl rfl rfl ?_
    refine pr_c_ge rfl (fun c_29 => ?_) (fun c_29 => ?_)
    · skip
      exact absurd c_29 (by omega)
    · skip
      refine pr_aload_n rfl rfl ?_
      refine pr_iload_n rfl rfl ?_
      refine pr_vi1 rfl (by decide) (Nat.le_of_ble_eq_true rfl) rfl (Nat.le_of_ble_eq_true rfl) (c_82 (A := (uA (uA (uA A 52 f) 53 s) 54 q)) _ p (ns p) (by omega) hn hw hx0 hy0) (fun r_34 h_34 q_34 => ?_)
      have hcase : ∃ f2 s2 q2 : Nat → Int32, h_34 = (hp_h N xs zc e3 e11 e18 zm (uA (uA (uA A 52 f2) 53 s2) 54 q2) g gh dy) ∧ ∀ Y X : Nat, Y < 12 → X < 12 → q2 (12 * Y + X) = md_bits A ns Y X (p + 1) := by
        rcases q_34 with ⟨g1, -, f2, s2, g3⟩ | ⟨g1, -, f2, s2, q2, g3, g4⟩
        · refine ⟨f2, s2, q, by rw [g3, uA_2], fun Y X hY hX => ?_⟩
          rw [hq Y X hY hX, md_bits, if_neg (fun hh => g1 hh.1), pw_or0]
        · refine ⟨f2, s2, q2, by rw [g3, uA_3], fun Y X hY hX => ?_⟩
          have g5 : q2 (12 * Y + X) = q (12 * Y + X) ||| (if wl_pf (md_V A p (ns p)) Y (X + 1) = true then 1 <<< (nI p &&& 31) else 0) := by
            have g6 := g4 Y X hY hX
            rw [if_pos (by omega)] at g6
            exact g6
          rw [g5, md_bits, hq Y X hY hX]
          by_cases hin : wl_pf (md_V A p (ns p)) Y (X + 1) = true
          · rw [if_pos hin, if_pos ⟨g1, hin⟩]
          · rw [if_neg hin, if_neg (fun hh => hin hh.2)]
      clear q_34
      obtain ⟨f2, s2, q2, rfl, hq2⟩ := hcase
      refine pr_step rfl rfl rfl rfl ?_
      refine pr_iinc rfl rfl (pw_inc p) rfl ?_
      refine pr_step rfl rfl rfl rfl ?_
      exact ih (p + 1) f2 s2 q2 (by omega) hq2
theorem c_84_one (d : Nat) {N : Nat} {xs : Nat → Int32} {zc zm : Nat → Int32} {e3 e11 e18 : Nat} {A : Nat → Nat → Int32} {g gh : Nat → Option Nat} {dy : pw_H} (Q : Option pw_V → pw_H → Prop) (K : ∀ (q : Nat → Int32) (g1 : Option pw_V), (∀ k, k < 144 → q k = 0) → pw_W (d + 4) 84 22 [some (.inr (some 25)), g1] [] (hp_h N xs zc e3 e11 e18 zm (uA A 54 q) g gh dy) Q) : ∀ (c k : Nat) (q : Nat → Int32), k + c = 144 → (∀ i, i < k → q i = 0) → pw_W (d + 4) 84 2 [some (.inr (some 25)), some (.inl (nI k))] [] (hp_h N xs zc e3 e11 e18 zm (uA A 54 q) g gh dy) Q := by
  have z144 := pz_144b
  intro c
  induction c with
  | zero =>
    intro k q hk hq
    obtain rfl : k = 144 := by omega
    have hkT := pw_T (n := 144) (by omega)
    refine pr_iload_n rfl rfl ?_
    refine pr_push (v := 144) rfl rfl ?_
    refine pr_c_ge rfl (fun c_6 => ?_) (fun c_6 => ?_)
    · skip
      exact K q _ hq
    · skip
      exact absurd c_6 (by omega)
  | succ c ih =>
    intro k q hk hq
    have hkT := pw_T (n := k) (by omega)
    refine pr_iload_n rfl rfl ?_
    refine pr_push (v := 144) rfl rfl ?_
    refine pr_c_ge rfl (fun c_6 => ?_) (fun c_6 => ?_)
    · skip
      exact absurd c_6 (by omega)
    · skip
      refine pr_aload_n rfl rfl ?_
      refine pr_getf rfl rfl rfl ?_
      refine pr_iload_n rfl rfl ?_
      refine pr_push (v := 0) rfl rfl ?_
      refine pr_iast (k) rfl hv_54 (by decide) rfl (by omega) ht_a54 ?_
      refine pr_iinc rfl rfl (pw_inc k) rfl ?_
      refine pr_step rfl rfl rfl rfl ?_
      exact ih (k + 1) _ (by omega) (fun i hi => by
        by_cases hik : i = k
        · rw [hik, pk_us]
        · rw [pk_un hik]; exact hq i (by omega))
theorem c_84 (d : Nat) {N : Nat} {xs : Nat → Int32} {zc zm : Nat → Int32} {e3 e11 e18 : Nat} {A : Nat → Nat → Int32} {g gh : Nat → Option Nat} {dy : pw_H} (P : Nat) (hP : zm 0 = nI P) (hPb : P ≤ 4) (ns : Nat → Nat) (hpar : ∀ j, j < P → md_par A j (ns j)) : pw_M (d + 4) 84 [.inr (some 25)] (hp_h N xs zc e3 e11 e18 zm A g gh dy) (pw_qv (fun h' => ∃ f s q : Nat → Int32, h' = (hp_h N xs zc e3 e11 e18 zm (uA (uA (uA A 52 f) 53 s) 54 q) g gh dy) ∧ ∀ Y X : Nat, Y < 12 → X < 12 → q (12 * Y + X) = md_bits A ns Y X P)) := by
  refine pr_push (v := 0) rfl rfl ?_
  refine pr_istore_n rfl (Nat.le_of_ble_eq_true rfl) rfl ?_
  refine pr_heap (show (hp_h N xs zc e3 e11 e18 zm A g gh dy) = (hp_h N xs zc e3 e11 e18 zm (uA A 54 (A 54)) g gh dy) by rw [uA_self]) ?_
  refine c_84_one d _ (fun q g1 hq0 => ?_) 144 0 (A 54) (by omega) (fun i hi => absurd hi (Nat.not_lt_zero i))
  refine pr_heap (show (hp_h N xs zc e3 e11 e18 zm (uA A 54 q) g gh dy) = (hp_h N xs zc e3 e11 e18 zm (uA (uA (uA A 52 (A 52)) 53 (A 53)) 54 q) g gh dy) by rw [uA_self A 52, uA_self A 53]) ?_
  refine pr_push (v := 0) rfl rfl ?_
  refine pr_istore_n rfl (Nat.le_of_ble_eq_true rfl) rfl ?_
  exact c_84_two d P hP hPb ns hpar P 0 (A 52) (A 53) q (by omega) (fun Y X hY hX => hq0 _ (by omega))
end
section
theorem c_85 (d : Nat) {N : Nat} {xs : Nat → Int32} {zc zm : Nat → Int32} {e3 e11 e18 : Nat} {A : Nat → Nat → Int32} {g gh : Nat → Option Nat} {dy : pw_H} (P : Nat) (hP : zm 0 = nI P) (hPb : P ≤ 4) (ns : Nat → Nat) (hpar : ∀ j, j < P → md_par A j (ns j)) (x y : Int32) : pw_M (d + 5) 85 [.inr (some 25), .inl x, .inl y] (hp_h N xs zc e3 e11 e18 zm A g gh dy) (pw_qi (fun r h' => (¬ pw_fd x y ∧ r = -2 ∧ h' = (hp_h N xs zc e3 e11 e18 zm A g gh dy)) ∨ (pw_fd x y ∧ ∃ X Y : Nat, X < 12 ∧ Y < 12 ∧ x = nI X ∧ y = nI Y ∧ r = md_bits A ns Y X P ∧ ∃ f s q : Nat → Int32, h' = (hp_h N xs zc e3 e11 e18 zm (uA (uA (uA A 52 f) 53 s) 54 q) g gh dy)))) := by
  have z0 := pz_0
  have z1 := pz_1
  have z2 := pz_2
  have z3 := pz_3
  have z4 := pz_4
  have z6 := pz_6
  have z7 := pz_7
  have z10 := pz_10
  have z11 := pz_11
  have z12 := pz_12
  have z20 := pz_20
  have z30 := pz_30
  have z50 := pz_50
  have z60 := pz_60
  have z80 := pz_80
  have z300 := pz_300
  have hPT : (zm 0).toInt = (P : Int) := by rw [hP]; exact pw_T (by omega)
  have hPP : (zm 0 - 1).toInt = (P : Int) - 1 := by rw [hP]; exact pw_pred (by omega)
  refine pr_iload_n rfl rfl ?_
  refine pr_iload_n rfl rfl ?_
  refine pr_si2 rfl (by decide) (Nat.le_of_ble_eq_true rfl) (Nat.le_of_ble_eq_true rfl) (c_71 _ _ _ _) (fun r_2 h_2 q_2 => ?_)
  obtain ⟨rfl, rfl⟩ := q_2
  refine pr_b_ne rfl (fun c_5 => ?_) (fun c_5 => ?_)
  · skip
    obtain ⟨X, hX, hXT, hXl⟩ := pw_nat (x := x) (by omega)
    obtain ⟨Y, hY, hYT, hYl⟩ := pw_nat (x := y) (by omega)
    refine pr_aload_n rfl rfl ?_
    refine pr_vv0 rfl (by decide) (Nat.le_of_ble_eq_true rfl) rfl (Nat.le_of_ble_eq_true rfl) (c_84 _ P hP hPb ns hpar) (fun h_12 q_12 => ?_)
    obtain ⟨f, s, q, rfl, hq⟩ := q_12
    refine pr_aload_n rfl rfl ?_
    refine pr_getf rfl rfl rfl ?_
    refine pr_push (v := 12) rfl rfl ?_
    refine pr_iload_n rfl rfl ?_
    refine pr_step rfl rfl rfl rfl ?_
    refine pr_iload_n rfl rfl ?_
    refine pr_step rfl rfl rfl rfl ?_
    refine pr_top ((by rw [hX, hY]; exact pw_at Y X : 12 * y + x = nI (12 * Y + X))) ?_
    refine pr_iald (12 * Y + X) rfl hw_54 (by decide) (by decide) rfl (by omega) ?_
    exact pr_reti rfl rfl (Or.inr ⟨by assumption, X, Y, by omega, by omega, hX, hY, hq Y X (by omega) (by omega), f, s, q, rfl⟩)
  · skip
    refine pr_push (v := (-2)) rfl rfl ?_
    exact pr_reti rfl rfl (Or.inl ⟨by assumption, rfl, rfl⟩)
def os_run (c : Int32) : Nat → Int32
  | 0 => 0
  | k + 1 => os_run c k + ((c >>> (nI k &&& 31)) &&& 1)
theorem c_89_loop (d : Nat) (h : pw_H) (c : Int32) : ∀ (n k : Nat), k + n = 12 → pw_W d 89 4 [some (.inl c), some (.inl (os_run c k)), some (.inl (nI k))] [] h (pw_qi (pw_is h (os_run c 12))) := by
  have z12 := pz_12
  intro n
  induction n with
  | zero =>
    intro k hk
    obtain rfl : k = 12 := by omega
    have hkT := pw_T (n := 12) (by omega)
    refine pr_iload_n rfl rfl ?_
    refine pr_push (v := 12) rfl rfl ?_
    refine pr_c_ge rfl (fun c_7 => ?_) (fun c_7 => ?_)
    · skip
      refine pr_iload_n rfl rfl ?_
      exact pr_reti rfl rfl (⟨rfl, rfl⟩)
    · skip
      exact absurd c_7 (by omega)
  | succ n ih =>
    intro k hk
    have hkT := pw_T (n := k) (by omega)
    refine pr_iload_n rfl rfl ?_
    refine pr_push (v := 12) rfl rfl ?_
    refine pr_c_ge rfl (fun c_7 => ?_) (fun c_7 => ?_)
    · skip
      exact absurd c_7 (by omega)
    · skip
      refine pr_iload_n rfl rfl ?_
      refine pr_iload_n rfl rfl ?_
      refine pr_iload_n rfl rfl ?_
      refine pr_step rfl rfl rfl rfl ?_
      refine pr_push (v := 1) rfl rfl ?_
      refine pr_step rfl rfl rfl rfl ?_
      refine pr_step rfl rfl rfl rfl ?_
      refine pr_istore_n rfl (Nat.le_of_ble_eq_true rfl) rfl ?_
      refine pr_iinc rfl rfl (pw_inc k) rfl ?_
      refine pr_step rfl rfl rfl rfl ?_
      exact ih (k + 1) (by omega)
theorem c_89 (d : Nat) (h : pw_H) (c : Int32) : pw_M d 89 [.inl c] h (pw_qi (pw_is h (os_run c 12))) := by
  refine pr_push (v := 0) rfl rfl ?_
  refine pr_istore_n rfl (Nat.le_of_ble_eq_true rfl) rfl ?_
  refine pr_push (v := 0) rfl rfl ?_
  refine pr_istore_n rfl (Nat.le_of_ble_eq_true rfl) rfl ?_
  exact c_89_loop d h c 12 0 (by omega)
theorem c_80 (d : Nat) {N : Nat} {xs : Nat → Int32} {zc zm : Nat → Int32} {e3 e11 e18 : Nat} {A : Nat → Nat → Int32} {g gh : Nat → Option Nat} {dy : pw_H} (P : Nat) (hP : zm 0 = nI P) (hPb : P ≤ 4) (ns : Nat → Nat) (hpar : ∀ j, j < P → md_par A j (ns j)) (p i : Int32) : pw_M (d + 3) 80 [.inr (some 25), .inl p, .inl i] (hp_h N xs zc e3 e11 e18 zm A g gh dy) (pw_qi (fun r h' => ((¬ (pw_bt p 0 (zm 0 - 1) ∧ ∀ j : Nat, p = nI j → pw_bt i 0 (A 28 j - 1)) ∧ r = -2 ∧ h' = (hp_h N xs zc e3 e11 e18 zm A g gh dy)) ∨ ∃ j k : Nat, j < P ∧ p = nI j ∧ k < ns j ∧ i = nI k ∧ (∃ f : Nat → Int32, h' = (hp_h N xs zc e3 e11 e18 zm (uA A 52 f) g gh dy)) ∧ ((¬ (wl_feas (md_D A j) (md_L A j) (md_U A j) (ns j) 0 ∧ wl_feas (md_D A j) (md_L A j) (md_U A j) (ns j) 1) ∧ r = -1) ∨ ((wl_feas (md_D A j) (md_L A j) (md_U A j) (ns j) 0 ∧ wl_feas (md_D A j) (md_L A j) (md_U A j) (ns j) 1) ∧ r.toInt = wl_len (md_D A j) (md_L A j) (md_U A j) (ns j) k))))) := by
  have z0 := pz_0
  have z1 := pz_1
  have z2 := pz_2
  have z3 := pz_3
  have z4 := pz_4
  have z6 := pz_6
  have z7 := pz_7
  have z10 := pz_10
  have z11 := pz_11
  have z12 := pz_12
  have z20 := pz_20
  have z30 := pz_30
  have z50 := pz_50
  have z60 := pz_60
  have z80 := pz_80
  have z300 := pz_300
  have hPT : (zm 0).toInt = (P : Int) := by rw [hP]; exact pw_T (by omega)
  have hPP : (zm 0 - 1).toInt = (P : Int) - 1 := by rw [hP]; exact pw_pred (by omega)
  refine pr_aload_n rfl rfl ?_
  refine pr_iload_n rfl rfl ?_
  refine pr_vi1 rfl (by decide) (Nat.le_of_ble_eq_true rfl) rfl (Nat.le_of_ble_eq_true rfl) (c_73 _ _ 25 (hp_m zm) (zm 0) _ rfl rfl) (fun r_2 h_2 q_2 => ?_)
  obtain ⟨rfl, rfl⟩ := q_2
  refine pr_b_eq rfl (fun c_5 => ?_) (fun c_5 => ?_)
  · skip
    refine pr_push (v := (-2)) rfl rfl ?_
    exact pr_reti rfl rfl (Or.inl ⟨by
    first
    | exact fun hh => absurd hh.1 (by assumption)
    | exact fun hh => absurd (hh.2 j rfl) (by assumption), rfl, rfl⟩)
  · skip
    obtain ⟨j, rfl, hjT, hjl⟩ := pw_nat (x := p) (by omega)
    obtain ⟨hn, hw, hx0, hy0⟩ := hpar j (by omega)
    have hn12 := hw.1
    have hnP : (A 28 j - 1).toInt = (ns j : Int) - 1 := by rw [hn]; exact pw_pred (by omega)
    refine pr_iload_n rfl rfl ?_
    refine pr_push (v := 0) rfl rfl ?_
    refine pr_aload_n rfl rfl ?_
    refine pr_getf rfl rfl rfl ?_
    refine pr_iload_n rfl rfl ?_
    refine pr_iald (j) rfl rfl (by decide) (by decide) rfl (by omega) ?_
    refine pr_push (v := 1) rfl rfl ?_
    refine pr_step rfl rfl rfl rfl ?_
    refine pr_si3 rfl (by decide) (Nat.le_of_ble_eq_true rfl) (Nat.le_of_ble_eq_true rfl) (c_69 _ _ _ _ _) (fun r_18 h_18 q_18 => ?_)
    obtain ⟨rfl, rfl⟩ := q_18
    refine pr_b_ne rfl (fun c_21 => ?_) (fun c_21 => ?_)
    · skip
      obtain ⟨k, hk, hkT, hkl⟩ := pw_nat (x := i) (by omega)
      refine pr_aload_n rfl rfl ?_
      refine pr_iload_n rfl rfl ?_
      refine pr_vi1 rfl (by decide) (Nat.le_of_ble_eq_true rfl) rfl (Nat.le_of_ble_eq_true rfl) (c_79 _ j (ns j) (by omega) hn hw) (fun r_29 h_29 q_29 => ?_)
      obtain ⟨e_29, f, eh_29, hfl⟩ := q_29
      subst eh_29
      rw [e_29]
      clear e_29
      refine pr_b_eq rfl (fun c_32 => ?_) (fun c_32 => ?_)
      · skip
        refine pr_push (v := (-1)) rfl rfl ?_
        exact pr_reti rfl rfl (by
    first
    | exact Or.inr ⟨j, k, by omega, rfl, by omega, hk, ⟨f, rfl⟩, Or.inl ⟨c_32, rfl⟩⟩
    | exact Or.inr ⟨j, k, by omega, rfl, by omega, hk, ⟨f, rfl⟩, Or.inr ⟨c_32, hfl c_32 k (by omega)⟩⟩)
      · skip
        refine pr_aload_n rfl rfl ?_
        refine pr_getf rfl rfl rfl ?_
        refine pr_iload_n rfl rfl ?_
        refine pr_iald (f := f) k rfl rfl (by decide) (by decide) hk (by omega) ?_
        refine pr_step rfl rfl rfl rfl ?_
        exact pr_reti rfl rfl (by
    first
    | exact Or.inr ⟨j, k, by omega, rfl, by omega, hk, ⟨f, rfl⟩, Or.inl ⟨c_32, rfl⟩⟩
    | exact Or.inr ⟨j, k, by omega, rfl, by omega, hk, ⟨f, rfl⟩, Or.inr ⟨c_32, hfl c_32 k (by omega)⟩⟩)
    · skip
      refine pr_push (v := (-2)) rfl rfl ?_
      exact pr_reti rfl rfl (Or.inl ⟨by
    first
    | exact fun hh => absurd hh.1 (by assumption)
    | exact fun hh => absurd (hh.2 j rfl) (by assumption), rfl, rfl⟩)
end
section
def md_own (A : Nat → Nat → Int32) (ns : Nat → Nat) (E P Y X : Nat) (yr : Int32) : Int32 := (ld_run (nI (12 * Y + X)) yr 0 (on_f (md_bits A ns Y X P) P 0) (A 33) (A 32) (fun _ => 0) (A 34) E).2
theorem md_own_of {A : Nat → Nat → Int32} {ns : Nat → Nat} {E P Y X : Nat} {yr : Int32} {f s q : Nat → Int32} (hq : q (12 * Y + X) = md_bits A ns Y X P) : ow_of (uA (uA (uA A 52 f) 53 s) 54 q) E P (12 * Y + X) yr = md_own A ns E P Y X yr := by
  show (ld_run (nI (12 * Y + X)) yr 0 (on_f (q (12 * Y + X)) P 0) (A 33) (A 32) (fun _ => 0) (A 34) E).2 = _
  rw [hq]
  rfl
theorem c_88 (d : Nat) {N : Nat} {xs : Nat → Int32} {zc zm : Nat → Int32} {e3 e11 e18 : Nat} {A : Nat → Nat → Int32} {g gh : Nat → Option Nat} {dy : pw_H} (P : Nat) (hP : zm 0 = nI P) (hPb : P ≤ 4) (E : Nat) (hE : zm 7 = nI E) (hEb : E ≤ 12) (ns : Nat → Nat) (hpar : ∀ j, j < P → md_par A j (ns j)) (hf : ∀ i, i < E → 0 ≤ (A 32 i).toInt) (x y yr : Int32) : pw_M (d + 5) 88 [.inr (some 25), .inl x, .inl y, .inl yr] (hp_h N xs zc e3 e11 e18 zm A g gh dy) (pw_qi (fun r h' => (¬ (pw_fd x y ∧ pw_yr yr) ∧ r = -2 ∧ h' = (hp_h N xs zc e3 e11 e18 zm A g gh dy)) ∨ ((pw_fd x y ∧ pw_yr yr) ∧ ∃ X Y : Nat, X < 12 ∧ Y < 12 ∧ x = nI X ∧ y = nI Y ∧ r = md_own A ns E P Y X yr ∧ ∃ f s q : Nat → Int32, h' = (hp_h N xs zc e3 e11 e18 zm (uA (uA (uA A 52 f) 53 s) 54 q) g gh dy)))) := by
  have z0 := pz_0
  have z1 := pz_1
  have z2 := pz_2
  have z3 := pz_3
  have z4 := pz_4
  have z6 := pz_6
  have z7 := pz_7
  have z10 := pz_10
  have z11 := pz_11
  have z12 := pz_12
  have z20 := pz_20
  have z30 := pz_30
  have z50 := pz_50
  have z60 := pz_60
  have z80 := pz_80
  have z300 := pz_300
  have hPT : (zm 0).toInt = (P : Int) := by rw [hP]; exact pw_T (by omega)
  have hPP : (zm 0 - 1).toInt = (P : Int) - 1 := by rw [hP]; exact pw_pred (by omega)
  refine pr_iload_n rfl rfl ?_
  refine pr_iload_n rfl rfl ?_
  refine pr_si2 rfl (by decide) (Nat.le_of_ble_eq_true rfl) (Nat.le_of_ble_eq_true rfl) (c_71 _ _ _ _) (fun r_2 h_2 q_2 => ?_)
  obtain ⟨rfl, rfl⟩ := q_2
  refine pr_b_eq rfl (fun c_5 => ?_) (fun c_5 => ?_)
  · skip
    refine pr_push (v := (-2)) rfl rfl ?_
    exact pr_reti rfl rfl (Or.inl ⟨by omega, rfl, rfl⟩)
  · skip
    refine pr_iload_n rfl rfl ?_
    refine pr_si1 rfl (by decide) (Nat.le_of_ble_eq_true rfl) (Nat.le_of_ble_eq_true rfl) (c_72 _ _ _) (fun r_9 h_9 q_9 => ?_)
    obtain ⟨rfl, rfl⟩ := q_9
    refine pr_b_ne rfl (fun c_12 => ?_) (fun c_12 => ?_)
    · skip
      obtain ⟨X, hX, hXT, hXl⟩ := pw_nat (x := x) (by omega)
      obtain ⟨Y, hY, hYT, hYl⟩ := pw_nat (x := y) (by omega)
      refine pr_aload_n rfl rfl ?_
      refine pr_vv0 rfl (by decide) (Nat.le_of_ble_eq_true rfl) rfl (Nat.le_of_ble_eq_true rfl) (c_84 _ P hP hPb ns hpar) (fun h_19 q_19 => ?_)
      obtain ⟨f, s, q, rfl, hq⟩ := q_19
      refine pr_aload_n rfl rfl ?_
      refine pr_push (v := 12) rfl rfl ?_
      refine pr_iload_n rfl rfl ?_
      refine pr_step rfl rfl rfl rfl ?_
      refine pr_iload_n rfl rfl ?_
      refine pr_step rfl rfl rfl rfl ?_
      refine pr_top ((by rw [hX, hY]; exact pw_at Y X : 12 * y + x = nI (12 * Y + X))) ?_
      refine pr_iload_n rfl rfl ?_
      refine pr_vi2 rfl (by decide) (Nat.le_of_ble_eq_true rfl) rfl (Nat.le_of_ble_eq_true rfl) (c_87 (A := (uA (uA (uA A 52 f) 53 s) 54 q)) _ P hP hPb E hE hEb hf (12 * Y + X) (by omega) yr) (fun r_30 h_30 q_30 => ?_)
      obtain ⟨rfl, rfl⟩ := q_30
      exact pr_reti rfl rfl (Or.inr ⟨by omega, X, Y, by omega, by omega, hX, hY, md_own_of (hq Y X (by omega) (by omega)), f, s, q, rfl⟩)
    · skip
      refine pr_push (v := (-2)) rfl rfl ?_
      exact pr_reti rfl rfl (Or.inl ⟨by omega, rfl, rfl⟩)
end
section
def qr_run (A : Nat → Nat → Int32) (ns : Nat → Nat) (E P : Nat) (yr : Int32) : Nat → Int32
  | 0 => 0
  | k + 1 => qr_run A ns E P yr k + (if 1 < (os_run (md_bits A ns (k / 12) (k % 12) P) 12).toInt ∧ md_own A ns E P (k / 12) (k % 12) yr = -1 then 1 else 0)
theorem c_90_loop (d : Nat) {N : Nat} {xs : Nat → Int32} {zc zm : Nat → Int32} {e3 e11 e18 : Nat} {A : Nat → Nat → Int32} {g gh : Nat → Option Nat} {dy : pw_H} (P : Nat) (hP : zm 0 = nI P) (hPb : P ≤ 4) (E : Nat) (hE : zm 7 = nI E) (hEb : E ≤ 12) (ns : Nat → Nat) (hpar : ∀ j, j < P → md_par A j (ns j)) (hf : ∀ i, i < E → 0 ≤ (A 32 i).toInt) (yr : Int32) (f s q : Nat → Int32) (hq : ∀ Y X : Nat, Y < 12 → X < 12 → q (12 * Y + X) = md_bits A ns Y X P) : ∀ (n k : Nat), k + n = 144 → pw_W (d + 5) 90 18 [some (.inr (some 25)), some (.inl yr), some (.inl (qr_run A ns E P yr k)), some (.inl (nI k))] [] (hp_h N xs zc e3 e11 e18 zm (uA (uA (uA A 52 f) 53 s) 54 q) g gh dy) (pw_qi (fun r h' => r = qr_run A ns E P yr 144 ∧ h' = (hp_h N xs zc e3 e11 e18 zm (uA (uA (uA A 52 f) 53 s) 54 q) g gh dy))) := by
  have z144 := pz_144b
  have z1 := pz_1
  intro n
  induction n with
  | zero =>
    intro k hk
    obtain rfl : k = 144 := by omega
    have hkT := pw_T (n := 144) (by omega)
    refine pr_iload_n rfl rfl ?_
    refine pr_push (v := 144) rfl rfl ?_
    refine pr_c_ge rfl (fun c_22 => ?_) (fun c_22 => ?_)
    · skip
      refine pr_iload_n rfl rfl ?_
      exact pr_reti rfl rfl (⟨rfl, rfl⟩)
    · skip
      exact absurd c_22 (by omega)
  | succ n ih =>
    intro k hk
    have hkT := pw_T (n := k) (by omega)
    have hk12 : 12 * (k / 12) + k % 12 = k := by omega
    have hqk := hq (k / 12) (k % 12) (by omega) (by omega)
    have hown := md_own_of (A := A) (E := E) (yr := yr) (f := f) (s := s) hqk
    rw [hk12] at hqk hown
    refine pr_iload_n rfl rfl ?_
    refine pr_push (v := 144) rfl rfl ?_
    refine pr_c_ge rfl (fun c_22 => ?_) (fun c_22 => ?_)
    · skip
      exact absurd c_22 (by omega)
    · skip
      refine pr_iload_n rfl rfl ?_
      refine pr_aload_n rfl rfl ?_
      refine pr_getf rfl rfl rfl ?_
      refine pr_iload_n rfl rfl ?_
      refine pr_iald (k) rfl hw_54 (by decide) (by decide) rfl (by omega) ?_
      refine pr_top hqk ?_
      refine pr_si1 rfl (by decide) (Nat.le_of_ble_eq_true rfl) (Nat.le_of_ble_eq_true rfl) (c_89 _ _ _) (fun r_32 h_32 q_32 => ?_)
      obtain ⟨rfl, rfl⟩ := q_32
      refine pr_push (v := 1) rfl rfl ?_
      refine pr_c_le rfl (fun c_36 => ?_) (fun c_36 => ?_)
      · skip
        refine pr_push (v := 0) rfl rfl ?_
        refine pr_step rfl rfl rfl rfl ?_
        refine pr_top (y := qr_run A ns E P yr (k + 1)) (by
          rw [qr_run]
          first | rw [if_pos ⟨by omega, by assumption⟩] | rw [if_neg (fun hh => by first | exact absurd hh.2 (by assumption) | exact absurd hh.1 (by omega))]) ?_
        refine pr_istore_n rfl (Nat.le_of_ble_eq_true rfl) rfl ?_
        refine pr_iinc rfl rfl (pw_inc k) rfl ?_
        refine pr_step rfl rfl rfl rfl ?_
        exact ih (k + 1) (by omega)
      · skip
        refine pr_aload_n rfl rfl ?_
        refine pr_iload_n rfl rfl ?_
        refine pr_iload_n rfl rfl ?_
        refine pr_vi2 rfl (by decide) (Nat.le_of_ble_eq_true rfl) rfl (Nat.le_of_ble_eq_true rfl) (c_87 (A := (uA (uA (uA A 52 f) 53 s) 54 q)) _ P hP hPb E hE hEb hf k (by omega) yr) (fun r_42 h_42 q_42 => ?_)
        obtain ⟨e_42, rfl⟩ := q_42
        rw [hown] at e_42
        subst e_42
        refine pr_push (v := (-1)) rfl rfl ?_
        refine pr_c_ne rfl (fun c_46 => ?_) (fun c_46 => ?_)
        · skip
          refine pr_push (v := 0) rfl rfl ?_
          refine pr_step rfl rfl rfl rfl ?_
          refine pr_top (y := qr_run A ns E P yr (k + 1)) (by
            rw [qr_run]
            first | rw [if_pos ⟨by omega, by assumption⟩] | rw [if_neg (fun hh => by first | exact absurd hh.2 (by assumption) | exact absurd hh.1 (by omega))]) ?_
          refine pr_istore_n rfl (Nat.le_of_ble_eq_true rfl) rfl ?_
          refine pr_iinc rfl rfl (pw_inc k) rfl ?_
          refine pr_step rfl rfl rfl rfl ?_
          exact ih (k + 1) (by omega)
        · skip
          refine pr_push (v := 1) rfl rfl ?_
          refine pr_step rfl rfl rfl rfl ?_
          refine pr_step rfl rfl rfl rfl ?_
          refine pr_top (y := qr_run A ns E P yr (k + 1)) (by
            rw [qr_run]
            first | rw [if_pos ⟨by omega, by assumption⟩] | rw [if_neg (fun hh => by first | exact absurd hh.2 (by assumption) | exact absurd hh.1 (by omega))]) ?_
          refine pr_istore_n rfl (Nat.le_of_ble_eq_true rfl) rfl ?_
          refine pr_iinc rfl rfl (pw_inc k) rfl ?_
          refine pr_step rfl rfl rfl rfl ?_
          exact ih (k + 1) (by omega)
theorem c_90 (d : Nat) {N : Nat} {xs : Nat → Int32} {zc zm : Nat → Int32} {e3 e11 e18 : Nat} {A : Nat → Nat → Int32} {g gh : Nat → Option Nat} {dy : pw_H} (P : Nat) (hP : zm 0 = nI P) (hPb : P ≤ 4) (E : Nat) (hE : zm 7 = nI E) (hEb : E ≤ 12) (ns : Nat → Nat) (hpar : ∀ j, j < P → md_par A j (ns j)) (hf : ∀ i, i < E → 0 ≤ (A 32 i).toInt) (yr : Int32) : pw_M (d + 5) 90 [.inr (some 25), .inl yr] (hp_h N xs zc e3 e11 e18 zm A g gh dy) (pw_qi (fun r h' => (¬ pw_yr yr ∧ r = -2 ∧ h' = (hp_h N xs zc e3 e11 e18 zm A g gh dy)) ∨ (pw_yr yr ∧ r = qr_run A ns E P yr 144 ∧ ∃ f s q : Nat → Int32, h' = (hp_h N xs zc e3 e11 e18 zm (uA (uA (uA A 52 f) 53 s) 54 q) g gh dy)))) := by
  refine pr_iload_n rfl rfl ?_
  refine pr_si1 rfl (by decide) (Nat.le_of_ble_eq_true rfl) (Nat.le_of_ble_eq_true rfl) (c_72 _ _ _) (fun r_1 h_1 q_1 => ?_)
  obtain ⟨rfl, rfl⟩ := q_1
  refine pr_b_ne rfl (fun c_4 => ?_) (fun c_4 => ?_)
  · skip
    refine pr_aload_n rfl rfl ?_
    refine pr_vv0 rfl (by decide) (Nat.le_of_ble_eq_true rfl) rfl (Nat.le_of_ble_eq_true rfl) (c_84 _ P hP hPb ns hpar) (fun h_11 q_11 => ?_)
    obtain ⟨f, s, q, rfl, hq⟩ := q_11
    refine pr_push (v := 0) rfl rfl ?_
    refine pr_istore_n rfl (Nat.le_of_ble_eq_true rfl) rfl ?_
    refine pr_push (v := 0) rfl rfl ?_
    refine pr_istore_n rfl (Nat.le_of_ble_eq_true rfl) rfl ?_
    refine pr_post (c_90_loop d P hP hPb E hE hEb ns hpar hf yr f s q hq 144 0 (by omega)) (fun r h1 hh => ?_)
    obtain ⟨x, e1, e2, e3⟩ := hh
    exact ⟨x, e1, Or.inr ⟨by assumption, e2, f, s, q, e3⟩⟩
  · skip
    refine pr_push (v := (-2)) rfl rfl ?_
    exact pr_reti rfl rfl (Or.inl ⟨by assumption, rfl, rfl⟩)
end
section
def bc_u (x s : Int32) : Int32 := (x.toUInt32 >>> (s.toUInt32 &&& Int32.toUInt32 31)).toInt32
def bc_1 (x : Int32) : Int32 := x - (bc_u x 1 &&& 1431655765)
def bc_2 (a : Int32) : Int32 := (a &&& 858993459) + (bc_u a 2 &&& 858993459)
def bc_3 (b : Int32) : Int32 := (b + bc_u b 4) &&& 252645135
def bc_4 (c : Int32) : Int32 := c + bc_u c 8
def bc_5 (c : Int32) : Int32 := c + bc_u c 16
/-- Integer.bitCount as its code has it -/
def bc_of (x : Int32) : Int32 := bc_5 (bc_4 (bc_3 (bc_2 (bc_1 x)))) &&& 63
theorem c_114 (d : Nat) (h : pw_H) (x : Int32) : pw_M d 114 [.inl x] h (pw_qi (pw_is h (bc_of x))) := by
  refine pr_iload_n rfl rfl ?_
  refine pr_iload_n rfl rfl ?_
  refine pr_push (v := 1) rfl rfl ?_
  refine pr_step rfl rfl rfl rfl ?_
  refine pr_push (v := 1431655765) rfl rfl ?_
  refine pr_step rfl rfl rfl rfl ?_
  refine pr_step rfl rfl rfl rfl ?_
  refine pr_top (y := bc_1 x) rfl ?_
  refine pr_istore_n rfl (Nat.le_of_ble_eq_true rfl) rfl ?_
  refine pr_iload_n rfl rfl ?_
  refine pr_push (v := 858993459) rfl rfl ?_
  refine pr_step rfl rfl rfl rfl ?_
  refine pr_iload_n rfl rfl ?_
  refine pr_push (v := 2) rfl rfl ?_
  refine pr_step rfl rfl rfl rfl ?_
  refine pr_push (v := 858993459) rfl rfl ?_
  refine pr_step rfl rfl rfl rfl ?_
  refine pr_step rfl rfl rfl rfl ?_
  refine pr_top (y := bc_2 (bc_1 x)) rfl ?_
  refine pr_istore_n rfl (Nat.le_of_ble_eq_true rfl) rfl ?_
  refine pr_iload_n rfl rfl ?_
  refine pr_iload_n rfl rfl ?_
  refine pr_push (v := 4) rfl rfl ?_
  refine pr_step rfl rfl rfl rfl ?_
  refine pr_step rfl rfl rfl rfl ?_
  refine pr_push (v := 252645135) rfl rfl ?_
  refine pr_step rfl rfl rfl rfl ?_
  refine pr_top (y := bc_3 (bc_2 (bc_1 x))) rfl ?_
  refine pr_istore_n rfl (Nat.le_of_ble_eq_true rfl) rfl ?_
  refine pr_iload_n rfl rfl ?_
  refine pr_iload_n rfl rfl ?_
  refine pr_push (v := 8) rfl rfl ?_
  refine pr_step rfl rfl rfl rfl ?_
  refine pr_step rfl rfl rfl rfl ?_
  refine pr_top (y := bc_4 (bc_3 (bc_2 (bc_1 x)))) rfl ?_
  refine pr_istore_n rfl (Nat.le_of_ble_eq_true rfl) rfl ?_
  refine pr_iload_n rfl rfl ?_
  refine pr_iload_n rfl rfl ?_
  refine pr_push (v := 16) rfl rfl ?_
  refine pr_step rfl rfl rfl rfl ?_
  refine pr_step rfl rfl rfl rfl ?_
  refine pr_top (y := bc_5 (bc_4 (bc_3 (bc_2 (bc_1 x))))) rfl ?_
  refine pr_istore_n rfl (Nat.le_of_ble_eq_true rfl) rfl ?_
  refine pr_iload_n rfl rfl ?_
  refine pr_push (v := 63) rfl rfl ?_
  refine pr_step rfl rfl rfl rfl ?_
  exact pr_reti rfl rfl (⟨rfl, rfl⟩)
end
section
/-- the stone whose last seeing is longest ago, before a year, among the first i -/
def la_run (A : Nat → Nat → Int32) (T : Nat) (now yr : Int32) : Nat → Option Nat
  | 0 => none
  | i + 1 => match la_run A T now yr i with
    | none => if ¬ wh_of A T i now now = -1 ∧ (A 56 i).toInt < yr.toInt then some i else none
    | some b => if ¬ wh_of A T i now now = -1 ∧ (A 56 i).toInt < yr.toInt ∧ (A 56 i).toInt < (A 56 b).toInt then some i else some b
theorem la_lt (A : Nat → Nat → Int32) (T : Nat) (now yr : Int32) : ∀ i b, la_run A T now yr i = some b → b < i
  | 0, b, h => by cases h
  | i + 1, b, h => by
    unfold la_run at h
    cases hr : la_run A T now yr i with
    | none =>
      rw [hr] at h
      dsimp only at h
      split at h
      · cases h; omega
      · cases h
    | some b2 =>
      have h2 := la_lt A T now yr i b2 hr
      rw [hr] at h
      dsimp only at h
      split at h
      · cases h; omega
      · cases h; omega
def la_i (o : Option Nat) : Int32 := match o with
  | none => -1
  | some b => nI b
theorem c_111_loop (d : Nat) {N : Nat} {xs : Nat → Int32} {zc zm : Nat → Int32} {e3 e11 e18 : Nat} {A : Nat → Nat → Int32} {g gh : Nat → Option Nat} {dy : pw_H} (S : Nat) (hS : zm 12 = nI S) (hSb : S ≤ 12) (T : Nat) (hT : zm 16 = nI T) (hTb : T ≤ 60) (hf : ∀ i, i < T → 0 ≤ (A 39 i).toInt) (yr : Int32) : ∀ (k i : Nat), i + k = S → pw_W (d + 2) 111 4 [some (.inr (some 25)), some (.inl yr), some (.inl (la_i (la_run A T (zm 11) yr i))), some (.inl (nI i))] [] (hp_h N xs zc e3 e11 e18 zm A g gh dy) (pw_qi (fun r h' => r = la_i (la_run A T (zm 11) yr S) ∧ h' = (hp_h N xs zc e3 e11 e18 zm A g gh dy))) := by
  have hST : (zm 12).toInt = (S : Int) := by rw [hS]; exact pw_T (by omega)
  have hSP : (zm 12 - 1).toInt = (S : Int) - 1 := by rw [hS]; exact pw_pred (by omega)
  have hTT : (zm 16).toInt = (T : Int) := by rw [hT]; exact pw_T (by omega)
  have hTP : (zm 16 - 1).toInt = (T : Int) - 1 := by rw [hT]; exact pw_pred (by omega)
  have zm1 := pz_m1
  intro k
  induction k with
  | zero =>
    intro i hi
    obtain rfl : i = S := by omega
    have hiT := pw_T (n := i) (by omega)
    refine pr_iload_n rfl rfl ?_
    refine pr_aload_n rfl rfl ?_
    refine pr_getf rfl rfl rfl ?_
    refine pr_c_ge rfl (fun c_9 => ?_) (fun c_9 => ?_)
    · skip
      refine pr_iload_n rfl rfl ?_
      exact pr_reti rfl rfl (⟨rfl, rfl⟩)
    · skip
      exact absurd c_9 (by omega)
  | succ k ih =>
    intro i hi
    have hiT := pw_T (n := i) (by omega)
    have hih := ih (i + 1) (by omega)
    cases hr : la_run A T (zm 11) yr i with
    | none =>
      show pw_W (d + 2) 111 4 [some (.inr (some 25)), some (.inl yr), some (.inl (-1)), some (.inl (nI i))] [] _ _
      refine pr_iload_n rfl rfl ?_
      refine pr_aload_n rfl rfl ?_
      refine pr_getf rfl rfl rfl ?_
      refine pr_c_ge rfl (fun c_9 => ?_) (fun c_9 => ?_)
      · skip
        exact absurd c_9 (by omega)
      · skip
        refine pr_aload_n rfl rfl ?_
        refine pr_iload_n rfl rfl ?_
        refine pr_vi1 rfl (by decide) (Nat.le_of_ble_eq_true rfl) rfl (Nat.le_of_ble_eq_true rfl) (c_107 _ T hT hTb hf i (by omega)) (fun r_14 h_14 q_14 => ?_)
        obtain ⟨rfl, rfl⟩ := q_14
        refine pr_b_ne rfl (fun c_17 => ?_) (fun c_17 => ?_)
        · skip
          refine pr_iload_n rfl rfl ?_
          refine pr_istore_n rfl (Nat.le_of_ble_eq_true rfl) rfl ?_
          refine pr_iinc rfl rfl (pw_inc i) rfl ?_
          refine pr_step rfl rfl rfl rfl ?_
          first
            | exact pr_L (show _ = [some (.inr (some 25)), some (.inl yr), some (.inl (la_i (la_run A T (zm 11) yr (i + 1)))), some (.inl (nI (i + 1)))] from by
                rw [show la_run A T (zm 11) yr (i + 1) = none from by rw [la_run, hr]; dsimp only; rw [if_neg (fun hh => by first | exact absurd (by assumption) hh.1 | exact absurd hh.2 (by omega))]]; rfl) hih
            | exact pr_L (show _ = [some (.inr (some 25)), some (.inl yr), some (.inl (la_i (la_run A T (zm 11) yr (i + 1)))), some (.inl (nI (i + 1)))] from by
                rw [show la_run A T (zm 11) yr (i + 1) = some i from by rw [la_run, hr]; dsimp only; rw [if_pos (by first | exact ⟨by assumption, by omega⟩ | exact ⟨by assumption, by omega, by omega⟩)]]; rfl) hih
        · skip
          refine pr_aload_n rfl rfl ?_
          refine pr_getf rfl rfl rfl ?_
          refine pr_iload_n rfl rfl ?_
          refine pr_iald (i) rfl rfl (by decide) (by decide) rfl (by omega) ?_
          refine pr_iload_n rfl rfl ?_
          refine pr_c_ge rfl (fun c_27 => ?_) (fun c_27 => ?_)
          · skip
            refine pr_iload_n rfl rfl ?_
            refine pr_istore_n rfl (Nat.le_of_ble_eq_true rfl) rfl ?_
            refine pr_iinc rfl rfl (pw_inc i) rfl ?_
            refine pr_step rfl rfl rfl rfl ?_
            first
              | exact pr_L (show _ = [some (.inr (some 25)), some (.inl yr), some (.inl (la_i (la_run A T (zm 11) yr (i + 1)))), some (.inl (nI (i + 1)))] from by
                  rw [show la_run A T (zm 11) yr (i + 1) = none from by rw [la_run, hr]; dsimp only; rw [if_neg (fun hh => by first | exact absurd (by assumption) hh.1 | exact absurd hh.2 (by omega))]]; rfl) hih
              | exact pr_L (show _ = [some (.inr (some 25)), some (.inl yr), some (.inl (la_i (la_run A T (zm 11) yr (i + 1)))), some (.inl (nI (i + 1)))] from by
                  rw [show la_run A T (zm 11) yr (i + 1) = some i from by rw [la_run, hr]; dsimp only; rw [if_pos (by first | exact ⟨by assumption, by omega⟩ | exact ⟨by assumption, by omega, by omega⟩)]]; rfl) hih
          · skip
            refine pr_iload_n rfl rfl ?_
            refine pr_push (v := (-1)) rfl rfl ?_
            refine pr_step rfl rfl rfl rfl ?_
            refine pr_iload_n rfl rfl ?_
            refine pr_step rfl rfl rfl rfl ?_
            refine pr_istore_n rfl (Nat.le_of_ble_eq_true rfl) rfl ?_
            refine pr_iinc rfl rfl (pw_inc i) rfl ?_
            refine pr_step rfl rfl rfl rfl ?_
            first
              | exact pr_L (show _ = [some (.inr (some 25)), some (.inl yr), some (.inl (la_i (la_run A T (zm 11) yr (i + 1)))), some (.inl (nI (i + 1)))] from by
                  rw [show la_run A T (zm 11) yr (i + 1) = none from by rw [la_run, hr]; dsimp only; rw [if_neg (fun hh => by first | exact absurd (by assumption) hh.1 | exact absurd hh.2 (by omega))]]; rfl) hih
              | exact pr_L (show _ = [some (.inr (some 25)), some (.inl yr), some (.inl (la_i (la_run A T (zm 11) yr (i + 1)))), some (.inl (nI (i + 1)))] from by
                  rw [show la_run A T (zm 11) yr (i + 1) = some i from by rw [la_run, hr]; dsimp only; rw [if_pos (by first | exact ⟨by assumption, by omega⟩ | exact ⟨by assumption, by omega, by omega⟩)]]; rfl) hih
    | some b =>
      have hb := la_lt A T (zm 11) yr i b hr
      have hbT := pw_T (n := b) (by omega)
      show pw_W (d + 2) 111 4 [some (.inr (some 25)), some (.inl yr), some (.inl (nI b)), some (.inl (nI i))] [] _ _
      refine pr_iload_n rfl rfl ?_
      refine pr_aload_n rfl rfl ?_
      refine pr_getf rfl rfl rfl ?_
      refine pr_c_ge rfl (fun c_9 => ?_) (fun c_9 => ?_)
      · skip
        exact absurd c_9 (by omega)
      · skip
        refine pr_aload_n rfl rfl ?_
        refine pr_iload_n rfl rfl ?_
        refine pr_vi1 rfl (by decide) (Nat.le_of_ble_eq_true rfl) rfl (Nat.le_of_ble_eq_true rfl) (c_107 _ T hT hTb hf i (by omega)) (fun r_14 h_14 q_14 => ?_)
        obtain ⟨rfl, rfl⟩ := q_14
        refine pr_b_ne rfl (fun c_17 => ?_) (fun c_17 => ?_)
        · skip
          refine pr_iload_n rfl rfl ?_
          refine pr_istore_n rfl (Nat.le_of_ble_eq_true rfl) rfl ?_
          refine pr_iinc rfl rfl (pw_inc i) rfl ?_
          refine pr_step rfl rfl rfl rfl ?_
          first
            | exact pr_L (show _ = [some (.inr (some 25)), some (.inl yr), some (.inl (la_i (la_run A T (zm 11) yr (i + 1)))), some (.inl (nI (i + 1)))] from by
                rw [show la_run A T (zm 11) yr (i + 1) = some b from by rw [la_run, hr]; dsimp only; rw [if_neg (fun hh => by first | exact absurd (by assumption) hh.1 | exact absurd hh.2 (by omega))]]; rfl) hih
            | exact pr_L (show _ = [some (.inr (some 25)), some (.inl yr), some (.inl (la_i (la_run A T (zm 11) yr (i + 1)))), some (.inl (nI (i + 1)))] from by
                rw [show la_run A T (zm 11) yr (i + 1) = some i from by rw [la_run, hr]; dsimp only; rw [if_pos (by first | exact ⟨by assumption, by omega⟩ | exact ⟨by assumption, by omega, by omega⟩)]]; rfl) hih
        · skip
          refine pr_aload_n rfl rfl ?_
          refine pr_getf rfl rfl rfl ?_
          refine pr_iload_n rfl rfl ?_
          refine pr_iald (i) rfl rfl (by decide) (by decide) rfl (by omega) ?_
          refine pr_iload_n rfl rfl ?_
          refine pr_c_ge rfl (fun c_27 => ?_) (fun c_27 => ?_)
          · skip
            refine pr_iload_n rfl rfl ?_
            refine pr_istore_n rfl (Nat.le_of_ble_eq_true rfl) rfl ?_
            refine pr_iinc rfl rfl (pw_inc i) rfl ?_
            refine pr_step rfl rfl rfl rfl ?_
            first
              | exact pr_L (show _ = [some (.inr (some 25)), some (.inl yr), some (.inl (la_i (la_run A T (zm 11) yr (i + 1)))), some (.inl (nI (i + 1)))] from by
                  rw [show la_run A T (zm 11) yr (i + 1) = some b from by rw [la_run, hr]; dsimp only; rw [if_neg (fun hh => by first | exact absurd (by assumption) hh.1 | exact absurd hh.2 (by omega))]]; rfl) hih
              | exact pr_L (show _ = [some (.inr (some 25)), some (.inl yr), some (.inl (la_i (la_run A T (zm 11) yr (i + 1)))), some (.inl (nI (i + 1)))] from by
                  rw [show la_run A T (zm 11) yr (i + 1) = some i from by rw [la_run, hr]; dsimp only; rw [if_pos (by first | exact ⟨by assumption, by omega⟩ | exact ⟨by assumption, by omega, by omega⟩)]]; rfl) hih
          · skip
            refine pr_iload_n rfl rfl ?_
            refine pr_push (v := (-1)) rfl rfl ?_
            refine pr_u_eq rfl (fun c_32 => ?_) (fun c_32 => ?_)
            · skip
              exact absurd c_32 (by omega)
            · skip
              refine pr_aload_n rfl rfl ?_
              refine pr_getf rfl rfl rfl ?_
              refine pr_iload_n rfl rfl ?_
              refine pr_iald (i) rfl rfl (by decide) (by decide) rfl (by omega) ?_
              refine pr_aload_n rfl rfl ?_
              refine pr_getf rfl rfl rfl ?_
              refine pr_iload_n rfl rfl ?_
              refine pr_iald (b) rfl rfl (by decide) (by decide) rfl (by omega) ?_
              refine pr_c_ge rfl (fun c_47 => ?_) (fun c_47 => ?_)
              · skip
                refine pr_iload_n rfl rfl ?_
                refine pr_istore_n rfl (Nat.le_of_ble_eq_true rfl) rfl ?_
                refine pr_iinc rfl rfl (pw_inc i) rfl ?_
                refine pr_step rfl rfl rfl rfl ?_
                first
                  | exact pr_L (show _ = [some (.inr (some 25)), some (.inl yr), some (.inl (la_i (la_run A T (zm 11) yr (i + 1)))), some (.inl (nI (i + 1)))] from by
                      rw [show la_run A T (zm 11) yr (i + 1) = some b from by rw [la_run, hr]; dsimp only; rw [if_neg (fun hh => by first | exact absurd (by assumption) hh.1 | exact absurd hh.2 (by omega))]]; rfl) hih
                  | exact pr_L (show _ = [some (.inr (some 25)), some (.inl yr), some (.inl (la_i (la_run A T (zm 11) yr (i + 1)))), some (.inl (nI (i + 1)))] from by
                      rw [show la_run A T (zm 11) yr (i + 1) = some i from by rw [la_run, hr]; dsimp only; rw [if_pos (by first | exact ⟨by assumption, by omega⟩ | exact ⟨by assumption, by omega, by omega⟩)]]; rfl) hih
              · skip
                refine pr_iload_n rfl rfl ?_
                refine pr_step rfl rfl rfl rfl ?_
                refine pr_istore_n rfl (Nat.le_of_ble_eq_true rfl) rfl ?_
                refine pr_iinc rfl rfl (pw_inc i) rfl ?_
                refine pr_step rfl rfl rfl rfl ?_
                first
                  | exact pr_L (show _ = [some (.inr (some 25)), some (.inl yr), some (.inl (la_i (la_run A T (zm 11) yr (i + 1)))), some (.inl (nI (i + 1)))] from by
                      rw [show la_run A T (zm 11) yr (i + 1) = some b from by rw [la_run, hr]; dsimp only; rw [if_neg (fun hh => by first | exact absurd (by assumption) hh.1 | exact absurd hh.2 (by omega))]]; rfl) hih
                  | exact pr_L (show _ = [some (.inr (some 25)), some (.inl yr), some (.inl (la_i (la_run A T (zm 11) yr (i + 1)))), some (.inl (nI (i + 1)))] from by
                      rw [show la_run A T (zm 11) yr (i + 1) = some i from by rw [la_run, hr]; dsimp only; rw [if_pos (by first | exact ⟨by assumption, by omega⟩ | exact ⟨by assumption, by omega, by omega⟩)]]; rfl) hih
theorem c_111 (d : Nat) {N : Nat} {xs : Nat → Int32} {zc zm : Nat → Int32} {e3 e11 e18 : Nat} {A : Nat → Nat → Int32} {g gh : Nat → Option Nat} {dy : pw_H} (S : Nat) (hS : zm 12 = nI S) (hSb : S ≤ 12) (T : Nat) (hT : zm 16 = nI T) (hTb : T ≤ 60) (hf : ∀ i, i < T → 0 ≤ (A 39 i).toInt) (yr : Int32) : pw_M (d + 2) 111 [.inr (some 25), .inl yr] (hp_h N xs zc e3 e11 e18 zm A g gh dy) (pw_qi (fun r h' => r = la_i (la_run A T (zm 11) yr S) ∧ h' = (hp_h N xs zc e3 e11 e18 zm A g gh dy))) := by
  refine pr_push (v := (-1)) rfl rfl ?_
  refine pr_istore_n rfl (Nat.le_of_ble_eq_true rfl) rfl ?_
  refine pr_push (v := 0) rfl rfl ?_
  refine pr_istore_n rfl (Nat.le_of_ble_eq_true rfl) rfl ?_
  exact c_111_loop d S hS hSb T hT hTb hf yr S 0 (by omega)
end
section
def gp_add (c : Nat → Int32) (v : Int32) : Nat → Int32 := if v = -1 then c else upd c v.toNatClampNeg (c v.toNatClampNeg + 1)
/-- a row of fields, its owners counted -/
def gp_row (own : Nat → Int32) (c : Nat → Int32) (f : Nat) : Nat → (Nat → Int32)
  | 0 => c
  | k + 1 => gp_add (gp_row own c f k) (own (f + k))
def gp_all (own : Nat → Int32) (hx hy w : Nat) : Nat → (Nat → Int32)
  | 0 => fun _ => 0
  | k + 1 => gp_row own (gp_all own hx hy w k) (12 * (hy + k) + hx) w
def gp_ok (own : Nat → Int32) : Prop := ∀ f, f < 144 → own f = -1 ∨ ∃ p, p < 4 ∧ own f = nI p
/-- who has most so far, and whether alone -/
def gp_st (c : Nat → Int32) : Nat → Nat × Bool
  | 0 => (0, decide (0 < (c 0).toInt))
  | p + 1 => (if (c (gp_st c p).1).toInt < (c (p + 1)).toInt then p + 1 else (gp_st c p).1, decide ((c (gp_st c p).1).toInt < (c (p + 1)).toInt) || (decide ((c (p + 1)).toInt < (c (gp_st c p).1).toInt) && (gp_st c p).2))
theorem gp_st_le (c : Nat → Int32) : ∀ p, (gp_st c p).1 ≤ p
  | 0 => Nat.le_refl 0
  | p + 1 => by
    have h := gp_st_le c p
    unfold gp_st
    dsimp only
    split <;> omega
theorem gp_st_eq (c c2 : Nat → Int32) : ∀ p, (∀ i, i ≤ p → c i = c2 i) → gp_st c p = gp_st c2 p
  | 0, h => by
    unfold gp_st
    rw [h 0 (Nat.le_refl 0)]
  | p + 1, h => by
    have e := gp_st_eq c c2 p (fun i hi => h i (by omega))
    have hl := gp_st_le c2 p
    unfold gp_st
    rw [e, h (p + 1) (Nat.le_refl _), h _ (by omega)]
def gp_of (c : Nat → Int32) : Int32 := if (gp_st c 3).2 = true then nI (gp_st c 3).1 else -1
theorem gp_add_no {c c0 : Nat → Int32} {v : Int32} (h : ∀ i, i < 4 → c i = c0 i) (hv : v = -1) : ∀ i, i < 4 → c i = gp_add c0 v i := by
  intro i hi
  rw [gp_add, if_pos hv]
  exact h i hi
theorem gp_add_yes {c c0 : Nat → Int32} {v : Int32} {p : Nat} (h : ∀ i, i < 4 → c i = c0 i) (hv : ¬ v = -1) (hp : p < 4) (e : v = nI p) : ∀ i, i < 4 → upd c p (c p + 1) i = gp_add c0 v i := by
  intro i hi
  rw [gp_add, if_neg hv, e, nI_clamp (by omega), upd, upd, h p hp]
  split
  · rfl
  · exact h i hi
section HR6
variable {N : Nat} {xs : Nat → Int32} {zc zm : Nat → Int32} {e3 e11 e18 : Nat} {A : Nat → Nat → Int32} {g gh : Nat → Option Nat} {dy : pw_H} {c : Nat → Int32}
theorem hx_55 : (hp_h N xs zc e3 e11 e18 zm (uA A 55 c) g gh dy)[55]? = some (.inl (0, 4, c)) := rfl
end HR6
theorem c_105_z (d : Nat) {N : Nat} {xs : Nat → Int32} {zc zm : Nat → Int32} {e3 e11 e18 : Nat} {A : Nat → Nat → Int32} {g gh : Nat → Option Nat} {dy : pw_H} (j : Nat) (yr : Int32) (g4 g5 : Option pw_V) (Q : Option pw_V → pw_H → Prop) (K : ∀ (c : Nat → Int32) (g3 : Option pw_V), (∀ i, i < 4 → c i = 0) → pw_W (d + 1) 105 20 [some (.inr (some 25)), some (.inl (nI j)), some (.inl yr), g3, g4, g5] [] (hp_h N xs zc e3 e11 e18 zm (uA A 55 c) g gh dy) Q) : ∀ (n k : Nat) (c : Nat → Int32), k + n = 4 → (∀ i, i < k → c i = 0) → pw_W (d + 1) 105 2 [some (.inr (some 25)), some (.inl (nI j)), some (.inl yr), some (.inl (nI k)), g4, g5] [] (hp_h N xs zc e3 e11 e18 zm (uA A 55 c) g gh dy) Q := by
  have z4 := pz_4
  intro n
  induction n with
  | zero =>
    intro k c hk hc
    obtain rfl : k = 4 := by omega
    have hkT := pw_T (n := 4) (by omega)
    refine pr_iload_n rfl rfl ?_
    refine pr_push (v := 4) rfl rfl ?_
    refine pr_c_ge rfl (fun c_4 => ?_) (fun c_4 => ?_)
    · skip
      exact K c _ hc
    · skip
      exact absurd c_4 (by omega)
  | succ n ih =>
    intro k c hk hc
    have hkT := pw_T (n := k) (by omega)
    refine pr_iload_n rfl rfl ?_
    refine pr_push (v := 4) rfl rfl ?_
    refine pr_c_ge rfl (fun c_4 => ?_) (fun c_4 => ?_)
    · skip
      exact absurd c_4 (by omega)
    · skip
      refine pr_aload_n rfl rfl ?_
      refine pr_getf rfl rfl rfl ?_
      refine pr_iload_n rfl rfl ?_
      refine pr_push (v := 0) rfl rfl ?_
      refine pr_iast (k) rfl hx_55 (by decide) rfl (by omega) ht_a55 ?_
      refine pr_iinc rfl rfl (pw_inc k) rfl ?_
      refine pr_step rfl rfl rfl rfl ?_
      exact ih (k + 1) (upd c k 0) (by omega) (fun i hi => by
        unfold upd
        split
        · rfl
        · exact hc i (by omega))
theorem c_105_x (d : Nat) {N : Nat} {xs : Nat → Int32} {zc zm : Nat → Int32} {e3 e11 e18 : Nat} {A : Nat → Nat → Int32} {g gh : Nat → Option Nat} {dy : pw_H} (P : Nat) (hP : zm 0 = nI P) (hPb : P ≤ 4) (E : Nat) (hE : zm 7 = nI E) (hEb : E ≤ 12) (hf : ∀ i, i < E → 0 ≤ (A 32 i).toInt) (j : Nat) (hj : j < 6) (yr : Int32) (hx hy w hh : Nat) (hhx : A 43 j = nI hx) (hhy : A 44 j = nI hy) (hhw : A 45 j = nI w) (hhh : A 46 j = nI hh) (hxw : hx + w ≤ 12) (hyh : hy + hh ≤ 12) (ho : gp_ok (fun f => ow_of A E P f yr)) (y : Nat) (hy12 : y < 12) (c0 : Nat → Int32) (Q : Option pw_V → pw_H → Prop) (K : ∀ (c : Nat → Int32) (g4 g5 : Option pw_V), (∀ i, i < 4 → c i = gp_row (fun f => ow_of A E P f yr) c0 (12 * y + hx) w i) → pw_W (d + 1) 105 107 [some (.inr (some 25)), some (.inl (nI j)), some (.inl yr), some (.inl (nI y)), g4, g5] [] (hp_h N xs zc e3 e11 e18 zm (uA A 55 c) g gh dy) Q) : ∀ (n k : Nat) (c : Nat → Int32) (g5 : Option pw_V), k + n = w → (∀ i, i < 4 → c i = gp_row (fun f => ow_of A E P f yr) c0 (12 * y + hx) k i) → pw_W (d + 1) 105 52 [some (.inr (some 25)), some (.inl (nI j)), some (.inl yr), some (.inl (nI y)), some (.inl (nI (hx + k))), g5] [] (hp_h N xs zc e3 e11 e18 zm (uA A 55 c) g gh dy) Q := by
  have z4 := pz_4
  have zxw := pw_T (n := hx + w) (by omega)
  intro n
  induction n with
  | zero =>
    intro k c g5 hk hc
    obtain rfl : k = w := by omega
    have hkT := pw_T (n := hx + k) (by omega)
    refine pr_iload rfl rfl ?_
    refine pr_aload_n rfl rfl ?_
    refine pr_getf rfl rfl rfl ?_
    refine pr_iload_n rfl rfl ?_
    refine pr_iald (j) rfl rfl (by decide) (by decide) rfl (by omega) ?_
    refine pr_aload_n rfl rfl ?_
    refine pr_getf rfl rfl rfl ?_
    refine pr_iload_n rfl rfl ?_
    refine pr_iald (j) rfl rfl (by decide) (by decide) rfl (by omega) ?_
    refine pr_step rfl rfl rfl rfl ?_
    refine pr_top ((by rw [hhx, hhw]; exact nI_add hx k : A 43 j + A 45 j = nI (hx + k))) ?_
    refine pr_c_ge rfl (fun c_67 => ?_) (fun c_67 => ?_)
    · skip
      exact K c _ _ hc
    · skip
      exact absurd c_67 (by omega)
  | succ n ih =>
    intro k c g5 hk hc
    have hkT := pw_T (n := hx + k) (by omega)
    refine pr_iload rfl rfl ?_
    refine pr_aload_n rfl rfl ?_
    refine pr_getf rfl rfl rfl ?_
    refine pr_iload_n rfl rfl ?_
    refine pr_iald (j) rfl rfl (by decide) (by decide) rfl (by omega) ?_
    refine pr_aload_n rfl rfl ?_
    refine pr_getf rfl rfl rfl ?_
    refine pr_iload_n rfl rfl ?_
    refine pr_iald (j) rfl rfl (by decide) (by decide) rfl (by omega) ?_
    refine pr_step rfl rfl rfl rfl ?_
    refine pr_top ((by rw [hhx, hhw]; exact nI_add hx w : A 43 j + A 45 j = nI (hx + w))) ?_
    refine pr_c_ge rfl (fun c_67 => ?_) (fun c_67 => ?_)
    · skip
      exact absurd c_67 (by omega)
    · skip
      refine pr_aload_n rfl rfl ?_
      refine pr_push (v := 12) rfl rfl ?_
      refine pr_iload_n rfl rfl ?_
      refine pr_step rfl rfl rfl rfl ?_
      refine pr_iload rfl rfl ?_
      refine pr_step rfl rfl rfl rfl ?_
      refine pr_top ((show 12 * nI y + nI (hx + k) = nI (12 * y + hx + k) from by rw [pw_at, Nat.add_assoc])) ?_
      refine pr_iload_n rfl rfl ?_
      refine pr_vi2 rfl (by decide) (Nat.le_of_ble_eq_true rfl) rfl (Nat.le_of_ble_eq_true rfl) (c_87 (A := (uA A 55 c)) _ P hP hPb E hE hEb hf (12 * y + hx + k) (by omega) yr) (fun r_79 h_79 q_79 => ?_)
      obtain ⟨e_79, rfl⟩ := q_79
      have e2 : r_79 = ow_of A E P (12 * y + hx + k) yr := e_79
      have hor := ho (12 * y + hx + k) (by omega)
      dsimp only at hor
      rw [← e2] at hor
      refine pr_istore rfl (Nat.le_of_ble_eq_true rfl) rfl ?_
      refine pr_iload rfl rfl ?_
      refine pr_push (v := (-1)) rfl rfl ?_
      refine pr_c_eq rfl (fun c_87 => ?_) (fun c_87 => ?_)
      · skip
        refine pr_iinc rfl rfl (pw_inc (hx + k)) rfl ?_
        refine pr_step rfl rfl rfl rfl ?_
        first
          | exact ih (k + 1) c _ (by omega) (fun i hi => by
              have h2 := gp_add_no (v := r_79) hc (by assumption) i hi
              rw [e2] at h2
              exact h2)
          | exact ih (k + 1) (upd c p (c p + 1)) _ (by omega) (fun i hi => by
              have h2 := gp_add_yes (v := r_79) hc (by assumption) hp4 ep i hi
              rw [e2] at h2
              exact h2)
      · skip
        obtain ⟨p, hp4, ep⟩ := hor.resolve_left c_87
        refine pr_aload_n rfl rfl ?_
        refine pr_getf rfl rfl rfl ?_
        refine pr_iload rfl rfl ?_
        refine pr_step rfl rfl rfl rfl ?_
        refine pr_iald (p) rfl hx_55 (by decide) (by decide) ep (by omega) ?_
        refine pr_push (v := 1) rfl rfl ?_
        refine pr_step rfl rfl rfl rfl ?_
        refine pr_iast (p) rfl hx_55 (by decide) ep (by omega) ht_a55 ?_
        refine pr_iinc rfl rfl (pw_inc (hx + k)) rfl ?_
        refine pr_step rfl rfl rfl rfl ?_
        first
          | exact ih (k + 1) c _ (by omega) (fun i hi => by
              have h2 := gp_add_no (v := r_79) hc (by assumption) i hi
              rw [e2] at h2
              exact h2)
          | exact ih (k + 1) (upd c p (c p + 1)) _ (by omega) (fun i hi => by
              have h2 := gp_add_yes (v := r_79) hc (by assumption) hp4 ep i hi
              rw [e2] at h2
              exact h2)
theorem c_105_y (d : Nat) {N : Nat} {xs : Nat → Int32} {zc zm : Nat → Int32} {e3 e11 e18 : Nat} {A : Nat → Nat → Int32} {g gh : Nat → Option Nat} {dy : pw_H} (P : Nat) (hP : zm 0 = nI P) (hPb : P ≤ 4) (E : Nat) (hE : zm 7 = nI E) (hEb : E ≤ 12) (hf : ∀ i, i < E → 0 ≤ (A 32 i).toInt) (j : Nat) (hj : j < 6) (yr : Int32) (hx hy w hh : Nat) (hhx : A 43 j = nI hx) (hhy : A 44 j = nI hy) (hhw : A 45 j = nI w) (hhh : A 46 j = nI hh) (hxw : hx + w ≤ 12) (hyh : hy + hh ≤ 12) (ho : gp_ok (fun f => ow_of A E P f yr)) (Q : Option pw_V → pw_H → Prop) (K : ∀ (c : Nat → Int32) (g3 g4 g5 : Option pw_V), (∀ i, i < 4 → c i = gp_all (fun f => ow_of A E P f yr) hx hy w hh i) → pw_W (d + 1) 105 113 [some (.inr (some 25)), some (.inl (nI j)), some (.inl yr), g3, g4, g5] [] (hp_h N xs zc e3 e11 e18 zm (uA A 55 c) g gh dy) Q) : ∀ (n k : Nat) (c : Nat → Int32) (g4 g5 : Option pw_V), k + n = hh → (∀ i, i < 4 → c i = gp_all (fun f => ow_of A E P f yr) hx hy w k i) → pw_W (d + 1) 105 27 [some (.inr (some 25)), some (.inl (nI j)), some (.inl yr), some (.inl (nI (hy + k))), g4, g5] [] (hp_h N xs zc e3 e11 e18 zm (uA A 55 c) g gh dy) Q := by
  have zyh := pw_T (n := hy + hh) (by omega)
  intro n
  induction n with
  | zero =>
    intro k c g4 g5 hk hc
    obtain rfl : k = hh := by omega
    have hkT := pw_T (n := hy + k) (by omega)
    refine pr_iload_n rfl rfl ?_
    refine pr_aload_n rfl rfl ?_
    refine pr_getf rfl rfl rfl ?_
    refine pr_iload_n rfl rfl ?_
    refine pr_iald (j) rfl rfl (by decide) (by decide) rfl (by omega) ?_
    refine pr_aload_n rfl rfl ?_
    refine pr_getf rfl rfl rfl ?_
    refine pr_iload_n rfl rfl ?_
    refine pr_iald (j) rfl rfl (by decide) (by decide) rfl (by omega) ?_
    refine pr_step rfl rfl rfl rfl ?_
    refine pr_top ((by rw [hhy, hhh]; exact nI_add hy k : A 44 j + A 46 j = nI (hy + k))) ?_
    refine pr_c_ge rfl (fun c_41 => ?_) (fun c_41 => ?_)
    · skip
      exact K c _ _ _ hc
    · skip
      exact absurd c_41 (by omega)
  | succ n ih =>
    intro k c g4 g5 hk hc
    have hkT := pw_T (n := hy + k) (by omega)
    refine pr_iload_n rfl rfl ?_
    refine pr_aload_n rfl rfl ?_
    refine pr_getf rfl rfl rfl ?_
    refine pr_iload_n rfl rfl ?_
    refine pr_iald (j) rfl rfl (by decide) (by decide) rfl (by omega) ?_
    refine pr_aload_n rfl rfl ?_
    refine pr_getf rfl rfl rfl ?_
    refine pr_iload_n rfl rfl ?_
    refine pr_iald (j) rfl rfl (by decide) (by decide) rfl (by omega) ?_
    refine pr_step rfl rfl rfl rfl ?_
    refine pr_top ((by rw [hhy, hhh]; exact nI_add hy hh : A 44 j + A 46 j = nI (hy + hh))) ?_
    refine pr_c_ge rfl (fun c_41 => ?_) (fun c_41 => ?_)
    · skip
      exact absurd c_41 (by omega)
    · skip
      refine pr_aload_n rfl rfl ?_
      refine pr_getf rfl rfl rfl ?_
      refine pr_iload_n rfl rfl ?_
      refine pr_iald (j) rfl rfl (by decide) (by decide) rfl (by omega) ?_
      refine pr_top (show A 43 j = nI (hx + 0) from hhx) ?_
      refine pr_istore rfl (Nat.le_of_ble_eq_true rfl) rfl ?_
      refine c_105_x d P hP hPb E hE hEb hf j hj yr hx hy w hh hhx hhy hhw hhh hxw hyh ho (hy + k) (by omega) (gp_all (fun f => ow_of A E P f yr) hx hy w k) Q (fun c2 h4 h5 hc2 => ?_) w 0 c _ (by omega) hc
      refine pr_iinc rfl rfl (pw_inc (hy + k)) rfl ?_
      refine pr_step rfl rfl rfl rfl ?_
      exact ih (k + 1) c2 _ _ (by omega) hc2
theorem c_105_e (d : Nat) {N : Nat} {xs : Nat → Int32} {zc zm : Nat → Int32} {e3 e11 e18 : Nat} {A : Nat → Nat → Int32} {g gh : Nat → Option Nat} {dy : pw_H} (j : Nat) (yr : Int32) (c : Nat → Int32) : ∀ (n p b : Nat) (a : Bool), p + n = 3 → gp_st c p = (b, a) → pw_W (d + 1) 105 134 [some (.inr (some 25)), some (.inl (nI j)), some (.inl yr), some (.inl (nI b)), some (.inl (pw_bo a)), some (.inl (nI (p + 1)))] [] (hp_h N xs zc e3 e11 e18 zm (uA A 55 c) g gh dy) (pw_qi (fun r h' => r = gp_of c ∧ h' = (hp_h N xs zc e3 e11 e18 zm (uA A 55 c) g gh dy))) := by
  have z4 := pz_4
  intro n
  induction n with
  | zero =>
    intro p b a hp hs
    obtain rfl : p = 3 := by omega
    have hkT := pw_T (n := 3 + 1) (by omega)
    refine pr_iload rfl rfl ?_
    refine pr_push (v := 4) rfl rfl ?_
    refine pr_c_ge rfl (fun c_137 => ?_) (fun c_137 => ?_)
    · skip
      refine pr_iload rfl rfl ?_
      refine pr_t_eq rfl (fun c_215 => ?_) (fun c_215 => ?_)
      · skip
        refine pr_push (v := (-1)) rfl rfl ?_
        exact pr_reti rfl rfl (by
    refine ⟨?_, rfl⟩
    unfold gp_of
    rw [hs]
    dsimp only
    first
    | rw [if_neg (by rw [pw_bo_0 c_215]; exact Bool.false_ne_true)]
    | rw [if_pos (pw_bo_1 c_215)])
      · skip
        refine pr_iload_n rfl rfl ?_
        refine pr_step rfl rfl rfl rfl ?_
        exact pr_reti rfl rfl (by
    refine ⟨?_, rfl⟩
    unfold gp_of
    rw [hs]
    dsimp only
    first
    | rw [if_neg (by rw [pw_bo_0 c_215]; exact Bool.false_ne_true)]
    | rw [if_pos (pw_bo_1 c_215)])
    · skip
      exact absurd c_137 (by omega)
  | succ n ih =>
    intro p b a hp hs
    have hkT := pw_T (n := p + 1) (by omega)
    have hb : b ≤ p := by have := gp_st_le c p; rw [hs] at this; exact this
    refine pr_iload rfl rfl ?_
    refine pr_push (v := 4) rfl rfl ?_
    refine pr_c_ge rfl (fun c_137 => ?_) (fun c_137 => ?_)
    · skip
      exact absurd c_137 (by omega)
    · skip
      refine pr_aload_n rfl rfl ?_
      refine pr_getf rfl rfl rfl ?_
      refine pr_iload rfl rfl ?_
      refine pr_iald (p + 1) rfl hx_55 (by decide) (by decide) rfl (by omega) ?_
      refine pr_aload_n rfl rfl ?_
      refine pr_getf rfl rfl rfl ?_
      refine pr_iload_n rfl rfl ?_
      refine pr_iald (b) rfl hx_55 (by decide) (by decide) rfl (by omega) ?_
      refine pr_c_gt rfl (fun c_153 => ?_) (fun c_153 => ?_)
      · skip
        refine pr_push (v := 1) rfl rfl ?_
        refine pr_step rfl rfl rfl rfl ?_
        refine pr_istore rfl (Nat.le_of_ble_eq_true rfl) rfl ?_
        refine pr_aload_n rfl rfl ?_
        refine pr_getf rfl rfl rfl ?_
        refine pr_iload rfl rfl ?_
        refine pr_iald (p + 1) rfl hx_55 (by decide) (by decide) rfl (by omega) ?_
        refine pr_aload_n rfl rfl ?_
        refine pr_getf rfl rfl rfl ?_
        refine pr_iload_n rfl rfl ?_
        refine pr_iald (b) rfl hx_55 (by decide) (by decide) rfl (by omega) ?_
        refine pr_c_le rfl (fun c_197 => ?_) (fun c_197 => ?_)
        · skip
          refine pr_iload_n rfl rfl ?_
          refine pr_istore_n rfl (Nat.le_of_ble_eq_true rfl) rfl ?_
          refine pr_iinc rfl rfl (pw_inc (p + 1)) rfl ?_
          refine pr_step rfl rfl rfl rfl ?_
          first
            | exact ih (p + 1) (p + 1) true (by omega) (by rw [gp_st, hs]; dsimp only; rw [if_pos (by omega), decide_eq_true (by omega)]; rfl)
            | exact ih (p + 1) b true (by omega) (by rw [gp_st, hs]; dsimp only; rw [if_neg (by omega), decide_eq_false (by omega), decide_eq_true (by omega), pw_bo_1 c_174]; rfl)
            | exact ih (p + 1) b false (by omega) (by rw [gp_st, hs]; dsimp only; rw [if_neg (by omega), decide_eq_false (by omega), decide_eq_true (by omega), pw_bo_0 c_174]; rfl)
            | exact ih (p + 1) b false (by omega) (by rw [gp_st, hs]; dsimp only; rw [if_neg (by omega), decide_eq_false (by omega), decide_eq_false (by omega)]; rfl)
            | (exfalso; omega)
        · skip
          refine pr_iload rfl rfl ?_
          refine pr_step rfl rfl rfl rfl ?_
          refine pr_istore_n rfl (Nat.le_of_ble_eq_true rfl) rfl ?_
          refine pr_iinc rfl rfl (pw_inc (p + 1)) rfl ?_
          refine pr_step rfl rfl rfl rfl ?_
          first
            | exact ih (p + 1) (p + 1) true (by omega) (by rw [gp_st, hs]; dsimp only; rw [if_pos (by omega), decide_eq_true (by omega)]; rfl)
            | exact ih (p + 1) b true (by omega) (by rw [gp_st, hs]; dsimp only; rw [if_neg (by omega), decide_eq_false (by omega), decide_eq_true (by omega), pw_bo_1 c_174]; rfl)
            | exact ih (p + 1) b false (by omega) (by rw [gp_st, hs]; dsimp only; rw [if_neg (by omega), decide_eq_false (by omega), decide_eq_true (by omega), pw_bo_0 c_174]; rfl)
            | exact ih (p + 1) b false (by omega) (by rw [gp_st, hs]; dsimp only; rw [if_neg (by omega), decide_eq_false (by omega), decide_eq_false (by omega)]; rfl)
            | (exfalso; omega)
      · skip
        refine pr_aload_n rfl rfl ?_
        refine pr_getf rfl rfl rfl ?_
        refine pr_iload rfl rfl ?_
        refine pr_iald (p + 1) rfl hx_55 (by decide) (by decide) rfl (by omega) ?_
        refine pr_aload_n rfl rfl ?_
        refine pr_getf rfl rfl rfl ?_
        refine pr_iload_n rfl rfl ?_
        refine pr_iald (b) rfl hx_55 (by decide) (by decide) rfl (by omega) ?_
        refine pr_c_ge rfl (fun c_169 => ?_) (fun c_169 => ?_)
        · skip
          refine pr_push (v := 0) rfl rfl ?_
          refine pr_istore rfl (Nat.le_of_ble_eq_true rfl) rfl ?_
          refine pr_aload_n rfl rfl ?_
          refine pr_getf rfl rfl rfl ?_
          refine pr_iload rfl rfl ?_
          refine pr_iald (p + 1) rfl hx_55 (by decide) (by decide) rfl (by omega) ?_
          refine pr_aload_n rfl rfl ?_
          refine pr_getf rfl rfl rfl ?_
          refine pr_iload_n rfl rfl ?_
          refine pr_iald (b) rfl hx_55 (by decide) (by decide) rfl (by omega) ?_
          refine pr_c_le rfl (fun c_197 => ?_) (fun c_197 => ?_)
          · skip
            refine pr_iload_n rfl rfl ?_
            refine pr_istore_n rfl (Nat.le_of_ble_eq_true rfl) rfl ?_
            refine pr_iinc rfl rfl (pw_inc (p + 1)) rfl ?_
            refine pr_step rfl rfl rfl rfl ?_
            first
              | exact ih (p + 1) (p + 1) true (by omega) (by rw [gp_st, hs]; dsimp only; rw [if_pos (by omega), decide_eq_true (by omega)]; rfl)
              | exact ih (p + 1) b true (by omega) (by rw [gp_st, hs]; dsimp only; rw [if_neg (by omega), decide_eq_false (by omega), decide_eq_true (by omega), pw_bo_1 c_174]; rfl)
              | exact ih (p + 1) b false (by omega) (by rw [gp_st, hs]; dsimp only; rw [if_neg (by omega), decide_eq_false (by omega), decide_eq_true (by omega), pw_bo_0 c_174]; rfl)
              | exact ih (p + 1) b false (by omega) (by rw [gp_st, hs]; dsimp only; rw [if_neg (by omega), decide_eq_false (by omega), decide_eq_false (by omega)]; rfl)
              | (exfalso; omega)
          · skip
            refine pr_iload rfl rfl ?_
            refine pr_step rfl rfl rfl rfl ?_
            refine pr_istore_n rfl (Nat.le_of_ble_eq_true rfl) rfl ?_
            refine pr_iinc rfl rfl (pw_inc (p + 1)) rfl ?_
            refine pr_step rfl rfl rfl rfl ?_
            first
              | exact ih (p + 1) (p + 1) true (by omega) (by rw [gp_st, hs]; dsimp only; rw [if_pos (by omega), decide_eq_true (by omega)]; rfl)
              | exact ih (p + 1) b true (by omega) (by rw [gp_st, hs]; dsimp only; rw [if_neg (by omega), decide_eq_false (by omega), decide_eq_true (by omega), pw_bo_1 c_174]; rfl)
              | exact ih (p + 1) b false (by omega) (by rw [gp_st, hs]; dsimp only; rw [if_neg (by omega), decide_eq_false (by omega), decide_eq_true (by omega), pw_bo_0 c_174]; rfl)
              | exact ih (p + 1) b false (by omega) (by rw [gp_st, hs]; dsimp only; rw [if_neg (by omega), decide_eq_false (by omega), decide_eq_false (by omega)]; rfl)
              | (exfalso; omega)
        · skip
          refine pr_iload rfl rfl ?_
          refine pr_t_eq rfl (fun c_174 => ?_) (fun c_174 => ?_)
          · skip
            refine pr_push (v := 0) rfl rfl ?_
            refine pr_istore rfl (Nat.le_of_ble_eq_true rfl) rfl ?_
            refine pr_aload_n rfl rfl ?_
            refine pr_getf rfl rfl rfl ?_
            refine pr_iload rfl rfl ?_
            refine pr_iald (p + 1) rfl hx_55 (by decide) (by decide) rfl (by omega) ?_
            refine pr_aload_n rfl rfl ?_
            refine pr_getf rfl rfl rfl ?_
            refine pr_iload_n rfl rfl ?_
            refine pr_iald (b) rfl hx_55 (by decide) (by decide) rfl (by omega) ?_
            refine pr_c_le rfl (fun c_197 => ?_) (fun c_197 => ?_)
            · skip
              refine pr_iload_n rfl rfl ?_
              refine pr_istore_n rfl (Nat.le_of_ble_eq_true rfl) rfl ?_
              refine pr_iinc rfl rfl (pw_inc (p + 1)) rfl ?_
              refine pr_step rfl rfl rfl rfl ?_
              first
                | exact ih (p + 1) (p + 1) true (by omega) (by rw [gp_st, hs]; dsimp only; rw [if_pos (by omega), decide_eq_true (by omega)]; rfl)
                | exact ih (p + 1) b true (by omega) (by rw [gp_st, hs]; dsimp only; rw [if_neg (by omega), decide_eq_false (by omega), decide_eq_true (by omega), pw_bo_1 c_174]; rfl)
                | exact ih (p + 1) b false (by omega) (by rw [gp_st, hs]; dsimp only; rw [if_neg (by omega), decide_eq_false (by omega), decide_eq_true (by omega), pw_bo_0 c_174]; rfl)
                | exact ih (p + 1) b false (by omega) (by rw [gp_st, hs]; dsimp only; rw [if_neg (by omega), decide_eq_false (by omega), decide_eq_false (by omega)]; rfl)
                | (exfalso; omega)
            · skip
              refine pr_iload rfl rfl ?_
              refine pr_step rfl rfl rfl rfl ?_
              refine pr_istore_n rfl (Nat.le_of_ble_eq_true rfl) rfl ?_
              refine pr_iinc rfl rfl (pw_inc (p + 1)) rfl ?_
              refine pr_step rfl rfl rfl rfl ?_
              first
                | exact ih (p + 1) (p + 1) true (by omega) (by rw [gp_st, hs]; dsimp only; rw [if_pos (by omega), decide_eq_true (by omega)]; rfl)
                | exact ih (p + 1) b true (by omega) (by rw [gp_st, hs]; dsimp only; rw [if_neg (by omega), decide_eq_false (by omega), decide_eq_true (by omega), pw_bo_1 c_174]; rfl)
                | exact ih (p + 1) b false (by omega) (by rw [gp_st, hs]; dsimp only; rw [if_neg (by omega), decide_eq_false (by omega), decide_eq_true (by omega), pw_bo_0 c_174]; rfl)
                | exact ih (p + 1) b false (by omega) (by rw [gp_st, hs]; dsimp only; rw [if_neg (by omega), decide_eq_false (by omega), decide_eq_false (by omega)]; rfl)
                | (exfalso; omega)
          · skip
            refine pr_push (v := 1) rfl rfl ?_
            refine pr_step rfl rfl rfl rfl ?_
            refine pr_istore rfl (Nat.le_of_ble_eq_true rfl) rfl ?_
            refine pr_aload_n rfl rfl ?_
            refine pr_getf rfl rfl rfl ?_
            refine pr_iload rfl rfl ?_
            refine pr_iald (p + 1) rfl hx_55 (by decide) (by decide) rfl (by omega) ?_
            refine pr_aload_n rfl rfl ?_
            refine pr_getf rfl rfl rfl ?_
            refine pr_iload_n rfl rfl ?_
            refine pr_iald (b) rfl hx_55 (by decide) (by decide) rfl (by omega) ?_
            refine pr_c_le rfl (fun c_197 => ?_) (fun c_197 => ?_)
            · skip
              refine pr_iload_n rfl rfl ?_
              refine pr_istore_n rfl (Nat.le_of_ble_eq_true rfl) rfl ?_
              refine pr_iinc rfl rfl (pw_inc (p + 1)) rfl ?_
              refine pr_step rfl rfl rfl rfl ?_
              first
                | exact ih (p + 1) (p + 1) true (by omega) (by rw [gp_st, hs]; dsimp only; rw [if_pos (by omega), decide_eq_true (by omega)]; rfl)
                | exact ih (p + 1) b true (by omega) (by rw [gp_st, hs]; dsimp only; rw [if_neg (by omega), decide_eq_false (by omega), decide_eq_true (by omega), pw_bo_1 c_174]; rfl)
                | exact ih (p + 1) b false (by omega) (by rw [gp_st, hs]; dsimp only; rw [if_neg (by omega), decide_eq_false (by omega), decide_eq_true (by omega), pw_bo_0 c_174]; rfl)
                | exact ih (p + 1) b false (by omega) (by rw [gp_st, hs]; dsimp only; rw [if_neg (by omega), decide_eq_false (by omega), decide_eq_false (by omega)]; rfl)
                | (exfalso; omega)
            · skip
              refine pr_iload rfl rfl ?_
              refine pr_step rfl rfl rfl rfl ?_
              refine pr_istore_n rfl (Nat.le_of_ble_eq_true rfl) rfl ?_
              refine pr_iinc rfl rfl (pw_inc (p + 1)) rfl ?_
              refine pr_step rfl rfl rfl rfl ?_
              first
                | exact ih (p + 1) (p + 1) true (by omega) (by rw [gp_st, hs]; dsimp only; rw [if_pos (by omega), decide_eq_true (by omega)]; rfl)
                | exact ih (p + 1) b true (by omega) (by rw [gp_st, hs]; dsimp only; rw [if_neg (by omega), decide_eq_false (by omega), decide_eq_true (by omega), pw_bo_1 c_174]; rfl)
                | exact ih (p + 1) b false (by omega) (by rw [gp_st, hs]; dsimp only; rw [if_neg (by omega), decide_eq_false (by omega), decide_eq_true (by omega), pw_bo_0 c_174]; rfl)
                | exact ih (p + 1) b false (by omega) (by rw [gp_st, hs]; dsimp only; rw [if_neg (by omega), decide_eq_false (by omega), decide_eq_false (by omega)]; rfl)
                | (exfalso; omega)
theorem c_105 (d : Nat) {N : Nat} {xs : Nat → Int32} {zc zm : Nat → Int32} {e3 e11 e18 : Nat} {A : Nat → Nat → Int32} {g gh : Nat → Option Nat} {dy : pw_H} (P : Nat) (hP : zm 0 = nI P) (hPb : P ≤ 4) (E : Nat) (hE : zm 7 = nI E) (hEb : E ≤ 12) (hf : ∀ i, i < E → 0 ≤ (A 32 i).toInt) (j : Nat) (hj : j < 6) (yr : Int32) (hx hy w hh : Nat) (hhx : A 43 j = nI hx) (hhy : A 44 j = nI hy) (hhw : A 45 j = nI w) (hhh : A 46 j = nI hh) (hxw : hx + w ≤ 12) (hyh : hy + hh ≤ 12) (ho : gp_ok (fun f => ow_of A E P f yr)) : pw_M (d + 1) 105 [.inr (some 25), .inl (nI j), .inl yr] (hp_h N xs zc e3 e11 e18 zm A g gh dy) (pw_qi (fun r h' => r = gp_of (gp_all (fun f => ow_of A E P f yr) hx hy w hh) ∧ ∃ c : Nat → Int32, h' = (hp_h N xs zc e3 e11 e18 zm (uA A 55 c) g gh dy))) := by
  refine pr_push (v := 0) rfl rfl ?_
  refine pr_istore_n rfl (Nat.le_of_ble_eq_true rfl) rfl ?_
  refine pr_heap (show (hp_h N xs zc e3 e11 e18 zm A g gh dy) = (hp_h N xs zc e3 e11 e18 zm (uA A 55 (A 55)) g gh dy) by rw [uA_self]) ?_
  refine c_105_z d j yr none none _ (fun c g3 hc => ?_) 4 0 (A 55) (by omega) (fun i hi => absurd hi (Nat.not_lt_zero i))
  refine pr_aload_n rfl rfl ?_
  refine pr_getf rfl rfl rfl ?_
  refine pr_iload_n rfl rfl ?_
  refine pr_iald (j) rfl rfl (by decide) (by decide) rfl (by omega) ?_
  refine pr_top (show A 44 j = nI (hy + 0) from hhy) ?_
  refine pr_istore_n rfl (Nat.le_of_ble_eq_true rfl) rfl ?_
  refine c_105_y d P hP hPb E hE hEb hf j hj yr hx hy w hh hhx hhy hhw hhh hxw hyh ho _ (fun c2 h3 h4 h5 hc2 => ?_) hh 0 c _ _ (by omega) hc
  refine pr_push (v := 0) rfl rfl ?_
  refine pr_istore_n rfl (Nat.le_of_ble_eq_true rfl) rfl ?_
  refine pr_aload_n rfl rfl ?_
  refine pr_getf rfl rfl rfl ?_
  refine pr_push (v := 0) rfl rfl ?_
  refine pr_iald 0 rfl hx_55 (by decide) (by decide) rfl (by omega) ?_
  refine pr_z_le rfl (fun c_121 => ?_) (fun c_121 => ?_)
  · skip
    refine pr_push (v := 0) rfl rfl ?_
    refine pr_istore rfl (Nat.le_of_ble_eq_true rfl) rfl ?_
    refine pr_push (v := 1) rfl rfl ?_
    refine pr_istore rfl (Nat.le_of_ble_eq_true rfl) rfl ?_
    first
      | (have hz := c_121
         refine pr_post (c_105_e d j yr c2 3 0 0 false (by omega) (by unfold gp_st; rw [decide_eq_false (by omega)])) (fun r h1 hq => ?_)
         obtain ⟨x, e1, e2, e3⟩ := hq
         refine ⟨x, e1, ?_, c2, e3⟩
         rw [e2]
         unfold gp_of
         rw [gp_st_eq c2 (gp_all (fun f => ow_of A E P f yr) hx hy w hh) 3 (fun i hi => hc2 i (by omega))])
      | (have hz := c_121
         refine pr_post (c_105_e d j yr c2 3 0 0 true (by omega) (by unfold gp_st; rw [decide_eq_true (by omega)])) (fun r h1 hq => ?_)
         obtain ⟨x, e1, e2, e3⟩ := hq
         refine ⟨x, e1, ?_, c2, e3⟩
         rw [e2]
         unfold gp_of
         rw [gp_st_eq c2 (gp_all (fun f => ow_of A E P f yr) hx hy w hh) 3 (fun i hi => hc2 i (by omega))])
  · skip
    refine pr_push (v := 1) rfl rfl ?_
    refine pr_step rfl rfl rfl rfl ?_
    refine pr_istore rfl (Nat.le_of_ble_eq_true rfl) rfl ?_
    refine pr_push (v := 1) rfl rfl ?_
    refine pr_istore rfl (Nat.le_of_ble_eq_true rfl) rfl ?_
    first
      | (have hz := c_121
         refine pr_post (c_105_e d j yr c2 3 0 0 false (by omega) (by unfold gp_st; rw [decide_eq_false (by omega)])) (fun r h1 hq => ?_)
         obtain ⟨x, e1, e2, e3⟩ := hq
         refine ⟨x, e1, ?_, c2, e3⟩
         rw [e2]
         unfold gp_of
         rw [gp_st_eq c2 (gp_all (fun f => ow_of A E P f yr) hx hy w hh) 3 (fun i hi => hc2 i (by omega))])
      | (have hz := c_121
         refine pr_post (c_105_e d j yr c2 3 0 0 true (by omega) (by unfold gp_st; rw [decide_eq_true (by omega)])) (fun r h1 hq => ?_)
         obtain ⟨x, e1, e2, e3⟩ := hq
         refine ⟨x, e1, ?_, c2, e3⟩
         rw [e2]
         unfold gp_of
         rw [gp_st_eq c2 (gp_all (fun f => ow_of A E P f yr) hx hy w hh) 3 (fun i hi => hc2 i (by omega))])
end
section
theorem gp_row_eq {own own2 : Nat → Int32} {c : Nat → Int32} {f : Nat} : ∀ k, (∀ i, i < k → own (f + i) = own2 (f + i)) → gp_row own c f k = gp_row own2 c f k
  | 0, _ => rfl
  | k + 1, h => by
    show gp_add (gp_row own c f k) (own (f + k)) = gp_add (gp_row own2 c f k) (own2 (f + k))
    rw [gp_row_eq k (fun i hi => h i (by omega)), h k (by omega)]
theorem gp_all_eq {own own2 : Nat → Int32} {hx hy w : Nat} (hxw : hx + w ≤ 12) (h : ∀ f, f < 144 → own f = own2 f) : ∀ k, hy + k ≤ 12 → gp_all own hx hy w k = gp_all own2 hx hy w k
  | 0, _ => rfl
  | k + 1, hk => by
    show gp_row own (gp_all own hx hy w k) (12 * (hy + k) + hx) w = gp_row own2 (gp_all own2 hx hy w k) (12 * (hy + k) + hx) w
    rw [gp_all_eq hxw h k (by omega)]
    exact gp_row_eq w (fun i hi => h (12 * (hy + k) + hx + i) (by omega))
def ws_of (b m dr he : Int32) : Int32 := if b = 2 ∧ ¬ m = -1 then m else if b = 1 then he else dr
def md_hou (A : Nat → Nat → Int32) (j : Nat) (v : Nat → Nat) : Prop := A 43 j = nI (v 0) ∧ A 44 j = nI (v 1) ∧ A 45 j = nI (v 2) ∧ A 46 j = nI (v 3) ∧ A 47 j = nI (v 4) ∧ A 48 j = nI (v 5) ∧ v 0 + v 2 ≤ 12 ∧ v 1 + v 3 ≤ 12 ∧ v 4 < 144 ∧ v 5 < 144
/-- the owner of a field by its number -/
abbrev md_of (A : Nat → Nat → Int32) (ns : Nat → Nat) (E P : Nat) (yr : Int32) : Nat → Int32 := fun f => md_own A ns E P (f / 12) (f % 12) yr
theorem uA_ne {A : Nat → Nat → Int32} {k j : Nat} {f : Nat → Int32} (h : j ≠ k) : uA A k f j = A j := if_neg h
theorem uA_eq {A : Nat → Nat → Int32} {k : Nat} {f : Nat → Int32} : uA A k f k = f := if_pos rfl
section HR7
variable {N : Nat} {xs : Nat → Int32} {zc zm : Nat → Int32} {e3 e11 e18 : Nat} {A : Nat → Nat → Int32} {g gh : Nat → Option Nat} {dy : pw_H} {f s q c : Nat → Int32}
theorem hr_47 : (hp_h N xs zc e3 e11 e18 zm A g gh dy)[47]? = some (.inl (0, 6, A 47)) := rfl
theorem hr_48 : (hp_h N xs zc e3 e11 e18 zm A g gh dy)[48]? = some (.inl (0, 6, A 48)) := rfl
theorem hk_47 : (hp_h N xs zc e3 e11 e18 zm (uA (uA (uA (uA A 52 f) 53 s) 54 q) 55 c) g gh dy)[47]? = some (.inl (0, 6, A 47)) := by
  rw [hr_47, uA_ne (by decide), uA_ne (by decide), uA_ne (by decide), uA_ne (by decide)]
theorem hk_48 : (hp_h N xs zc e3 e11 e18 zm (uA (uA (uA (uA A 52 f) 53 s) 54 q) 55 c) g gh dy)[48]? = some (.inl (0, 6, A 48)) := by
  rw [hr_48, uA_ne (by decide), uA_ne (by decide), uA_ne (by decide), uA_ne (by decide)]
end HR7
theorem c_106 (d : Nat) {N : Nat} {xs : Nat → Int32} {zc zm : Nat → Int32} {e3 e11 e18 : Nat} {A : Nat → Nat → Int32} {g gh : Nat → Option Nat} {dy : pw_H} (P : Nat) (hP : zm 0 = nI P) (hPb : P ≤ 4) (E : Nat) (hE : zm 7 = nI E) (hEb : E ≤ 12) (K : Nat) (hK : zm 23 = nI K) (hKb : K ≤ 6) (U : Nat) (hU : zm 30 = nI U) (hUb : U ≤ 10) (ns : Nat → Nat) (hpar : ∀ j, j < P → md_par A j (ns j)) (hf : ∀ i, i < E → 0 ≤ (A 32 i).toInt) (hfl : ∀ i, i < U → 0 ≤ (A 50 i).toInt) (vs : Nat → Nat → Nat) (hhs : ∀ j, j < K → md_hou A j (vs j)) (h u yr : Int32) (ho : gp_ok (md_of A ns E P yr)) : pw_M (d + 5) 106 [.inr (some 25), .inl h, .inl u, .inl yr] (hp_h N xs zc e3 e11 e18 zm A g gh dy) (pw_qi (fun r h' => (¬ (pw_bt h 0 (zm 23 - 1) ∧ pw_bt u 0 3 ∧ pw_yr yr) ∧ r = -2 ∧ h' = (hp_h N xs zc e3 e11 e18 zm A g gh dy)) ∨ ((pw_bt h 0 (zm 23 - 1) ∧ pw_bt u 0 3 ∧ pw_yr yr) ∧ ∃ j : Nat, j < K ∧ h = nI j ∧ r = ws_of (ld_run u yr 0 0 (A 49) (A 50) (fun _ => 0) (A 51) U).2 (gp_of (gp_all (md_of A ns E P yr) (vs j 0) (vs j 1) (vs j 2) (vs j 3))) (md_of A ns E P yr (vs j 4)) (md_of A ns E P yr (vs j 5)) ∧ ∃ f s q c : Nat → Int32, h' = (hp_h N xs zc e3 e11 e18 zm (uA (uA (uA (uA A 52 f) 53 s) 54 q) 55 c) g gh dy)))) := by
  have z0 := pz_0
  have z1 := pz_1
  have z2 := pz_2
  have z3 := pz_3
  have z4 := pz_4
  have z6 := pz_6
  have z7 := pz_7
  have z10 := pz_10
  have z11 := pz_11
  have z12 := pz_12
  have z20 := pz_20
  have z30 := pz_30
  have z50 := pz_50
  have z60 := pz_60
  have z80 := pz_80
  have z300 := pz_300
  have hKT : (zm 23).toInt = (K : Int) := by rw [hK]; exact pw_T (by omega)
  have hKP : (zm 23 - 1).toInt = (K : Int) - 1 := by rw [hK]; exact pw_pred (by omega)
  refine pr_iload_n rfl rfl ?_
  refine pr_push (v := 0) rfl rfl ?_
  refine pr_aload_n rfl rfl ?_
  refine pr_getf rfl rfl rfl ?_
  refine pr_push (v := 1) rfl rfl ?_
  refine pr_step rfl rfl rfl rfl ?_
  refine pr_si3 rfl (by decide) (Nat.le_of_ble_eq_true rfl) (Nat.le_of_ble_eq_true rfl) (c_69 _ _ _ _ _) (fun r_8 h_8 q_8 => ?_)
  obtain ⟨rfl, rfl⟩ := q_8
  refine pr_b_eq rfl (fun c_11 => ?_) (fun c_11 => ?_)
  · skip
    refine pr_push (v := (-2)) rfl rfl ?_
    exact pr_reti rfl rfl (Or.inl ⟨by omega, rfl, rfl⟩)
  · skip
    refine pr_iload_n rfl rfl ?_
    refine pr_push (v := 0) rfl rfl ?_
    refine pr_push (v := 3) rfl rfl ?_
    refine pr_si3 rfl (by decide) (Nat.le_of_ble_eq_true rfl) (Nat.le_of_ble_eq_true rfl) (c_69 _ _ _ _ _) (fun r_17 h_17 q_17 => ?_)
    obtain ⟨rfl, rfl⟩ := q_17
    refine pr_b_eq rfl (fun c_20 => ?_) (fun c_20 => ?_)
    · skip
      refine pr_push (v := (-2)) rfl rfl ?_
      exact pr_reti rfl rfl (Or.inl ⟨by omega, rfl, rfl⟩)
    · skip
      refine pr_iload_n rfl rfl ?_
      refine pr_si1 rfl (by decide) (Nat.le_of_ble_eq_true rfl) (Nat.le_of_ble_eq_true rfl) (c_72 _ _ _) (fun r_24 h_24 q_24 => ?_)
      obtain ⟨rfl, rfl⟩ := q_24
      refine pr_b_ne rfl (fun c_27 => ?_) (fun c_27 => ?_)
      · skip
        obtain ⟨j, rfl, hjT, hjl⟩ := pw_nat (x := h) (by omega)
        obtain ⟨hd0, hd1, hd2, hd3, hd4, hd5, hd6, hd7, hd8, hd9⟩ := hhs j (by omega)
        refine pr_aload_n rfl rfl ?_
        refine pr_vv0 rfl (by decide) (Nat.le_of_ble_eq_true rfl) rfl (Nat.le_of_ble_eq_true rfl) (c_84 _ P hP hPb ns hpar) (fun h_34 q_34 => ?_)
        obtain ⟨f, s, q, rfl, hq⟩ := q_34
        have hmo : ∀ k, k < 144 → ow_of (uA (uA (uA A 52 f) 53 s) 54 q) E P k yr = md_of A ns E P yr k := fun k hk => by
          have h2 := md_own_of (A := A) (E := E) (yr := yr) (f := f) (s := s) (hq (k / 12) (k % 12) (by omega) (by omega))
          rw [show 12 * (k / 12) + k % 12 = k by omega] at h2
          exact h2
        have hog : gp_ok (fun k => ow_of (uA (uA (uA A 52 f) 53 s) 54 q) E P k yr) := fun k hk => by
          have h2 := ho k hk
          rw [← hmo k hk] at h2
          exact h2
        refine pr_aload_n rfl rfl ?_
        refine pr_iload_n rfl rfl ?_
        refine pr_iload_n rfl rfl ?_
        refine pr_vi2 rfl (by decide) (Nat.le_of_ble_eq_true rfl) rfl (Nat.le_of_ble_eq_true rfl) (c_104 (A := (uA (uA (uA A 52 f) 53 s) 54 q)) _ U hU hUb hfl u yr) (fun r_40 h_40 q_40 => ?_)
        obtain ⟨e_40, rfl⟩ := q_40
        have e40 : r_40 = (ld_run u yr 0 0 (A 49) (A 50) (fun _ => 0) (A 51) U).2 := e_40
        clear e_40
        refine pr_istore rfl (Nat.le_of_ble_eq_true rfl) rfl ?_
        refine pr_iload rfl rfl ?_
        refine pr_push (v := 2) rfl rfl ?_
        refine pr_c_ne rfl (fun c_48 => ?_) (fun c_48 => ?_)
        · skip
          obtain ⟨c, hc⟩ : ∃ c, c = (uA (uA (uA A 52 f) 53 s) 54 q) 55 := ⟨_, rfl⟩
          refine pr_heap (show (hp_h N xs zc e3 e11 e18 zm (uA (uA (uA A 52 f) 53 s) 54 q) g gh dy) = (hp_h N xs zc e3 e11 e18 zm (uA (uA (uA (uA A 52 f) 53 s) 54 q) 55 c) g gh dy) by rw [hc, uA_self]) ?_
          clear hc
          refine pr_push (v := (-1)) rfl rfl ?_
          refine pr_istore rfl (Nat.le_of_ble_eq_true rfl) rfl ?_
          refine pr_iload rfl rfl ?_
          refine pr_push (v := (-1)) rfl rfl ?_
          refine pr_step rfl rfl rfl rfl ?_
          refine pr_aload_n rfl rfl ?_
          refine pr_iload rfl rfl ?_
          refine pr_push (v := 1) rfl rfl ?_
          refine pr_c_ne rfl (fun c_78 => ?_) (fun c_78 => ?_)
          · skip
            refine pr_aload_n rfl rfl ?_
            refine pr_getf rfl rfl rfl ?_
            refine pr_iload_n rfl rfl ?_
            refine pr_iald (j) rfl hk_47 (by decide) (by decide) rfl (by omega) ?_
            first
            | refine pr_top hd5 ?_
            | refine pr_top hd4 ?_
            refine pr_iload_n rfl rfl ?_
            refine pr_vi2 rfl (by decide) (Nat.le_of_ble_eq_true rfl) rfl (Nat.le_of_ble_eq_true rfl) (c_87 (A := (uA (uA (uA (uA A 52 f) 53 s) 54 q) 55 c)) _ P hP hPb E hE hEb hf _ (by omega) yr) (fun r_97 h_97 q_97 => ?_)
            obtain ⟨e_97, rfl⟩ := q_97
            have e97 := Eq.trans e_97 (hmo _ (by omega))
            clear e_97
            exact pr_reti rfl rfl (by
              refine Or.inr ⟨by omega, j, by omega, rfl, ?_, f, s, q, c, rfl⟩
              unfold ws_of
              rw [if_neg (fun z => c_48 (e40.trans z.1))]
              first
              | (rw [if_neg (fun z => c_78 (e40.trans z))]; exact e97)
              | (rw [if_pos (e40.symm.trans c_78)]; exact e97))
          · skip
            refine pr_aload_n rfl rfl ?_
            refine pr_getf rfl rfl rfl ?_
            refine pr_iload_n rfl rfl ?_
            refine pr_iald (j) rfl hk_48 (by decide) (by decide) rfl (by omega) ?_
            refine pr_step rfl rfl rfl rfl ?_
            first
            | refine pr_top hd5 ?_
            | refine pr_top hd4 ?_
            refine pr_iload_n rfl rfl ?_
            refine pr_vi2 rfl (by decide) (Nat.le_of_ble_eq_true rfl) rfl (Nat.le_of_ble_eq_true rfl) (c_87 (A := (uA (uA (uA (uA A 52 f) 53 s) 54 q) 55 c)) _ P hP hPb E hE hEb hf _ (by omega) yr) (fun r_97 h_97 q_97 => ?_)
            obtain ⟨e_97, rfl⟩ := q_97
            have e97 := Eq.trans e_97 (hmo _ (by omega))
            clear e_97
            exact pr_reti rfl rfl (by
              refine Or.inr ⟨by omega, j, by omega, rfl, ?_, f, s, q, c, rfl⟩
              unfold ws_of
              rw [if_neg (fun z => c_48 (e40.trans z.1))]
              first
              | (rw [if_neg (fun z => c_78 (e40.trans z))]; exact e97)
              | (rw [if_pos (e40.symm.trans c_78)]; exact e97))
        · skip
          refine pr_aload_n rfl rfl ?_
          refine pr_iload_n rfl rfl ?_
          refine pr_iload_n rfl rfl ?_
          refine pr_vi2 rfl (by decide) (Nat.le_of_ble_eq_true rfl) rfl (Nat.le_of_ble_eq_true rfl) (c_105 (A := (uA (uA (uA A 52 f) 53 s) 54 q)) _ P hP hPb E hE hEb hf j (by omega) yr (vs j 0) (vs j 1) (vs j 2) (vs j 3) hd0 hd1 hd2 hd3 hd6 hd7 hog) (fun r_54 h_54 q_54 => ?_)
          obtain ⟨e54, c, rfl⟩ := q_54
          rw [gp_all_eq (own2 := md_of A ns E P yr) hd6 hmo (vs j 3) hd7] at e54
          refine pr_step rfl rfl rfl rfl ?_
          refine pr_istore rfl (Nat.le_of_ble_eq_true rfl) rfl ?_
          refine pr_iload rfl rfl ?_
          refine pr_push (v := (-1)) rfl rfl ?_
          refine pr_c_eq rfl (fun c_66 => ?_) (fun c_66 => ?_)
          · skip
            refine pr_aload_n rfl rfl ?_
            refine pr_iload rfl rfl ?_
            refine pr_push (v := 1) rfl rfl ?_
            refine pr_c_ne rfl (fun c_78 => ?_) (fun c_78 => ?_)
            · skip
              refine pr_aload_n rfl rfl ?_
              refine pr_getf rfl rfl rfl ?_
              refine pr_iload_n rfl rfl ?_
              refine pr_iald (j) rfl hk_47 (by decide) (by decide) rfl (by omega) ?_
              first
              | refine pr_top hd5 ?_
              | refine pr_top hd4 ?_
              refine pr_iload_n rfl rfl ?_
              refine pr_vi2 rfl (by decide) (Nat.le_of_ble_eq_true rfl) rfl (Nat.le_of_ble_eq_true rfl) (c_87 (A := (uA (uA (uA (uA A 52 f) 53 s) 54 q) 55 c)) _ P hP hPb E hE hEb hf _ (by omega) yr) (fun r_97 h_97 q_97 => ?_)
              obtain ⟨e_97, rfl⟩ := q_97
              have e97 := Eq.trans e_97 (hmo _ (by omega))
              clear e_97
              exact pr_reti rfl rfl (by
    refine Or.inr ⟨by omega, j, by omega, rfl, ?_, f, s, q, c, rfl⟩
    unfold ws_of
    first
    | exact absurd (c_48.symm.trans c_78) (by decide)
    | (have h9 := e97; rw [if_neg (fun z => z.2 (e54.symm.trans c_66)), if_neg (fun z => c_78 (e40.trans z))]; exact h9)
    | (rw [if_pos ⟨e40.symm.trans c_48, fun z => c_66 (e54.trans z)⟩]; exact e54))
            · skip
              refine pr_aload_n rfl rfl ?_
              refine pr_getf rfl rfl rfl ?_
              refine pr_iload_n rfl rfl ?_
              refine pr_iald (j) rfl hk_48 (by decide) (by decide) rfl (by omega) ?_
              refine pr_step rfl rfl rfl rfl ?_
              first
              | refine pr_top hd5 ?_
              | refine pr_top hd4 ?_
              refine pr_iload_n rfl rfl ?_
              refine pr_vi2 rfl (by decide) (Nat.le_of_ble_eq_true rfl) rfl (Nat.le_of_ble_eq_true rfl) (c_87 (A := (uA (uA (uA (uA A 52 f) 53 s) 54 q) 55 c)) _ P hP hPb E hE hEb hf _ (by omega) yr) (fun r_97 h_97 q_97 => ?_)
              obtain ⟨e_97, rfl⟩ := q_97
              have e97 := Eq.trans e_97 (hmo _ (by omega))
              clear e_97
              exact pr_reti rfl rfl (by
    refine Or.inr ⟨by omega, j, by omega, rfl, ?_, f, s, q, c, rfl⟩
    unfold ws_of
    first
    | exact absurd (c_48.symm.trans c_78) (by decide)
    | (have h9 := e97; rw [if_neg (fun z => z.2 (e54.symm.trans c_66)), if_neg (fun z => c_78 (e40.trans z))]; exact h9)
    | (rw [if_pos ⟨e40.symm.trans c_48, fun z => c_66 (e54.trans z)⟩]; exact e54))
          · skip
            refine pr_iload rfl rfl ?_
            refine pr_step rfl rfl rfl rfl ?_
            exact pr_reti rfl rfl (by
    refine Or.inr ⟨by omega, j, by omega, rfl, ?_, f, s, q, c, rfl⟩
    unfold ws_of
    first
    | exact absurd (c_48.symm.trans c_78) (by decide)
    | (have h9 := e97; rw [if_neg (fun z => z.2 (e54.symm.trans c_66)), if_neg (fun z => c_78 (e40.trans z))]; exact h9)
    | (rw [if_pos ⟨e40.symm.trans c_48, fun z => c_66 (e54.trans z)⟩]; exact e54))
      · skip
        refine pr_push (v := (-2)) rfl rfl ?_
        exact pr_reti rfl rfl (Or.inl ⟨by omega, rfl, rfl⟩)
end
section
def rn_in (A : Nat → Nat → Int32) (T : Nat) (now yr : Int32) (S : Nat) : Nat → (Nat → Int32) → (Nat → Int32)
  | 0, f => f
  | k + 1, f => rn_in A T now yr S k (match la_run (uA A 56 f) T now yr S with
    | none => f
    | some b => upd f b yr)
def rn_any (A : Nat → Nat → Int32) (T : Nat) (now gap : Int32) (f : Nat → Int32) (yr : Int32) : Nat → Bool
  | 0 => false
  | i + 1 => rn_any A T now gap f yr i || decide (¬ wh_of A T i now now = -1 ∧ gap.toInt ≤ (yr - f i).toInt)
theorem rn_any_up {A : Nat → Nat → Int32} {T : Nat} {now gap : Int32} {f : Nat → Int32} {yr : Int32} {i : Nat} (h : rn_any A T now gap f yr i = true) : ∀ k, rn_any A T now gap f yr (i + k) = true
  | 0 => h
  | k + 1 => by
    show (rn_any A T now gap f yr (i + k) || _) = true
    rw [rn_any_up h k]
    rfl
def rn_run (A : Nat → Nat → Int32) (T : Nat) (now gap : Int32) (S m : Nat) : Nat → Nat → (Nat → Int32) → Int32
  | 0, _, _ => -1
  | k + 1, y, f => if rn_any A T now gap (rn_in A T now (nI y) S m f) (nI y) S = true then nI y else rn_run A T now gap S m k (y + 1) (rn_in A T now (nI y) S m f)
theorem c_112_i (d : Nat) {N : Nat} {xs : Nat → Int32} {zc zm : Nat → Int32} {e3 e11 e18 : Nat} {A : Nat → Nat → Int32} {g gh : Nat → Option Nat} {dy : pw_H} (S : Nat) (hS : zm 12 = nI S) (hSb : S ≤ 12) (T : Nat) (hT : zm 16 = nI T) (hTb : T ≤ 60) (hf : ∀ i, i < T → 0 ≤ (A 39 i).toInt) (n m : Nat) (hm : m ≤ 12) (y : Nat) (F : Nat → Int32) (Q : Option pw_V → pw_H → Prop) (K : ∀ (g4 g5 : Option pw_V), pw_W (d + 3) 112 102 [some (.inr (some 25)), some (.inl (nI n)), some (.inl (nI m)), some (.inl (nI y)), g4, g5] [] (hp_h N xs zc e3 e11 e18 zm (uA A 56 F) g gh dy) Q) : ∀ (k i : Nat) (f : Nat → Int32) (g5 : Option pw_V), i + k = m → rn_in A T (zm 11) (nI y) S k f = F → pw_W (d + 3) 112 69 [some (.inr (some 25)), some (.inl (nI n)), some (.inl (nI m)), some (.inl (nI y)), some (.inl (nI i)), g5] [] (hp_h N xs zc e3 e11 e18 zm (uA A 56 f) g gh dy) Q := by
  have zm1 := pz_m1
  have hmT := pw_T (n := m) (by omega)
  intro k
  induction k with
  | zero =>
    intro i f g5 hi hF
    obtain rfl : i = m := by omega
    subst hF
    refine pr_iload rfl rfl ?_
    refine pr_iload_n rfl rfl ?_
    refine pr_c_ge rfl (fun c_72 => ?_) (fun c_72 => ?_)
    · skip
      exact K _ _
    · skip
      exact absurd c_72 (by omega)
  | succ k ih =>
    intro i f g5 hi hF
    have hiT := pw_T (n := i) (by omega)
    rw [rn_in] at hF
    cases hr : la_run (uA A 56 f) T (zm 11) (nI y) S with
    | none =>
      rw [hr] at hF
      dsimp only at hF
      refine pr_iload rfl rfl ?_
      refine pr_iload_n rfl rfl ?_
      refine pr_c_ge rfl (fun c_72 => ?_) (fun c_72 => ?_)
      · skip
        exact absurd c_72 (by omega)
      · skip
        refine pr_aload_n rfl rfl ?_
        refine pr_iload_n rfl rfl ?_
        refine pr_vi1 rfl (by decide) (Nat.le_of_ble_eq_true rfl) rfl (Nat.le_of_ble_eq_true rfl) (c_111 (A := (uA A 56 f)) _ S hS hSb T hT hTb hf (nI y)) (fun r_77 h_77 q_77 => ?_)
        obtain ⟨e_77, rfl⟩ := q_77
        rw [hr] at e_77
        change r_77 = -1 at e_77
        subst e_77
        refine pr_istore rfl (Nat.le_of_ble_eq_true rfl) rfl ?_
        refine pr_iload rfl rfl ?_
        refine pr_push (v := (-1)) rfl rfl ?_
        refine pr_step rfl rfl rfl rfl ?_
        refine pr_iinc rfl rfl (pw_inc i) rfl ?_
        refine pr_step rfl rfl rfl rfl ?_
        exact ih (i + 1) _ _ (by omega) hF
    | some b =>
      rw [hr] at hF
      dsimp only at hF
      have hb := la_lt _ T (zm 11) (nI y) S b hr
      have hbT := pw_T (n := b) (by omega)
      refine pr_iload rfl rfl ?_
      refine pr_iload_n rfl rfl ?_
      refine pr_c_ge rfl (fun c_72 => ?_) (fun c_72 => ?_)
      · skip
        exact absurd c_72 (by omega)
      · skip
        refine pr_aload_n rfl rfl ?_
        refine pr_iload_n rfl rfl ?_
        refine pr_vi1 rfl (by decide) (Nat.le_of_ble_eq_true rfl) rfl (Nat.le_of_ble_eq_true rfl) (c_111 (A := (uA A 56 f)) _ S hS hSb T hT hTb hf (nI y)) (fun r_77 h_77 q_77 => ?_)
        obtain ⟨e_77, rfl⟩ := q_77
        rw [hr] at e_77
        change r_77 = nI b at e_77
        subst e_77
        refine pr_istore rfl (Nat.le_of_ble_eq_true rfl) rfl ?_
        refine pr_iload rfl rfl ?_
        refine pr_push (v := (-1)) rfl rfl ?_
        refine pr_u_eq rfl (fun c_85 => ?_) (fun c_85 => ?_)
        · skip
          exact absurd c_85 (by omega)
        · skip
          refine pr_aload_n rfl rfl ?_
          refine pr_getf rfl rfl rfl ?_
          refine pr_iload rfl rfl ?_
          refine pr_iload_n rfl rfl ?_
          refine pr_iast (f := f) (b) rfl rfl (by decide) rfl (by omega) ht_a56 ?_
          refine pr_iinc rfl rfl (pw_inc i) rfl ?_
          refine pr_step rfl rfl rfl rfl ?_
          exact ih (i + 1) _ _ (by omega) hF
theorem c_112_u (d : Nat) {N : Nat} {xs : Nat → Int32} {zc zm : Nat → Int32} {e3 e11 e18 : Nat} {A : Nat → Nat → Int32} {g gh : Nat → Option Nat} {dy : pw_H} (S : Nat) (hS : zm 12 = nI S) (hSb : S ≤ 12) (T : Nat) (hT : zm 16 = nI T) (hTb : T ≤ 60) (hf : ∀ i, i < T → 0 ≤ (A 39 i).toInt) (n m : Nat) (y : Nat) (f : Nat → Int32) (Qi : Int32 → pw_H → Prop) (Ky : rn_any A T (zm 11) (zm 34) f (nI y) S = true → Qi (nI y) (hp_h N xs zc e3 e11 e18 zm (uA A 56 f) g gh dy)) (Kn : rn_any A T (zm 11) (zm 34) f (nI y) S = false → ∀ (g4 g5 : Option pw_V), pw_W (d + 3) 112 147 [some (.inr (some 25)), some (.inl (nI n)), some (.inl (nI m)), some (.inl (nI y)), g4, g5] [] (hp_h N xs zc e3 e11 e18 zm (uA A 56 f) g gh dy) (pw_qi Qi)) : ∀ (k i : Nat) (g5 : Option pw_V), i + k = S → rn_any A T (zm 11) (zm 34) f (nI y) i = false → pw_W (d + 3) 112 105 [some (.inr (some 25)), some (.inl (nI n)), some (.inl (nI m)), some (.inl (nI y)), some (.inl (nI i)), g5] [] (hp_h N xs zc e3 e11 e18 zm (uA A 56 f) g gh dy) (pw_qi Qi) := by
  have hST : (zm 12).toInt = (S : Int) := by rw [hS]; exact pw_T (by omega)
  have hSP : (zm 12 - 1).toInt = (S : Int) - 1 := by rw [hS]; exact pw_pred (by omega)
  intro k
  induction k with
  | zero =>
    intro i g5 hi hF
    obtain rfl : i = S := by omega
    have hiT := pw_T (n := i) (by omega)
    refine pr_iload rfl rfl ?_
    refine pr_aload_n rfl rfl ?_
    refine pr_getf rfl rfl rfl ?_
    refine pr_c_ge rfl (fun c_111 => ?_) (fun c_111 => ?_)
    · skip
      exact Kn hF _ _
    · skip
      exact absurd c_111 (by omega)
  | succ k ih =>
    intro i g5 hi hF
    have hiT := pw_T (n := i) (by omega)
    refine pr_iload rfl rfl ?_
    refine pr_aload_n rfl rfl ?_
    refine pr_getf rfl rfl rfl ?_
    refine pr_c_ge rfl (fun c_111 => ?_) (fun c_111 => ?_)
    · skip
      exact absurd c_111 (by omega)
    · skip
      refine pr_aload_n rfl rfl ?_
      refine pr_iload rfl rfl ?_
      refine pr_vi1 rfl (by decide) (Nat.le_of_ble_eq_true rfl) rfl (Nat.le_of_ble_eq_true rfl) (c_107 (A := (uA A 56 f)) _ T hT hTb hf i (by omega)) (fun r_117 h_117 q_117 => ?_)
      obtain ⟨rfl, rfl⟩ := q_117
      refine pr_b_ne rfl (fun c_120 => ?_) (fun c_120 => ?_)
      · skip
        refine pr_iinc rfl rfl (pw_inc i) rfl ?_
        refine pr_step rfl rfl rfl rfl ?_
        exact ih (i + 1) _ (by omega) (by
          rw [rn_any, hF, Bool.false_or]
          exact decide_eq_false (fun hh => by first | exact hh.1 c_120 | exact absurd hh.2 (by omega)))
      · skip
        refine pr_iload_n rfl rfl ?_
        refine pr_aload_n rfl rfl ?_
        refine pr_getf rfl rfl rfl ?_
        refine pr_iload rfl rfl ?_
        refine pr_iald (f := f) (i) rfl rfl (by decide) (by decide) rfl (by omega) ?_
        refine pr_step rfl rfl rfl rfl ?_
        refine pr_aload_n rfl rfl ?_
        refine pr_getf rfl rfl rfl ?_
        refine pr_c_lt rfl (fun c_136 => ?_) (fun c_136 => ?_)
        · skip
          refine pr_iinc rfl rfl (pw_inc i) rfl ?_
          refine pr_step rfl rfl rfl rfl ?_
          exact ih (i + 1) _ (by omega) (by
            rw [rn_any, hF, Bool.false_or]
            exact decide_eq_false (fun hh => by first | exact hh.1 c_120 | exact absurd hh.2 (by omega)))
        · skip
          refine pr_iload_n rfl rfl ?_
          exact pr_reti rfl rfl (by
  refine Ky ?_
  have h1 : rn_any A T (zm 11) (zm 34) f (nI y) (i + 1) = true := by
    rw [rn_any, hF, Bool.false_or]
    exact decide_eq_true ⟨c_120, c_136⟩
  have h2 := rn_any_up h1 k
  rw [show i + 1 + k = S by omega] at h2
  exact h2)
theorem c_112_y (d : Nat) {N : Nat} {xs : Nat → Int32} {zc zm : Nat → Int32} {e3 e11 e18 : Nat} {A : Nat → Nat → Int32} {g gh : Nat → Option Nat} {dy : pw_H} (Y : Nat) (hY : zm 11 = nI Y) (hYb : Y ≤ 300) (S : Nat) (hS : zm 12 = nI S) (hSb : S ≤ 12) (T : Nat) (hT : zm 16 = nI T) (hTb : T ≤ 60) (hf : ∀ i, i < T → 0 ≤ (A 39 i).toInt) (n m : Nat) (hn : n ≤ 30) (hm : m ≤ 12) (Qi : Int32 → pw_H → Prop) : ∀ (k y : Nat) (f : Nat → Int32) (g4 g5 : Option pw_V), y + k = Y + n → (∀ f2, Qi (rn_run A T (zm 11) (zm 34) S m k y f) (hp_h N xs zc e3 e11 e18 zm (uA A 56 f2) g gh dy)) → pw_W (d + 3) 112 56 [some (.inr (some 25)), some (.inl (nI n)), some (.inl (nI m)), some (.inl (nI y)), g4, g5] [] (hp_h N xs zc e3 e11 e18 zm (uA A 56 f) g gh dy) (pw_qi Qi) := by
  have hYT : (zm 11).toInt = (Y : Int) := by rw [hY]; exact pw_T (by omega)
  have hYP : (zm 11 - 1).toInt = (Y : Int) - 1 := by rw [hY]; exact pw_pred (by omega)
  have hyn : (zm 11 + nI n).toInt = ((Y + n : Nat) : Int) := by rw [hY, nI_add]; exact pw_T (by omega)
  intro k
  induction k with
  | zero =>
    intro y f g4 g5 hy hQ
    have hyT := pw_T (n := y) (by omega)
    refine pr_iload_n rfl rfl ?_
    refine pr_aload_n rfl rfl ?_
    refine pr_getf rfl rfl rfl ?_
    refine pr_iload_n rfl rfl ?_
    refine pr_step rfl rfl rfl rfl ?_
    refine pr_c_ge rfl (fun c_63 => ?_) (fun c_63 => ?_)
    · skip
      refine pr_push (v := (-1)) rfl rfl ?_
      exact pr_reti rfl rfl (hQ f)
    · skip
      exact absurd c_63 (by omega)
  | succ k ih =>
    intro y f g4 g5 hy hQ
    have hyT := pw_T (n := y) (by omega)
    refine pr_iload_n rfl rfl ?_
    refine pr_aload_n rfl rfl ?_
    refine pr_getf rfl rfl rfl ?_
    refine pr_iload_n rfl rfl ?_
    refine pr_step rfl rfl rfl rfl ?_
    refine pr_c_ge rfl (fun c_63 => ?_) (fun c_63 => ?_)
    · skip
      exact absurd c_63 (by omega)
    · skip
      refine pr_push (v := 0) rfl rfl ?_
      refine pr_istore rfl (Nat.le_of_ble_eq_true rfl) rfl ?_
      refine c_112_i d S hS hSb T hT hTb hf n m hm y (rn_in A T (zm 11) (nI y) S m f) _ (fun h4 h5 => ?_) m 0 f _ (by omega) rfl
      refine pr_push (v := 0) rfl rfl ?_
      refine pr_istore rfl (Nat.le_of_ble_eq_true rfl) rfl ?_
      refine c_112_u d S hS hSb T hT hTb hf n m y (rn_in A T (zm 11) (nI y) S m f) Qi (fun hh => ?_) (fun hh k4 k5 => ?_) S 0 _ (by omega) rfl
      · have h2 := hQ (rn_in A T (zm 11) (nI y) S m f)
        rw [rn_run, if_pos hh] at h2
        exact h2
      · skip
        refine pr_iinc rfl rfl (pw_inc y) rfl ?_
        refine pr_step rfl rfl rfl rfl ?_
        refine ih (y + 1) (rn_in A T (zm 11) (nI y) S m f) _ _ (by omega) (fun f2 => ?_)
        have h2 := hQ f2
        rw [rn_run, if_neg (by rw [hh]; exact Bool.false_ne_true)] at h2
        exact h2
theorem c_112_c (d : Nat) {N : Nat} {xs : Nat → Int32} {zc zm : Nat → Int32} {e3 e11 e18 : Nat} {A : Nat → Nat → Int32} {g gh : Nat → Option Nat} {dy : pw_H} (S : Nat) (hS : zm 12 = nI S) (hSb : S ≤ 12) (n m : Nat) (Q : Option pw_V → pw_H → Prop) (K : ∀ (g3 : Option pw_V), pw_W (d + 3) 112 51 [some (.inr (some 25)), some (.inl (nI n)), some (.inl (nI m)), g3, none, none] [] (hp_h N xs zc e3 e11 e18 zm (uA A 56 (fun a => if a < S then A 37 a else A 56 a)) g gh dy) Q) : ∀ (k i : Nat) (f : Nat → Int32), i + k = S → f = (fun a => if a < i then A 37 a else A 56 a) → pw_W (d + 3) 112 25 [some (.inr (some 25)), some (.inl (nI n)), some (.inl (nI m)), some (.inl (nI i)), none, none] [] (hp_h N xs zc e3 e11 e18 zm (uA A 56 f) g gh dy) Q := by
  have hST : (zm 12).toInt = (S : Int) := by rw [hS]; exact pw_T (by omega)
  have hSP : (zm 12 - 1).toInt = (S : Int) - 1 := by rw [hS]; exact pw_pred (by omega)
  intro k
  induction k with
  | zero =>
    intro i f hi hF
    obtain rfl : i = S := by omega
    have hiT := pw_T (n := i) (by omega)
    subst hF
    refine pr_iload_n rfl rfl ?_
    refine pr_aload_n rfl rfl ?_
    refine pr_getf rfl rfl rfl ?_
    refine pr_c_ge rfl (fun c_30 => ?_) (fun c_30 => ?_)
    · skip
      exact K _
    · skip
      exact absurd c_30 (by omega)
  | succ k ih =>
    intro i f hi hF
    have hiT := pw_T (n := i) (by omega)
    refine pr_iload_n rfl rfl ?_
    refine pr_aload_n rfl rfl ?_
    refine pr_getf rfl rfl rfl ?_
    refine pr_c_ge rfl (fun c_30 => ?_) (fun c_30 => ?_)
    · skip
      exact absurd c_30 (by omega)
    · skip
      refine pr_aload_n rfl rfl ?_
      refine pr_getf rfl rfl rfl ?_
      refine pr_iload_n rfl rfl ?_
      refine pr_aload_n rfl rfl ?_
      refine pr_getf rfl rfl rfl ?_
      refine pr_iload_n rfl rfl ?_
      refine pr_iald (i) rfl rfl (by decide) (by decide) rfl (by omega) ?_
      refine pr_iast (f := f) (i) rfl rfl (by decide) rfl (by omega) ht_a56 ?_
      refine pr_iinc rfl rfl (pw_inc i) rfl ?_
      refine pr_step rfl rfl rfl rfl ?_
      exact ih (i + 1) _ (by omega) (by
        funext a
        rw [hF]
        unfold upd
        by_cases h1 : a = i
        · rw [if_pos h1, if_pos (by omega), h1]
          rfl
        · rw [if_neg h1]; dsimp only
          by_cases h2 : a < i
          · rw [if_pos h2, if_pos (by omega)]
          · rw [if_neg h2, if_neg (by omega)])
theorem c_112 (d : Nat) {N : Nat} {xs : Nat → Int32} {zc zm : Nat → Int32} {e3 e11 e18 : Nat} {A : Nat → Nat → Int32} {g gh : Nat → Option Nat} {dy : pw_H} (Y : Nat) (hY : zm 11 = nI Y) (hYb : Y ≤ 300) (S : Nat) (hS : zm 12 = nI S) (hSb : S ≤ 12) (T : Nat) (hT : zm 16 = nI T) (hTb : T ≤ 60) (hf : ∀ i, i < T → 0 ≤ (A 39 i).toInt) (n m : Int32) : pw_M (d + 3) 112 [.inr (some 25), .inl n, .inl m] (hp_h N xs zc e3 e11 e18 zm A g gh dy) (pw_qi (fun r h' => (¬ (pw_bt n 1 30 ∧ pw_bt m 1 12) ∧ r = -2 ∧ h' = (hp_h N xs zc e3 e11 e18 zm A g gh dy)) ∨ ((pw_bt n 1 30 ∧ pw_bt m 1 12) ∧ ∃ nn mm : Nat, n = nI nn ∧ m = nI mm ∧ (1 ≤ nn ∧ nn ≤ 30) ∧ (1 ≤ mm ∧ mm ≤ 12) ∧ r = rn_run A T (zm 11) (zm 34) S mm nn Y (fun a => if a < S then A 37 a else A 56 a) ∧ ∃ f : Nat → Int32, h' = (hp_h N xs zc e3 e11 e18 zm (uA A 56 f) g gh dy)))) := by
  have z0 := pz_0
  have z1 := pz_1
  have z2 := pz_2
  have z3 := pz_3
  have z4 := pz_4
  have z6 := pz_6
  have z7 := pz_7
  have z10 := pz_10
  have z11 := pz_11
  have z12 := pz_12
  have z20 := pz_20
  have z30 := pz_30
  have z50 := pz_50
  have z60 := pz_60
  have z80 := pz_80
  have z300 := pz_300
  refine pr_iload_n rfl rfl ?_
  refine pr_push (v := 1) rfl rfl ?_
  refine pr_push (v := 30) rfl rfl ?_
  refine pr_si3 rfl (by decide) (Nat.le_of_ble_eq_true rfl) (Nat.le_of_ble_eq_true rfl) (c_69 _ _ _ _ _) (fun r_4 h_4 q_4 => ?_)
  obtain ⟨rfl, rfl⟩ := q_4
  refine pr_b_eq rfl (fun c_7 => ?_) (fun c_7 => ?_)
  · skip
    refine pr_push (v := (-2)) rfl rfl ?_
    exact pr_reti rfl rfl (Or.inl ⟨by omega, rfl, rfl⟩)
  · skip
    refine pr_iload_n rfl rfl ?_
    refine pr_push (v := 1) rfl rfl ?_
    refine pr_push (v := 12) rfl rfl ?_
    refine pr_si3 rfl (by decide) (Nat.le_of_ble_eq_true rfl) (Nat.le_of_ble_eq_true rfl) (c_69 _ _ _ _ _) (fun r_14 h_14 q_14 => ?_)
    obtain ⟨rfl, rfl⟩ := q_14
    refine pr_b_ne rfl (fun c_17 => ?_) (fun c_17 => ?_)
    · skip
      obtain ⟨nn, rfl, hnT, hnl⟩ := pw_nat (x := n) (by omega)
      obtain ⟨mm, rfl, hmT, hml⟩ := pw_nat (x := m) (by omega)
      refine pr_push (v := 0) rfl rfl ?_
      refine pr_istore_n rfl (Nat.le_of_ble_eq_true rfl) rfl ?_
      refine pr_heap (show (hp_h N xs zc e3 e11 e18 zm A g gh dy) = (hp_h N xs zc e3 e11 e18 zm (uA A 56 (A 56)) g gh dy) by rw [uA_self]) ?_
      refine c_112_c d S hS hSb nn mm _ (fun g3 => ?_) S 0 (A 56) (by omega) (by funext a; rw [if_neg (Nat.not_lt_zero a)])
      refine pr_aload_n rfl rfl ?_
      refine pr_getf rfl rfl rfl ?_
      refine pr_top hY ?_
      refine pr_istore_n rfl (Nat.le_of_ble_eq_true rfl) rfl ?_
      refine c_112_y d Y hY hYb S hS hSb T hT hTb hf nn mm (by omega) (by omega) _ nn Y _ _ _ (by omega) (fun f2 => ?_)
      exact Or.inr ⟨by omega, nn, mm, rfl, rfl, by omega, by omega, rfl, f2, rfl⟩
    · skip
      refine pr_push (v := (-2)) rfl rfl ?_
      exact pr_reti rfl rfl (Or.inl ⟨by omega, rfl, rfl⟩)
end
section
def wk_o (a : Nat) (x0 y0 : Int32) (n : Nat) (hl hr : Int32) : List pw_V := [.inl x0, .inl y0, .inr (some (a + 1)), .inr (some (a + 2)), .inr (some (a + 3)), .inr (some (a + 4)), .inr (some (a + 5)), .inl (nI n), .inl hl, .inl hr]
def wk_c (a : Nat) (x0 y0 : Int32) (D L U C R : Nat → Int32) (n : Nat) (hl hr : Int32) (pst : pw_H) : pw_H := .inr (.inr (2, wk_o a x0 y0 n hl hr)) :: .inl (0, 12, D) :: .inl (0, 12, L) :: .inl (0, 12, U) :: .inl (0, 12, C) :: .inl (0, 12, R) :: pst
/-- a heap with a walk in it -/
def wk_h (H pst : pw_H) (x0 y0 : Int32) (D L U C R : Nat → Int32) (n : Nat) (hl hr : Int32) : pw_H := H ++ wk_c H.length x0 y0 D L U C R n hl hr pst
theorem wk_get (H l : pw_H) (i : Nat) : (H ++ l)[H.length + i]? = l[i]? := by
  rw [List.getElem?_append_right (by omega), Nat.add_sub_cancel_left]
theorem wk_set (H l : pw_H) (i : Nat) (x : pw_C) : (H ++ l).set (H.length + i) x = H ++ l.set i x := by
  rw [List.set_append_right (H.length + i) x (by omega), Nat.add_sub_cancel_left]
section WK
variable {H pst : pw_H} {x0 y0 : Int32} {D L U C R : Nat → Int32} {n : Nat} {hl hr : Int32}
theorem wr_100 : (wk_h H pst x0 y0 D L U C R n hl hr)[H.length]? = some (.inr (.inr (2, wk_o H.length x0 y0 n hl hr))) := wk_get H _ 0
theorem wr_101 : (wk_h H pst x0 y0 D L U C R n hl hr)[H.length + 1]? = some (.inl (0, 12, D)) := wk_get H _ 1
theorem wr_102 : (wk_h H pst x0 y0 D L U C R n hl hr)[H.length + 2]? = some (.inl (0, 12, L)) := wk_get H _ 2
theorem wr_103 : (wk_h H pst x0 y0 D L U C R n hl hr)[H.length + 3]? = some (.inl (0, 12, U)) := wk_get H _ 3
theorem wr_104 : (wk_h H pst x0 y0 D L U C R n hl hr)[H.length + 4]? = some (.inl (0, 12, C)) := wk_get H _ 4
theorem wr_105 : (wk_h H pst x0 y0 D L U C R n hl hr)[H.length + 5]? = some (.inl (0, 12, R)) := wk_get H _ 5
theorem ht_a101 {f : Nat → Int32} : (wk_h H pst x0 y0 D L U C R n hl hr).set (H.length + 1) (.inl (0, 12, f)) = (wk_h H pst x0 y0 f L U C R n hl hr) := wk_set H _ 1 _
theorem ht_a102 {f : Nat → Int32} : (wk_h H pst x0 y0 D L U C R n hl hr).set (H.length + 2) (.inl (0, 12, f)) = (wk_h H pst x0 y0 D f U C R n hl hr) := wk_set H _ 2 _
theorem ht_a103 {f : Nat → Int32} : (wk_h H pst x0 y0 D L U C R n hl hr).set (H.length + 3) (.inl (0, 12, f)) = (wk_h H pst x0 y0 D L f C R n hl hr) := wk_set H _ 3 _
theorem ht_a104 {f : Nat → Int32} : (wk_h H pst x0 y0 D L U C R n hl hr).set (H.length + 4) (.inl (0, 12, f)) = (wk_h H pst x0 y0 D L U f R n hl hr) := wk_set H _ 4 _
theorem ht_a105 {f : Nat → Int32} : (wk_h H pst x0 y0 D L U C R n hl hr).set (H.length + 5) (.inl (0, 12, f)) = (wk_h H pst x0 y0 D L U C f n hl hr) := wk_set H _ 5 _
theorem ht_o100_7 {m : Nat} : (wk_h H pst x0 y0 D L U C R n hl hr).set H.length (.inr (.inr (2, (wk_o H.length x0 y0 n hl hr).set 7 (.inl (nI m))))) = (wk_h H pst x0 y0 D L U C R m hl hr) := wk_set H _ 0 _
theorem ht_o100_8 {v : Int32} : (wk_h H pst x0 y0 D L U C R n hl hr).set H.length (.inr (.inr (2, (wk_o H.length x0 y0 n hl hr).set 8 (.inl v)))) = (wk_h H pst x0 y0 D L U C R n v hr) := wk_set H _ 0 _
theorem ht_o100_9 {v : Int32} : (wk_h H pst x0 y0 D L U C R n hl hr).set H.length (.inr (.inr (2, (wk_o H.length x0 y0 n hl hr).set 9 (.inl v)))) = (wk_h H pst x0 y0 D L U C R n hl v) := wk_set H _ 0 _
end WK
def sg_of (e : Int32) : Int32 := if e.toInt < 2 then 1 else -1
theorem c_19 (d : Nat) {H pst : pw_H} {x0 y0 : Int32} {D L U C R : Nat → Int32} {n : Nat} {hl hr : Int32} (i : Nat) (hi : i < 12) (hD : 0 ≤ (D i).toInt) : pw_M d 19 [.inr (some H.length), .inl (nI i)] (wk_h H pst x0 y0 D L U C R n hl hr) (pw_qi (pw_is (wk_h H pst x0 y0 D L U C R n hl hr) (pw_b ((D i).toInt % 2 = 0)))) := by
  have hm := pw_rem2 hD
  refine pr_aload_n rfl rfl ?_
  refine pr_getf rfl wr_100 rfl ?_
  refine pr_iload_n rfl rfl ?_
  refine pr_iald (i) rfl wr_101 (by decide) (by decide) rfl (by omega) ?_
  refine pr_push (v := 2) rfl rfl ?_
  refine pr_rem rfl (by decide) ?_
  refine pr_t_ne rfl (fun c_8 => ?_) (fun c_8 => ?_)
  · skip
    refine pr_push (v := 0) rfl rfl ?_
    exact pr_retb rfl rfl rfl (⟨by
    first
    | exact (pw_b0 (by omega)).symm
    | exact (pw_b1 (by omega)).symm, rfl⟩)
  · skip
    refine pr_push (v := 1) rfl rfl ?_
    refine pr_step rfl rfl rfl rfl ?_
    exact pr_retb rfl rfl rfl (⟨by
    first
    | exact (pw_b0 (by omega)).symm
    | exact (pw_b1 (by omega)).symm, rfl⟩)
theorem c_20 (d : Nat) {H pst : pw_H} {x0 y0 : Int32} {D L U C R : Nat → Int32} {n : Nat} {hl hr : Int32} (i : Nat) (hi : i < 12) : pw_M d 20 [.inr (some H.length), .inl (nI i)] (wk_h H pst x0 y0 D L U C R n hl hr) (pw_qi (pw_is (wk_h H pst x0 y0 D L U C R n hl hr) (sg_of (D i)))) := by
  have z2 := pz_2
  refine pr_aload_n rfl rfl ?_
  refine pr_getf rfl wr_100 rfl ?_
  refine pr_iload_n rfl rfl ?_
  refine pr_iald (i) rfl wr_101 (by decide) (by decide) rfl (by omega) ?_
  refine pr_push (v := 2) rfl rfl ?_
  refine pr_c_ge rfl (fun c_7 => ?_) (fun c_7 => ?_)
  · skip
    refine pr_push (v := (-1)) rfl rfl ?_
    exact pr_reti rfl rfl (⟨by
    first
    | exact (if_pos (by omega)).symm
    | exact (if_neg (by omega)).symm, rfl⟩)
  · skip
    refine pr_push (v := 1) rfl rfl ?_
    refine pr_step rfl rfl rfl rfl ?_
    exact pr_reti rfl rfl (⟨by
    first
    | exact (if_pos (by omega)).symm
    | exact (if_neg (by omega)).symm, rfl⟩)
theorem sg_mul {e c : Int32} (hc : -1000 ≤ c.toInt ∧ c.toInt ≤ 1000) : (sg_of e * c).toInt = if e.toInt < 2 then c.toInt else -c.toInt := by
  unfold sg_of
  split
  · rw [pw_x1]
  · rw [pw_xm, pw_negT (by omega)]
theorem c_21 (d : Nat) {H pst : pw_H} {x0 y0 : Int32} {D L U C R : Nat → Int32} {n : Nat} {hl hr : Int32} (i : Nat) (hi : i < 12) (hD : 0 ≤ (D i).toInt ∧ (D i).toInt ≤ 3) (hC : -1000 ≤ (C i).toInt ∧ (C i).toInt ≤ 1000) : pw_M (d + 1) 21 [.inr (some H.length), .inl (nI i)] (wk_h H pst x0 y0 D L U C R n hl hr) (pw_qi (fun r h' => r.toInt = (if (D i).toInt = 0 then (C i).toInt else if (D i).toInt = 2 then -(C i).toInt else 0) ∧ h' = (wk_h H pst x0 y0 D L U C R n hl hr))) := by
  have hm := sg_mul (e := D i) hC
  have z0 := pz_0
  refine pr_aload_n rfl rfl ?_
  refine pr_iload_n rfl rfl ?_
  refine pr_vi1 rfl (by decide) (Nat.le_of_ble_eq_true rfl) wr_100 (Nat.le_of_ble_eq_true rfl) (c_19 _ i hi hD.1) (fun r_2 h_2 q_2 => ?_)
  obtain ⟨rfl, rfl⟩ := q_2
  refine pr_b_eq rfl (fun c_5 => ?_) (fun c_5 => ?_)
  · skip
    refine pr_push (v := 0) rfl rfl ?_
    exact pr_reti rfl rfl (⟨by
    first
    | (rw [hm]; split <;> (try split) <;> (try split) <;> omega)
    | (rw [z0]; split <;> (try split) <;> omega), rfl⟩)
  · skip
    refine pr_aload_n rfl rfl ?_
    refine pr_iload_n rfl rfl ?_
    refine pr_vi1 rfl (by decide) (Nat.le_of_ble_eq_true rfl) wr_100 (Nat.le_of_ble_eq_true rfl) (c_20 _ i hi) (fun r_10 h_10 q_10 => ?_)
    obtain ⟨rfl, rfl⟩ := q_10
    refine pr_aload_n rfl rfl ?_
    refine pr_getf rfl wr_100 rfl ?_
    refine pr_iload_n rfl rfl ?_
    refine pr_iald (i) rfl wr_104 (by decide) (by decide) rfl (by omega) ?_
    refine pr_step rfl rfl rfl rfl ?_
    refine pr_step rfl rfl rfl rfl ?_
    exact pr_reti rfl rfl (⟨by
    first
    | (rw [hm]; split <;> (try split) <;> (try split) <;> omega)
    | (rw [z0]; split <;> (try split) <;> omega), rfl⟩)
theorem c_22 (d : Nat) {H pst : pw_H} {x0 y0 : Int32} {D L U C R : Nat → Int32} {n : Nat} {hl hr : Int32} (i : Nat) (hi : i < 12) (hD : 0 ≤ (D i).toInt ∧ (D i).toInt ≤ 3) (hC : -1000 ≤ (C i).toInt ∧ (C i).toInt ≤ 1000) : pw_M (d + 1) 22 [.inr (some H.length), .inl (nI i)] (wk_h H pst x0 y0 D L U C R n hl hr) (pw_qi (fun r h' => r.toInt = (if (D i).toInt = 1 then (C i).toInt else if (D i).toInt = 3 then -(C i).toInt else 0) ∧ h' = (wk_h H pst x0 y0 D L U C R n hl hr))) := by
  have hm := sg_mul (e := D i) hC
  have z0 := pz_0
  refine pr_aload_n rfl rfl ?_
  refine pr_iload_n rfl rfl ?_
  refine pr_vi1 rfl (by decide) (Nat.le_of_ble_eq_true rfl) wr_100 (Nat.le_of_ble_eq_true rfl) (c_19 _ i hi hD.1) (fun r_2 h_2 q_2 => ?_)
  obtain ⟨rfl, rfl⟩ := q_2
  refine pr_b_eq rfl (fun c_5 => ?_) (fun c_5 => ?_)
  · skip
    refine pr_aload_n rfl rfl ?_
    refine pr_iload_n rfl rfl ?_
    refine pr_vi1 rfl (by decide) (Nat.le_of_ble_eq_true rfl) wr_100 (Nat.le_of_ble_eq_true rfl) (c_20 _ i hi) (fun r_14 h_14 q_14 => ?_)
    obtain ⟨rfl, rfl⟩ := q_14
    refine pr_aload_n rfl rfl ?_
    refine pr_getf rfl wr_100 rfl ?_
    refine pr_iload_n rfl rfl ?_
    refine pr_iald (i) rfl wr_104 (by decide) (by decide) rfl (by omega) ?_
    refine pr_step rfl rfl rfl rfl ?_
    exact pr_reti rfl rfl (⟨by
    first
    | (rw [hm]; split <;> (try split) <;> (try split) <;> omega)
    | (rw [z0]; split <;> (try split) <;> omega), rfl⟩)
  · skip
    refine pr_push (v := 0) rfl rfl ?_
    refine pr_step rfl rfl rfl rfl ?_
    exact pr_reti rfl rfl (⟨by
    first
    | (rw [hm]; split <;> (try split) <;> (try split) <;> omega)
    | (rw [z0]; split <;> (try split) <;> omega), rfl⟩)
theorem c_11 (d : Nat) {H pst : pw_H} {x0 y0 : Int32} {D L U C R : Nat → Int32} {n : Nat} {hr : Int32} (hn : n ≤ 12) (B : Prop) [Decidable B] (i : Nat) (hi : i < n) : pw_M (d + 1) 11 [.inr (some H.length), .inl (nI i)] (wk_h H pst x0 y0 D L U C R n (pw_b B) hr) (pw_qi (pw_is (wk_h H pst x0 y0 D L U C R n (pw_b B) hr) (if B then C i else -1))) := by
  have hnP : (nI n - 1).toInt = (n : Int) - 1 := pw_pred (by omega)
  have hiT := pw_T (n := i) (by omega)
  have z0 := pz_0
  refine pr_aload_n rfl rfl ?_
  refine pr_getf rfl wr_100 rfl ?_
  refine pr_b_eq rfl (fun c_4 => ?_) (fun c_4 => ?_)
  · skip
    refine pr_push (v := (-1)) rfl rfl ?_
    exact pr_reti rfl rfl (⟨by
    first
    | exact (if_pos c_4).symm
    | exact (if_neg c_4).symm, rfl⟩)
  · skip
    refine pr_iload_n rfl rfl ?_
    refine pr_push (v := 0) rfl rfl ?_
    refine pr_aload_n rfl rfl ?_
    refine pr_getf rfl wr_100 rfl ?_
    refine pr_push (v := 1) rfl rfl ?_
    refine pr_step rfl rfl rfl rfl ?_
    refine pr_si3 rfl (by decide) (Nat.le_of_ble_eq_true rfl) (Nat.le_of_ble_eq_true rfl) (c_48 _ _ _ _ _) (fun r_15 h_15 q_15 => ?_)
    obtain ⟨rfl, rfl⟩ := q_15
    refine pr_b_eq rfl (fun c_18 => ?_) (fun c_18 => ?_)
    · skip
      exact absurd (⟨by omega, by omega⟩) c_18
    · skip
      refine pr_aload_n rfl rfl ?_
      refine pr_getf rfl wr_100 rfl ?_
      refine pr_iload_n rfl rfl ?_
      refine pr_iald (i) rfl wr_104 (by decide) (by decide) rfl (by omega) ?_
      refine pr_step rfl rfl rfl rfl ?_
      exact pr_reti rfl rfl (⟨by
    first
    | exact (if_pos c_4).symm
    | exact (if_neg c_4).symm, rfl⟩)
theorem c_12 (d : Nat) {H pst : pw_H} {x0 y0 : Int32} {D L U C R : Nat → Int32} {n : Nat} {hl hr : Int32} (x y : Nat) (hx : x < 12) (hy : y < 12) : pw_M (d + 2) 12 [.inr (some H.length), .inl (nI x), .inl (nI y)] (wk_h H pst x0 y0 D L U C R n hl hr) (pw_qi (pw_is (wk_h H pst x0 y0 D L U C R n hl hr) (pw_b ((R y >>> (nI x &&& 31)) &&& 1 = 1)))) := by
  have hxT := pw_T (n := x) (by omega)
  have hyT := pw_T (n := y) (by omega)
  have z0 := pz_0
  have z11 := pz_11
  refine pr_iload_n rfl rfl ?_
  refine pr_iload_n rfl rfl ?_
  refine pr_si2 rfl (by decide) (Nat.le_of_ble_eq_true rfl) (Nat.le_of_ble_eq_true rfl) (c_50 _ _ _ _) (fun r_2 h_2 q_2 => ?_)
  obtain ⟨rfl, rfl⟩ := q_2
  refine pr_b_eq rfl (fun c_5 => ?_) (fun c_5 => ?_)
  · skip
    exact absurd (⟨⟨by omega, by omega⟩, by omega, by omega⟩) c_5
  · skip
    refine pr_aload_n rfl rfl ?_
    refine pr_getf rfl wr_100 rfl ?_
    refine pr_iload_n rfl rfl ?_
    refine pr_iald (y) rfl wr_105 (by decide) (by decide) rfl (by omega) ?_
    refine pr_iload_n rfl rfl ?_
    refine pr_step rfl rfl rfl rfl ?_
    refine pr_push (v := 1) rfl rfl ?_
    refine pr_step rfl rfl rfl rfl ?_
    refine pr_push (v := 1) rfl rfl ?_
    refine pr_c_ne rfl (fun c_19 => ?_) (fun c_19 => ?_)
    · skip
      refine pr_push (v := 0) rfl rfl ?_
      exact pr_retb rfl rfl rfl (⟨by
    first
    | exact (pw_b0 c_19).symm
    | exact (pw_b1 c_19).symm, rfl⟩)
    · skip
      refine pr_push (v := 1) rfl rfl ?_
      refine pr_step rfl rfl rfl rfl ?_
      exact pr_retb rfl rfl rfl (⟨by
    first
    | exact (pw_b0 c_19).symm
    | exact (pw_b1 c_19).symm, rfl⟩)
def fi_run (R : Nat → Int32) : Nat → Int32
  | 0 => 0
  | y + 1 => fi_run R y + bc_of (R y)
theorem c_13_loop (d : Nat) {H pst : pw_H} {x0 y0 : Int32} {D L U C R : Nat → Int32} {n : Nat} {hl hr : Int32} : ∀ (k y : Nat), y + k = 12 → pw_W (d + 1) 13 13 [some (.inr (some H.length)), some (.inl (fi_run R y)), some (.inl (nI y))] [] (wk_h H pst x0 y0 D L U C R n hl hr) (pw_qi (pw_is (wk_h H pst x0 y0 D L U C R n hl hr) (fi_run R 12))) := by
  have z12 := pz_12
  intro k
  induction k with
  | zero =>
    intro y hy
    obtain rfl : y = 12 := by omega
    have hyT := pw_T (n := 12) (by omega)
    refine pr_iload_n rfl rfl ?_
    refine pr_push (v := 12) rfl rfl ?_
    refine pr_c_ge rfl (fun c_16 => ?_) (fun c_16 => ?_)
    · skip
      refine pr_iload_n rfl rfl ?_
      exact pr_reti rfl rfl (⟨rfl, rfl⟩)
    · skip
      exact absurd c_16 (by omega)
  | succ k ih =>
    intro y hy
    have hyT := pw_T (n := y) (by omega)
    refine pr_iload_n rfl rfl ?_
    refine pr_push (v := 12) rfl rfl ?_
    refine pr_c_ge rfl (fun c_16 => ?_) (fun c_16 => ?_)
    · skip
      exact absurd c_16 (by omega)
    · skip
      refine pr_iload_n rfl rfl ?_
      refine pr_aload_n rfl rfl ?_
      refine pr_getf rfl wr_100 rfl ?_
      refine pr_iload_n rfl rfl ?_
      refine pr_iald (y) rfl wr_105 (by decide) (by decide) rfl (by omega) ?_
      refine pr_si1 rfl (by decide) (Nat.le_of_ble_eq_true rfl) (Nat.le_of_ble_eq_true rfl) (c_114 _ _ _) (fun r_26 h_26 q_26 => ?_)
      obtain ⟨rfl, rfl⟩ := q_26
      refine pr_step rfl rfl rfl rfl ?_
      refine pr_istore_n rfl (Nat.le_of_ble_eq_true rfl) rfl ?_
      refine pr_iinc rfl rfl (pw_inc y) rfl ?_
      refine pr_step rfl rfl rfl rfl ?_
      exact ih (y + 1) (by omega)
theorem c_13 (d : Nat) {H pst : pw_H} {x0 y0 : Int32} {D L U C R : Nat → Int32} {n : Nat} {hl : Int32} (B : Prop) [Decidable B] : pw_M (d + 1) 13 [.inr (some H.length)] (wk_h H pst x0 y0 D L U C R n hl (pw_b B)) (pw_qi (pw_is (wk_h H pst x0 y0 D L U C R n hl (pw_b B)) (if B then fi_run R 12 else -1))) := by
  refine pr_aload_n rfl rfl ?_
  refine pr_getf rfl wr_100 rfl ?_
  refine pr_b_ne rfl (fun c_4 => ?_) (fun c_4 => ?_)
  · skip
    refine pr_push (v := 0) rfl rfl ?_
    refine pr_istore_n rfl (Nat.le_of_ble_eq_true rfl) rfl ?_
    refine pr_push (v := 0) rfl rfl ?_
    refine pr_istore_n rfl (Nat.le_of_ble_eq_true rfl) rfl ?_
    rw [if_pos c_4]
    exact c_13_loop d 12 0 (by omega)
  · skip
    refine pr_push (v := (-1)) rfl rfl ?_
    exact pr_reti rfl rfl (⟨(if_neg c_4).symm, rfl⟩)
end
section
section PWG
variable {d M pc : Nat} {L : pw_L} {st : List pw_V} {h : pw_H} {Q : Option pw_V → pw_H → Prop}
/-- a number on top, known by what holds of it -/
theorem pr_gen {x : Int32} (F : Int32 → Prop) (hx : F x) (k : ∀ y, F y → pw_W d M pc L (.inl y :: st) h Q) : pw_W d M pc L (.inl x :: st) h Q := k x hx
end PWG
abbrev iT (f : Nat → Int32) : Nat → Int := fun k => (f k).toInt
theorem pw_b_iff {P Q : Prop} [Decidable P] [Decidable Q] : pw_b P = pw_b Q ↔ (P ↔ Q) := by
  unfold pw_b
  by_cases h1 : P <;> by_cases h2 : Q
  · simp only [if_pos h1, if_pos h2, h1, h2]
  · rw [if_pos h1, if_neg h2]
    exact ⟨fun h => absurd h (by decide), fun h => absurd (h.mp h1) h2⟩
  · rw [if_neg h1, if_pos h2]
    exact ⟨fun h => absurd h (by decide), fun h => absurd (h.mpr h2) h1⟩
  · simp only [if_neg h1, if_neg h2, h1, h2]
theorem sg_le {e : Int32} (h : (sg_of e).toInt ≤ 0) : ¬ e.toInt < 2 := by
  intro h2
  rw [sg_of, if_pos h2] at h
  exact absurd h (by decide)
theorem sg_gt {e : Int32} (h : 0 < (sg_of e).toInt) : e.toInt < 2 := by
  by_cases h2 : e.toInt < 2
  · exact h2
  · rw [sg_of, if_neg h2] at h
    exact absurd h (by decide)
abbrev ll_ok (dr lo hi nd l : Int) : Prop := (dr < 2 ∧ lo ≤ nd - l ∧ nd - l ≤ hi) ∨ (¬ dr < 2 ∧ lo ≤ nd + l ∧ nd + l ≤ hi)
def ll_is (dr lo hi nd a b : Int) (r : Int32) : Prop := (∃ l, a ≤ l ∧ l ≤ b ∧ ll_ok dr lo hi nd l ∧ (∀ l2, a ≤ l2 → l2 < l → ¬ ll_ok dr lo hi nd l2) ∧ r.toInt = l) ∨ ((∀ l, a ≤ l → l ≤ b → ¬ ll_ok dr lo hi nd l) ∧ r = -1)
theorem ll_pick {D L U : Nat → Int} {n : Nat} (hw : wl_ok D L U n) {ax nd : Int} {i : Nat} (hi : i < n) (hd : D i % 2 = ax) {r : Int32} (hr : ll_is (D i) (wl_s (wl_mn D L U ax) (n - (i + 1)) (i + 1)) (wl_s (wl_mx D L U ax) (n - (i + 1)) (i + 1)) nd (L i) (U i) r) :
    ((wl_s (wl_mn D L U ax) (n - i) i ≤ nd ∧ nd ≤ wl_s (wl_mx D L U ax) (n - i) i) → r.toInt = wl_pick D L U n ax nd i) ∧ (¬ (wl_s (wl_mn D L U ax) (n - i) i ≤ nd ∧ nd ≤ wl_s (wl_mx D L U ax) (n - i) i) → r = -1) := by
  obtain ⟨c, hc⟩ : ∃ c, c = n - (i + 1) := ⟨_, rfl⟩
  rw [← hc] at hr
  rw [show n - i = c + 1 by omega]
  constructor
  · intro hf
    obtain ⟨h1, h2, h3⟩ := wl_step hw (ax := ax) (nd := nd) (i := i) (c := c) (by omega) hf hd
    generalize wl_pick D L U n ax nd i = pk at *
    have h4 := (h3 pk h1 (Int.le_refl pk)).mpr rfl
    rcases hr with ⟨l, g1, g2, g3, g4, g5⟩ | ⟨g1, g2⟩
    · rw [g5]
      rcases Int.lt_trichotomy l pk with hl | hl | hl
      · exfalso
        have h5 := (h3 l g1 (by omega)).mp (by
          rcases g3 with ⟨e1, e2⟩ | ⟨e1, e2⟩
          · rw [if_pos e1]; omega
          · rw [if_neg e1]; omega)
        omega
      · exact hl
      · exfalso
        refine g4 pk h1 hl ?_
        by_cases e1 : D i < 2
        · rw [if_pos e1] at h4
          exact Or.inl ⟨e1, by omega, by omega⟩
        · rw [if_neg e1] at h4
          exact Or.inr ⟨e1, by omega, by omega⟩
    · exfalso
      refine g1 pk h1 h2 ?_
      by_cases e1 : D i < 2
      · rw [if_pos e1] at h4
        exact Or.inl ⟨e1, by omega, by omega⟩
      · rw [if_neg e1] at h4
        exact Or.inr ⟨e1, by omega, by omega⟩
  · intro hf
    rcases hr with ⟨l, g1, g2, g3, g4, g5⟩ | ⟨g1, g2⟩
    · exfalso
      apply hf
      rw [wl_s, wl_s]
      generalize wl_s (wl_mn D L U ax) c (i + 1) = lo at *
      generalize wl_s (wl_mx D L U ax) c (i + 1) = hi2 at *
      rw [wl_mn, wl_mx, if_pos hd, if_pos hd]
      rcases g3 with ⟨e1, e2⟩ | ⟨e1, e2⟩
      · rw [if_pos e1, if_pos e1]; omega
      · rw [if_neg e1, if_neg e1]; omega
    · exact g2
theorem c_16_s (d : Nat) {H pst : pw_H} {x0 y0 : Int32} {D L U C R : Nat → Int32} {n : Nat} {hl hr : Int32} (hw : wl_ok (iT D) (iT L) (iT U) n) (i : Nat) (hi : i < n) (off : Int32) (TL TM : Int) (Q : Option pw_V → pw_H → Prop) (K : ∀ (l m : Int32) (g5 : Option pw_V), l.toInt = TL → m.toInt = TM → pw_W (d + 1) 16 101 [some (.inr (some H.length)), some (.inl (nI i)), some (.inl off), some (.inl l), some (.inl m), g5] [] (wk_h H pst x0 y0 D L U C R n hl hr) Q) : ∀ (c j : Nat) (l m : Int32), j + c = n → (-(12 * (j : Int)) ≤ l.toInt ∧ l.toInt ≤ 12 * (j : Int)) → (-(12 * (j : Int)) ≤ m.toInt ∧ m.toInt ≤ 12 * (j : Int)) → l.toInt + wl_s (wl_mn (iT D) (iT L) (iT U) ((D i).toInt % 2)) c j = TL → m.toInt + wl_s (wl_mx (iT D) (iT L) (iT U) ((D i).toInt % 2)) c j = TM → pw_W (d + 1) 16 10 [some (.inr (some H.length)), some (.inl (nI i)), some (.inl off), some (.inl l), some (.inl m), some (.inl (nI j))] [] (wk_h H pst x0 y0 D L U C R n hl hr) Q := by
  have hn12 := hw.1
  have hi2 := hw.2 i hi
  dsimp only [iT] at hi2
  have hnT := pw_T (n := n) (by omega)
  intro c
  induction c with
  | zero =>
    intro j l m hj hl1 hm1 hl hm
    obtain rfl : j = n := by omega
    rw [wl_s, Int.add_zero] at hl hm
    refine pr_iload rfl rfl ?_
    refine pr_aload_n rfl rfl ?_
    refine pr_getf rfl wr_100 rfl ?_
    refine pr_c_ge rfl (fun c_16 => ?_) (fun c_16 => ?_)
    · skip
      exact K l m _ hl hm
    · skip
      exact absurd c_16 (by omega)
  | succ c ih =>
    intro j l m hj hl1 hm1 hl hm
    have hjT := pw_T (n := j) (by omega)
    have hj2 := hw.2 j (by omega)
    dsimp only [iT] at hj2
    rw [wl_s, ← Int.add_assoc] at hl hm
    refine pr_iload rfl rfl ?_
    refine pr_aload_n rfl rfl ?_
    refine pr_getf rfl wr_100 rfl ?_
    refine pr_c_ge rfl (fun c_16 => ?_) (fun c_16 => ?_)
    · skip
      exact absurd c_16 (by omega)
    · skip
      refine pr_aload_n rfl rfl ?_
      refine pr_iload rfl rfl ?_
      refine pr_vi1 rfl (by decide) (Nat.le_of_ble_eq_true rfl) wr_100 (Nat.le_of_ble_eq_true rfl) (c_19 _ j (by omega) (by omega)) (fun r_22 h_22 q_22 => ?_)
      obtain ⟨rfl, rfl⟩ := q_22
      refine pr_aload_n rfl rfl ?_
      refine pr_iload_n rfl rfl ?_
      refine pr_vi1 rfl (by decide) (Nat.le_of_ble_eq_true rfl) wr_100 (Nat.le_of_ble_eq_true rfl) (c_19 _ i (by omega) (by omega)) (fun r_27 h_27 q_27 => ?_)
      obtain ⟨rfl, rfl⟩ := q_27
      refine pr_c_ne rfl (fun c_30 => ?_) (fun c_30 => ?_)
      · skip
        have hne : ¬ iT D j % 2 = ((D i).toInt % 2) := fun z => c_30 (pw_b_iff.mpr (by dsimp only [iT] at z; omega))
        have hz1 : wl_mn (iT D) (iT L) (iT U) ((D i).toInt % 2) j = 0 := by rw [wl_mn, if_neg hne]
        have hz2 : wl_mx (iT D) (iT L) (iT U) ((D i).toInt % 2) j = 0 := by rw [wl_mx, if_neg hne]
        clear c_30 hne
        refine pr_iinc rfl rfl (pw_inc j) rfl ?_
        refine pr_step rfl rfl rfl rfl ?_
        first
        | exact ih (j + 1) l2 m2 (by omega) (by omega) (by omega) (by rw [hl2]; exact hl) (by rw [hm2]; exact hm)
        | exact ih (j + 1) l m (by omega) (by omega) (by omega) (by rw [hz1, Int.add_zero] at hl; exact hl) (by rw [hz2, Int.add_zero] at hm; exact hm)
      · skip
        have heq : iT D j % 2 = ((D i).toInt % 2) := by
          have z := pw_b_iff.mp c_30
          dsimp only [iT]
          omega
        clear c_30
        refine pr_iload_n rfl rfl ?_
        refine pr_aload_n rfl rfl ?_
        refine pr_iload rfl rfl ?_
        refine pr_vi1 rfl (by decide) (Nat.le_of_ble_eq_true rfl) wr_100 (Nat.le_of_ble_eq_true rfl) (c_20 _ j (by omega)) (fun r_37 h_37 q_37 => ?_)
        obtain ⟨rfl, rfl⟩ := q_37
        refine pr_z_le rfl (fun c_40 => ?_) (fun c_40 => ?_)
        · skip
          have s40 := sg_le c_40
          clear c_40
          refine pr_aload_n rfl rfl ?_
          refine pr_getf rfl wr_100 rfl ?_
          refine pr_iload rfl rfl ?_
          refine pr_iald (j) rfl wr_103 (by decide) (by decide) rfl (by omega) ?_
          refine pr_step rfl rfl rfl rfl ?_
          refine pr_step rfl rfl rfl rfl ?_
          refine pr_gen (fun w => w.toInt = l.toInt + wl_mn (iT D) (iT L) (iT U) ((D i).toInt % 2) j) (by
            rw [wl_mn, if_pos (by assumption)]
            dsimp only [iT]
            first
            | rw [if_pos (by assumption), pw_addT (by omega) (by omega)]
            | rw [if_neg (by assumption), pw_addT (by omega) (by rw [pw_negT (by omega)]; omega), pw_negT (by omega)]) (fun l2 hl2 => ?_)
          have hbl2 := wl_mn_le hw (ax := ((D i).toInt % 2)) (k := j) (by omega)
          refine pr_istore_n rfl (Nat.le_of_ble_eq_true rfl) rfl ?_
          refine pr_iload rfl rfl ?_
          refine pr_aload_n rfl rfl ?_
          refine pr_iload rfl rfl ?_
          refine pr_vi1 rfl (by decide) (Nat.le_of_ble_eq_true rfl) wr_100 (Nat.le_of_ble_eq_true rfl) (c_20 _ j (by omega)) (fun r_68 h_68 q_68 => ?_)
          obtain ⟨rfl, rfl⟩ := q_68
          refine pr_z_le rfl (fun c_71 => ?_) (fun c_71 => ?_)
          · skip
            have s71 := sg_le c_71
            clear c_71
            refine pr_aload_n rfl rfl ?_
            refine pr_getf rfl wr_100 rfl ?_
            refine pr_iload rfl rfl ?_
            refine pr_iald (j) rfl wr_102 (by decide) (by decide) rfl (by omega) ?_
            refine pr_step rfl rfl rfl rfl ?_
            refine pr_step rfl rfl rfl rfl ?_
            refine pr_gen (fun w => w.toInt = m.toInt + wl_mx (iT D) (iT L) (iT U) ((D i).toInt % 2) j) (by
              rw [wl_mx, if_pos (by assumption)]
              dsimp only [iT]
              first
              | exact absurd s40 s71
              | exact absurd s71 s40
              | rw [if_pos (by assumption), pw_addT (by omega) (by omega)]
              | rw [if_neg (by assumption), pw_addT (by omega) (by rw [pw_negT (by omega)]; omega), pw_negT (by omega)]) (fun m2 hm2 => ?_)
            have hbm2 := wl_mn_le hw (ax := ((D i).toInt % 2)) (k := j) (by omega)
            refine pr_istore rfl (Nat.le_of_ble_eq_true rfl) rfl ?_
            refine pr_iinc rfl rfl (pw_inc j) rfl ?_
            refine pr_step rfl rfl rfl rfl ?_
            first
            | exact ih (j + 1) l2 m2 (by omega) (by omega) (by omega) (by rw [hl2]; exact hl) (by rw [hm2]; exact hm)
            | exact ih (j + 1) l m (by omega) (by omega) (by omega) (by rw [hz1, Int.add_zero] at hl; exact hl) (by rw [hz2, Int.add_zero] at hm; exact hm)
          · skip
            have s71 := sg_gt c_71
            clear c_71
            refine pr_aload_n rfl rfl ?_
            refine pr_getf rfl wr_100 rfl ?_
            refine pr_iload rfl rfl ?_
            refine pr_iald (j) rfl wr_103 (by decide) (by decide) rfl (by omega) ?_
            refine pr_step rfl rfl rfl rfl ?_
            refine pr_step rfl rfl rfl rfl ?_
            refine pr_gen (fun w => w.toInt = m.toInt + wl_mx (iT D) (iT L) (iT U) ((D i).toInt % 2) j) (by
              rw [wl_mx, if_pos (by assumption)]
              dsimp only [iT]
              first
              | exact absurd s40 s71
              | exact absurd s71 s40
              | rw [if_pos (by assumption), pw_addT (by omega) (by omega)]
              | rw [if_neg (by assumption), pw_addT (by omega) (by rw [pw_negT (by omega)]; omega), pw_negT (by omega)]) (fun m2 hm2 => ?_)
            have hbm2 := wl_mn_le hw (ax := ((D i).toInt % 2)) (k := j) (by omega)
            refine pr_istore rfl (Nat.le_of_ble_eq_true rfl) rfl ?_
            refine pr_iinc rfl rfl (pw_inc j) rfl ?_
            refine pr_step rfl rfl rfl rfl ?_
            first
            | exact ih (j + 1) l2 m2 (by omega) (by omega) (by omega) (by rw [hl2]; exact hl) (by rw [hm2]; exact hm)
            | exact ih (j + 1) l m (by omega) (by omega) (by omega) (by rw [hz1, Int.add_zero] at hl; exact hl) (by rw [hz2, Int.add_zero] at hm; exact hm)
        · skip
          have s40 := sg_gt c_40
          clear c_40
          refine pr_aload_n rfl rfl ?_
          refine pr_getf rfl wr_100 rfl ?_
          refine pr_iload rfl rfl ?_
          refine pr_iald (j) rfl wr_102 (by decide) (by decide) rfl (by omega) ?_
          refine pr_step rfl rfl rfl rfl ?_
          refine pr_step rfl rfl rfl rfl ?_
          refine pr_gen (fun w => w.toInt = l.toInt + wl_mn (iT D) (iT L) (iT U) ((D i).toInt % 2) j) (by
            rw [wl_mn, if_pos (by assumption)]
            dsimp only [iT]
            first
            | rw [if_pos (by assumption), pw_addT (by omega) (by omega)]
            | rw [if_neg (by assumption), pw_addT (by omega) (by rw [pw_negT (by omega)]; omega), pw_negT (by omega)]) (fun l2 hl2 => ?_)
          have hbl2 := wl_mn_le hw (ax := ((D i).toInt % 2)) (k := j) (by omega)
          refine pr_istore_n rfl (Nat.le_of_ble_eq_true rfl) rfl ?_
          refine pr_iload rfl rfl ?_
          refine pr_aload_n rfl rfl ?_
          refine pr_iload rfl rfl ?_
          refine pr_vi1 rfl (by decide) (Nat.le_of_ble_eq_true rfl) wr_100 (Nat.le_of_ble_eq_true rfl) (c_20 _ j (by omega)) (fun r_68 h_68 q_68 => ?_)
          obtain ⟨rfl, rfl⟩ := q_68
          refine pr_z_le rfl (fun c_71 => ?_) (fun c_71 => ?_)
          · skip
            have s71 := sg_le c_71
            clear c_71
            refine pr_aload_n rfl rfl ?_
            refine pr_getf rfl wr_100 rfl ?_
            refine pr_iload rfl rfl ?_
            refine pr_iald (j) rfl wr_102 (by decide) (by decide) rfl (by omega) ?_
            refine pr_step rfl rfl rfl rfl ?_
            refine pr_step rfl rfl rfl rfl ?_
            refine pr_gen (fun w => w.toInt = m.toInt + wl_mx (iT D) (iT L) (iT U) ((D i).toInt % 2) j) (by
              rw [wl_mx, if_pos (by assumption)]
              dsimp only [iT]
              first
              | exact absurd s40 s71
              | exact absurd s71 s40
              | rw [if_pos (by assumption), pw_addT (by omega) (by omega)]
              | rw [if_neg (by assumption), pw_addT (by omega) (by rw [pw_negT (by omega)]; omega), pw_negT (by omega)]) (fun m2 hm2 => ?_)
            have hbm2 := wl_mn_le hw (ax := ((D i).toInt % 2)) (k := j) (by omega)
            refine pr_istore rfl (Nat.le_of_ble_eq_true rfl) rfl ?_
            refine pr_iinc rfl rfl (pw_inc j) rfl ?_
            refine pr_step rfl rfl rfl rfl ?_
            first
            | exact ih (j + 1) l2 m2 (by omega) (by omega) (by omega) (by rw [hl2]; exact hl) (by rw [hm2]; exact hm)
            | exact ih (j + 1) l m (by omega) (by omega) (by omega) (by rw [hz1, Int.add_zero] at hl; exact hl) (by rw [hz2, Int.add_zero] at hm; exact hm)
          · skip
            have s71 := sg_gt c_71
            clear c_71
            refine pr_aload_n rfl rfl ?_
            refine pr_getf rfl wr_100 rfl ?_
            refine pr_iload rfl rfl ?_
            refine pr_iald (j) rfl wr_103 (by decide) (by decide) rfl (by omega) ?_
            refine pr_step rfl rfl rfl rfl ?_
            refine pr_step rfl rfl rfl rfl ?_
            refine pr_gen (fun w => w.toInt = m.toInt + wl_mx (iT D) (iT L) (iT U) ((D i).toInt % 2) j) (by
              rw [wl_mx, if_pos (by assumption)]
              dsimp only [iT]
              first
              | exact absurd s40 s71
              | exact absurd s71 s40
              | rw [if_pos (by assumption), pw_addT (by omega) (by omega)]
              | rw [if_neg (by assumption), pw_addT (by omega) (by rw [pw_negT (by omega)]; omega), pw_negT (by omega)]) (fun m2 hm2 => ?_)
            have hbm2 := wl_mn_le hw (ax := ((D i).toInt % 2)) (k := j) (by omega)
            refine pr_istore rfl (Nat.le_of_ble_eq_true rfl) rfl ?_
            refine pr_iinc rfl rfl (pw_inc j) rfl ?_
            refine pr_step rfl rfl rfl rfl ?_
            first
            | exact ih (j + 1) l2 m2 (by omega) (by omega) (by omega) (by rw [hl2]; exact hl) (by rw [hm2]; exact hm)
            | exact ih (j + 1) l m (by omega) (by omega) (by omega) (by rw [hz1, Int.add_zero] at hl; exact hl) (by rw [hz2, Int.add_zero] at hm; exact hm)
theorem c_16_f (d : Nat) {H pst : pw_H} {x0 y0 : Int32} {D L U C R : Nat → Int32} {n : Nat} {hl hr : Int32} (hw : wl_ok (iT D) (iT L) (iT U) n) (i : Nat) (hi : i < n) (off : Int32) (hoff : -1000 ≤ off.toInt ∧ off.toInt ≤ 1000) (l m : Int32) : ∀ (c : Nat) (v : Int32), v.toInt + c = (U i).toInt + 1 → (L i).toInt ≤ v.toInt → (∀ l2, (L i).toInt ≤ l2 → l2 < v.toInt → ¬ ll_ok (D i).toInt l.toInt m.toInt (-off.toInt) l2) → pw_W (d + 1) 16 109 [some (.inr (some H.length)), some (.inl (nI i)), some (.inl off), some (.inl l), some (.inl m), some (.inl v)] [] (wk_h H pst x0 y0 D L U C R n hl hr) (pw_qi (fun r h' => ll_is (D i).toInt l.toInt m.toInt (-off.toInt) (L i).toInt (U i).toInt r ∧ h' = (wk_h H pst x0 y0 D L U C R n hl hr))) := by
  have hn12 := hw.1
  have hi2 := hw.2 i hi
  dsimp only [iT] at hi2
  have z1 := pz_1
  intro c
  induction c with
  | zero =>
    intro v hv hv1 hno
    refine pr_iload rfl rfl ?_
    refine pr_aload_n rfl rfl ?_
    refine pr_getf rfl wr_100 rfl ?_
    refine pr_iload_n rfl rfl ?_
    refine pr_iald (i) rfl wr_103 (by decide) (by decide) rfl (by omega) ?_
    refine pr_c_gt rfl (fun c_117 => ?_) (fun c_117 => ?_)
    · skip
      refine pr_push (v := (-1)) rfl rfl ?_
      exact pr_reti rfl rfl (⟨Or.inr ⟨fun l2 h1 h2 => hno l2 h1 (by omega), rfl⟩, rfl⟩)
    · skip
      exact absurd c_117 (by omega)
  | succ c ih =>
    intro v hv hv1 hno
    obtain ⟨v2, hv2, hv2T⟩ : ∃ v2 : Int32, v + Int32.ofInt 1 = v2 ∧ v2.toInt = v.toInt + 1 := ⟨_, rfl, by rw [show Int32.ofInt 1 = 1 from rfl, pw_addT (by omega) (by omega), z1]⟩
    refine pr_iload rfl rfl ?_
    refine pr_aload_n rfl rfl ?_
    refine pr_getf rfl wr_100 rfl ?_
    refine pr_iload_n rfl rfl ?_
    refine pr_iald (i) rfl wr_103 (by decide) (by decide) rfl (by omega) ?_
    refine pr_c_gt rfl (fun c_117 => ?_) (fun c_117 => ?_)
    · skip
      exact absurd c_117 (by omega)
    · skip
      refine pr_iload_n rfl rfl ?_
      refine pr_aload_n rfl rfl ?_
      refine pr_iload_n rfl rfl ?_
      refine pr_vi1 rfl (by decide) (Nat.le_of_ble_eq_true rfl) wr_100 (Nat.le_of_ble_eq_true rfl) (c_20 _ i (by omega)) (fun r_123 h_123 q_123 => ?_)
      obtain ⟨rfl, rfl⟩ := q_123
      refine pr_iload rfl rfl ?_
      refine pr_step rfl rfl rfl rfl ?_
      refine pr_step rfl rfl rfl rfl ?_
      refine pr_step rfl rfl rfl rfl ?_
      have hsm := sg_mul (e := D i) (c := v) (by omega)
      refine pr_gen (fun w => ((D i).toInt < 2 ∧ w.toInt = -off.toInt - v.toInt) ∨ (¬ (D i).toInt < 2 ∧ w.toInt = -off.toInt + v.toInt)) (by
        by_cases e1 : (D i).toInt < 2
        · rw [if_pos e1] at hsm
          have e2 := pw_addT (a := off) (b := sg_of (D i) * v) (by omega) (by omega)
          rw [pw_negT (by omega), e2]
          exact Or.inl ⟨e1, by omega⟩
        · rw [if_neg e1] at hsm
          have e2 := pw_addT (a := off) (b := sg_of (D i) * v) (by omega) (by omega)
          rw [pw_negT (by omega), e2]
          exact Or.inr ⟨e1, by omega⟩) (fun w hw1 => ?_)
      clear hsm
      refine pr_iload_n rfl rfl ?_
      refine pr_iload rfl rfl ?_
      refine pr_si3 rfl (by decide) (Nat.le_of_ble_eq_true rfl) (Nat.le_of_ble_eq_true rfl) (c_48 _ _ _ _ _) (fun r_134 h_134 q_134 => ?_)
      obtain ⟨rfl, rfl⟩ := q_134
      refine pr_b_eq rfl (fun c_137 => ?_) (fun c_137 => ?_)
      · skip
        refine pr_iinc rfl rfl hv2 rfl ?_
        refine pr_step rfl rfl rfl rfl ?_
        exact ih v2 (by omega) (by omega) (fun l2 h1 h2 => by
          by_cases h3 : l2 < v.toInt
          · exact hno l2 h1 h3
          · intro h4
            obtain rfl : l2 = v.toInt := by omega
            exact c_137 (by omega))
      · skip
        refine pr_iload rfl rfl ?_
        exact pr_reti rfl rfl (⟨Or.inl ⟨v.toInt, hv1, by omega, by omega, hno, rfl⟩, rfl⟩)
theorem c_16 (d : Nat) {H pst : pw_H} {x0 y0 : Int32} {D L U C R : Nat → Int32} {n : Nat} {hl hr : Int32} (hw : wl_ok (iT D) (iT L) (iT U) n) (i : Nat) (hi : i < n) (off : Int32) (hoff : -1000 ≤ off.toInt ∧ off.toInt ≤ 1000) : pw_M (d + 1) 16 [.inr (some H.length), .inl (nI i), .inl off] (wk_h H pst x0 y0 D L U C R n hl hr) (pw_qi (fun r h' => ll_is (D i).toInt (wl_s (wl_mn (iT D) (iT L) (iT U) ((D i).toInt % 2)) (n - (i + 1)) (i + 1)) (wl_s (wl_mx (iT D) (iT L) (iT U) ((D i).toInt % 2)) (n - (i + 1)) (i + 1)) (-off.toInt) (L i).toInt (U i).toInt r ∧ h' = (wk_h H pst x0 y0 D L U C R n hl hr))) := by
  have hn12 := hw.1
  have hi2 := hw.2 i hi
  dsimp only [iT] at hi2
  have z0 := pz_0
  refine pr_push (v := 0) rfl rfl ?_
  refine pr_istore_n rfl (Nat.le_of_ble_eq_true rfl) rfl ?_
  refine pr_push (v := 0) rfl rfl ?_
  refine pr_istore rfl (Nat.le_of_ble_eq_true rfl) rfl ?_
  refine pr_iload_n rfl rfl ?_
  refine pr_push (v := 1) rfl rfl ?_
  refine pr_step rfl rfl rfl rfl ?_
  refine pr_top (nI_1 i) ?_
  refine pr_istore rfl (Nat.le_of_ble_eq_true rfl) rfl ?_
  refine c_16_s d hw i hi off (wl_s (wl_mn (iT D) (iT L) (iT U) ((D i).toInt % 2)) (n - (i + 1)) (i + 1)) (wl_s (wl_mx (iT D) (iT L) (iT U) ((D i).toInt % 2)) (n - (i + 1)) (i + 1)) _ (fun l m g5 hl hm => ?_) (n - (i + 1)) (i + 1) 0 0 (by omega) (by omega) (by omega) (by rw [z0, Int.zero_add]) (by rw [z0, Int.zero_add])
  rw [← hl, ← hm]
  refine pr_aload_n rfl rfl ?_
  refine pr_getf rfl wr_100 rfl ?_
  refine pr_iload_n rfl rfl ?_
  refine pr_iald (i) rfl wr_102 (by decide) (by decide) rfl (by omega) ?_
  refine pr_istore rfl (Nat.le_of_ble_eq_true rfl) rfl ?_
  exact c_16_f d hw i hi off hoff l m ((U i).toInt + 1 - (L i).toInt).toNat (L i) (by omega) (by omega) (fun l2 h1 h2 => absurd h2 (by omega))
end
section
section CH
variable {D L U : Nat → Int} {n : Nat}
theorem wl_skip {f : Nat → Int} : ∀ i, i ≤ n → (∀ k, k < i → f k = 0) → wl_s f (n - i) i = wl_s f n 0
  | 0, _, _ => rfl
  | i + 1, hi, h => by
    have h1 := wl_skip (f := f) i (by omega) (fun k hk => h k (by omega))
    rw [show n - i = (n - (i + 1)) + 1 by omega, wl_s, h i (by omega), Int.zero_add] at h1
    exact h1
/-- how far one axis is, going along the legs -/
def ch_ax (D L U : Nat → Int) (n : Nat) (ax : Int) (i : Nat) (off : Int) : Prop := (wl_feas D L U n ax ∧ off = -(wl_nd D L U n ax i)) ∨ ((∀ k, k < i → ¬ D k % 2 = ax) ∧ off = 0)
theorem ch_nd0 {ax : Int} : ∀ i, (∀ k, k < i → ¬ D k % 2 = ax) → wl_nd D L U n ax i = 0
  | 0, _ => rfl
  | i + 1, h => by
    rw [wl_nd, if_neg (h i (by omega))]
    exact ch_nd0 i (fun k hk => h k (by omega))
theorem ch_skip {ax : Int} {i : Nat} (hi : i ≤ n) (h : ∀ k, k < i → ¬ D k % 2 = ax) : wl_s (wl_mn D L U ax) (n - i) i = wl_s (wl_mn D L U ax) n 0 ∧ wl_s (wl_mx D L U ax) (n - i) i = wl_s (wl_mx D L U ax) n 0 :=
  ⟨wl_skip i hi (fun k hk => if_neg (h k hk)), wl_skip i hi (fun k hk => if_neg (h k hk))⟩
theorem ch_b (hw : wl_ok D L U n) {ax : Int} {i : Nat} {off : Int} (hi : i ≤ n) (h : ch_ax D L U n ax i off) : -144 ≤ off ∧ off ≤ 144 := by
  rcases h with ⟨h1, h2⟩ | ⟨h1, h2⟩
  · have h3 := wl_nd_b hw hi h1
    omega
  · omega
theorem wl_len_a (hw : wl_ok D L U n) {i : Nat} (hi : i < n) (hf : wl_feas D L U n (D i % 2)) : L i ≤ wl_len D L U n i ∧ wl_len D L U n i ≤ U i := by
  have h1 := wl_keep hw (ax := D i % 2) i (by omega) hf
  rw [show n - i = (n - (i + 1)) + 1 by omega] at h1
  have h2 := wl_step hw (ax := D i % 2) (i := i) (c := n - (i + 1)) (by omega) h1 rfl
  exact ⟨h2.1, h2.2.1⟩
theorem ch_step (hw : wl_ok D L U n) {i : Nat} (hi : i < n) {off : Int} (h : ch_ax D L U n (D i % 2) i off) {r : Int32} (hr : ll_is (D i) (wl_s (wl_mn D L U (D i % 2)) (n - (i + 1)) (i + 1)) (wl_s (wl_mx D L U (D i % 2)) (n - (i + 1)) (i + 1)) (-off) (L i) (U i) r) : (wl_feas D L U n (D i % 2) ∧ off = -(wl_nd D L U n (D i % 2) i) ∧ r.toInt = wl_len D L U n i) ∨ (¬ wl_feas D L U n (D i % 2) ∧ r = -1) := by
  obtain ⟨h1, h2⟩ := ll_pick hw hi rfl hr
  by_cases hf : wl_feas D L U n (D i % 2)
  · have ho : off = -(wl_nd D L U n (D i % 2) i) := by
      rcases h with h | ⟨h3, h4⟩
      · exact h.2
      · rw [ch_nd0 i h3, h4]; rfl
    have hk := wl_keep hw (ax := D i % 2) i (by omega) hf
    have e : -off = wl_nd D L U n (D i % 2) i := by omega
    rw [e] at h1
    exact Or.inl ⟨hf, ho, h1 hk⟩
  · refine Or.inr ⟨hf, h2 ?_⟩
    rcases h with h | ⟨h3, h4⟩
    · exact absurd h.1 hf
    · obtain ⟨e1, e2⟩ := ch_skip (D := D) (L := L) (U := U) (n := n) (by omega) h3
      rw [e1, e2, h4]
      exact hf
theorem ch_same {ax : Int} {i : Nat} {off : Int} (h : ch_ax D L U n ax i off) (hne : ¬ D i % 2 = ax) : ch_ax D L U n ax (i + 1) off := by
  rcases h with ⟨h1, h2⟩ | ⟨h1, h2⟩
  · refine Or.inl ⟨h1, ?_⟩
    rw [wl_nd, if_neg hne]
    exact h2
  · refine Or.inr ⟨fun k hk => ?_, h2⟩
    by_cases e : k = i
    · rw [e]; exact hne
    · exact h1 k (by omega)
theorem ch_take {i : Nat} {off off2 : Int} (hf : wl_feas D L U n (D i % 2)) (ho : off = -(wl_nd D L U n (D i % 2) i)) (h2 : off2 = off + (if D i < 2 then wl_len D L U n i else -(wl_len D L U n i))) : ch_ax D L U n (D i % 2) (i + 1) off2 := by
  refine Or.inl ⟨hf, ?_⟩
  rw [wl_nd, if_pos rfl, h2, ho]
  show _ = -(wl_nd D L U n (D i % 2) i - (if D i < 2 then 1 else -1) * wl_len D L U n i)
  split <;> omega
theorem ch_end {ax : Int} {off : Int} (h : ch_ax D L U n ax n off) : wl_feas D L U n ax := by
  rcases h with h | ⟨h1, h2⟩
  · exact h.1
  · obtain ⟨e1, e2⟩ := ch_skip (D := D) (L := L) (U := U) (n := n) (Nat.le_refl n) h1
    rw [Nat.sub_self, wl_s] at e1 e2
    exact ⟨by omega, by omega⟩
end CH
theorem c_15_loop (d : Nat) {H pst : pw_H} {x0 y0 : Int32} {D L U R : Nat → Int32} {n : Nat} {hl hr : Int32} (hw : wl_ok (iT D) (iT L) (iT U) n) : ∀ (c i : Nat) (C : Nat → Int32) (x y : Int32) (g4 : Option pw_V), i + c = n → ch_ax (iT D) (iT L) (iT U) n 0 i x.toInt → ch_ax (iT D) (iT L) (iT U) n 1 i y.toInt → (∀ k, k < i → (C k).toInt = wl_len (iT D) (iT L) (iT U) n k) → pw_W (d + 2) 15 6 [some (.inr (some H.length)), some (.inl x), some (.inl y), some (.inl (nI i)), g4] [] (wk_h H pst x0 y0 D L U C R n hl hr) (pw_qi (fun r h' => r = pw_b (wl_feas (iT D) (iT L) (iT U) n 0 ∧ wl_feas (iT D) (iT L) (iT U) n 1) ∧ ∃ C2 : Nat → Int32, h' = (wk_h H pst x0 y0 D L U C2 R n hl hr) ∧ ((wl_feas (iT D) (iT L) (iT U) n 0 ∧ wl_feas (iT D) (iT L) (iT U) n 1) → ∀ k, k < n → (C2 k).toInt = wl_len (iT D) (iT L) (iT U) n k))) := by
  have hn12 := hw.1
  have zm1 := pz_m1
  have hnT := pw_T (n := n) (by omega)
  intro c
  induction c with
  | zero =>
    intro i C x y g4 hi hx hy hC
    obtain rfl : i = n := by omega
    refine pr_iload_n rfl rfl ?_
    refine pr_aload_n rfl rfl ?_
    refine pr_getf rfl wr_100 rfl ?_
    refine pr_c_ge rfl (fun c_11 => ?_) (fun c_11 => ?_)
    · skip
      refine pr_push (v := 1) rfl rfl ?_
      exact pr_retb rfl rfl rfl (⟨(pw_b1 ⟨ch_end hx, ch_end hy⟩).symm, C, rfl, fun _ => hC⟩)
    · skip
      exact absurd c_11 (by omega)
  | succ c ih =>
    intro i C x y g4 hi hx hy hC
    have hiT := pw_T (n := i) (by omega)
    have hin : i < n := by omega
    have hi2 := hw.2 i hin
    dsimp only [iT] at hi2
    have hxb := ch_b hw (by omega) hx
    have hyb := ch_b hw (by omega) hy
    refine pr_iload_n rfl rfl ?_
    refine pr_aload_n rfl rfl ?_
    refine pr_getf rfl wr_100 rfl ?_
    refine pr_c_ge rfl (fun c_11 => ?_) (fun c_11 => ?_)
    · skip
      exact absurd c_11 (by omega)
    · skip
      refine pr_aload_n rfl rfl ?_
      refine pr_iload_n rfl rfl ?_
      refine pr_aload_n rfl rfl ?_
      refine pr_iload_n rfl rfl ?_
      refine pr_vi1 rfl (by decide) (Nat.le_of_ble_eq_true rfl) wr_100 (Nat.le_of_ble_eq_true rfl) (c_19 _ i (by omega) (by omega)) (fun r_18 h_18 q_18 => ?_)
      obtain ⟨rfl, rfl⟩ := q_18
      refine pr_b_eq rfl (fun c_21 => ?_) (fun c_21 => ?_)
      · skip
        refine pr_iload_n rfl rfl ?_
        refine pr_vi2 rfl (by decide) (Nat.le_of_ble_eq_true rfl) wr_100 (Nat.le_of_ble_eq_true rfl) (c_16 _ hw i hin _ (by omega)) (fun r_29 h_29 q_29 => ?_)
        obtain ⟨q29, rfl⟩ := q_29
        first
        | (have st := ch_step hw hin (h := by rw [show iT D i % 2 = 0 by dsimp only [iT]; omega]; exact hx) q29)
        | (have st := ch_step hw hin (h := by rw [show iT D i % 2 = 1 by dsimp only [iT]; omega]; exact hy) q29)
        clear q29
        refine pr_istore rfl (Nat.le_of_ble_eq_true rfl) rfl ?_
        refine pr_iload rfl rfl ?_
        refine pr_push (v := (-1)) rfl rfl ?_
        refine pr_c_ne rfl (fun c_37 => ?_) (fun c_37 => ?_)
        · skip
          obtain ⟨sf, so, sr⟩ := st.resolve_right (fun z => c_37 z.2)
          have hlb := wl_len_a hw hin sf
          dsimp only [iT] at hlb
          rw [← sr] at hlb
          clear st
          have k21 := c_21
          clear c_21
          refine pr_aload_n rfl rfl ?_
          refine pr_getf rfl wr_100 rfl ?_
          refine pr_iload_n rfl rfl ?_
          refine pr_iload rfl rfl ?_
          refine pr_iast (i) rfl wr_104 (by decide) rfl (by omega) ht_a104 ?_
          refine pr_iload_n rfl rfl ?_
          refine pr_aload_n rfl rfl ?_
          refine pr_iload_n rfl rfl ?_
          refine pr_vi1 rfl (by decide) (Nat.le_of_ble_eq_true rfl) wr_100 (Nat.le_of_ble_eq_true rfl) (c_21 (C := upd C i r_29) _ i (by omega) (by omega) (by rw [show upd C i r_29 i = r_29 from if_pos rfl]; omega)) (fun r_53 h_53 q_53 => ?_)
          obtain ⟨q53, rfl⟩ := q_53
          rw [show upd C i r_29 i = r_29 from if_pos rfl] at q53
          have b53 : -12 ≤ r_53.toInt ∧ r_53.toInt ≤ 12 := by rw [q53]; split <;> (try split) <;> omega
          refine pr_step rfl rfl rfl rfl ?_
          refine pr_gen (fun w => w.toInt = x.toInt + r_53.toInt) (pw_addT (by omega) (by omega)) (fun x2 hx2 => ?_)
          refine pr_istore_n rfl (Nat.le_of_ble_eq_true rfl) rfl ?_
          refine pr_iload_n rfl rfl ?_
          refine pr_aload_n rfl rfl ?_
          refine pr_iload_n rfl rfl ?_
          refine pr_vi1 rfl (by decide) (Nat.le_of_ble_eq_true rfl) wr_100 (Nat.le_of_ble_eq_true rfl) (c_22 (C := upd C i r_29) _ i (by omega) (by omega) (by rw [show upd C i r_29 i = r_29 from if_pos rfl]; omega)) (fun r_61 h_61 q_61 => ?_)
          obtain ⟨q61, rfl⟩ := q_61
          rw [show upd C i r_29 i = r_29 from if_pos rfl] at q61
          have b61 : -12 ≤ r_61.toInt ∧ r_61.toInt ≤ 12 := by rw [q61]; split <;> (try split) <;> omega
          refine pr_step rfl rfl rfl rfl ?_
          refine pr_gen (fun w => w.toInt = y.toInt + r_61.toInt) (pw_addT (by omega) (by omega)) (fun y2 hy2 => ?_)
          refine pr_istore_n rfl (Nat.le_of_ble_eq_true rfl) rfl ?_
          refine pr_iinc rfl rfl (pw_inc i) rfl ?_
          refine pr_step rfl rfl rfl rfl ?_
          first
          | exact ih (i + 1) (upd C i r_29) x2 y2 _ (by omega) (by
              have e := ch_take (off2 := x2.toInt) sf so (by
                rw [hx2, q53, ← sr]
                dsimp only [iT]
                rcases (show (D i).toInt = 0 ∨ (D i).toInt = 2 by omega) with e | e
                · rw [if_pos e, if_pos (by omega)]
                · rw [if_neg (by omega), if_pos e, if_neg (by omega)])
              rw [show iT D i % 2 = 0 by dsimp only [iT]; omega] at e
              exact e) (by
              have e : y2.toInt = y.toInt := by rw [hy2, q61, if_neg (by omega), if_neg (by omega), Int.add_zero]
              rw [e]
              exact ch_same hy (by dsimp only [iT]; omega)) (fun k hk => by
              unfold upd
              split
              · rename_i e; rw [e]; exact sr
              · exact hC k (by omega))
          | exact ih (i + 1) (upd C i r_29) x2 y2 _ (by omega) (by
              have e : x2.toInt = x.toInt := by rw [hx2, q53, if_neg (by omega), if_neg (by omega), Int.add_zero]
              rw [e]
              exact ch_same hx (by dsimp only [iT]; omega)) (by
              have e := ch_take (off2 := y2.toInt) sf so (by
                rw [hy2, q61, ← sr]
                dsimp only [iT]
                rcases (show (D i).toInt = 1 ∨ (D i).toInt = 3 by omega) with e | e
                · rw [if_pos e, if_pos (by omega)]
                · rw [if_neg (by omega), if_pos e, if_neg (by omega)])
              rw [show iT D i % 2 = 1 by dsimp only [iT]; omega] at e
              exact e) (fun k hk => by
              unfold upd
              split
              · rename_i e; rw [e]; exact sr
              · exact hC k (by omega))
        · skip
          refine pr_push (v := 0) rfl rfl ?_
          exact pr_retb rfl rfl rfl (by
    rcases st with ⟨s1, s2, s3⟩ | ⟨s1, s2⟩
    · exfalso
      have hlb := wl_len_a hw hin s1
      dsimp only [iT] at hlb
      rw [c_37] at s3
      rw [← s3] at hlb
      omega
    · refine ⟨(pw_b0 (fun hh => s1 ?_)).symm, C, rfl, fun hh => absurd ?_ s1⟩
      · rcases (show (D i).toInt % 2 = 0 ∨ (D i).toInt % 2 = 1 by omega) with e | e
        · dsimp only [iT]; rw [e]; exact hh.1
        · dsimp only [iT]; rw [e]; exact hh.2
      · rcases (show (D i).toInt % 2 = 0 ∨ (D i).toInt % 2 = 1 by omega) with e | e
        · dsimp only [iT]; rw [e]; exact hh.1
        · dsimp only [iT]; rw [e]; exact hh.2)
      · skip
        refine pr_iload_n rfl rfl ?_
        refine pr_step rfl rfl rfl rfl ?_
        refine pr_vi2 rfl (by decide) (Nat.le_of_ble_eq_true rfl) wr_100 (Nat.le_of_ble_eq_true rfl) (c_16 _ hw i hin _ (by omega)) (fun r_29 h_29 q_29 => ?_)
        obtain ⟨q29, rfl⟩ := q_29
        first
        | (have st := ch_step hw hin (h := by rw [show iT D i % 2 = 0 by dsimp only [iT]; omega]; exact hx) q29)
        | (have st := ch_step hw hin (h := by rw [show iT D i % 2 = 1 by dsimp only [iT]; omega]; exact hy) q29)
        clear q29
        refine pr_istore rfl (Nat.le_of_ble_eq_true rfl) rfl ?_
        refine pr_iload rfl rfl ?_
        refine pr_push (v := (-1)) rfl rfl ?_
        refine pr_c_ne rfl (fun c_37 => ?_) (fun c_37 => ?_)
        · skip
          obtain ⟨sf, so, sr⟩ := st.resolve_right (fun z => c_37 z.2)
          have hlb := wl_len_a hw hin sf
          dsimp only [iT] at hlb
          rw [← sr] at hlb
          clear st
          have k21 := c_21
          clear c_21
          refine pr_aload_n rfl rfl ?_
          refine pr_getf rfl wr_100 rfl ?_
          refine pr_iload_n rfl rfl ?_
          refine pr_iload rfl rfl ?_
          refine pr_iast (i) rfl wr_104 (by decide) rfl (by omega) ht_a104 ?_
          refine pr_iload_n rfl rfl ?_
          refine pr_aload_n rfl rfl ?_
          refine pr_iload_n rfl rfl ?_
          refine pr_vi1 rfl (by decide) (Nat.le_of_ble_eq_true rfl) wr_100 (Nat.le_of_ble_eq_true rfl) (c_21 (C := upd C i r_29) _ i (by omega) (by omega) (by rw [show upd C i r_29 i = r_29 from if_pos rfl]; omega)) (fun r_53 h_53 q_53 => ?_)
          obtain ⟨q53, rfl⟩ := q_53
          rw [show upd C i r_29 i = r_29 from if_pos rfl] at q53
          have b53 : -12 ≤ r_53.toInt ∧ r_53.toInt ≤ 12 := by rw [q53]; split <;> (try split) <;> omega
          refine pr_step rfl rfl rfl rfl ?_
          refine pr_gen (fun w => w.toInt = x.toInt + r_53.toInt) (pw_addT (by omega) (by omega)) (fun x2 hx2 => ?_)
          refine pr_istore_n rfl (Nat.le_of_ble_eq_true rfl) rfl ?_
          refine pr_iload_n rfl rfl ?_
          refine pr_aload_n rfl rfl ?_
          refine pr_iload_n rfl rfl ?_
          refine pr_vi1 rfl (by decide) (Nat.le_of_ble_eq_true rfl) wr_100 (Nat.le_of_ble_eq_true rfl) (c_22 (C := upd C i r_29) _ i (by omega) (by omega) (by rw [show upd C i r_29 i = r_29 from if_pos rfl]; omega)) (fun r_61 h_61 q_61 => ?_)
          obtain ⟨q61, rfl⟩ := q_61
          rw [show upd C i r_29 i = r_29 from if_pos rfl] at q61
          have b61 : -12 ≤ r_61.toInt ∧ r_61.toInt ≤ 12 := by rw [q61]; split <;> (try split) <;> omega
          refine pr_step rfl rfl rfl rfl ?_
          refine pr_gen (fun w => w.toInt = y.toInt + r_61.toInt) (pw_addT (by omega) (by omega)) (fun y2 hy2 => ?_)
          refine pr_istore_n rfl (Nat.le_of_ble_eq_true rfl) rfl ?_
          refine pr_iinc rfl rfl (pw_inc i) rfl ?_
          refine pr_step rfl rfl rfl rfl ?_
          first
          | exact ih (i + 1) (upd C i r_29) x2 y2 _ (by omega) (by
              have e := ch_take (off2 := x2.toInt) sf so (by
                rw [hx2, q53, ← sr]
                dsimp only [iT]
                rcases (show (D i).toInt = 0 ∨ (D i).toInt = 2 by omega) with e | e
                · rw [if_pos e, if_pos (by omega)]
                · rw [if_neg (by omega), if_pos e, if_neg (by omega)])
              rw [show iT D i % 2 = 0 by dsimp only [iT]; omega] at e
              exact e) (by
              have e : y2.toInt = y.toInt := by rw [hy2, q61, if_neg (by omega), if_neg (by omega), Int.add_zero]
              rw [e]
              exact ch_same hy (by dsimp only [iT]; omega)) (fun k hk => by
              unfold upd
              split
              · rename_i e; rw [e]; exact sr
              · exact hC k (by omega))
          | exact ih (i + 1) (upd C i r_29) x2 y2 _ (by omega) (by
              have e : x2.toInt = x.toInt := by rw [hx2, q53, if_neg (by omega), if_neg (by omega), Int.add_zero]
              rw [e]
              exact ch_same hx (by dsimp only [iT]; omega)) (by
              have e := ch_take (off2 := y2.toInt) sf so (by
                rw [hy2, q61, ← sr]
                dsimp only [iT]
                rcases (show (D i).toInt = 1 ∨ (D i).toInt = 3 by omega) with e | e
                · rw [if_pos e, if_pos (by omega)]
                · rw [if_neg (by omega), if_pos e, if_neg (by omega)])
              rw [show iT D i % 2 = 1 by dsimp only [iT]; omega] at e
              exact e) (fun k hk => by
              unfold upd
              split
              · rename_i e; rw [e]; exact sr
              · exact hC k (by omega))
        · skip
          refine pr_push (v := 0) rfl rfl ?_
          exact pr_retb rfl rfl rfl (by
    rcases st with ⟨s1, s2, s3⟩ | ⟨s1, s2⟩
    · exfalso
      have hlb := wl_len_a hw hin s1
      dsimp only [iT] at hlb
      rw [c_37] at s3
      rw [← s3] at hlb
      omega
    · refine ⟨(pw_b0 (fun hh => s1 ?_)).symm, C, rfl, fun hh => absurd ?_ s1⟩
      · rcases (show (D i).toInt % 2 = 0 ∨ (D i).toInt % 2 = 1 by omega) with e | e
        · dsimp only [iT]; rw [e]; exact hh.1
        · dsimp only [iT]; rw [e]; exact hh.2
      · rcases (show (D i).toInt % 2 = 0 ∨ (D i).toInt % 2 = 1 by omega) with e | e
        · dsimp only [iT]; rw [e]; exact hh.1
        · dsimp only [iT]; rw [e]; exact hh.2)
theorem c_15 (d : Nat) {H pst : pw_H} {x0 y0 : Int32} {D L U C R : Nat → Int32} {n : Nat} {hl hr : Int32} (hw : wl_ok (iT D) (iT L) (iT U) n) : pw_M (d + 2) 15 [.inr (some H.length)] (wk_h H pst x0 y0 D L U C R n hl hr) (pw_qi (fun r h' => r = pw_b (wl_feas (iT D) (iT L) (iT U) n 0 ∧ wl_feas (iT D) (iT L) (iT U) n 1) ∧ ∃ C2 : Nat → Int32, h' = (wk_h H pst x0 y0 D L U C2 R n hl hr) ∧ ((wl_feas (iT D) (iT L) (iT U) n 0 ∧ wl_feas (iT D) (iT L) (iT U) n 1) → ∀ k, k < n → (C2 k).toInt = wl_len (iT D) (iT L) (iT U) n k))) := by
  refine pr_push (v := 0) rfl rfl ?_
  refine pr_istore_n rfl (Nat.le_of_ble_eq_true rfl) rfl ?_
  refine pr_push (v := 0) rfl rfl ?_
  refine pr_istore_n rfl (Nat.le_of_ble_eq_true rfl) rfl ?_
  refine pr_push (v := 0) rfl rfl ?_
  refine pr_istore_n rfl (Nat.le_of_ble_eq_true rfl) rfl ?_
  exact c_15_loop d hw n 0 C 0 0 _ (by omega) (Or.inr ⟨fun k hk => absurd hk (Nat.not_lt_zero k), rfl⟩) (Or.inr ⟨fun k hk => absurd hk (Nat.not_lt_zero k), rfl⟩) (fun k hk => absurd hk (Nat.not_lt_zero k))
end
section
theorem c_17_loop (d : Nat) {H pst : pw_H} {x0 y0 : Int32} {D L U C R : Nat → Int32} {n : Nat} {hl hr : Int32} (hw : wl_ok (iT D) (iT L) (iT U) n) (hfe : (wl_feas (iT D) (iT L) (iT U) n 0 ∧ wl_feas (iT D) (iT L) (iT U) n 1)) (hC : ∀ k, k < n → (C k).toInt = wl_len (iT D) (iT L) (iT U) n k) (hx0 : 0 ≤ x0.toInt ∧ x0.toInt ≤ 12) (hy0 : 0 ≤ y0.toInt ∧ y0.toInt ≤ 12) : ∀ (c i : Nat) (x y : Int32), i + c = n → x.toInt = wl_px (iT D) (wl_len (iT D) (iT L) (iT U) n) x0.toInt i → y.toInt = wl_py (iT D) (wl_len (iT D) (iT L) (iT U) n) y0.toInt i → (0 ≤ x.toInt ∧ x.toInt ≤ 12) → (0 ≤ y.toInt ∧ y.toInt ≤ 12) → (∀ k, k < i → (0 ≤ wl_px (iT D) (wl_len (iT D) (iT L) (iT U) n) x0.toInt (k + 1) ∧ wl_px (iT D) (wl_len (iT D) (iT L) (iT U) n) x0.toInt (k + 1) ≤ 12) ∧ 0 ≤ wl_py (iT D) (wl_len (iT D) (iT L) (iT U) n) y0.toInt (k + 1) ∧ wl_py (iT D) (wl_len (iT D) (iT L) (iT U) n) y0.toInt (k + 1) ≤ 12) → pw_W (d + 2) 17 12 [some (.inr (some H.length)), some (.inl x), some (.inl y), some (.inl (nI i))] [] (wk_h H pst x0 y0 D L U C R n hl hr) (pw_qi (fun r h' => r = pw_b (wl_land (iT D) (wl_len (iT D) (iT L) (iT U) n) x0.toInt y0.toInt n) ∧ h' = (wk_h H pst x0 y0 D L U C R n hl hr))) := by
  have hn12 := hw.1
  have z0 := pz_0
  have z12 := pz_12
  have hnT := pw_T (n := n) (by omega)
  intro c
  induction c with
  | zero =>
    intro i x y hi hx hy hxb hyb hl
    obtain rfl : i = n := by omega
    refine pr_iload_n rfl rfl ?_
    refine pr_aload_n rfl rfl ?_
    refine pr_getf rfl wr_100 rfl ?_
    refine pr_c_ge rfl (fun c_17 => ?_) (fun c_17 => ?_)
    · skip
      refine pr_push (v := 1) rfl rfl ?_
      exact pr_retb rfl rfl rfl (⟨(pw_b1 hl).symm, rfl⟩)
    · skip
      exact absurd c_17 (by omega)
  | succ c ih =>
    intro i x y hi hx hy hxb hyb hl
    have hiT := pw_T (n := i) (by omega)
    have hin : i < n := by omega
    have hi2 := hw.2 i hin
    dsimp only [iT] at hi2
    have hci := hC i hin
    have hlb := wl_len_b hw hfe hin
    refine pr_iload_n rfl rfl ?_
    refine pr_aload_n rfl rfl ?_
    refine pr_getf rfl wr_100 rfl ?_
    refine pr_c_ge rfl (fun c_17 => ?_) (fun c_17 => ?_)
    · skip
      exact absurd c_17 (by omega)
    · skip
      refine pr_iload_n rfl rfl ?_
      refine pr_aload_n rfl rfl ?_
      refine pr_iload_n rfl rfl ?_
      refine pr_vi1 rfl (by decide) (Nat.le_of_ble_eq_true rfl) wr_100 (Nat.le_of_ble_eq_true rfl) (c_21 _ i (by omega) (by omega) (by omega)) (fun r_23 h_23 q_23 => ?_)
      obtain ⟨qx, rfl⟩ := q_23
      rw [hci] at qx
      have hbx : -12 ≤ r_23.toInt ∧ r_23.toInt ≤ 12 := by rw [qx]; split <;> (try split) <;> omega
      refine pr_step rfl rfl rfl rfl ?_
      refine pr_gen (fun w => w.toInt = wl_px (iT D) (wl_len (iT D) (iT L) (iT U) n) x0.toInt (i + 1) ∧ -12 ≤ w.toInt ∧ w.toInt ≤ 24) (by
        rw [pw_addT (by omega) (by omega)]
        refine ⟨?_, by omega, by omega⟩
        rw [hx, qx]
        rfl) (fun x2 hx2 => ?_)
      refine pr_istore_n rfl (Nat.le_of_ble_eq_true rfl) rfl ?_
      refine pr_iload_n rfl rfl ?_
      refine pr_aload_n rfl rfl ?_
      refine pr_iload_n rfl rfl ?_
      refine pr_vi1 rfl (by decide) (Nat.le_of_ble_eq_true rfl) wr_100 (Nat.le_of_ble_eq_true rfl) (c_22 _ i (by omega) (by omega) (by omega)) (fun r_31 h_31 q_31 => ?_)
      obtain ⟨qy, rfl⟩ := q_31
      rw [hci] at qy
      have hby : -12 ≤ r_31.toInt ∧ r_31.toInt ≤ 12 := by rw [qy]; split <;> (try split) <;> omega
      refine pr_step rfl rfl rfl rfl ?_
      refine pr_gen (fun w => w.toInt = wl_py (iT D) (wl_len (iT D) (iT L) (iT U) n) y0.toInt (i + 1) ∧ -12 ≤ w.toInt ∧ w.toInt ≤ 24) (by
        rw [pw_addT (by omega) (by omega)]
        refine ⟨?_, by omega, by omega⟩
        rw [hy, qy]
        rfl) (fun y2 hy2 => ?_)
      refine pr_istore_n rfl (Nat.le_of_ble_eq_true rfl) rfl ?_
      refine pr_iload_n rfl rfl ?_
      refine pr_iload_n rfl rfl ?_
      refine pr_si2 rfl (by decide) (Nat.le_of_ble_eq_true rfl) (Nat.le_of_ble_eq_true rfl) (c_49 _ _ _ _) (fun r_38 h_38 q_38 => ?_)
      obtain ⟨rfl, rfl⟩ := q_38
      refine pr_b_ne rfl (fun c_41 => ?_) (fun c_41 => ?_)
      · skip
        refine pr_iinc rfl rfl (pw_inc i) rfl ?_
        refine pr_step rfl rfl rfl rfl ?_
        exact ih (i + 1) x2 y2 (by omega) hx2.1 hy2.1 (by omega) (by omega) (fun k hk => by
          by_cases e : k = i
          · rw [e, ← hx2.1, ← hy2.1]
            omega
          · exact hl k (by omega))
      · skip
        refine pr_push (v := 0) rfl rfl ?_
        exact pr_retb rfl rfl rfl (⟨(pw_b0 (fun hh => c_41 (by have h9 := hh i hin; rw [← hx2.1, ← hy2.1] at h9; omega))).symm, rfl⟩)
theorem c_17 (d : Nat) {H pst : pw_H} {x0 y0 : Int32} {D L U C R : Nat → Int32} {n : Nat} {hl hr : Int32} (hw : wl_ok (iT D) (iT L) (iT U) n) (hfe : (wl_feas (iT D) (iT L) (iT U) n 0 ∧ wl_feas (iT D) (iT L) (iT U) n 1)) (hC : ∀ k, k < n → (C k).toInt = wl_len (iT D) (iT L) (iT U) n k) (hx0 : 0 ≤ x0.toInt ∧ x0.toInt ≤ 12) (hy0 : 0 ≤ y0.toInt ∧ y0.toInt ≤ 12) : pw_M (d + 2) 17 [.inr (some H.length)] (wk_h H pst x0 y0 D L U C R n hl hr) (pw_qi (fun r h' => r = pw_b (wl_land (iT D) (wl_len (iT D) (iT L) (iT U) n) x0.toInt y0.toInt n) ∧ h' = (wk_h H pst x0 y0 D L U C R n hl hr))) := by
  refine pr_aload_n rfl rfl ?_
  refine pr_getf rfl wr_100 rfl ?_
  refine pr_istore_n rfl (Nat.le_of_ble_eq_true rfl) rfl ?_
  refine pr_aload_n rfl rfl ?_
  refine pr_getf rfl wr_100 rfl ?_
  refine pr_istore_n rfl (Nat.le_of_ble_eq_true rfl) rfl ?_
  refine pr_push (v := 0) rfl rfl ?_
  refine pr_istore_n rfl (Nat.le_of_ble_eq_true rfl) rfl ?_
  exact c_17_loop d hw hfe hC hx0 hy0 n 0 x0 y0 (by omega) rfl rfl hx0 hy0 (fun k hk => absurd hk (Nat.not_lt_zero k))
end
section
/-- a number's bits, twelve of them, by what they say -/
def rb_is (r : Int32) (p : Nat → Bool) : Prop := ∀ i, i < 32 → r.toBitVec.getLsbD i = (decide (i < 12) && p i)
theorem rb_xor {r s : Int32} {p q : Nat → Bool} (h1 : rb_is r p) (h2 : rb_is s q) : rb_is (r ^^^ s) (fun x => p x ^^ q x) := by
  intro i hi
  rw [Int32.toBitVec_xor, BitVec.getLsbD_xor, h1 i hi, h2 i hi]
  cases decide (i < 12) <;> rfl
theorem rb_0 : rb_is 0 (fun _ => false) := by
  intro i hi
  rw [Bool.and_false]
  exact BitVec.getLsbD_zero
theorem rb_eq {r : Int32} {p q : Nat → Bool} (h : rb_is r p) (hpq : ∀ x, x < 12 → p x = q x) : rb_is r q := by
  intro i hi
  rw [h i hi]
  by_cases h2 : i < 12
  · rw [hpq i h2]
  · rw [decide_eq_false h2]; rfl
theorem rb_mask : ∀ x, x < 13 → ∀ i, i < 32 → ((4095 <<< (nI x &&& 31)) &&& (4095 : Int32)).toBitVec.getLsbD i = (decide (i < 12) && decide (x ≤ i)) := by decide +kernel
theorem mx_n {m : Nat} (hm : m = 0) {a b : Nat} (ha : a ≤ 12) (hb : b ≤ 12) : (if m = 0 then (if nI a < nI b then nI b else nI a) else (if nI b < nI a then nI b else nI a)) = nI (max a b) := by
  have h1 := pw_T (n := a) (by omega)
  have h2 := pw_T (n := b) (by omega)
  rw [if_pos hm]
  by_cases h3 : a < b
  · rw [if_pos (Int32.lt_iff_toInt_lt.mpr (by omega)), show max a b = b by omega]
  · rw [if_neg (fun h4 => by have h5 := Int32.lt_iff_toInt_lt.mp h4; omega), show max a b = a by omega]
theorem mn_n {m : Nat} (hm : ¬ m = 0) {a b : Nat} (ha : a ≤ 12) (hb : b ≤ 12) : (if m = 0 then (if nI a < nI b then nI b else nI a) else (if nI b < nI a then nI b else nI a)) = nI (min a b) := by
  have h1 := pw_T (n := a) (by omega)
  have h2 := pw_T (n := b) (by omega)
  rw [if_neg hm]
  by_cases h3 : b < a
  · rw [if_pos (Int32.lt_iff_toInt_lt.mpr (by omega)), show min a b = b by omega]
  · rw [if_neg (fun h4 => by have h5 := Int32.lt_iff_toInt_lt.mp h4; omega), show min a b = a by omega]
theorem wl_pf_add {V V2 : Int → Int → Bool} {y : Int} {X : Nat} {c : Bool} (h : ∀ X2 : Int, V2 X2 y = (V X2 y ^^ (decide (X2 = (X : Int)) && c))) : ∀ k, wl_pf V2 y k = (wl_pf V y k ^^ (decide (X < k) && c))
  | 0 => by
    rw [decide_eq_false (Nat.not_lt_zero X)]
    rfl
  | k + 1 => by
    show (wl_pf V2 y k ^^ V2 k y) = ((wl_pf V y k ^^ V k y) ^^ (decide (X < k + 1) && c))
    rw [wl_pf_add h k, h k]
    rcases Nat.lt_trichotomy k X with e | e | e
    · rw [decide_eq_false (show ¬ X < k by omega), decide_eq_false (show ¬ (k : Int) = X by omega), decide_eq_false (show ¬ X < k + 1 by omega)]
      cases wl_pf V y k <;> cases V k y <;> cases c <;> rfl
    · rw [decide_eq_false (show ¬ X < k by omega), decide_eq_true (show (k : Int) = X by omega), decide_eq_true (show X < k + 1 by omega)]
      cases wl_pf V y k <;> cases V k y <;> cases c <;> rfl
    · rw [decide_eq_true (show X < k by omega), decide_eq_false (show ¬ (k : Int) = X by omega), decide_eq_true (show X < k + 1 by omega)]
      cases wl_pf V y k <;> cases V k y <;> cases c <;> rfl
theorem mk_row {V V2 : Int → Int → Bool} {y : Nat} {X : Nat} (hX : X ≤ 12) {r r2 : Int32} {C : Prop} [Decidable C] (h : ∀ X2 : Int, V2 X2 y = (V X2 y ^^ (decide (X2 = (X : Int)) && decide C))) (hr : rb_is r (fun x => wl_pf V y (x + 1))) (h2 : r2 = if C then r ^^^ ((4095 <<< (nI X &&& 31)) &&& 4095) else r) : rb_is r2 (fun x => wl_pf V2 y (x + 1)) := by
  by_cases hc : C
  · rw [if_pos hc] at h2
    have hm : rb_is ((4095 <<< (nI X &&& 31)) &&& 4095) (fun x => decide (X ≤ x)) := fun i hi => rb_mask X (by omega) i hi
    rw [h2]
    refine rb_eq (rb_xor hr hm) (fun x _ => ?_)
    rw [wl_pf_add h (x + 1), decide_eq_true hc, Bool.and_true]
    exact congrArg _ (decide_eq_decide.mpr (by omega))
  · rw [if_neg hc] at h2
    rw [h2]
    refine rb_eq hr (fun x _ => ?_)
    rw [wl_pf_add h (x + 1), decide_eq_false hc, Bool.and_false, Bool.xor_false]
theorem c_18_r (d : Nat) {H pst : pw_H} {x0 y0 : Int32} {D L U C : Nat → Int32} {n : Nat} {hl hr : Int32} (X Y i : Nat) (g4 : Option pw_V) (lo hi : Nat) (hhi : hi ≤ 12) (R0 : Nat → Int32) (Q : Option pw_V → pw_H → Prop) (K : ∀ (R : Nat → Int32) (g5 g6 : Option pw_V), (∀ y, y < 12 → R y = if lo ≤ y ∧ y < hi then R0 y ^^^ ((4095 <<< (nI X &&& 31)) &&& 4095) else R0 y) → pw_W (d + 2) 18 86 [some (.inr (some H.length)), some (.inl (nI X)), some (.inl (nI Y)), some (.inl (nI i)), g4, g5, g6] [] (wk_h H pst x0 y0 D L U C R n hl hr) Q) : ∀ (c r : Nat) (R : Nat → Int32), r + c = hi → lo ≤ r → (∀ y, y < 12 → R y = if lo ≤ y ∧ y < r then R0 y ^^^ ((4095 <<< (nI X &&& 31)) &&& 4095) else R0 y) → pw_W (d + 2) 18 54 [some (.inr (some H.length)), some (.inl (nI X)), some (.inl (nI Y)), some (.inl (nI i)), g4, some (.inl (nI hi)), some (.inl (nI r))] [] (wk_h H pst x0 y0 D L U C R n hl hr) Q := by
  have hhT := pw_T (n := hi) (by omega)
  intro c
  induction c with
  | zero =>
    intro r R hr hlo hR
    obtain rfl : r = hi := by omega
    refine pr_iload rfl rfl ?_
    refine pr_iload rfl rfl ?_
    refine pr_c_ge rfl (fun c_58 => ?_) (fun c_58 => ?_)
    · skip
      exact K R _ _ hR
    · skip
      exact absurd c_58 (by omega)
  | succ c ih =>
    intro r R hr hlo hR
    have hrT := pw_T (n := r) (by omega)
    refine pr_iload rfl rfl ?_
    refine pr_iload rfl rfl ?_
    refine pr_c_ge rfl (fun c_58 => ?_) (fun c_58 => ?_)
    · skip
      exact absurd c_58 (by omega)
    · skip
      refine pr_aload_n rfl rfl ?_
      refine pr_getf rfl wr_100 rfl ?_
      refine pr_iload rfl rfl ?_
      refine pr_step rfl rfl rfl rfl ?_
      refine pr_iald (r) rfl wr_105 (by decide) (by decide) rfl (by omega) ?_
      refine pr_push (v := 4095) rfl rfl ?_
      refine pr_iload_n rfl rfl ?_
      refine pr_step rfl rfl rfl rfl ?_
      refine pr_push (v := 4095) rfl rfl ?_
      refine pr_step rfl rfl rfl rfl ?_
      refine pr_step rfl rfl rfl rfl ?_
      refine pr_iast (r) rfl wr_105 (by decide) rfl (by omega) ht_a105 ?_
      refine pr_iinc rfl rfl (pw_inc r) rfl ?_
      refine pr_step rfl rfl rfl rfl ?_
      exact ih (r + 1) _ (by omega) (by omega) (fun y hy => by
        unfold upd
        by_cases e : y = r
        · rw [if_pos e, if_pos (by omega), hR r (by omega), if_neg (by omega), e]
        · rw [if_neg e, hR y hy]
          by_cases e2 : lo ≤ y ∧ y < r
          · rw [if_pos e2, if_pos (by omega)]
          · rw [if_neg e2, if_neg (by omega)])
theorem c_18_loop (d : Nat) {H pst : pw_H} {x0 y0 : Int32} {D L U C : Nat → Int32} {n : Nat} {hl hr : Int32} (hw : wl_ok (iT D) (iT L) (iT U) n) (hfe : (wl_feas (iT D) (iT L) (iT U) n 0 ∧ wl_feas (iT D) (iT L) (iT U) n 1)) (hC : ∀ k, k < n → (C k).toInt = wl_len (iT D) (iT L) (iT U) n k) (hx0 : 0 ≤ x0.toInt ∧ x0.toInt ≤ 12) (hy0 : 0 ≤ y0.toInt ∧ y0.toInt ≤ 12) (hla0 : (wl_land (iT D) (wl_len (iT D) (iT L) (iT U) n) x0.toInt y0.toInt n)) : ∀ (c i X Y : Nat) (R : Nat → Int32) (g4 g5 g6 : Option pw_V), i + c = n → (X : Int) = wl_px (iT D) (wl_len (iT D) (iT L) (iT U) n) x0.toInt i → (Y : Int) = wl_py (iT D) (wl_len (iT D) (iT L) (iT U) n) y0.toInt i → X ≤ 12 → Y ≤ 12 → (∀ y : Nat, y < 12 → rb_is (R y) (fun x => wl_pf (wl_V (iT D) (wl_len (iT D) (iT L) (iT U) n) x0.toInt y0.toInt i) y (x + 1))) → pw_W (d + 2) 18 12 [some (.inr (some H.length)), some (.inl (nI X)), some (.inl (nI Y)), some (.inl (nI i)), g4, g5, g6] [] (wk_h H pst x0 y0 D L U C R n hl hr) (pw_qv (fun h' => ∃ R2 : Nat → Int32, h' = (wk_h H pst x0 y0 D L U C R2 n hl hr) ∧ ∀ y : Nat, y < 12 → rb_is (R2 y) (fun x => wl_pf (wl_V (iT D) (wl_len (iT D) (iT L) (iT U) n) x0.toInt y0.toInt n) y (x + 1)))) := by
  have hn12 := hw.1
  have hnT := pw_T (n := n) (by omega)
  intro c
  induction c with
  | zero =>
    intro i X Y R g4 g5 g6 hi hX hY hXb hYb hR
    obtain rfl : i = n := by omega
    refine pr_iload_n rfl rfl ?_
    refine pr_aload_n rfl rfl ?_
    refine pr_getf rfl wr_100 rfl ?_
    refine pr_c_ge rfl (fun c_17 => ?_) (fun c_17 => ?_)
    · skip
      exact pr_retv rfl rfl (⟨R, rfl, hR⟩)
    · skip
      exact absurd c_17 (by omega)
  | succ c ih =>
    intro i X Y R g4 g5 g6 hi hX hY hXb hYb hR
    have hiT := pw_T (n := i) (by omega)
    have hXT := pw_T (n := X) (by omega)
    have hYT := pw_T (n := Y) (by omega)
    have hin : i < n := by omega
    have hi2 := hw.2 i hin
    dsimp only [iT] at hi2
    have hci := hC i hin
    have hlb := wl_len_b hw hfe hin
    have hla := hla0 i hin
    refine pr_iload_n rfl rfl ?_
    refine pr_aload_n rfl rfl ?_
    refine pr_getf rfl wr_100 rfl ?_
    refine pr_c_ge rfl (fun c_17 => ?_) (fun c_17 => ?_)
    · skip
      exact absurd c_17 (by omega)
    · skip
      refine pr_iload_n rfl rfl ?_
      refine pr_aload_n rfl rfl ?_
      refine pr_iload_n rfl rfl ?_
      refine pr_vi1 rfl (by decide) (Nat.le_of_ble_eq_true rfl) wr_100 (Nat.le_of_ble_eq_true rfl) (c_22 _ i (by omega) (by omega) (by omega)) (fun r_23 h_23 q_23 => ?_)
      obtain ⟨qy, rfl⟩ := q_23
      rw [hci] at qy
      have hby : -12 ≤ r_23.toInt ∧ r_23.toInt ≤ 12 := by rw [qy]; split <;> (try split) <;> omega
      refine pr_step rfl rfl rfl rfl ?_
      refine pr_gen (fun w => w.toInt = wl_py (iT D) (wl_len (iT D) (iT L) (iT U) n) y0.toInt (i + 1)) (by
        rw [pw_addT (by omega) (by omega), hYT, hY, qy]
        rfl) (fun y2 hy2 => ?_)
      obtain ⟨Y2, rfl, hY2T, hY2l⟩ := pw_nat (x := y2) (by omega)
      refine pr_istore rfl (Nat.le_of_ble_eq_true rfl) rfl ?_
      refine pr_iload_n rfl rfl ?_
      refine pr_iload rfl rfl ?_
      refine pr_math rfl rfl rfl (by decide) ?_
      refine pr_top (mx_n rfl hYb (by omega)) ?_
      refine pr_push (v := 12) rfl rfl ?_
      refine pr_math rfl rfl rfl (by decide) ?_
      refine pr_top (mn_n (a := max Y Y2) (b := 12) (by decide) (by omega) (by omega)) ?_
      refine pr_istore rfl (Nat.le_of_ble_eq_true rfl) rfl ?_
      refine pr_iload_n rfl rfl ?_
      refine pr_iload rfl rfl ?_
      refine pr_math rfl rfl rfl (by decide) ?_
      refine pr_top (mn_n (by decide) hYb (by omega)) ?_
      refine pr_push (v := 0) rfl rfl ?_
      refine pr_math rfl rfl rfl (by decide) ?_
      refine pr_top (mx_n (a := min Y Y2) (b := 0) rfl (by omega) (by omega)) ?_
      refine pr_istore rfl (Nat.le_of_ble_eq_true rfl) rfl ?_
      refine c_18_r d X Y i _ (max (min Y Y2) 0) (min (max Y Y2) 12) (by omega) R _ (fun R2 h5 h6 hR2 => ?_) (min (max Y Y2) 12 - max (min Y Y2) 0) (max (min Y Y2) 0) R (by omega) (by omega) (fun y hy => by rw [if_neg (by omega)])
      refine pr_iload_n rfl rfl ?_
      refine pr_aload_n rfl rfl ?_
      refine pr_iload_n rfl rfl ?_
      refine pr_vi1 rfl (by decide) (Nat.le_of_ble_eq_true rfl) wr_100 (Nat.le_of_ble_eq_true rfl) (c_21 _ i (by omega) (by omega) (by omega)) (fun r_89 h_89 q_89 => ?_)
      obtain ⟨qx, rfl⟩ := q_89
      rw [hci] at qx
      have hbx : -12 ≤ r_89.toInt ∧ r_89.toInt ≤ 12 := by rw [qx]; split <;> (try split) <;> omega
      refine pr_step rfl rfl rfl rfl ?_
      refine pr_gen (fun w => w.toInt = wl_px (iT D) (wl_len (iT D) (iT L) (iT U) n) x0.toInt (i + 1)) (by
        rw [pw_addT (by omega) (by omega), hXT, hX, qx]
        rfl) (fun x2 hx2 => ?_)
      obtain ⟨X2, rfl, hX2T, hX2l⟩ := pw_nat (x := x2) (by omega)
      refine pr_istore_n rfl (Nat.le_of_ble_eq_true rfl) rfl ?_
      refine pr_iload rfl rfl ?_
      refine pr_istore_n rfl (Nat.le_of_ble_eq_true rfl) rfl ?_
      refine pr_iinc rfl rfl (pw_inc i) rfl ?_
      refine pr_step rfl rfl rfl rfl ?_
      have hrows : ∀ y : Nat, y < 12 → rb_is (R2 y) (fun x => wl_pf (wl_V (iT D) (wl_len (iT D) (iT L) (iT U) n) x0.toInt y0.toInt (i + 1)) y (x + 1)) := fun y hy => by
        have hrow := hR2 y hy
        refine mk_row hXb (C := (iT D i = 1 ∧ wl_py (iT D) (wl_len (iT D) (iT L) (iT U) n) y0.toInt i ≤ (y : Int) ∧ (y : Int) < wl_py (iT D) (wl_len (iT D) (iT L) (iT U) n) y0.toInt i + wl_len (iT D) (iT L) (iT U) n i) ∨ (iT D i = 3 ∧ wl_py (iT D) (wl_len (iT D) (iT L) (iT U) n) y0.toInt i - wl_len (iT D) (iT L) (iT U) n i ≤ (y : Int) ∧ (y : Int) < wl_py (iT D) (wl_len (iT D) (iT L) (iT U) n) y0.toInt i)) (fun Xa => ?_) (hR y hy) ?_
        · show (wl_V (iT D) (wl_len (iT D) (iT L) (iT U) n) x0.toInt y0.toInt i Xa y ^^ wl_cov (iT D i) (wl_px (iT D) (wl_len (iT D) (iT L) (iT U) n) x0.toInt i) (wl_py (iT D) (wl_len (iT D) (iT L) (iT U) n) y0.toInt i) (wl_len (iT D) (iT L) (iT U) n i) Xa y) = _
          refine congrArg _ ?_
          rw [wl_cov, ← hX, ← Bool.decide_and]
          exact decide_eq_decide.mpr (by omega)
        · rw [hrow]
          have e : (max (min Y Y2) 0 ≤ y ∧ y < min (max Y Y2) 12) ↔ ((iT D i = 1 ∧ wl_py (iT D) (wl_len (iT D) (iT L) (iT U) n) y0.toInt i ≤ (y : Int) ∧ (y : Int) < wl_py (iT D) (wl_len (iT D) (iT L) (iT U) n) y0.toInt i + wl_len (iT D) (iT L) (iT U) n i) ∨ (iT D i = 3 ∧ wl_py (iT D) (wl_len (iT D) (iT L) (iT U) n) y0.toInt i - wl_len (iT D) (iT L) (iT U) n i ≤ (y : Int) ∧ (y : Int) < wl_py (iT D) (wl_len (iT D) (iT L) (iT U) n) y0.toInt i)) := by
            rw [← hY]
            rw [show wl_py (iT D) (wl_len (iT D) (iT L) (iT U) n) y0.toInt (i + 1) = wl_py (iT D) (wl_len (iT D) (iT L) (iT U) n) y0.toInt i + (if iT D i = 1 then wl_len (iT D) (iT L) (iT U) n i else if iT D i = 3 then -(wl_len (iT D) (iT L) (iT U) n i) else 0) from rfl, ← hY] at hy2
            dsimp only [iT] at hy2 ⊢
            rcases (show (D i).toInt = 0 ∨ (D i).toInt = 1 ∨ (D i).toInt = 2 ∨ (D i).toInt = 3 by omega) with e | e | e | e
            · rw [if_neg (by omega), if_neg (by omega)] at hy2
              omega
            · rw [if_pos e] at hy2
              omega
            · rw [if_neg (by omega), if_neg (by omega)] at hy2
              omega
            · rw [if_neg (by omega), if_pos e] at hy2
              omega
          simp only [e]
      exact ih (i + 1) X2 Y2 R2 _ _ _ (by omega) (by omega) (by omega) (by omega) (by omega) hrows
theorem c_18 (d : Nat) {H pst : pw_H} {x0 y0 : Int32} {D L U C R : Nat → Int32} {n : Nat} {hl hr : Int32} (hw : wl_ok (iT D) (iT L) (iT U) n) (hfe : (wl_feas (iT D) (iT L) (iT U) n 0 ∧ wl_feas (iT D) (iT L) (iT U) n 1)) (hC : ∀ k, k < n → (C k).toInt = wl_len (iT D) (iT L) (iT U) n k) (hx0 : 0 ≤ x0.toInt ∧ x0.toInt ≤ 12) (hy0 : 0 ≤ y0.toInt ∧ y0.toInt ≤ 12) (hla0 : (wl_land (iT D) (wl_len (iT D) (iT L) (iT U) n) x0.toInt y0.toInt n)) (hR : ∀ y, y < 12 → R y = 0) : pw_M (d + 2) 18 [.inr (some H.length)] (wk_h H pst x0 y0 D L U C R n hl hr) (pw_qv (fun h' => ∃ R2 : Nat → Int32, h' = (wk_h H pst x0 y0 D L U C R2 n hl hr) ∧ ∀ y : Nat, y < 12 → rb_is (R2 y) (fun x => wl_pf (wl_V (iT D) (wl_len (iT D) (iT L) (iT U) n) x0.toInt y0.toInt n) y (x + 1)))) := by
  obtain ⟨X, hX, hXT, hXl⟩ := pw_nat (x := x0) (by omega)
  obtain ⟨Y, hY, hYT, hYl⟩ := pw_nat (x := y0) (by omega)
  refine pr_aload_n rfl rfl ?_
  refine pr_getf rfl wr_100 rfl ?_
  refine pr_top hX ?_
  refine pr_istore_n rfl (Nat.le_of_ble_eq_true rfl) rfl ?_
  refine pr_aload_n rfl rfl ?_
  refine pr_getf rfl wr_100 rfl ?_
  refine pr_top hY ?_
  refine pr_istore_n rfl (Nat.le_of_ble_eq_true rfl) rfl ?_
  refine pr_push (v := 0) rfl rfl ?_
  refine pr_istore_n rfl (Nat.le_of_ble_eq_true rfl) rfl ?_
  exact c_18_loop d hw hfe hC hx0 hy0 hla0 n 0 X Y R _ _ _ (by omega) hXT.symm hYT.symm (by omega) (by omega) (fun y hy => by
    rw [hR y hy]
    refine rb_eq rb_0 (fun x _ => ?_)
    have hz : ∀ k, wl_pf (wl_V (iT D) (wl_len (iT D) (iT L) (iT U) n) x0.toInt y0.toInt 0) y k = false := fun k => by
      induction k with
      | zero => rfl
      | succ k ihk =>
        show (wl_pf (wl_V (iT D) (wl_len (iT D) (iT L) (iT U) n) x0.toInt y0.toInt 0) y k ^^ false) = false
        rw [ihk]
        rfl
    exact (hz (x + 1)).symm)
end
section
abbrev wk_fe (D L U : Nat → Int32) (n : Nat) : Prop := wl_feas (iT D) (iT L) (iT U) n 0 ∧ wl_feas (iT D) (iT L) (iT U) n 1
abbrev wk_rg (D L U : Nat → Int32) (n : Nat) (x0 y0 : Int32) : Prop := wk_fe D L U n ∧ wl_land (iT D) (wl_len (iT D) (iT L) (iT U) n) x0.toInt y0.toInt n
abbrev wk_V (D L U : Nat → Int32) (n : Nat) (x0 y0 : Int32) : Int → Int → Bool := wl_V (iT D) (wl_len (iT D) (iT L) (iT U) n) x0.toInt y0.toInt n
/-- what a settled walk has in its rows -/
def wk_res (D L U C R : Nat → Int32) (n : Nat) (x0 y0 : Int32) : Prop := (wk_fe D L U n → ∀ k, k < n → (C k).toInt = wl_len (iT D) (iT L) (iT U) n k) ∧ ∀ y : Nat, y < 12 → rb_is (R y) (fun x => decide (wk_rg D L U n x0 y0) && wl_pf (wk_V D L U n x0 y0) y (x + 1))
theorem rb_sm : ∀ x, x < 12 → ((nI x &&& 31).toBitVec.smod 32).toNat = x := by decide +kernel
theorem rb_one (i : Nat) : (Int32.toBitVec 1).getLsbD i = decide (i = 0) := by
  show (1#32).getLsbD i = _
  rw [BitVec.getLsbD_one]
  rfl
theorem rb_bit {r : Int32} {p : Nat → Bool} (h : rb_is r p) {x : Nat} (hx : x < 12) : ((r >>> (nI x &&& 31)) &&& 1 = 1) ↔ p x = true := by
  have h1 := h x (by omega)
  rw [decide_eq_true hx, Bool.true_and] at h1
  have h2 : ∀ i, ((r >>> (nI x &&& 31)) &&& 1).toBitVec.getLsbD i = (decide (i = 0) && p x) := by
    intro i
    rw [Int32.toBitVec_and, Int32.toBitVec_shiftRight, BitVec.getLsbD_and, BitVec.getLsbD_sshiftRight', rb_sm x hx, rb_one]
    by_cases hi : i = 0
    · rw [hi, if_pos (by omega), Nat.add_zero, h1]
      simp
    · rw [decide_eq_false hi, Bool.and_false, Bool.false_and]
  constructor
  · intro h3
    have h4 := h2 0
    rw [h3] at h4
    rw [decide_eq_true rfl, Bool.true_and] at h4
    exact h4.symm
  · intro h3
    rw [← Int32.toBitVec_inj]
    apply BitVec.eq_of_getLsbD_eq
    intro i hi
    rw [h2 i, h3, Bool.and_true, rb_one]
theorem c_14_z (d : Nat) {H pst : pw_H} {x0 y0 : Int32} {D L U C : Nat → Int32} {n : Nat} {hl hr : Int32} (Q : Option pw_V → pw_H → Prop) (K : ∀ (R : Nat → Int32) (g1 : Option pw_V), (∀ y, y < 12 → R y = 0) → pw_W (d + 3) 14 21 [some (.inr (some H.length)), g1] [] (wk_h H pst x0 y0 D L U C R n hl hr) Q) : ∀ (c k : Nat) (R : Nat → Int32), k + c = 12 → (∀ y, y < k → R y = 0) → pw_W (d + 3) 14 2 [some (.inr (some H.length)), some (.inl (nI k))] [] (wk_h H pst x0 y0 D L U C R n hl hr) Q := by
  have z12 := pz_12
  intro c
  induction c with
  | zero =>
    intro k R hk hR
    obtain rfl : k = 12 := by omega
    have hkT := pw_T (n := 12) (by omega)
    refine pr_iload_n rfl rfl ?_
    refine pr_push (v := 12) rfl rfl ?_
    refine pr_c_ge rfl (fun c_5 => ?_) (fun c_5 => ?_)
    · skip
      exact K R _ hR
    · skip
      exact absurd c_5 (by omega)
  | succ c ih =>
    intro k R hk hR
    have hkT := pw_T (n := k) (by omega)
    refine pr_iload_n rfl rfl ?_
    refine pr_push (v := 12) rfl rfl ?_
    refine pr_c_ge rfl (fun c_5 => ?_) (fun c_5 => ?_)
    · skip
      exact absurd c_5 (by omega)
    · skip
      refine pr_aload_n rfl rfl ?_
      refine pr_getf rfl wr_100 rfl ?_
      refine pr_iload_n rfl rfl ?_
      refine pr_push (v := 0) rfl rfl ?_
      refine pr_iast (k) rfl wr_105 (by decide) rfl (by omega) ht_a105 ?_
      refine pr_iinc rfl rfl (pw_inc k) rfl ?_
      refine pr_step rfl rfl rfl rfl ?_
      exact ih (k + 1) _ (by omega) (fun y hy => by
        unfold upd
        split
        · rfl
        · exact hR y (by omega))
theorem c_14 (d : Nat) {H pst : pw_H} {x0 y0 : Int32} {D L U C R : Nat → Int32} {n : Nat} {hl hr : Int32} (hw : wl_ok (iT D) (iT L) (iT U) n) (hx0 : 0 ≤ x0.toInt ∧ x0.toInt ≤ 12) (hy0 : 0 ≤ y0.toInt ∧ y0.toInt ≤ 12) : pw_M (d + 3) 14 [.inr (some H.length)] (wk_h H pst x0 y0 D L U C R n hl hr) (pw_qv (fun h' => ∃ C2 R2 : Nat → Int32, h' = (wk_h H pst x0 y0 D L U C2 R2 n (pw_b (wk_fe D L U n)) (pw_b (wk_rg D L U n x0 y0))) ∧ wk_res D L U C2 R2 n x0 y0)) := by
  refine pr_push (v := 0) rfl rfl ?_
  refine pr_istore_n rfl (Nat.le_of_ble_eq_true rfl) rfl ?_
  refine c_14_z d _ (fun R2 g1 hR2 => ?_) 12 0 R (by omega) (fun y hy => absurd hy (Nat.not_lt_zero y))
  refine pr_aload_n rfl rfl ?_
  refine pr_aload_n rfl rfl ?_
  refine pr_vi0 rfl (by decide) (Nat.le_of_ble_eq_true rfl) wr_100 (Nat.le_of_ble_eq_true rfl) (c_15 _ hw) (fun r_23 h_23 q_23 => ?_)
  obtain ⟨e_23, C2, rfl, hC2⟩ := q_23
  subst e_23
  refine pr_putf rfl wr_100 (Nat.le_of_ble_eq_true rfl) pw_bb ht_o100_8 ?_
  refine pr_aload_n rfl rfl ?_
  refine pr_aload_n rfl rfl ?_
  refine pr_getf rfl wr_100 rfl ?_
  refine pr_b_eq rfl (fun c_34 => ?_) (fun c_34 => ?_)
  · skip
    have hno : ¬ wk_rg D L U n x0 y0 := fun hh => c_34 hh.1
    refine pr_push (v := 0) rfl rfl ?_
    refine pr_putf rfl wr_100 (Nat.le_of_ble_eq_true rfl) rfl ht_o100_9 ?_
    refine pr_aload_n rfl rfl ?_
    refine pr_getf rfl wr_100 rfl ?_
    refine pr_step rfl rfl rfl rfl ?_
    exact pr_retv rfl rfl (by
        refine ⟨C2, R2, ?_, hC2, fun y hy => ?_⟩
        · rw [pw_b0 hno]
        · rw [hR2 y hy]
          refine rb_eq rb_0 (fun x _ => ?_)
          rw [decide_eq_false hno]
          rfl)
  · skip
    refine pr_aload_n rfl rfl ?_
    refine pr_vi0 rfl (by decide) (Nat.le_of_ble_eq_true rfl) wr_100 (Nat.le_of_ble_eq_true rfl) (c_17 (C := C2) _ hw c_34 (hC2 c_34) hx0 hy0) (fun r_38 h_38 q_38 => ?_)
    obtain ⟨rfl, rfl⟩ := q_38
    refine pr_b_eq rfl (fun c_41 => ?_) (fun c_41 => ?_)
    · skip
      have hno : ¬ wk_rg D L U n x0 y0 := fun hh => c_41 hh.2
      refine pr_push (v := 0) rfl rfl ?_
      refine pr_putf rfl wr_100 (Nat.le_of_ble_eq_true rfl) rfl ht_o100_9 ?_
      refine pr_aload_n rfl rfl ?_
      refine pr_getf rfl wr_100 rfl ?_
      refine pr_step rfl rfl rfl rfl ?_
      exact pr_retv rfl rfl (by
          refine ⟨C2, R2, ?_, hC2, fun y hy => ?_⟩
          · rw [pw_b0 hno]
          · rw [hR2 y hy]
            refine rb_eq rb_0 (fun x _ => ?_)
            rw [decide_eq_false hno]
            rfl)
    · skip
      refine pr_push (v := 1) rfl rfl ?_
      refine pr_step rfl rfl rfl rfl ?_
      refine pr_putf rfl wr_100 (Nat.le_of_ble_eq_true rfl) rfl ht_o100_9 ?_
      refine pr_aload_n rfl rfl ?_
      refine pr_getf rfl wr_100 rfl ?_
      refine pr_step rfl rfl rfl rfl ?_
      refine pr_aload_n rfl rfl ?_
      refine pr_vv0 rfl (by decide) (Nat.le_of_ble_eq_true rfl) wr_100 (Nat.le_of_ble_eq_true rfl) (c_18 (C := C2) (R := R2) _ hw c_34 (hC2 c_34) hx0 hy0 c_41 hR2) (fun h_60 q_60 => ?_)
      skip
      exact pr_retv rfl rfl (by
          obtain ⟨R3, rfl, hR3⟩ := q_60
          refine ⟨C2, R3, ?_, hC2, fun y hy => ?_⟩
          · rw [pw_b1 (P := wk_rg D L U n x0 y0) ⟨c_34, c_41⟩]
          · refine rb_eq (hR3 y hy) (fun x _ => ?_)
            rw [decide_eq_true ⟨c_34, c_41⟩]
            rfl)
theorem c_9 (d : Nat) {H pst : pw_H} {x0 y0 : Int32} {D L U C R : Nat → Int32} {n : Nat} {hl hr : Int32} (e l u : Int32) (hn : n < 12) (hw : wl_ok (iT (upd D n e)) (iT (upd L n l)) (iT (upd U n u)) (n + 1)) (hx0 : 0 ≤ x0.toInt ∧ x0.toInt ≤ 12) (hy0 : 0 ≤ y0.toInt ∧ y0.toInt ≤ 12) : pw_M (d + 4) 9 [.inr (some H.length), .inl e, .inl l, .inl u] (wk_h H pst x0 y0 D L U C R n hl hr) (pw_qv (fun h' => ∃ C2 R2 : Nat → Int32, h' = (wk_h H pst x0 y0 (upd D n e) (upd L n l) (upd U n u) C2 R2 (n + 1) (pw_b (wk_fe (upd D n e) (upd L n l) (upd U n u) (n + 1))) (pw_b (wk_rg (upd D n e) (upd L n l) (upd U n u) (n + 1) x0 y0))) ∧ wk_res (upd D n e) (upd L n l) (upd U n u) C2 R2 (n + 1) x0 y0)) := by
  have z12 := pz_12
  have hnT := pw_T (n := n) (by omega)
  refine pr_aload_n rfl rfl ?_
  refine pr_getf rfl wr_100 rfl ?_
  refine pr_push (v := 12) rfl rfl ?_
  refine pr_c_ge rfl (fun c_6 => ?_) (fun c_6 => ?_)
  · skip
    exact absurd c_6 (by omega)
  · skip
    refine pr_aload_n rfl rfl ?_
    refine pr_getf rfl wr_100 rfl ?_
    refine pr_aload_n rfl rfl ?_
    refine pr_getf rfl wr_100 rfl ?_
    refine pr_iload_n rfl rfl ?_
    refine pr_iast (n) rfl wr_101 (by decide) rfl (by omega) ht_a101 ?_
    refine pr_aload_n rfl rfl ?_
    refine pr_getf rfl wr_100 rfl ?_
    refine pr_aload_n rfl rfl ?_
    refine pr_getf rfl wr_100 rfl ?_
    refine pr_iload_n rfl rfl ?_
    refine pr_iast (n) rfl wr_102 (by decide) rfl (by omega) ht_a102 ?_
    refine pr_aload_n rfl rfl ?_
    refine pr_getf rfl wr_100 rfl ?_
    refine pr_aload_n rfl rfl ?_
    refine pr_getf rfl wr_100 rfl ?_
    refine pr_iload_n rfl rfl ?_
    refine pr_iast (n) rfl wr_103 (by decide) rfl (by omega) ht_a103 ?_
    refine pr_aload_n rfl rfl ?_
    refine pr_step rfl rfl rfl rfl ?_
    refine pr_getf rfl wr_100 rfl ?_
    refine pr_push (v := 1) rfl rfl ?_
    refine pr_step rfl rfl rfl rfl ?_
    refine pr_top (nI_1 n) ?_
    refine pr_putf rfl wr_100 (Nat.le_of_ble_eq_true rfl) rfl ht_o100_7 ?_
    refine pr_aload_n rfl rfl ?_
    refine pr_vv0 rfl (by decide) (Nat.le_of_ble_eq_true rfl) wr_100 (Nat.le_of_ble_eq_true rfl) (c_14 (D := (upd D n e)) (L := (upd L n l)) (U := (upd U n u)) (n := n + 1) _ hw hx0 hy0) (fun h_50 q_50 => ?_)
    skip
    exact pr_retv rfl rfl (q_50)
theorem c_10 (d : Nat) {H pst : pw_H} {x0 y0 : Int32} {D L U C R : Nat → Int32} {n : Nat} {hl hr : Int32} (hn : 0 < n) (hn2 : n ≤ 12) (hw : wl_ok (iT D) (iT L) (iT U) (n - 1)) (hx0 : 0 ≤ x0.toInt ∧ x0.toInt ≤ 12) (hy0 : 0 ≤ y0.toInt ∧ y0.toInt ≤ 12) : pw_M (d + 4) 10 [.inr (some H.length)] (wk_h H pst x0 y0 D L U C R n hl hr) (pw_qv (fun h' => ∃ C2 R2 : Nat → Int32, h' = (wk_h H pst x0 y0 D L U C2 R2 (n - 1) (pw_b (wk_fe D L U (n - 1))) (pw_b (wk_rg D L U (n - 1) x0 y0))) ∧ wk_res D L U C2 R2 (n - 1) x0 y0)) := by
  have hnT := pw_T (n := n) (by omega)
  obtain ⟨m, rfl⟩ : ∃ m, n = m + 1 := ⟨n - 1, by omega⟩
  refine pr_aload_n rfl rfl ?_
  refine pr_getf rfl wr_100 rfl ?_
  refine pr_z_le rfl (fun c_4 => ?_) (fun c_4 => ?_)
  · skip
    exact absurd c_4 (by omega)
  · skip
    refine pr_aload_n rfl rfl ?_
    refine pr_step rfl rfl rfl rfl ?_
    refine pr_getf rfl wr_100 rfl ?_
    refine pr_push (v := 1) rfl rfl ?_
    refine pr_step rfl rfl rfl rfl ?_
    refine pr_top (nI_pred m) ?_
    refine pr_putf rfl wr_100 (Nat.le_of_ble_eq_true rfl) rfl ht_o100_7 ?_
    refine pr_aload_n rfl rfl ?_
    refine pr_vv0 rfl (by decide) (Nat.le_of_ble_eq_true rfl) wr_100 (Nat.le_of_ble_eq_true rfl) (c_14 (n := m) _ hw hx0 hy0) (fun h_18 q_18 => ?_)
    skip
    exact pr_retv rfl rfl (q_18)
theorem rb_lt {r : Int32} {p : Nat → Bool} (h : rb_is r p) : r.toBitVec.toNat < 4096 := by
  apply Nat.lt_pow_two_of_testBit (n := 12)
  intro i hi
  rw [BitVec.testBit_toNat]
  by_cases h2 : i < 32
  · rw [h i h2, decide_eq_false (by omega)]; rfl
  · exact BitVec.getLsbD_of_ge _ _ (by omega)
def rb_n (n : Nat) : Nat → Nat
  | 0 => 0
  | k + 1 => rb_n n k + (if n.testBit k then 1 else 0)
theorem rb_bc : ∀ a, a < 64 → ∀ b, b < 64 → bc_of (nI (64 * a + b)) = nI (rb_n (64 * a + b) 12) := by decide +kernel
theorem rb_os : ∀ a, a < 16 → os_run (nI a) 12 = bc_of (nI a) := by decide +kernel
theorem rb_ct {r : Int32} {V : Int → Int → Bool} {y : Int} (h : rb_is r (fun x => wl_pf V y (x + 1))) : bc_of r = nI (wl_rc V y 12) := by
  have h1 := rb_lt h
  obtain ⟨m, hm⟩ : ∃ m, m = r.toBitVec.toNat := ⟨_, rfl⟩
  have h2 : r.toInt = (m : Int) := by
    rw [← Int32.toInt_toBitVec, BitVec.toInt_eq_toNat_of_lt (by omega), hm]
  have h3 : r = nI m := by
    apply Int32.toInt_inj.mp
    rw [h2, pw_T (by omega)]
  have h4 : ∀ k, k ≤ 12 → rb_n m k = wl_rc V y k := by
    intro k
    induction k with
    | zero => intro _; rfl
    | succ k ih =>
      intro hk
      rw [rb_n, wl_rc, ih (by omega), hm, BitVec.testBit_toNat, h k (by omega), decide_eq_true (by omega), Bool.true_and]
  rw [h3, ← h4 12 (by omega)]
  have h5 := rb_bc (m / 64) (by omega) (m % 64) (by omega)
  rw [show 64 * (m / 64) + m % 64 = m by omega] at h5
  exact h5
theorem fi_ct {R : Nat → Int32} {V : Int → Int → Bool} (h : ∀ y : Nat, y < 12 → rb_is (R y) (fun x => wl_pf V y (x + 1))) : ∀ y, y ≤ 12 → fi_run R y = nI (wl_ct V y)
  | 0, _ => rfl
  | y + 1, hy => by
    rw [fi_run, fi_ct h y (by omega), rb_ct (h y (by omega)), nI_add]
    rfl
end
section
theorem wg0 {H L : pw_H} {x : pw_C} (h : L[0]? = some x) : (H ++ L)[H.length]? = some x := by
  have e := wk_get H L 0
  rw [h] at e
  exact e
def ld_c (a n : Nat) : pw_H := [.inr (.inr (1, [.inr (some (a + 1)), .inr (some (a + 2)), .inr (some (a + 3)), .inr (some (a + 4)), .inl 0])), .inl (0, n, fun _ => 0), .inl (0, n, fun _ => 0), .inl (0, n, fun _ => 0), .inl (0, n, fun _ => 0)]
theorem mx_z {m : Nat} (hm : m = 0) (n : Nat) (hn : n ≤ 100) : (if m = 0 then (if nI n < 0 then 0 else nI n) else (if 0 < nI n then 0 else nI n)) = nI n := by
  have h1 := pw_T (n := n) (by omega)
  rw [if_pos hm, if_neg (fun h4 => by have h5 := Int32.lt_iff_toInt_lt.mp h4; rw [h1, pz_0] at h5; omega)]
theorem c_2 (d : Nat) (H : pw_H) (n : Nat) (hn : n ≤ 100) : pw_M (d + 1) 2 [.inr (some H.length), .inl (nI n)] (H ++ [.inr (.inr (1, pw_def 1))]) (pw_qv (fun h' => h' = H ++ ld_c H.length n)) := by
  refine pr_aload_n rfl rfl ?_
  refine pr_obj rfl rfl rfl (by decide) ?_
  refine pr_iload_n rfl rfl ?_
  refine pr_push (v := 0) rfl rfl ?_
  refine pr_math rfl rfl rfl (by decide) ?_
  refine pr_top (mx_z rfl n hn) ?_
  refine pr_istore_n rfl (Nat.le_of_ble_eq_true rfl) rfl ?_
  refine pr_aload_n rfl rfl ?_
  refine pr_iload_n rfl rfl ?_
  refine pr_newi n (H.length + 1) rfl rfl (by omega) (List.length_append ..) (List.append_assoc H _ _) ?_
  refine pr_putf rfl (wg0 rfl) (Nat.le_of_ble_eq_true rfl) rfl (wk_set H _ 0 _) ?_
  refine pr_aload_n rfl rfl ?_
  refine pr_iload_n rfl rfl ?_
  refine pr_newi n (H.length + 2) rfl rfl (by omega) (List.length_append ..) (List.append_assoc H _ _) ?_
  refine pr_putf rfl (wg0 rfl) (Nat.le_of_ble_eq_true rfl) rfl (wk_set H _ 0 _) ?_
  refine pr_aload_n rfl rfl ?_
  refine pr_iload_n rfl rfl ?_
  refine pr_newi n (H.length + 3) rfl rfl (by omega) (List.length_append ..) (List.append_assoc H _ _) ?_
  refine pr_putf rfl (wg0 rfl) (Nat.le_of_ble_eq_true rfl) rfl (wk_set H _ 0 _) ?_
  refine pr_aload_n rfl rfl ?_
  refine pr_iload_n rfl rfl ?_
  refine pr_newi n (H.length + 4) rfl rfl (by omega) (List.length_append ..) (List.append_assoc H _ _) ?_
  refine pr_putf rfl (wg0 rfl) (Nat.le_of_ble_eq_true rfl) rfl (wk_set H _ 0 _) ?_
  exact pr_retv rfl rfl (rfl)
theorem c_7 (d : Nat) (H : pw_H) (x y : Int32) : pw_M (d + 1) 7 [.inr (some H.length), .inl x, .inl y] (H ++ [.inr (.inr (2, pw_def 2))]) (pw_qv (fun h' => h' = wk_h H [] x y (fun _ => 0) (fun _ => 0) (fun _ => 0) (fun _ => 0) (fun _ => 0) 0 1 1)) := by
  refine pr_aload_n rfl rfl ?_
  refine pr_obj rfl rfl rfl (by decide) ?_
  refine pr_aload_n rfl rfl ?_
  refine pr_push (v := 12) rfl rfl ?_
  refine pr_newi 12 (H.length + 1) rfl rfl (by decide) (List.length_append ..) (List.append_assoc H _ _) ?_
  refine pr_putf rfl (wg0 rfl) (Nat.le_of_ble_eq_true rfl) rfl (wk_set H _ 0 _) ?_
  refine pr_aload_n rfl rfl ?_
  refine pr_push (v := 12) rfl rfl ?_
  refine pr_newi 12 (H.length + 2) rfl rfl (by decide) (List.length_append ..) (List.append_assoc H _ _) ?_
  refine pr_putf rfl (wg0 rfl) (Nat.le_of_ble_eq_true rfl) rfl (wk_set H _ 0 _) ?_
  refine pr_aload_n rfl rfl ?_
  refine pr_push (v := 12) rfl rfl ?_
  refine pr_newi 12 (H.length + 3) rfl rfl (by decide) (List.length_append ..) (List.append_assoc H _ _) ?_
  refine pr_putf rfl (wg0 rfl) (Nat.le_of_ble_eq_true rfl) rfl (wk_set H _ 0 _) ?_
  refine pr_aload_n rfl rfl ?_
  refine pr_push (v := 12) rfl rfl ?_
  refine pr_newi 12 (H.length + 4) rfl rfl (by decide) (List.length_append ..) (List.append_assoc H _ _) ?_
  refine pr_putf rfl (wg0 rfl) (Nat.le_of_ble_eq_true rfl) rfl (wk_set H _ 0 _) ?_
  refine pr_aload_n rfl rfl ?_
  refine pr_push (v := 12) rfl rfl ?_
  refine pr_newi 12 (H.length + 5) rfl rfl (by decide) (List.length_append ..) (List.append_assoc H _ _) ?_
  refine pr_putf rfl (wg0 rfl) (Nat.le_of_ble_eq_true rfl) rfl (wk_set H _ 0 _) ?_
  refine pr_aload_n rfl rfl ?_
  refine pr_push (v := 1) rfl rfl ?_
  refine pr_putf rfl (wg0 rfl) (Nat.le_of_ble_eq_true rfl) rfl (wk_set H _ 0 _) ?_
  refine pr_aload_n rfl rfl ?_
  refine pr_push (v := 1) rfl rfl ?_
  refine pr_putf rfl (wg0 rfl) (Nat.le_of_ble_eq_true rfl) rfl (wk_set H _ 0 _) ?_
  refine pr_aload_n rfl rfl ?_
  refine pr_iload_n rfl rfl ?_
  refine pr_putf rfl (wg0 rfl) (Nat.le_of_ble_eq_true rfl) rfl (wk_set H _ 0 _) ?_
  refine pr_aload_n rfl rfl ?_
  refine pr_iload_n rfl rfl ?_
  refine pr_putf rfl (wg0 rfl) (Nat.le_of_ble_eq_true rfl) rfl (wk_set H _ 0 _) ?_
  exact pr_retv rfl rfl (rfl)
theorem c_1 (d : Nat) (H : pw_H) (x y w h dr he : Int32) : pw_M (d + 1) 1 [.inr (some H.length), .inl x, .inl y, .inl w, .inl h, .inl dr, .inl he] (H ++ [.inr (.inr (0, pw_def 0))]) (pw_qv (fun h' => h' = H ++ [.inr (.inr (0, [.inl x, .inl y, .inl w, .inl h, .inl dr, .inl he]))])) := by
  refine pr_aload_n rfl rfl ?_
  refine pr_obj rfl rfl rfl (by decide) ?_
  refine pr_aload_n rfl rfl ?_
  refine pr_iload_n rfl rfl ?_
  refine pr_putf rfl (wg0 rfl) (Nat.le_of_ble_eq_true rfl) rfl (wk_set H _ 0 _) ?_
  refine pr_aload_n rfl rfl ?_
  refine pr_iload_n rfl rfl ?_
  refine pr_putf rfl (wg0 rfl) (Nat.le_of_ble_eq_true rfl) rfl (wk_set H _ 0 _) ?_
  refine pr_aload_n rfl rfl ?_
  refine pr_iload_n rfl rfl ?_
  refine pr_putf rfl (wg0 rfl) (Nat.le_of_ble_eq_true rfl) rfl (wk_set H _ 0 _) ?_
  refine pr_aload_n rfl rfl ?_
  refine pr_iload rfl rfl ?_
  refine pr_putf rfl (wg0 rfl) (Nat.le_of_ble_eq_true rfl) rfl (wk_set H _ 0 _) ?_
  refine pr_aload_n rfl rfl ?_
  refine pr_iload rfl rfl ?_
  refine pr_putf rfl (wg0 rfl) (Nat.le_of_ble_eq_true rfl) rfl (wk_set H _ 0 _) ?_
  refine pr_aload_n rfl rfl ?_
  refine pr_iload rfl rfl ?_
  refine pr_putf rfl (wg0 rfl) (Nat.le_of_ble_eq_true rfl) rfl (wk_set H _ 0 _) ?_
  exact pr_retv rfl rfl (rfl)
end
section
theorem wg0b {H L : pw_H} {x : pw_C} {a : Nat} (ha : H.length = a) (h : L[0]? = some x) : (H ++ L)[a]? = some x := by
  subst ha
  exact wg0 h
abbrev zr (n : Nat) : pw_C := .inl (0, n, fun _ => 0)
abbrev zl (a : Nat) : pw_C := .inr (.inr (1, [.inr (some (a + 1)), .inr (some (a + 2)), .inr (some (a + 3)), .inr (some (a + 4)), .inl 0]))
theorem c_2b (d : Nat) (H : pw_H) (a n : Nat) (hn : n ≤ 100) (ha : H.length = a) : pw_M (d + 1) 2 [.inr (some a), .inl (nI n)] (H ++ [.inr (.inr (1, pw_def 1))]) (pw_qv (fun h' => h' = H ++ [zl a, zr n, zr n, zr n, zr n])) := by
  subst ha
  exact c_2 d H n hn
def bw_c (a : Nat) : pw_H := [.inr (.inr (3, [.inr (some (a + 1)), .inl 0, .inr (some (a + 2)), .inl 0, .inr (some (a + 7)), .inr (some (a + 8)), .inr (some (a + 9)), .inl 0, .inr (some (a + 10)), .inr (some (a + 15)), .inl 0, .inr (some (a + 16)), .inl 0, .inr (some (a + 17)), .inl 7, .inr (some (a + 22)), .inr (some (a + 23))])), .inr (.inl (2, 4, fun _ => none)), zl (a + 2), zr 12, zr 12, zr 12, zr 12, zr 12, zr 12, zr 12, zl (a + 10), zr 60, zr 60, zr 60, zr 60, zr 20, .inr (.inl (0, 6, fun _ => none)), zl (a + 17), zr 10, zr 10, zr 10, zr 10, zr 4, zr 12]
theorem c_23 (d : Nat) (H : pw_H) : pw_M (d + 2) 23 [.inr (some H.length)] (H ++ [.inr (.inr (3, pw_def 3))]) (pw_qv (fun h' => h' = H ++ bw_c H.length)) := by
  refine pr_aload_n rfl rfl ?_
  refine pr_obj rfl rfl rfl (by decide) ?_
  refine pr_aload_n rfl rfl ?_
  refine pr_push (v := 4) rfl rfl ?_
  refine pr_newr (h1 := (H ++ [.inr (.inr (3, [.inr none, .inl 0, .inr none, .inl 0, .inr none, .inr none, .inr none, .inl 0, .inr none, .inr none, .inl 0, .inr none, .inl 0, .inr none, .inl 0, .inr none, .inr none])), .inr (.inl (2, 4, fun _ => none))])) 4 (H.length + 1) rfl rfl (by decide) (List.length_append ..) (List.append_assoc H _ _) ?_
  refine pr_putf rfl (h1 := (H ++ [.inr (.inr (3, [.inr (some (H.length + 1)), .inl 0, .inr none, .inl 0, .inr none, .inr none, .inr none, .inl 0, .inr none, .inr none, .inl 0, .inr none, .inl 0, .inr none, .inl 0, .inr none, .inr none])), .inr (.inl (2, 4, fun _ => none))])) (wg0 rfl) (Nat.le_of_ble_eq_true rfl) rfl (wk_set H _ 0 _) ?_
  refine pr_aload_n rfl rfl ?_
  refine pr_new (H.length + 2) rfl (List.length_append ..) rfl ?_
  refine pr_step rfl rfl rfl rfl ?_
  refine pr_push (v := 12) rfl rfl ?_
  refine pr_xv1 rfl (by decide) (Nat.le_of_ble_eq_true rfl) (wg0b (List.length_append ..) rfl) (Nat.le_of_ble_eq_true rfl) (c_2b _ _ _ 12 (by decide) (List.length_append ..)) (fun h_19 q_19 => ?_)
  subst q_19
  refine pr_heap (show _ = (H ++ [.inr (.inr (3, [.inr (some (H.length + 1)), .inl 0, .inr none, .inl 0, .inr none, .inr none, .inr none, .inl 0, .inr none, .inr none, .inl 0, .inr none, .inl 0, .inr none, .inl 0, .inr none, .inr none])), .inr (.inl (2, 4, fun _ => none)), zl (H.length + 2), zr 12, zr 12, zr 12, zr 12]) from List.append_assoc H _ _) ?_
  refine pr_putf rfl (h1 := (H ++ [.inr (.inr (3, [.inr (some (H.length + 1)), .inl 0, .inr (some (H.length + 2)), .inl 0, .inr none, .inr none, .inr none, .inl 0, .inr none, .inr none, .inl 0, .inr none, .inl 0, .inr none, .inl 0, .inr none, .inr none])), .inr (.inl (2, 4, fun _ => none)), zl (H.length + 2), zr 12, zr 12, zr 12, zr 12])) (wg0 rfl) (Nat.le_of_ble_eq_true rfl) rfl (wk_set H _ 0 _) ?_
  refine pr_aload_n rfl rfl ?_
  refine pr_push (v := 12) rfl rfl ?_
  refine pr_newi (h1 := (H ++ [.inr (.inr (3, [.inr (some (H.length + 1)), .inl 0, .inr (some (H.length + 2)), .inl 0, .inr none, .inr none, .inr none, .inl 0, .inr none, .inr none, .inl 0, .inr none, .inl 0, .inr none, .inl 0, .inr none, .inr none])), .inr (.inl (2, 4, fun _ => none)), zl (H.length + 2), zr 12, zr 12, zr 12, zr 12, zr 12])) 12 (H.length + 7) rfl rfl (by decide) (List.length_append ..) (List.append_assoc H _ _) ?_
  refine pr_putf rfl (h1 := (H ++ [.inr (.inr (3, [.inr (some (H.length + 1)), .inl 0, .inr (some (H.length + 2)), .inl 0, .inr (some (H.length + 7)), .inr none, .inr none, .inl 0, .inr none, .inr none, .inl 0, .inr none, .inl 0, .inr none, .inl 0, .inr none, .inr none])), .inr (.inl (2, 4, fun _ => none)), zl (H.length + 2), zr 12, zr 12, zr 12, zr 12, zr 12])) (wg0 rfl) (Nat.le_of_ble_eq_true rfl) rfl (wk_set H _ 0 _) ?_
  refine pr_aload_n rfl rfl ?_
  refine pr_push (v := 12) rfl rfl ?_
  refine pr_newi (h1 := (H ++ [.inr (.inr (3, [.inr (some (H.length + 1)), .inl 0, .inr (some (H.length + 2)), .inl 0, .inr (some (H.length + 7)), .inr none, .inr none, .inl 0, .inr none, .inr none, .inl 0, .inr none, .inl 0, .inr none, .inl 0, .inr none, .inr none])), .inr (.inl (2, 4, fun _ => none)), zl (H.length + 2), zr 12, zr 12, zr 12, zr 12, zr 12, zr 12])) 12 (H.length + 8) rfl rfl (by decide) (List.length_append ..) (List.append_assoc H _ _) ?_
  refine pr_putf rfl (h1 := (H ++ [.inr (.inr (3, [.inr (some (H.length + 1)), .inl 0, .inr (some (H.length + 2)), .inl 0, .inr (some (H.length + 7)), .inr (some (H.length + 8)), .inr none, .inl 0, .inr none, .inr none, .inl 0, .inr none, .inl 0, .inr none, .inl 0, .inr none, .inr none])), .inr (.inl (2, 4, fun _ => none)), zl (H.length + 2), zr 12, zr 12, zr 12, zr 12, zr 12, zr 12])) (wg0 rfl) (Nat.le_of_ble_eq_true rfl) rfl (wk_set H _ 0 _) ?_
  refine pr_aload_n rfl rfl ?_
  refine pr_push (v := 12) rfl rfl ?_
  refine pr_newi (h1 := (H ++ [.inr (.inr (3, [.inr (some (H.length + 1)), .inl 0, .inr (some (H.length + 2)), .inl 0, .inr (some (H.length + 7)), .inr (some (H.length + 8)), .inr none, .inl 0, .inr none, .inr none, .inl 0, .inr none, .inl 0, .inr none, .inl 0, .inr none, .inr none])), .inr (.inl (2, 4, fun _ => none)), zl (H.length + 2), zr 12, zr 12, zr 12, zr 12, zr 12, zr 12, zr 12])) 12 (H.length + 9) rfl rfl (by decide) (List.length_append ..) (List.append_assoc H _ _) ?_
  refine pr_putf rfl (h1 := (H ++ [.inr (.inr (3, [.inr (some (H.length + 1)), .inl 0, .inr (some (H.length + 2)), .inl 0, .inr (some (H.length + 7)), .inr (some (H.length + 8)), .inr (some (H.length + 9)), .inl 0, .inr none, .inr none, .inl 0, .inr none, .inl 0, .inr none, .inl 0, .inr none, .inr none])), .inr (.inl (2, 4, fun _ => none)), zl (H.length + 2), zr 12, zr 12, zr 12, zr 12, zr 12, zr 12, zr 12])) (wg0 rfl) (Nat.le_of_ble_eq_true rfl) rfl (wk_set H _ 0 _) ?_
  refine pr_aload_n rfl rfl ?_
  refine pr_new (H.length + 10) rfl (List.length_append ..) rfl ?_
  refine pr_step rfl rfl rfl rfl ?_
  refine pr_push (v := 60) rfl rfl ?_
  refine pr_xv1 rfl (by decide) (Nat.le_of_ble_eq_true rfl) (wg0b (List.length_append ..) rfl) (Nat.le_of_ble_eq_true rfl) (c_2b _ _ _ 60 (by decide) (List.length_append ..)) (fun h_56 q_56 => ?_)
  subst q_56
  refine pr_heap (show _ = (H ++ [.inr (.inr (3, [.inr (some (H.length + 1)), .inl 0, .inr (some (H.length + 2)), .inl 0, .inr (some (H.length + 7)), .inr (some (H.length + 8)), .inr (some (H.length + 9)), .inl 0, .inr none, .inr none, .inl 0, .inr none, .inl 0, .inr none, .inl 0, .inr none, .inr none])), .inr (.inl (2, 4, fun _ => none)), zl (H.length + 2), zr 12, zr 12, zr 12, zr 12, zr 12, zr 12, zr 12, zl (H.length + 10), zr 60, zr 60, zr 60, zr 60]) from List.append_assoc H _ _) ?_
  refine pr_putf rfl (h1 := (H ++ [.inr (.inr (3, [.inr (some (H.length + 1)), .inl 0, .inr (some (H.length + 2)), .inl 0, .inr (some (H.length + 7)), .inr (some (H.length + 8)), .inr (some (H.length + 9)), .inl 0, .inr (some (H.length + 10)), .inr none, .inl 0, .inr none, .inl 0, .inr none, .inl 0, .inr none, .inr none])), .inr (.inl (2, 4, fun _ => none)), zl (H.length + 2), zr 12, zr 12, zr 12, zr 12, zr 12, zr 12, zr 12, zl (H.length + 10), zr 60, zr 60, zr 60, zr 60])) (wg0 rfl) (Nat.le_of_ble_eq_true rfl) rfl (wk_set H _ 0 _) ?_
  refine pr_aload_n rfl rfl ?_
  refine pr_push (v := 20) rfl rfl ?_
  refine pr_newi (h1 := (H ++ [.inr (.inr (3, [.inr (some (H.length + 1)), .inl 0, .inr (some (H.length + 2)), .inl 0, .inr (some (H.length + 7)), .inr (some (H.length + 8)), .inr (some (H.length + 9)), .inl 0, .inr (some (H.length + 10)), .inr none, .inl 0, .inr none, .inl 0, .inr none, .inl 0, .inr none, .inr none])), .inr (.inl (2, 4, fun _ => none)), zl (H.length + 2), zr 12, zr 12, zr 12, zr 12, zr 12, zr 12, zr 12, zl (H.length + 10), zr 60, zr 60, zr 60, zr 60, zr 20])) 20 (H.length + 15) rfl rfl (by decide) (List.length_append ..) (List.append_assoc H _ _) ?_
  refine pr_putf rfl (h1 := (H ++ [.inr (.inr (3, [.inr (some (H.length + 1)), .inl 0, .inr (some (H.length + 2)), .inl 0, .inr (some (H.length + 7)), .inr (some (H.length + 8)), .inr (some (H.length + 9)), .inl 0, .inr (some (H.length + 10)), .inr (some (H.length + 15)), .inl 0, .inr none, .inl 0, .inr none, .inl 0, .inr none, .inr none])), .inr (.inl (2, 4, fun _ => none)), zl (H.length + 2), zr 12, zr 12, zr 12, zr 12, zr 12, zr 12, zr 12, zl (H.length + 10), zr 60, zr 60, zr 60, zr 60, zr 20])) (wg0 rfl) (Nat.le_of_ble_eq_true rfl) rfl (wk_set H _ 0 _) ?_
  refine pr_aload_n rfl rfl ?_
  refine pr_push (v := 6) rfl rfl ?_
  refine pr_newr (h1 := (H ++ [.inr (.inr (3, [.inr (some (H.length + 1)), .inl 0, .inr (some (H.length + 2)), .inl 0, .inr (some (H.length + 7)), .inr (some (H.length + 8)), .inr (some (H.length + 9)), .inl 0, .inr (some (H.length + 10)), .inr (some (H.length + 15)), .inl 0, .inr none, .inl 0, .inr none, .inl 0, .inr none, .inr none])), .inr (.inl (2, 4, fun _ => none)), zl (H.length + 2), zr 12, zr 12, zr 12, zr 12, zr 12, zr 12, zr 12, zl (H.length + 10), zr 60, zr 60, zr 60, zr 60, zr 20, .inr (.inl (0, 6, fun _ => none))])) 6 (H.length + 16) rfl rfl (by decide) (List.length_append ..) (List.append_assoc H _ _) ?_
  refine pr_putf rfl (h1 := (H ++ [.inr (.inr (3, [.inr (some (H.length + 1)), .inl 0, .inr (some (H.length + 2)), .inl 0, .inr (some (H.length + 7)), .inr (some (H.length + 8)), .inr (some (H.length + 9)), .inl 0, .inr (some (H.length + 10)), .inr (some (H.length + 15)), .inl 0, .inr (some (H.length + 16)), .inl 0, .inr none, .inl 0, .inr none, .inr none])), .inr (.inl (2, 4, fun _ => none)), zl (H.length + 2), zr 12, zr 12, zr 12, zr 12, zr 12, zr 12, zr 12, zl (H.length + 10), zr 60, zr 60, zr 60, zr 60, zr 20, .inr (.inl (0, 6, fun _ => none))])) (wg0 rfl) (Nat.le_of_ble_eq_true rfl) rfl (wk_set H _ 0 _) ?_
  refine pr_aload_n rfl rfl ?_
  refine pr_new (H.length + 17) rfl (List.length_append ..) rfl ?_
  refine pr_step rfl rfl rfl rfl ?_
  refine pr_push (v := 10) rfl rfl ?_
  refine pr_xv1 rfl (by decide) (Nat.le_of_ble_eq_true rfl) (wg0b (List.length_append ..) rfl) (Nat.le_of_ble_eq_true rfl) (c_2b _ _ _ 10 (by decide) (List.length_append ..)) (fun h_86 q_86 => ?_)
  subst q_86
  refine pr_heap (show _ = (H ++ [.inr (.inr (3, [.inr (some (H.length + 1)), .inl 0, .inr (some (H.length + 2)), .inl 0, .inr (some (H.length + 7)), .inr (some (H.length + 8)), .inr (some (H.length + 9)), .inl 0, .inr (some (H.length + 10)), .inr (some (H.length + 15)), .inl 0, .inr (some (H.length + 16)), .inl 0, .inr none, .inl 0, .inr none, .inr none])), .inr (.inl (2, 4, fun _ => none)), zl (H.length + 2), zr 12, zr 12, zr 12, zr 12, zr 12, zr 12, zr 12, zl (H.length + 10), zr 60, zr 60, zr 60, zr 60, zr 20, .inr (.inl (0, 6, fun _ => none)), zl (H.length + 17), zr 10, zr 10, zr 10, zr 10]) from List.append_assoc H _ _) ?_
  refine pr_putf rfl (h1 := (H ++ [.inr (.inr (3, [.inr (some (H.length + 1)), .inl 0, .inr (some (H.length + 2)), .inl 0, .inr (some (H.length + 7)), .inr (some (H.length + 8)), .inr (some (H.length + 9)), .inl 0, .inr (some (H.length + 10)), .inr (some (H.length + 15)), .inl 0, .inr (some (H.length + 16)), .inl 0, .inr (some (H.length + 17)), .inl 0, .inr none, .inr none])), .inr (.inl (2, 4, fun _ => none)), zl (H.length + 2), zr 12, zr 12, zr 12, zr 12, zr 12, zr 12, zr 12, zl (H.length + 10), zr 60, zr 60, zr 60, zr 60, zr 20, .inr (.inl (0, 6, fun _ => none)), zl (H.length + 17), zr 10, zr 10, zr 10, zr 10])) (wg0 rfl) (Nat.le_of_ble_eq_true rfl) rfl (wk_set H _ 0 _) ?_
  refine pr_aload_n rfl rfl ?_
  refine pr_push (v := 7) rfl rfl ?_
  refine pr_putf rfl (h1 := (H ++ [.inr (.inr (3, [.inr (some (H.length + 1)), .inl 0, .inr (some (H.length + 2)), .inl 0, .inr (some (H.length + 7)), .inr (some (H.length + 8)), .inr (some (H.length + 9)), .inl 0, .inr (some (H.length + 10)), .inr (some (H.length + 15)), .inl 0, .inr (some (H.length + 16)), .inl 0, .inr (some (H.length + 17)), .inl 7, .inr none, .inr none])), .inr (.inl (2, 4, fun _ => none)), zl (H.length + 2), zr 12, zr 12, zr 12, zr 12, zr 12, zr 12, zr 12, zl (H.length + 10), zr 60, zr 60, zr 60, zr 60, zr 20, .inr (.inl (0, 6, fun _ => none)), zl (H.length + 17), zr 10, zr 10, zr 10, zr 10])) (wg0 rfl) (Nat.le_of_ble_eq_true rfl) rfl (wk_set H _ 0 _) ?_
  refine pr_aload_n rfl rfl ?_
  refine pr_push (v := 4) rfl rfl ?_
  refine pr_newi (h1 := (H ++ [.inr (.inr (3, [.inr (some (H.length + 1)), .inl 0, .inr (some (H.length + 2)), .inl 0, .inr (some (H.length + 7)), .inr (some (H.length + 8)), .inr (some (H.length + 9)), .inl 0, .inr (some (H.length + 10)), .inr (some (H.length + 15)), .inl 0, .inr (some (H.length + 16)), .inl 0, .inr (some (H.length + 17)), .inl 7, .inr none, .inr none])), .inr (.inl (2, 4, fun _ => none)), zl (H.length + 2), zr 12, zr 12, zr 12, zr 12, zr 12, zr 12, zr 12, zl (H.length + 10), zr 60, zr 60, zr 60, zr 60, zr 20, .inr (.inl (0, 6, fun _ => none)), zl (H.length + 17), zr 10, zr 10, zr 10, zr 10, zr 4])) 4 (H.length + 22) rfl rfl (by decide) (List.length_append ..) (List.append_assoc H _ _) ?_
  refine pr_putf rfl (h1 := (H ++ [.inr (.inr (3, [.inr (some (H.length + 1)), .inl 0, .inr (some (H.length + 2)), .inl 0, .inr (some (H.length + 7)), .inr (some (H.length + 8)), .inr (some (H.length + 9)), .inl 0, .inr (some (H.length + 10)), .inr (some (H.length + 15)), .inl 0, .inr (some (H.length + 16)), .inl 0, .inr (some (H.length + 17)), .inl 7, .inr (some (H.length + 22)), .inr none])), .inr (.inl (2, 4, fun _ => none)), zl (H.length + 2), zr 12, zr 12, zr 12, zr 12, zr 12, zr 12, zr 12, zl (H.length + 10), zr 60, zr 60, zr 60, zr 60, zr 20, .inr (.inl (0, 6, fun _ => none)), zl (H.length + 17), zr 10, zr 10, zr 10, zr 10, zr 4])) (wg0 rfl) (Nat.le_of_ble_eq_true rfl) rfl (wk_set H _ 0 _) ?_
  refine pr_aload_n rfl rfl ?_
  refine pr_push (v := 12) rfl rfl ?_
  refine pr_newi (h1 := (H ++ [.inr (.inr (3, [.inr (some (H.length + 1)), .inl 0, .inr (some (H.length + 2)), .inl 0, .inr (some (H.length + 7)), .inr (some (H.length + 8)), .inr (some (H.length + 9)), .inl 0, .inr (some (H.length + 10)), .inr (some (H.length + 15)), .inl 0, .inr (some (H.length + 16)), .inl 0, .inr (some (H.length + 17)), .inl 7, .inr (some (H.length + 22)), .inr none])), .inr (.inl (2, 4, fun _ => none)), zl (H.length + 2), zr 12, zr 12, zr 12, zr 12, zr 12, zr 12, zr 12, zl (H.length + 10), zr 60, zr 60, zr 60, zr 60, zr 20, .inr (.inl (0, 6, fun _ => none)), zl (H.length + 17), zr 10, zr 10, zr 10, zr 10, zr 4, zr 12])) 12 (H.length + 23) rfl rfl (by decide) (List.length_append ..) (List.append_assoc H _ _) ?_
  refine pr_putf rfl (h1 := (H ++ [.inr (.inr (3, [.inr (some (H.length + 1)), .inl 0, .inr (some (H.length + 2)), .inl 0, .inr (some (H.length + 7)), .inr (some (H.length + 8)), .inr (some (H.length + 9)), .inl 0, .inr (some (H.length + 10)), .inr (some (H.length + 15)), .inl 0, .inr (some (H.length + 16)), .inl 0, .inr (some (H.length + 17)), .inl 7, .inr (some (H.length + 22)), .inr (some (H.length + 23))])), .inr (.inl (2, 4, fun _ => none)), zl (H.length + 2), zr 12, zr 12, zr 12, zr 12, zr 12, zr 12, zr 12, zl (H.length + 10), zr 60, zr 60, zr 60, zr 60, zr 20, .inr (.inl (0, 6, fun _ => none)), zl (H.length + 17), zr 10, zr 10, zr 10, zr 10, zr 4, zr 12])) (wg0 rfl) (Nat.le_of_ble_eq_true rfl) rfl (wk_set H _ 0 _) ?_
  exact pr_retv rfl rfl (rfl)
def md_c (a : Nat) : pw_H := [.inr (.inr (4, [.inl 0, .inr (some (a + 1)), .inr (some (a + 2)), .inr (some (a + 3)), .inr (some (a + 4)), .inr (some (a + 5)), .inr (some (a + 6)), .inl 0, .inr (some (a + 7)), .inr (some (a + 8)), .inr (some (a + 9)), .inl 0, .inl 0, .inr (some (a + 10)), .inr (some (a + 11)), .inr (some (a + 12)), .inl 0, .inr (some (a + 13)), .inr (some (a + 14)), .inr (some (a + 15)), .inr (some (a + 16)), .inl 0, .inr (some (a + 17)), .inl 0, .inr (some (a + 18)), .inr (some (a + 19)), .inr (some (a + 20)), .inr (some (a + 21)), .inr (some (a + 22)), .inr (some (a + 23)), .inl 0, .inr (some (a + 24)), .inr (some (a + 25)), .inr (some (a + 26)), .inl 7, .inr (some (a + 27)), .inr (some (a + 28)), .inr (some (a + 29)), .inr (some (a + 30)), .inr (some (a + 31))])), zr 4, zr 4, zr 4, zr 48, zr 48, zr 48, zr 12, zr 12, zr 12, zr 12, zr 12, zr 12, zr 60, zr 60, zr 60, zr 60, zr 20, zr 6, zr 6, zr 6, zr 6, zr 6, zr 6, zr 10, zr 10, zr 10, zr 12, .inl (1, 156, fun _ => 0), zr 144, zr 4, zr 12]
theorem c_68 (d : Nat) (H : pw_H) : pw_M (d + 1) 68 [.inr (some H.length)] (H ++ [.inr (.inr (4, pw_def 4))]) (pw_qv (fun h' => h' = H ++ md_c H.length)) := by
  refine pr_aload_n rfl rfl ?_
  refine pr_obj rfl rfl rfl (by decide) ?_
  refine pr_aload_n rfl rfl ?_
  refine pr_push (v := 4) rfl rfl ?_
  refine pr_newi (h1 := (H ++ [.inr (.inr (4, [.inl 0, .inr none, .inr none, .inr none, .inr none, .inr none, .inr none, .inl 0, .inr none, .inr none, .inr none, .inl 0, .inl 0, .inr none, .inr none, .inr none, .inl 0, .inr none, .inr none, .inr none, .inr none, .inl 0, .inr none, .inl 0, .inr none, .inr none, .inr none, .inr none, .inr none, .inr none, .inl 0, .inr none, .inr none, .inr none, .inl 0, .inr none, .inr none, .inr none, .inr none, .inr none])), zr 4])) 4 (H.length + 1) rfl rfl (by decide) (List.length_append ..) (List.append_assoc H _ _) ?_
  refine pr_putf rfl (h1 := (H ++ [.inr (.inr (4, [.inl 0, .inr (some (H.length + 1)), .inr none, .inr none, .inr none, .inr none, .inr none, .inl 0, .inr none, .inr none, .inr none, .inl 0, .inl 0, .inr none, .inr none, .inr none, .inl 0, .inr none, .inr none, .inr none, .inr none, .inl 0, .inr none, .inl 0, .inr none, .inr none, .inr none, .inr none, .inr none, .inr none, .inl 0, .inr none, .inr none, .inr none, .inl 0, .inr none, .inr none, .inr none, .inr none, .inr none])), zr 4])) (wg0 rfl) (Nat.le_of_ble_eq_true rfl) rfl (wk_set H _ 0 _) ?_
  refine pr_aload_n rfl rfl ?_
  refine pr_push (v := 4) rfl rfl ?_
  refine pr_newi (h1 := (H ++ [.inr (.inr (4, [.inl 0, .inr (some (H.length + 1)), .inr none, .inr none, .inr none, .inr none, .inr none, .inl 0, .inr none, .inr none, .inr none, .inl 0, .inl 0, .inr none, .inr none, .inr none, .inl 0, .inr none, .inr none, .inr none, .inr none, .inl 0, .inr none, .inl 0, .inr none, .inr none, .inr none, .inr none, .inr none, .inr none, .inl 0, .inr none, .inr none, .inr none, .inl 0, .inr none, .inr none, .inr none, .inr none, .inr none])), zr 4, zr 4])) 4 (H.length + 2) rfl rfl (by decide) (List.length_append ..) (List.append_assoc H _ _) ?_
  refine pr_putf rfl (h1 := (H ++ [.inr (.inr (4, [.inl 0, .inr (some (H.length + 1)), .inr (some (H.length + 2)), .inr none, .inr none, .inr none, .inr none, .inl 0, .inr none, .inr none, .inr none, .inl 0, .inl 0, .inr none, .inr none, .inr none, .inl 0, .inr none, .inr none, .inr none, .inr none, .inl 0, .inr none, .inl 0, .inr none, .inr none, .inr none, .inr none, .inr none, .inr none, .inl 0, .inr none, .inr none, .inr none, .inl 0, .inr none, .inr none, .inr none, .inr none, .inr none])), zr 4, zr 4])) (wg0 rfl) (Nat.le_of_ble_eq_true rfl) rfl (wk_set H _ 0 _) ?_
  refine pr_aload_n rfl rfl ?_
  refine pr_push (v := 4) rfl rfl ?_
  refine pr_newi (h1 := (H ++ [.inr (.inr (4, [.inl 0, .inr (some (H.length + 1)), .inr (some (H.length + 2)), .inr none, .inr none, .inr none, .inr none, .inl 0, .inr none, .inr none, .inr none, .inl 0, .inl 0, .inr none, .inr none, .inr none, .inl 0, .inr none, .inr none, .inr none, .inr none, .inl 0, .inr none, .inl 0, .inr none, .inr none, .inr none, .inr none, .inr none, .inr none, .inl 0, .inr none, .inr none, .inr none, .inl 0, .inr none, .inr none, .inr none, .inr none, .inr none])), zr 4, zr 4, zr 4])) 4 (H.length + 3) rfl rfl (by decide) (List.length_append ..) (List.append_assoc H _ _) ?_
  refine pr_putf rfl (h1 := (H ++ [.inr (.inr (4, [.inl 0, .inr (some (H.length + 1)), .inr (some (H.length + 2)), .inr (some (H.length + 3)), .inr none, .inr none, .inr none, .inl 0, .inr none, .inr none, .inr none, .inl 0, .inl 0, .inr none, .inr none, .inr none, .inl 0, .inr none, .inr none, .inr none, .inr none, .inl 0, .inr none, .inl 0, .inr none, .inr none, .inr none, .inr none, .inr none, .inr none, .inl 0, .inr none, .inr none, .inr none, .inl 0, .inr none, .inr none, .inr none, .inr none, .inr none])), zr 4, zr 4, zr 4])) (wg0 rfl) (Nat.le_of_ble_eq_true rfl) rfl (wk_set H _ 0 _) ?_
  refine pr_aload_n rfl rfl ?_
  refine pr_push (v := 48) rfl rfl ?_
  refine pr_newi (h1 := (H ++ [.inr (.inr (4, [.inl 0, .inr (some (H.length + 1)), .inr (some (H.length + 2)), .inr (some (H.length + 3)), .inr none, .inr none, .inr none, .inl 0, .inr none, .inr none, .inr none, .inl 0, .inl 0, .inr none, .inr none, .inr none, .inl 0, .inr none, .inr none, .inr none, .inr none, .inl 0, .inr none, .inl 0, .inr none, .inr none, .inr none, .inr none, .inr none, .inr none, .inl 0, .inr none, .inr none, .inr none, .inl 0, .inr none, .inr none, .inr none, .inr none, .inr none])), zr 4, zr 4, zr 4, zr 48])) 48 (H.length + 4) rfl rfl (by decide) (List.length_append ..) (List.append_assoc H _ _) ?_
  refine pr_putf rfl (h1 := (H ++ [.inr (.inr (4, [.inl 0, .inr (some (H.length + 1)), .inr (some (H.length + 2)), .inr (some (H.length + 3)), .inr (some (H.length + 4)), .inr none, .inr none, .inl 0, .inr none, .inr none, .inr none, .inl 0, .inl 0, .inr none, .inr none, .inr none, .inl 0, .inr none, .inr none, .inr none, .inr none, .inl 0, .inr none, .inl 0, .inr none, .inr none, .inr none, .inr none, .inr none, .inr none, .inl 0, .inr none, .inr none, .inr none, .inl 0, .inr none, .inr none, .inr none, .inr none, .inr none])), zr 4, zr 4, zr 4, zr 48])) (wg0 rfl) (Nat.le_of_ble_eq_true rfl) rfl (wk_set H _ 0 _) ?_
  refine pr_aload_n rfl rfl ?_
  refine pr_push (v := 48) rfl rfl ?_
  refine pr_newi (h1 := (H ++ [.inr (.inr (4, [.inl 0, .inr (some (H.length + 1)), .inr (some (H.length + 2)), .inr (some (H.length + 3)), .inr (some (H.length + 4)), .inr none, .inr none, .inl 0, .inr none, .inr none, .inr none, .inl 0, .inl 0, .inr none, .inr none, .inr none, .inl 0, .inr none, .inr none, .inr none, .inr none, .inl 0, .inr none, .inl 0, .inr none, .inr none, .inr none, .inr none, .inr none, .inr none, .inl 0, .inr none, .inr none, .inr none, .inl 0, .inr none, .inr none, .inr none, .inr none, .inr none])), zr 4, zr 4, zr 4, zr 48, zr 48])) 48 (H.length + 5) rfl rfl (by decide) (List.length_append ..) (List.append_assoc H _ _) ?_
  refine pr_putf rfl (h1 := (H ++ [.inr (.inr (4, [.inl 0, .inr (some (H.length + 1)), .inr (some (H.length + 2)), .inr (some (H.length + 3)), .inr (some (H.length + 4)), .inr (some (H.length + 5)), .inr none, .inl 0, .inr none, .inr none, .inr none, .inl 0, .inl 0, .inr none, .inr none, .inr none, .inl 0, .inr none, .inr none, .inr none, .inr none, .inl 0, .inr none, .inl 0, .inr none, .inr none, .inr none, .inr none, .inr none, .inr none, .inl 0, .inr none, .inr none, .inr none, .inl 0, .inr none, .inr none, .inr none, .inr none, .inr none])), zr 4, zr 4, zr 4, zr 48, zr 48])) (wg0 rfl) (Nat.le_of_ble_eq_true rfl) rfl (wk_set H _ 0 _) ?_
  refine pr_aload_n rfl rfl ?_
  refine pr_push (v := 48) rfl rfl ?_
  refine pr_newi (h1 := (H ++ [.inr (.inr (4, [.inl 0, .inr (some (H.length + 1)), .inr (some (H.length + 2)), .inr (some (H.length + 3)), .inr (some (H.length + 4)), .inr (some (H.length + 5)), .inr none, .inl 0, .inr none, .inr none, .inr none, .inl 0, .inl 0, .inr none, .inr none, .inr none, .inl 0, .inr none, .inr none, .inr none, .inr none, .inl 0, .inr none, .inl 0, .inr none, .inr none, .inr none, .inr none, .inr none, .inr none, .inl 0, .inr none, .inr none, .inr none, .inl 0, .inr none, .inr none, .inr none, .inr none, .inr none])), zr 4, zr 4, zr 4, zr 48, zr 48, zr 48])) 48 (H.length + 6) rfl rfl (by decide) (List.length_append ..) (List.append_assoc H _ _) ?_
  refine pr_putf rfl (h1 := (H ++ [.inr (.inr (4, [.inl 0, .inr (some (H.length + 1)), .inr (some (H.length + 2)), .inr (some (H.length + 3)), .inr (some (H.length + 4)), .inr (some (H.length + 5)), .inr (some (H.length + 6)), .inl 0, .inr none, .inr none, .inr none, .inl 0, .inl 0, .inr none, .inr none, .inr none, .inl 0, .inr none, .inr none, .inr none, .inr none, .inl 0, .inr none, .inl 0, .inr none, .inr none, .inr none, .inr none, .inr none, .inr none, .inl 0, .inr none, .inr none, .inr none, .inl 0, .inr none, .inr none, .inr none, .inr none, .inr none])), zr 4, zr 4, zr 4, zr 48, zr 48, zr 48])) (wg0 rfl) (Nat.le_of_ble_eq_true rfl) rfl (wk_set H _ 0 _) ?_
  refine pr_aload_n rfl rfl ?_
  refine pr_push (v := 12) rfl rfl ?_
  refine pr_newi (h1 := (H ++ [.inr (.inr (4, [.inl 0, .inr (some (H.length + 1)), .inr (some (H.length + 2)), .inr (some (H.length + 3)), .inr (some (H.length + 4)), .inr (some (H.length + 5)), .inr (some (H.length + 6)), .inl 0, .inr none, .inr none, .inr none, .inl 0, .inl 0, .inr none, .inr none, .inr none, .inl 0, .inr none, .inr none, .inr none, .inr none, .inl 0, .inr none, .inl 0, .inr none, .inr none, .inr none, .inr none, .inr none, .inr none, .inl 0, .inr none, .inr none, .inr none, .inl 0, .inr none, .inr none, .inr none, .inr none, .inr none])), zr 4, zr 4, zr 4, zr 48, zr 48, zr 48, zr 12])) 12 (H.length + 7) rfl rfl (by decide) (List.length_append ..) (List.append_assoc H _ _) ?_
  refine pr_putf rfl (h1 := (H ++ [.inr (.inr (4, [.inl 0, .inr (some (H.length + 1)), .inr (some (H.length + 2)), .inr (some (H.length + 3)), .inr (some (H.length + 4)), .inr (some (H.length + 5)), .inr (some (H.length + 6)), .inl 0, .inr (some (H.length + 7)), .inr none, .inr none, .inl 0, .inl 0, .inr none, .inr none, .inr none, .inl 0, .inr none, .inr none, .inr none, .inr none, .inl 0, .inr none, .inl 0, .inr none, .inr none, .inr none, .inr none, .inr none, .inr none, .inl 0, .inr none, .inr none, .inr none, .inl 0, .inr none, .inr none, .inr none, .inr none, .inr none])), zr 4, zr 4, zr 4, zr 48, zr 48, zr 48, zr 12])) (wg0 rfl) (Nat.le_of_ble_eq_true rfl) rfl (wk_set H _ 0 _) ?_
  refine pr_aload_n rfl rfl ?_
  refine pr_push (v := 12) rfl rfl ?_
  refine pr_newi (h1 := (H ++ [.inr (.inr (4, [.inl 0, .inr (some (H.length + 1)), .inr (some (H.length + 2)), .inr (some (H.length + 3)), .inr (some (H.length + 4)), .inr (some (H.length + 5)), .inr (some (H.length + 6)), .inl 0, .inr (some (H.length + 7)), .inr none, .inr none, .inl 0, .inl 0, .inr none, .inr none, .inr none, .inl 0, .inr none, .inr none, .inr none, .inr none, .inl 0, .inr none, .inl 0, .inr none, .inr none, .inr none, .inr none, .inr none, .inr none, .inl 0, .inr none, .inr none, .inr none, .inl 0, .inr none, .inr none, .inr none, .inr none, .inr none])), zr 4, zr 4, zr 4, zr 48, zr 48, zr 48, zr 12, zr 12])) 12 (H.length + 8) rfl rfl (by decide) (List.length_append ..) (List.append_assoc H _ _) ?_
  refine pr_putf rfl (h1 := (H ++ [.inr (.inr (4, [.inl 0, .inr (some (H.length + 1)), .inr (some (H.length + 2)), .inr (some (H.length + 3)), .inr (some (H.length + 4)), .inr (some (H.length + 5)), .inr (some (H.length + 6)), .inl 0, .inr (some (H.length + 7)), .inr (some (H.length + 8)), .inr none, .inl 0, .inl 0, .inr none, .inr none, .inr none, .inl 0, .inr none, .inr none, .inr none, .inr none, .inl 0, .inr none, .inl 0, .inr none, .inr none, .inr none, .inr none, .inr none, .inr none, .inl 0, .inr none, .inr none, .inr none, .inl 0, .inr none, .inr none, .inr none, .inr none, .inr none])), zr 4, zr 4, zr 4, zr 48, zr 48, zr 48, zr 12, zr 12])) (wg0 rfl) (Nat.le_of_ble_eq_true rfl) rfl (wk_set H _ 0 _) ?_
  refine pr_aload_n rfl rfl ?_
  refine pr_push (v := 12) rfl rfl ?_
  refine pr_newi (h1 := (H ++ [.inr (.inr (4, [.inl 0, .inr (some (H.length + 1)), .inr (some (H.length + 2)), .inr (some (H.length + 3)), .inr (some (H.length + 4)), .inr (some (H.length + 5)), .inr (some (H.length + 6)), .inl 0, .inr (some (H.length + 7)), .inr (some (H.length + 8)), .inr none, .inl 0, .inl 0, .inr none, .inr none, .inr none, .inl 0, .inr none, .inr none, .inr none, .inr none, .inl 0, .inr none, .inl 0, .inr none, .inr none, .inr none, .inr none, .inr none, .inr none, .inl 0, .inr none, .inr none, .inr none, .inl 0, .inr none, .inr none, .inr none, .inr none, .inr none])), zr 4, zr 4, zr 4, zr 48, zr 48, zr 48, zr 12, zr 12, zr 12])) 12 (H.length + 9) rfl rfl (by decide) (List.length_append ..) (List.append_assoc H _ _) ?_
  refine pr_putf rfl (h1 := (H ++ [.inr (.inr (4, [.inl 0, .inr (some (H.length + 1)), .inr (some (H.length + 2)), .inr (some (H.length + 3)), .inr (some (H.length + 4)), .inr (some (H.length + 5)), .inr (some (H.length + 6)), .inl 0, .inr (some (H.length + 7)), .inr (some (H.length + 8)), .inr (some (H.length + 9)), .inl 0, .inl 0, .inr none, .inr none, .inr none, .inl 0, .inr none, .inr none, .inr none, .inr none, .inl 0, .inr none, .inl 0, .inr none, .inr none, .inr none, .inr none, .inr none, .inr none, .inl 0, .inr none, .inr none, .inr none, .inl 0, .inr none, .inr none, .inr none, .inr none, .inr none])), zr 4, zr 4, zr 4, zr 48, zr 48, zr 48, zr 12, zr 12, zr 12])) (wg0 rfl) (Nat.le_of_ble_eq_true rfl) rfl (wk_set H _ 0 _) ?_
  refine pr_aload_n rfl rfl ?_
  refine pr_push (v := 12) rfl rfl ?_
  refine pr_newi (h1 := (H ++ [.inr (.inr (4, [.inl 0, .inr (some (H.length + 1)), .inr (some (H.length + 2)), .inr (some (H.length + 3)), .inr (some (H.length + 4)), .inr (some (H.length + 5)), .inr (some (H.length + 6)), .inl 0, .inr (some (H.length + 7)), .inr (some (H.length + 8)), .inr (some (H.length + 9)), .inl 0, .inl 0, .inr none, .inr none, .inr none, .inl 0, .inr none, .inr none, .inr none, .inr none, .inl 0, .inr none, .inl 0, .inr none, .inr none, .inr none, .inr none, .inr none, .inr none, .inl 0, .inr none, .inr none, .inr none, .inl 0, .inr none, .inr none, .inr none, .inr none, .inr none])), zr 4, zr 4, zr 4, zr 48, zr 48, zr 48, zr 12, zr 12, zr 12, zr 12])) 12 (H.length + 10) rfl rfl (by decide) (List.length_append ..) (List.append_assoc H _ _) ?_
  refine pr_putf rfl (h1 := (H ++ [.inr (.inr (4, [.inl 0, .inr (some (H.length + 1)), .inr (some (H.length + 2)), .inr (some (H.length + 3)), .inr (some (H.length + 4)), .inr (some (H.length + 5)), .inr (some (H.length + 6)), .inl 0, .inr (some (H.length + 7)), .inr (some (H.length + 8)), .inr (some (H.length + 9)), .inl 0, .inl 0, .inr (some (H.length + 10)), .inr none, .inr none, .inl 0, .inr none, .inr none, .inr none, .inr none, .inl 0, .inr none, .inl 0, .inr none, .inr none, .inr none, .inr none, .inr none, .inr none, .inl 0, .inr none, .inr none, .inr none, .inl 0, .inr none, .inr none, .inr none, .inr none, .inr none])), zr 4, zr 4, zr 4, zr 48, zr 48, zr 48, zr 12, zr 12, zr 12, zr 12])) (wg0 rfl) (Nat.le_of_ble_eq_true rfl) rfl (wk_set H _ 0 _) ?_
  refine pr_aload_n rfl rfl ?_
  refine pr_push (v := 12) rfl rfl ?_
  refine pr_newi (h1 := (H ++ [.inr (.inr (4, [.inl 0, .inr (some (H.length + 1)), .inr (some (H.length + 2)), .inr (some (H.length + 3)), .inr (some (H.length + 4)), .inr (some (H.length + 5)), .inr (some (H.length + 6)), .inl 0, .inr (some (H.length + 7)), .inr (some (H.length + 8)), .inr (some (H.length + 9)), .inl 0, .inl 0, .inr (some (H.length + 10)), .inr none, .inr none, .inl 0, .inr none, .inr none, .inr none, .inr none, .inl 0, .inr none, .inl 0, .inr none, .inr none, .inr none, .inr none, .inr none, .inr none, .inl 0, .inr none, .inr none, .inr none, .inl 0, .inr none, .inr none, .inr none, .inr none, .inr none])), zr 4, zr 4, zr 4, zr 48, zr 48, zr 48, zr 12, zr 12, zr 12, zr 12, zr 12])) 12 (H.length + 11) rfl rfl (by decide) (List.length_append ..) (List.append_assoc H _ _) ?_
  refine pr_putf rfl (h1 := (H ++ [.inr (.inr (4, [.inl 0, .inr (some (H.length + 1)), .inr (some (H.length + 2)), .inr (some (H.length + 3)), .inr (some (H.length + 4)), .inr (some (H.length + 5)), .inr (some (H.length + 6)), .inl 0, .inr (some (H.length + 7)), .inr (some (H.length + 8)), .inr (some (H.length + 9)), .inl 0, .inl 0, .inr (some (H.length + 10)), .inr (some (H.length + 11)), .inr none, .inl 0, .inr none, .inr none, .inr none, .inr none, .inl 0, .inr none, .inl 0, .inr none, .inr none, .inr none, .inr none, .inr none, .inr none, .inl 0, .inr none, .inr none, .inr none, .inl 0, .inr none, .inr none, .inr none, .inr none, .inr none])), zr 4, zr 4, zr 4, zr 48, zr 48, zr 48, zr 12, zr 12, zr 12, zr 12, zr 12])) (wg0 rfl) (Nat.le_of_ble_eq_true rfl) rfl (wk_set H _ 0 _) ?_
  refine pr_aload_n rfl rfl ?_
  refine pr_push (v := 12) rfl rfl ?_
  refine pr_newi (h1 := (H ++ [.inr (.inr (4, [.inl 0, .inr (some (H.length + 1)), .inr (some (H.length + 2)), .inr (some (H.length + 3)), .inr (some (H.length + 4)), .inr (some (H.length + 5)), .inr (some (H.length + 6)), .inl 0, .inr (some (H.length + 7)), .inr (some (H.length + 8)), .inr (some (H.length + 9)), .inl 0, .inl 0, .inr (some (H.length + 10)), .inr (some (H.length + 11)), .inr none, .inl 0, .inr none, .inr none, .inr none, .inr none, .inl 0, .inr none, .inl 0, .inr none, .inr none, .inr none, .inr none, .inr none, .inr none, .inl 0, .inr none, .inr none, .inr none, .inl 0, .inr none, .inr none, .inr none, .inr none, .inr none])), zr 4, zr 4, zr 4, zr 48, zr 48, zr 48, zr 12, zr 12, zr 12, zr 12, zr 12, zr 12])) 12 (H.length + 12) rfl rfl (by decide) (List.length_append ..) (List.append_assoc H _ _) ?_
  refine pr_putf rfl (h1 := (H ++ [.inr (.inr (4, [.inl 0, .inr (some (H.length + 1)), .inr (some (H.length + 2)), .inr (some (H.length + 3)), .inr (some (H.length + 4)), .inr (some (H.length + 5)), .inr (some (H.length + 6)), .inl 0, .inr (some (H.length + 7)), .inr (some (H.length + 8)), .inr (some (H.length + 9)), .inl 0, .inl 0, .inr (some (H.length + 10)), .inr (some (H.length + 11)), .inr (some (H.length + 12)), .inl 0, .inr none, .inr none, .inr none, .inr none, .inl 0, .inr none, .inl 0, .inr none, .inr none, .inr none, .inr none, .inr none, .inr none, .inl 0, .inr none, .inr none, .inr none, .inl 0, .inr none, .inr none, .inr none, .inr none, .inr none])), zr 4, zr 4, zr 4, zr 48, zr 48, zr 48, zr 12, zr 12, zr 12, zr 12, zr 12, zr 12])) (wg0 rfl) (Nat.le_of_ble_eq_true rfl) rfl (wk_set H _ 0 _) ?_
  refine pr_aload_n rfl rfl ?_
  refine pr_push (v := 60) rfl rfl ?_
  refine pr_newi (h1 := (H ++ [.inr (.inr (4, [.inl 0, .inr (some (H.length + 1)), .inr (some (H.length + 2)), .inr (some (H.length + 3)), .inr (some (H.length + 4)), .inr (some (H.length + 5)), .inr (some (H.length + 6)), .inl 0, .inr (some (H.length + 7)), .inr (some (H.length + 8)), .inr (some (H.length + 9)), .inl 0, .inl 0, .inr (some (H.length + 10)), .inr (some (H.length + 11)), .inr (some (H.length + 12)), .inl 0, .inr none, .inr none, .inr none, .inr none, .inl 0, .inr none, .inl 0, .inr none, .inr none, .inr none, .inr none, .inr none, .inr none, .inl 0, .inr none, .inr none, .inr none, .inl 0, .inr none, .inr none, .inr none, .inr none, .inr none])), zr 4, zr 4, zr 4, zr 48, zr 48, zr 48, zr 12, zr 12, zr 12, zr 12, zr 12, zr 12, zr 60])) 60 (H.length + 13) rfl rfl (by decide) (List.length_append ..) (List.append_assoc H _ _) ?_
  refine pr_putf rfl (h1 := (H ++ [.inr (.inr (4, [.inl 0, .inr (some (H.length + 1)), .inr (some (H.length + 2)), .inr (some (H.length + 3)), .inr (some (H.length + 4)), .inr (some (H.length + 5)), .inr (some (H.length + 6)), .inl 0, .inr (some (H.length + 7)), .inr (some (H.length + 8)), .inr (some (H.length + 9)), .inl 0, .inl 0, .inr (some (H.length + 10)), .inr (some (H.length + 11)), .inr (some (H.length + 12)), .inl 0, .inr (some (H.length + 13)), .inr none, .inr none, .inr none, .inl 0, .inr none, .inl 0, .inr none, .inr none, .inr none, .inr none, .inr none, .inr none, .inl 0, .inr none, .inr none, .inr none, .inl 0, .inr none, .inr none, .inr none, .inr none, .inr none])), zr 4, zr 4, zr 4, zr 48, zr 48, zr 48, zr 12, zr 12, zr 12, zr 12, zr 12, zr 12, zr 60])) (wg0 rfl) (Nat.le_of_ble_eq_true rfl) rfl (wk_set H _ 0 _) ?_
  refine pr_aload_n rfl rfl ?_
  refine pr_push (v := 60) rfl rfl ?_
  refine pr_newi (h1 := (H ++ [.inr (.inr (4, [.inl 0, .inr (some (H.length + 1)), .inr (some (H.length + 2)), .inr (some (H.length + 3)), .inr (some (H.length + 4)), .inr (some (H.length + 5)), .inr (some (H.length + 6)), .inl 0, .inr (some (H.length + 7)), .inr (some (H.length + 8)), .inr (some (H.length + 9)), .inl 0, .inl 0, .inr (some (H.length + 10)), .inr (some (H.length + 11)), .inr (some (H.length + 12)), .inl 0, .inr (some (H.length + 13)), .inr none, .inr none, .inr none, .inl 0, .inr none, .inl 0, .inr none, .inr none, .inr none, .inr none, .inr none, .inr none, .inl 0, .inr none, .inr none, .inr none, .inl 0, .inr none, .inr none, .inr none, .inr none, .inr none])), zr 4, zr 4, zr 4, zr 48, zr 48, zr 48, zr 12, zr 12, zr 12, zr 12, zr 12, zr 12, zr 60, zr 60])) 60 (H.length + 14) rfl rfl (by decide) (List.length_append ..) (List.append_assoc H _ _) ?_
  refine pr_putf rfl (h1 := (H ++ [.inr (.inr (4, [.inl 0, .inr (some (H.length + 1)), .inr (some (H.length + 2)), .inr (some (H.length + 3)), .inr (some (H.length + 4)), .inr (some (H.length + 5)), .inr (some (H.length + 6)), .inl 0, .inr (some (H.length + 7)), .inr (some (H.length + 8)), .inr (some (H.length + 9)), .inl 0, .inl 0, .inr (some (H.length + 10)), .inr (some (H.length + 11)), .inr (some (H.length + 12)), .inl 0, .inr (some (H.length + 13)), .inr (some (H.length + 14)), .inr none, .inr none, .inl 0, .inr none, .inl 0, .inr none, .inr none, .inr none, .inr none, .inr none, .inr none, .inl 0, .inr none, .inr none, .inr none, .inl 0, .inr none, .inr none, .inr none, .inr none, .inr none])), zr 4, zr 4, zr 4, zr 48, zr 48, zr 48, zr 12, zr 12, zr 12, zr 12, zr 12, zr 12, zr 60, zr 60])) (wg0 rfl) (Nat.le_of_ble_eq_true rfl) rfl (wk_set H _ 0 _) ?_
  refine pr_aload_n rfl rfl ?_
  refine pr_push (v := 60) rfl rfl ?_
  refine pr_newi (h1 := (H ++ [.inr (.inr (4, [.inl 0, .inr (some (H.length + 1)), .inr (some (H.length + 2)), .inr (some (H.length + 3)), .inr (some (H.length + 4)), .inr (some (H.length + 5)), .inr (some (H.length + 6)), .inl 0, .inr (some (H.length + 7)), .inr (some (H.length + 8)), .inr (some (H.length + 9)), .inl 0, .inl 0, .inr (some (H.length + 10)), .inr (some (H.length + 11)), .inr (some (H.length + 12)), .inl 0, .inr (some (H.length + 13)), .inr (some (H.length + 14)), .inr none, .inr none, .inl 0, .inr none, .inl 0, .inr none, .inr none, .inr none, .inr none, .inr none, .inr none, .inl 0, .inr none, .inr none, .inr none, .inl 0, .inr none, .inr none, .inr none, .inr none, .inr none])), zr 4, zr 4, zr 4, zr 48, zr 48, zr 48, zr 12, zr 12, zr 12, zr 12, zr 12, zr 12, zr 60, zr 60, zr 60])) 60 (H.length + 15) rfl rfl (by decide) (List.length_append ..) (List.append_assoc H _ _) ?_
  refine pr_putf rfl (h1 := (H ++ [.inr (.inr (4, [.inl 0, .inr (some (H.length + 1)), .inr (some (H.length + 2)), .inr (some (H.length + 3)), .inr (some (H.length + 4)), .inr (some (H.length + 5)), .inr (some (H.length + 6)), .inl 0, .inr (some (H.length + 7)), .inr (some (H.length + 8)), .inr (some (H.length + 9)), .inl 0, .inl 0, .inr (some (H.length + 10)), .inr (some (H.length + 11)), .inr (some (H.length + 12)), .inl 0, .inr (some (H.length + 13)), .inr (some (H.length + 14)), .inr (some (H.length + 15)), .inr none, .inl 0, .inr none, .inl 0, .inr none, .inr none, .inr none, .inr none, .inr none, .inr none, .inl 0, .inr none, .inr none, .inr none, .inl 0, .inr none, .inr none, .inr none, .inr none, .inr none])), zr 4, zr 4, zr 4, zr 48, zr 48, zr 48, zr 12, zr 12, zr 12, zr 12, zr 12, zr 12, zr 60, zr 60, zr 60])) (wg0 rfl) (Nat.le_of_ble_eq_true rfl) rfl (wk_set H _ 0 _) ?_
  refine pr_aload_n rfl rfl ?_
  refine pr_push (v := 60) rfl rfl ?_
  refine pr_newi (h1 := (H ++ [.inr (.inr (4, [.inl 0, .inr (some (H.length + 1)), .inr (some (H.length + 2)), .inr (some (H.length + 3)), .inr (some (H.length + 4)), .inr (some (H.length + 5)), .inr (some (H.length + 6)), .inl 0, .inr (some (H.length + 7)), .inr (some (H.length + 8)), .inr (some (H.length + 9)), .inl 0, .inl 0, .inr (some (H.length + 10)), .inr (some (H.length + 11)), .inr (some (H.length + 12)), .inl 0, .inr (some (H.length + 13)), .inr (some (H.length + 14)), .inr (some (H.length + 15)), .inr none, .inl 0, .inr none, .inl 0, .inr none, .inr none, .inr none, .inr none, .inr none, .inr none, .inl 0, .inr none, .inr none, .inr none, .inl 0, .inr none, .inr none, .inr none, .inr none, .inr none])), zr 4, zr 4, zr 4, zr 48, zr 48, zr 48, zr 12, zr 12, zr 12, zr 12, zr 12, zr 12, zr 60, zr 60, zr 60, zr 60])) 60 (H.length + 16) rfl rfl (by decide) (List.length_append ..) (List.append_assoc H _ _) ?_
  refine pr_putf rfl (h1 := (H ++ [.inr (.inr (4, [.inl 0, .inr (some (H.length + 1)), .inr (some (H.length + 2)), .inr (some (H.length + 3)), .inr (some (H.length + 4)), .inr (some (H.length + 5)), .inr (some (H.length + 6)), .inl 0, .inr (some (H.length + 7)), .inr (some (H.length + 8)), .inr (some (H.length + 9)), .inl 0, .inl 0, .inr (some (H.length + 10)), .inr (some (H.length + 11)), .inr (some (H.length + 12)), .inl 0, .inr (some (H.length + 13)), .inr (some (H.length + 14)), .inr (some (H.length + 15)), .inr (some (H.length + 16)), .inl 0, .inr none, .inl 0, .inr none, .inr none, .inr none, .inr none, .inr none, .inr none, .inl 0, .inr none, .inr none, .inr none, .inl 0, .inr none, .inr none, .inr none, .inr none, .inr none])), zr 4, zr 4, zr 4, zr 48, zr 48, zr 48, zr 12, zr 12, zr 12, zr 12, zr 12, zr 12, zr 60, zr 60, zr 60, zr 60])) (wg0 rfl) (Nat.le_of_ble_eq_true rfl) rfl (wk_set H _ 0 _) ?_
  refine pr_aload_n rfl rfl ?_
  refine pr_push (v := 20) rfl rfl ?_
  refine pr_newi (h1 := (H ++ [.inr (.inr (4, [.inl 0, .inr (some (H.length + 1)), .inr (some (H.length + 2)), .inr (some (H.length + 3)), .inr (some (H.length + 4)), .inr (some (H.length + 5)), .inr (some (H.length + 6)), .inl 0, .inr (some (H.length + 7)), .inr (some (H.length + 8)), .inr (some (H.length + 9)), .inl 0, .inl 0, .inr (some (H.length + 10)), .inr (some (H.length + 11)), .inr (some (H.length + 12)), .inl 0, .inr (some (H.length + 13)), .inr (some (H.length + 14)), .inr (some (H.length + 15)), .inr (some (H.length + 16)), .inl 0, .inr none, .inl 0, .inr none, .inr none, .inr none, .inr none, .inr none, .inr none, .inl 0, .inr none, .inr none, .inr none, .inl 0, .inr none, .inr none, .inr none, .inr none, .inr none])), zr 4, zr 4, zr 4, zr 48, zr 48, zr 48, zr 12, zr 12, zr 12, zr 12, zr 12, zr 12, zr 60, zr 60, zr 60, zr 60, zr 20])) 20 (H.length + 17) rfl rfl (by decide) (List.length_append ..) (List.append_assoc H _ _) ?_
  refine pr_putf rfl (h1 := (H ++ [.inr (.inr (4, [.inl 0, .inr (some (H.length + 1)), .inr (some (H.length + 2)), .inr (some (H.length + 3)), .inr (some (H.length + 4)), .inr (some (H.length + 5)), .inr (some (H.length + 6)), .inl 0, .inr (some (H.length + 7)), .inr (some (H.length + 8)), .inr (some (H.length + 9)), .inl 0, .inl 0, .inr (some (H.length + 10)), .inr (some (H.length + 11)), .inr (some (H.length + 12)), .inl 0, .inr (some (H.length + 13)), .inr (some (H.length + 14)), .inr (some (H.length + 15)), .inr (some (H.length + 16)), .inl 0, .inr (some (H.length + 17)), .inl 0, .inr none, .inr none, .inr none, .inr none, .inr none, .inr none, .inl 0, .inr none, .inr none, .inr none, .inl 0, .inr none, .inr none, .inr none, .inr none, .inr none])), zr 4, zr 4, zr 4, zr 48, zr 48, zr 48, zr 12, zr 12, zr 12, zr 12, zr 12, zr 12, zr 60, zr 60, zr 60, zr 60, zr 20])) (wg0 rfl) (Nat.le_of_ble_eq_true rfl) rfl (wk_set H _ 0 _) ?_
  refine pr_aload_n rfl rfl ?_
  refine pr_push (v := 6) rfl rfl ?_
  refine pr_newi (h1 := (H ++ [.inr (.inr (4, [.inl 0, .inr (some (H.length + 1)), .inr (some (H.length + 2)), .inr (some (H.length + 3)), .inr (some (H.length + 4)), .inr (some (H.length + 5)), .inr (some (H.length + 6)), .inl 0, .inr (some (H.length + 7)), .inr (some (H.length + 8)), .inr (some (H.length + 9)), .inl 0, .inl 0, .inr (some (H.length + 10)), .inr (some (H.length + 11)), .inr (some (H.length + 12)), .inl 0, .inr (some (H.length + 13)), .inr (some (H.length + 14)), .inr (some (H.length + 15)), .inr (some (H.length + 16)), .inl 0, .inr (some (H.length + 17)), .inl 0, .inr none, .inr none, .inr none, .inr none, .inr none, .inr none, .inl 0, .inr none, .inr none, .inr none, .inl 0, .inr none, .inr none, .inr none, .inr none, .inr none])), zr 4, zr 4, zr 4, zr 48, zr 48, zr 48, zr 12, zr 12, zr 12, zr 12, zr 12, zr 12, zr 60, zr 60, zr 60, zr 60, zr 20, zr 6])) 6 (H.length + 18) rfl rfl (by decide) (List.length_append ..) (List.append_assoc H _ _) ?_
  refine pr_putf rfl (h1 := (H ++ [.inr (.inr (4, [.inl 0, .inr (some (H.length + 1)), .inr (some (H.length + 2)), .inr (some (H.length + 3)), .inr (some (H.length + 4)), .inr (some (H.length + 5)), .inr (some (H.length + 6)), .inl 0, .inr (some (H.length + 7)), .inr (some (H.length + 8)), .inr (some (H.length + 9)), .inl 0, .inl 0, .inr (some (H.length + 10)), .inr (some (H.length + 11)), .inr (some (H.length + 12)), .inl 0, .inr (some (H.length + 13)), .inr (some (H.length + 14)), .inr (some (H.length + 15)), .inr (some (H.length + 16)), .inl 0, .inr (some (H.length + 17)), .inl 0, .inr (some (H.length + 18)), .inr none, .inr none, .inr none, .inr none, .inr none, .inl 0, .inr none, .inr none, .inr none, .inl 0, .inr none, .inr none, .inr none, .inr none, .inr none])), zr 4, zr 4, zr 4, zr 48, zr 48, zr 48, zr 12, zr 12, zr 12, zr 12, zr 12, zr 12, zr 60, zr 60, zr 60, zr 60, zr 20, zr 6])) (wg0 rfl) (Nat.le_of_ble_eq_true rfl) rfl (wk_set H _ 0 _) ?_
  refine pr_aload_n rfl rfl ?_
  refine pr_push (v := 6) rfl rfl ?_
  refine pr_newi (h1 := (H ++ [.inr (.inr (4, [.inl 0, .inr (some (H.length + 1)), .inr (some (H.length + 2)), .inr (some (H.length + 3)), .inr (some (H.length + 4)), .inr (some (H.length + 5)), .inr (some (H.length + 6)), .inl 0, .inr (some (H.length + 7)), .inr (some (H.length + 8)), .inr (some (H.length + 9)), .inl 0, .inl 0, .inr (some (H.length + 10)), .inr (some (H.length + 11)), .inr (some (H.length + 12)), .inl 0, .inr (some (H.length + 13)), .inr (some (H.length + 14)), .inr (some (H.length + 15)), .inr (some (H.length + 16)), .inl 0, .inr (some (H.length + 17)), .inl 0, .inr (some (H.length + 18)), .inr none, .inr none, .inr none, .inr none, .inr none, .inl 0, .inr none, .inr none, .inr none, .inl 0, .inr none, .inr none, .inr none, .inr none, .inr none])), zr 4, zr 4, zr 4, zr 48, zr 48, zr 48, zr 12, zr 12, zr 12, zr 12, zr 12, zr 12, zr 60, zr 60, zr 60, zr 60, zr 20, zr 6, zr 6])) 6 (H.length + 19) rfl rfl (by decide) (List.length_append ..) (List.append_assoc H _ _) ?_
  refine pr_putf rfl (h1 := (H ++ [.inr (.inr (4, [.inl 0, .inr (some (H.length + 1)), .inr (some (H.length + 2)), .inr (some (H.length + 3)), .inr (some (H.length + 4)), .inr (some (H.length + 5)), .inr (some (H.length + 6)), .inl 0, .inr (some (H.length + 7)), .inr (some (H.length + 8)), .inr (some (H.length + 9)), .inl 0, .inl 0, .inr (some (H.length + 10)), .inr (some (H.length + 11)), .inr (some (H.length + 12)), .inl 0, .inr (some (H.length + 13)), .inr (some (H.length + 14)), .inr (some (H.length + 15)), .inr (some (H.length + 16)), .inl 0, .inr (some (H.length + 17)), .inl 0, .inr (some (H.length + 18)), .inr (some (H.length + 19)), .inr none, .inr none, .inr none, .inr none, .inl 0, .inr none, .inr none, .inr none, .inl 0, .inr none, .inr none, .inr none, .inr none, .inr none])), zr 4, zr 4, zr 4, zr 48, zr 48, zr 48, zr 12, zr 12, zr 12, zr 12, zr 12, zr 12, zr 60, zr 60, zr 60, zr 60, zr 20, zr 6, zr 6])) (wg0 rfl) (Nat.le_of_ble_eq_true rfl) rfl (wk_set H _ 0 _) ?_
  refine pr_aload_n rfl rfl ?_
  refine pr_push (v := 6) rfl rfl ?_
  refine pr_newi (h1 := (H ++ [.inr (.inr (4, [.inl 0, .inr (some (H.length + 1)), .inr (some (H.length + 2)), .inr (some (H.length + 3)), .inr (some (H.length + 4)), .inr (some (H.length + 5)), .inr (some (H.length + 6)), .inl 0, .inr (some (H.length + 7)), .inr (some (H.length + 8)), .inr (some (H.length + 9)), .inl 0, .inl 0, .inr (some (H.length + 10)), .inr (some (H.length + 11)), .inr (some (H.length + 12)), .inl 0, .inr (some (H.length + 13)), .inr (some (H.length + 14)), .inr (some (H.length + 15)), .inr (some (H.length + 16)), .inl 0, .inr (some (H.length + 17)), .inl 0, .inr (some (H.length + 18)), .inr (some (H.length + 19)), .inr none, .inr none, .inr none, .inr none, .inl 0, .inr none, .inr none, .inr none, .inl 0, .inr none, .inr none, .inr none, .inr none, .inr none])), zr 4, zr 4, zr 4, zr 48, zr 48, zr 48, zr 12, zr 12, zr 12, zr 12, zr 12, zr 12, zr 60, zr 60, zr 60, zr 60, zr 20, zr 6, zr 6, zr 6])) 6 (H.length + 20) rfl rfl (by decide) (List.length_append ..) (List.append_assoc H _ _) ?_
  refine pr_putf rfl (h1 := (H ++ [.inr (.inr (4, [.inl 0, .inr (some (H.length + 1)), .inr (some (H.length + 2)), .inr (some (H.length + 3)), .inr (some (H.length + 4)), .inr (some (H.length + 5)), .inr (some (H.length + 6)), .inl 0, .inr (some (H.length + 7)), .inr (some (H.length + 8)), .inr (some (H.length + 9)), .inl 0, .inl 0, .inr (some (H.length + 10)), .inr (some (H.length + 11)), .inr (some (H.length + 12)), .inl 0, .inr (some (H.length + 13)), .inr (some (H.length + 14)), .inr (some (H.length + 15)), .inr (some (H.length + 16)), .inl 0, .inr (some (H.length + 17)), .inl 0, .inr (some (H.length + 18)), .inr (some (H.length + 19)), .inr (some (H.length + 20)), .inr none, .inr none, .inr none, .inl 0, .inr none, .inr none, .inr none, .inl 0, .inr none, .inr none, .inr none, .inr none, .inr none])), zr 4, zr 4, zr 4, zr 48, zr 48, zr 48, zr 12, zr 12, zr 12, zr 12, zr 12, zr 12, zr 60, zr 60, zr 60, zr 60, zr 20, zr 6, zr 6, zr 6])) (wg0 rfl) (Nat.le_of_ble_eq_true rfl) rfl (wk_set H _ 0 _) ?_
  refine pr_aload_n rfl rfl ?_
  refine pr_push (v := 6) rfl rfl ?_
  refine pr_newi (h1 := (H ++ [.inr (.inr (4, [.inl 0, .inr (some (H.length + 1)), .inr (some (H.length + 2)), .inr (some (H.length + 3)), .inr (some (H.length + 4)), .inr (some (H.length + 5)), .inr (some (H.length + 6)), .inl 0, .inr (some (H.length + 7)), .inr (some (H.length + 8)), .inr (some (H.length + 9)), .inl 0, .inl 0, .inr (some (H.length + 10)), .inr (some (H.length + 11)), .inr (some (H.length + 12)), .inl 0, .inr (some (H.length + 13)), .inr (some (H.length + 14)), .inr (some (H.length + 15)), .inr (some (H.length + 16)), .inl 0, .inr (some (H.length + 17)), .inl 0, .inr (some (H.length + 18)), .inr (some (H.length + 19)), .inr (some (H.length + 20)), .inr none, .inr none, .inr none, .inl 0, .inr none, .inr none, .inr none, .inl 0, .inr none, .inr none, .inr none, .inr none, .inr none])), zr 4, zr 4, zr 4, zr 48, zr 48, zr 48, zr 12, zr 12, zr 12, zr 12, zr 12, zr 12, zr 60, zr 60, zr 60, zr 60, zr 20, zr 6, zr 6, zr 6, zr 6])) 6 (H.length + 21) rfl rfl (by decide) (List.length_append ..) (List.append_assoc H _ _) ?_
  refine pr_putf rfl (h1 := (H ++ [.inr (.inr (4, [.inl 0, .inr (some (H.length + 1)), .inr (some (H.length + 2)), .inr (some (H.length + 3)), .inr (some (H.length + 4)), .inr (some (H.length + 5)), .inr (some (H.length + 6)), .inl 0, .inr (some (H.length + 7)), .inr (some (H.length + 8)), .inr (some (H.length + 9)), .inl 0, .inl 0, .inr (some (H.length + 10)), .inr (some (H.length + 11)), .inr (some (H.length + 12)), .inl 0, .inr (some (H.length + 13)), .inr (some (H.length + 14)), .inr (some (H.length + 15)), .inr (some (H.length + 16)), .inl 0, .inr (some (H.length + 17)), .inl 0, .inr (some (H.length + 18)), .inr (some (H.length + 19)), .inr (some (H.length + 20)), .inr (some (H.length + 21)), .inr none, .inr none, .inl 0, .inr none, .inr none, .inr none, .inl 0, .inr none, .inr none, .inr none, .inr none, .inr none])), zr 4, zr 4, zr 4, zr 48, zr 48, zr 48, zr 12, zr 12, zr 12, zr 12, zr 12, zr 12, zr 60, zr 60, zr 60, zr 60, zr 20, zr 6, zr 6, zr 6, zr 6])) (wg0 rfl) (Nat.le_of_ble_eq_true rfl) rfl (wk_set H _ 0 _) ?_
  refine pr_aload_n rfl rfl ?_
  refine pr_push (v := 6) rfl rfl ?_
  refine pr_newi (h1 := (H ++ [.inr (.inr (4, [.inl 0, .inr (some (H.length + 1)), .inr (some (H.length + 2)), .inr (some (H.length + 3)), .inr (some (H.length + 4)), .inr (some (H.length + 5)), .inr (some (H.length + 6)), .inl 0, .inr (some (H.length + 7)), .inr (some (H.length + 8)), .inr (some (H.length + 9)), .inl 0, .inl 0, .inr (some (H.length + 10)), .inr (some (H.length + 11)), .inr (some (H.length + 12)), .inl 0, .inr (some (H.length + 13)), .inr (some (H.length + 14)), .inr (some (H.length + 15)), .inr (some (H.length + 16)), .inl 0, .inr (some (H.length + 17)), .inl 0, .inr (some (H.length + 18)), .inr (some (H.length + 19)), .inr (some (H.length + 20)), .inr (some (H.length + 21)), .inr none, .inr none, .inl 0, .inr none, .inr none, .inr none, .inl 0, .inr none, .inr none, .inr none, .inr none, .inr none])), zr 4, zr 4, zr 4, zr 48, zr 48, zr 48, zr 12, zr 12, zr 12, zr 12, zr 12, zr 12, zr 60, zr 60, zr 60, zr 60, zr 20, zr 6, zr 6, zr 6, zr 6, zr 6])) 6 (H.length + 22) rfl rfl (by decide) (List.length_append ..) (List.append_assoc H _ _) ?_
  refine pr_putf rfl (h1 := (H ++ [.inr (.inr (4, [.inl 0, .inr (some (H.length + 1)), .inr (some (H.length + 2)), .inr (some (H.length + 3)), .inr (some (H.length + 4)), .inr (some (H.length + 5)), .inr (some (H.length + 6)), .inl 0, .inr (some (H.length + 7)), .inr (some (H.length + 8)), .inr (some (H.length + 9)), .inl 0, .inl 0, .inr (some (H.length + 10)), .inr (some (H.length + 11)), .inr (some (H.length + 12)), .inl 0, .inr (some (H.length + 13)), .inr (some (H.length + 14)), .inr (some (H.length + 15)), .inr (some (H.length + 16)), .inl 0, .inr (some (H.length + 17)), .inl 0, .inr (some (H.length + 18)), .inr (some (H.length + 19)), .inr (some (H.length + 20)), .inr (some (H.length + 21)), .inr (some (H.length + 22)), .inr none, .inl 0, .inr none, .inr none, .inr none, .inl 0, .inr none, .inr none, .inr none, .inr none, .inr none])), zr 4, zr 4, zr 4, zr 48, zr 48, zr 48, zr 12, zr 12, zr 12, zr 12, zr 12, zr 12, zr 60, zr 60, zr 60, zr 60, zr 20, zr 6, zr 6, zr 6, zr 6, zr 6])) (wg0 rfl) (Nat.le_of_ble_eq_true rfl) rfl (wk_set H _ 0 _) ?_
  refine pr_aload_n rfl rfl ?_
  refine pr_push (v := 6) rfl rfl ?_
  refine pr_newi (h1 := (H ++ [.inr (.inr (4, [.inl 0, .inr (some (H.length + 1)), .inr (some (H.length + 2)), .inr (some (H.length + 3)), .inr (some (H.length + 4)), .inr (some (H.length + 5)), .inr (some (H.length + 6)), .inl 0, .inr (some (H.length + 7)), .inr (some (H.length + 8)), .inr (some (H.length + 9)), .inl 0, .inl 0, .inr (some (H.length + 10)), .inr (some (H.length + 11)), .inr (some (H.length + 12)), .inl 0, .inr (some (H.length + 13)), .inr (some (H.length + 14)), .inr (some (H.length + 15)), .inr (some (H.length + 16)), .inl 0, .inr (some (H.length + 17)), .inl 0, .inr (some (H.length + 18)), .inr (some (H.length + 19)), .inr (some (H.length + 20)), .inr (some (H.length + 21)), .inr (some (H.length + 22)), .inr none, .inl 0, .inr none, .inr none, .inr none, .inl 0, .inr none, .inr none, .inr none, .inr none, .inr none])), zr 4, zr 4, zr 4, zr 48, zr 48, zr 48, zr 12, zr 12, zr 12, zr 12, zr 12, zr 12, zr 60, zr 60, zr 60, zr 60, zr 20, zr 6, zr 6, zr 6, zr 6, zr 6, zr 6])) 6 (H.length + 23) rfl rfl (by decide) (List.length_append ..) (List.append_assoc H _ _) ?_
  refine pr_putf rfl (h1 := (H ++ [.inr (.inr (4, [.inl 0, .inr (some (H.length + 1)), .inr (some (H.length + 2)), .inr (some (H.length + 3)), .inr (some (H.length + 4)), .inr (some (H.length + 5)), .inr (some (H.length + 6)), .inl 0, .inr (some (H.length + 7)), .inr (some (H.length + 8)), .inr (some (H.length + 9)), .inl 0, .inl 0, .inr (some (H.length + 10)), .inr (some (H.length + 11)), .inr (some (H.length + 12)), .inl 0, .inr (some (H.length + 13)), .inr (some (H.length + 14)), .inr (some (H.length + 15)), .inr (some (H.length + 16)), .inl 0, .inr (some (H.length + 17)), .inl 0, .inr (some (H.length + 18)), .inr (some (H.length + 19)), .inr (some (H.length + 20)), .inr (some (H.length + 21)), .inr (some (H.length + 22)), .inr (some (H.length + 23)), .inl 0, .inr none, .inr none, .inr none, .inl 0, .inr none, .inr none, .inr none, .inr none, .inr none])), zr 4, zr 4, zr 4, zr 48, zr 48, zr 48, zr 12, zr 12, zr 12, zr 12, zr 12, zr 12, zr 60, zr 60, zr 60, zr 60, zr 20, zr 6, zr 6, zr 6, zr 6, zr 6, zr 6])) (wg0 rfl) (Nat.le_of_ble_eq_true rfl) rfl (wk_set H _ 0 _) ?_
  refine pr_aload_n rfl rfl ?_
  refine pr_push (v := 10) rfl rfl ?_
  refine pr_newi (h1 := (H ++ [.inr (.inr (4, [.inl 0, .inr (some (H.length + 1)), .inr (some (H.length + 2)), .inr (some (H.length + 3)), .inr (some (H.length + 4)), .inr (some (H.length + 5)), .inr (some (H.length + 6)), .inl 0, .inr (some (H.length + 7)), .inr (some (H.length + 8)), .inr (some (H.length + 9)), .inl 0, .inl 0, .inr (some (H.length + 10)), .inr (some (H.length + 11)), .inr (some (H.length + 12)), .inl 0, .inr (some (H.length + 13)), .inr (some (H.length + 14)), .inr (some (H.length + 15)), .inr (some (H.length + 16)), .inl 0, .inr (some (H.length + 17)), .inl 0, .inr (some (H.length + 18)), .inr (some (H.length + 19)), .inr (some (H.length + 20)), .inr (some (H.length + 21)), .inr (some (H.length + 22)), .inr (some (H.length + 23)), .inl 0, .inr none, .inr none, .inr none, .inl 0, .inr none, .inr none, .inr none, .inr none, .inr none])), zr 4, zr 4, zr 4, zr 48, zr 48, zr 48, zr 12, zr 12, zr 12, zr 12, zr 12, zr 12, zr 60, zr 60, zr 60, zr 60, zr 20, zr 6, zr 6, zr 6, zr 6, zr 6, zr 6, zr 10])) 10 (H.length + 24) rfl rfl (by decide) (List.length_append ..) (List.append_assoc H _ _) ?_
  refine pr_putf rfl (h1 := (H ++ [.inr (.inr (4, [.inl 0, .inr (some (H.length + 1)), .inr (some (H.length + 2)), .inr (some (H.length + 3)), .inr (some (H.length + 4)), .inr (some (H.length + 5)), .inr (some (H.length + 6)), .inl 0, .inr (some (H.length + 7)), .inr (some (H.length + 8)), .inr (some (H.length + 9)), .inl 0, .inl 0, .inr (some (H.length + 10)), .inr (some (H.length + 11)), .inr (some (H.length + 12)), .inl 0, .inr (some (H.length + 13)), .inr (some (H.length + 14)), .inr (some (H.length + 15)), .inr (some (H.length + 16)), .inl 0, .inr (some (H.length + 17)), .inl 0, .inr (some (H.length + 18)), .inr (some (H.length + 19)), .inr (some (H.length + 20)), .inr (some (H.length + 21)), .inr (some (H.length + 22)), .inr (some (H.length + 23)), .inl 0, .inr (some (H.length + 24)), .inr none, .inr none, .inl 0, .inr none, .inr none, .inr none, .inr none, .inr none])), zr 4, zr 4, zr 4, zr 48, zr 48, zr 48, zr 12, zr 12, zr 12, zr 12, zr 12, zr 12, zr 60, zr 60, zr 60, zr 60, zr 20, zr 6, zr 6, zr 6, zr 6, zr 6, zr 6, zr 10])) (wg0 rfl) (Nat.le_of_ble_eq_true rfl) rfl (wk_set H _ 0 _) ?_
  refine pr_aload_n rfl rfl ?_
  refine pr_push (v := 10) rfl rfl ?_
  refine pr_newi (h1 := (H ++ [.inr (.inr (4, [.inl 0, .inr (some (H.length + 1)), .inr (some (H.length + 2)), .inr (some (H.length + 3)), .inr (some (H.length + 4)), .inr (some (H.length + 5)), .inr (some (H.length + 6)), .inl 0, .inr (some (H.length + 7)), .inr (some (H.length + 8)), .inr (some (H.length + 9)), .inl 0, .inl 0, .inr (some (H.length + 10)), .inr (some (H.length + 11)), .inr (some (H.length + 12)), .inl 0, .inr (some (H.length + 13)), .inr (some (H.length + 14)), .inr (some (H.length + 15)), .inr (some (H.length + 16)), .inl 0, .inr (some (H.length + 17)), .inl 0, .inr (some (H.length + 18)), .inr (some (H.length + 19)), .inr (some (H.length + 20)), .inr (some (H.length + 21)), .inr (some (H.length + 22)), .inr (some (H.length + 23)), .inl 0, .inr (some (H.length + 24)), .inr none, .inr none, .inl 0, .inr none, .inr none, .inr none, .inr none, .inr none])), zr 4, zr 4, zr 4, zr 48, zr 48, zr 48, zr 12, zr 12, zr 12, zr 12, zr 12, zr 12, zr 60, zr 60, zr 60, zr 60, zr 20, zr 6, zr 6, zr 6, zr 6, zr 6, zr 6, zr 10, zr 10])) 10 (H.length + 25) rfl rfl (by decide) (List.length_append ..) (List.append_assoc H _ _) ?_
  refine pr_putf rfl (h1 := (H ++ [.inr (.inr (4, [.inl 0, .inr (some (H.length + 1)), .inr (some (H.length + 2)), .inr (some (H.length + 3)), .inr (some (H.length + 4)), .inr (some (H.length + 5)), .inr (some (H.length + 6)), .inl 0, .inr (some (H.length + 7)), .inr (some (H.length + 8)), .inr (some (H.length + 9)), .inl 0, .inl 0, .inr (some (H.length + 10)), .inr (some (H.length + 11)), .inr (some (H.length + 12)), .inl 0, .inr (some (H.length + 13)), .inr (some (H.length + 14)), .inr (some (H.length + 15)), .inr (some (H.length + 16)), .inl 0, .inr (some (H.length + 17)), .inl 0, .inr (some (H.length + 18)), .inr (some (H.length + 19)), .inr (some (H.length + 20)), .inr (some (H.length + 21)), .inr (some (H.length + 22)), .inr (some (H.length + 23)), .inl 0, .inr (some (H.length + 24)), .inr (some (H.length + 25)), .inr none, .inl 0, .inr none, .inr none, .inr none, .inr none, .inr none])), zr 4, zr 4, zr 4, zr 48, zr 48, zr 48, zr 12, zr 12, zr 12, zr 12, zr 12, zr 12, zr 60, zr 60, zr 60, zr 60, zr 20, zr 6, zr 6, zr 6, zr 6, zr 6, zr 6, zr 10, zr 10])) (wg0 rfl) (Nat.le_of_ble_eq_true rfl) rfl (wk_set H _ 0 _) ?_
  refine pr_aload_n rfl rfl ?_
  refine pr_push (v := 10) rfl rfl ?_
  refine pr_newi (h1 := (H ++ [.inr (.inr (4, [.inl 0, .inr (some (H.length + 1)), .inr (some (H.length + 2)), .inr (some (H.length + 3)), .inr (some (H.length + 4)), .inr (some (H.length + 5)), .inr (some (H.length + 6)), .inl 0, .inr (some (H.length + 7)), .inr (some (H.length + 8)), .inr (some (H.length + 9)), .inl 0, .inl 0, .inr (some (H.length + 10)), .inr (some (H.length + 11)), .inr (some (H.length + 12)), .inl 0, .inr (some (H.length + 13)), .inr (some (H.length + 14)), .inr (some (H.length + 15)), .inr (some (H.length + 16)), .inl 0, .inr (some (H.length + 17)), .inl 0, .inr (some (H.length + 18)), .inr (some (H.length + 19)), .inr (some (H.length + 20)), .inr (some (H.length + 21)), .inr (some (H.length + 22)), .inr (some (H.length + 23)), .inl 0, .inr (some (H.length + 24)), .inr (some (H.length + 25)), .inr none, .inl 0, .inr none, .inr none, .inr none, .inr none, .inr none])), zr 4, zr 4, zr 4, zr 48, zr 48, zr 48, zr 12, zr 12, zr 12, zr 12, zr 12, zr 12, zr 60, zr 60, zr 60, zr 60, zr 20, zr 6, zr 6, zr 6, zr 6, zr 6, zr 6, zr 10, zr 10, zr 10])) 10 (H.length + 26) rfl rfl (by decide) (List.length_append ..) (List.append_assoc H _ _) ?_
  refine pr_putf rfl (h1 := (H ++ [.inr (.inr (4, [.inl 0, .inr (some (H.length + 1)), .inr (some (H.length + 2)), .inr (some (H.length + 3)), .inr (some (H.length + 4)), .inr (some (H.length + 5)), .inr (some (H.length + 6)), .inl 0, .inr (some (H.length + 7)), .inr (some (H.length + 8)), .inr (some (H.length + 9)), .inl 0, .inl 0, .inr (some (H.length + 10)), .inr (some (H.length + 11)), .inr (some (H.length + 12)), .inl 0, .inr (some (H.length + 13)), .inr (some (H.length + 14)), .inr (some (H.length + 15)), .inr (some (H.length + 16)), .inl 0, .inr (some (H.length + 17)), .inl 0, .inr (some (H.length + 18)), .inr (some (H.length + 19)), .inr (some (H.length + 20)), .inr (some (H.length + 21)), .inr (some (H.length + 22)), .inr (some (H.length + 23)), .inl 0, .inr (some (H.length + 24)), .inr (some (H.length + 25)), .inr (some (H.length + 26)), .inl 0, .inr none, .inr none, .inr none, .inr none, .inr none])), zr 4, zr 4, zr 4, zr 48, zr 48, zr 48, zr 12, zr 12, zr 12, zr 12, zr 12, zr 12, zr 60, zr 60, zr 60, zr 60, zr 20, zr 6, zr 6, zr 6, zr 6, zr 6, zr 6, zr 10, zr 10, zr 10])) (wg0 rfl) (Nat.le_of_ble_eq_true rfl) rfl (wk_set H _ 0 _) ?_
  refine pr_aload_n rfl rfl ?_
  refine pr_push (v := 7) rfl rfl ?_
  refine pr_putf rfl (h1 := (H ++ [.inr (.inr (4, [.inl 0, .inr (some (H.length + 1)), .inr (some (H.length + 2)), .inr (some (H.length + 3)), .inr (some (H.length + 4)), .inr (some (H.length + 5)), .inr (some (H.length + 6)), .inl 0, .inr (some (H.length + 7)), .inr (some (H.length + 8)), .inr (some (H.length + 9)), .inl 0, .inl 0, .inr (some (H.length + 10)), .inr (some (H.length + 11)), .inr (some (H.length + 12)), .inl 0, .inr (some (H.length + 13)), .inr (some (H.length + 14)), .inr (some (H.length + 15)), .inr (some (H.length + 16)), .inl 0, .inr (some (H.length + 17)), .inl 0, .inr (some (H.length + 18)), .inr (some (H.length + 19)), .inr (some (H.length + 20)), .inr (some (H.length + 21)), .inr (some (H.length + 22)), .inr (some (H.length + 23)), .inl 0, .inr (some (H.length + 24)), .inr (some (H.length + 25)), .inr (some (H.length + 26)), .inl 7, .inr none, .inr none, .inr none, .inr none, .inr none])), zr 4, zr 4, zr 4, zr 48, zr 48, zr 48, zr 12, zr 12, zr 12, zr 12, zr 12, zr 12, zr 60, zr 60, zr 60, zr 60, zr 20, zr 6, zr 6, zr 6, zr 6, zr 6, zr 6, zr 10, zr 10, zr 10])) (wg0 rfl) (Nat.le_of_ble_eq_true rfl) rfl (wk_set H _ 0 _) ?_
  refine pr_aload_n rfl rfl ?_
  refine pr_push (v := 12) rfl rfl ?_
  refine pr_newi (h1 := (H ++ [.inr (.inr (4, [.inl 0, .inr (some (H.length + 1)), .inr (some (H.length + 2)), .inr (some (H.length + 3)), .inr (some (H.length + 4)), .inr (some (H.length + 5)), .inr (some (H.length + 6)), .inl 0, .inr (some (H.length + 7)), .inr (some (H.length + 8)), .inr (some (H.length + 9)), .inl 0, .inl 0, .inr (some (H.length + 10)), .inr (some (H.length + 11)), .inr (some (H.length + 12)), .inl 0, .inr (some (H.length + 13)), .inr (some (H.length + 14)), .inr (some (H.length + 15)), .inr (some (H.length + 16)), .inl 0, .inr (some (H.length + 17)), .inl 0, .inr (some (H.length + 18)), .inr (some (H.length + 19)), .inr (some (H.length + 20)), .inr (some (H.length + 21)), .inr (some (H.length + 22)), .inr (some (H.length + 23)), .inl 0, .inr (some (H.length + 24)), .inr (some (H.length + 25)), .inr (some (H.length + 26)), .inl 7, .inr none, .inr none, .inr none, .inr none, .inr none])), zr 4, zr 4, zr 4, zr 48, zr 48, zr 48, zr 12, zr 12, zr 12, zr 12, zr 12, zr 12, zr 60, zr 60, zr 60, zr 60, zr 20, zr 6, zr 6, zr 6, zr 6, zr 6, zr 6, zr 10, zr 10, zr 10, zr 12])) 12 (H.length + 27) rfl rfl (by decide) (List.length_append ..) (List.append_assoc H _ _) ?_
  refine pr_putf rfl (h1 := (H ++ [.inr (.inr (4, [.inl 0, .inr (some (H.length + 1)), .inr (some (H.length + 2)), .inr (some (H.length + 3)), .inr (some (H.length + 4)), .inr (some (H.length + 5)), .inr (some (H.length + 6)), .inl 0, .inr (some (H.length + 7)), .inr (some (H.length + 8)), .inr (some (H.length + 9)), .inl 0, .inl 0, .inr (some (H.length + 10)), .inr (some (H.length + 11)), .inr (some (H.length + 12)), .inl 0, .inr (some (H.length + 13)), .inr (some (H.length + 14)), .inr (some (H.length + 15)), .inr (some (H.length + 16)), .inl 0, .inr (some (H.length + 17)), .inl 0, .inr (some (H.length + 18)), .inr (some (H.length + 19)), .inr (some (H.length + 20)), .inr (some (H.length + 21)), .inr (some (H.length + 22)), .inr (some (H.length + 23)), .inl 0, .inr (some (H.length + 24)), .inr (some (H.length + 25)), .inr (some (H.length + 26)), .inl 7, .inr (some (H.length + 27)), .inr none, .inr none, .inr none, .inr none])), zr 4, zr 4, zr 4, zr 48, zr 48, zr 48, zr 12, zr 12, zr 12, zr 12, zr 12, zr 12, zr 60, zr 60, zr 60, zr 60, zr 20, zr 6, zr 6, zr 6, zr 6, zr 6, zr 6, zr 10, zr 10, zr 10, zr 12])) (wg0 rfl) (Nat.le_of_ble_eq_true rfl) rfl (wk_set H _ 0 _) ?_
  refine pr_aload_n rfl rfl ?_
  refine pr_push (v := 156) rfl rfl ?_
  refine pr_newi (h1 := (H ++ [.inr (.inr (4, [.inl 0, .inr (some (H.length + 1)), .inr (some (H.length + 2)), .inr (some (H.length + 3)), .inr (some (H.length + 4)), .inr (some (H.length + 5)), .inr (some (H.length + 6)), .inl 0, .inr (some (H.length + 7)), .inr (some (H.length + 8)), .inr (some (H.length + 9)), .inl 0, .inl 0, .inr (some (H.length + 10)), .inr (some (H.length + 11)), .inr (some (H.length + 12)), .inl 0, .inr (some (H.length + 13)), .inr (some (H.length + 14)), .inr (some (H.length + 15)), .inr (some (H.length + 16)), .inl 0, .inr (some (H.length + 17)), .inl 0, .inr (some (H.length + 18)), .inr (some (H.length + 19)), .inr (some (H.length + 20)), .inr (some (H.length + 21)), .inr (some (H.length + 22)), .inr (some (H.length + 23)), .inl 0, .inr (some (H.length + 24)), .inr (some (H.length + 25)), .inr (some (H.length + 26)), .inl 7, .inr (some (H.length + 27)), .inr none, .inr none, .inr none, .inr none])), zr 4, zr 4, zr 4, zr 48, zr 48, zr 48, zr 12, zr 12, zr 12, zr 12, zr 12, zr 12, zr 60, zr 60, zr 60, zr 60, zr 20, zr 6, zr 6, zr 6, zr 6, zr 6, zr 6, zr 10, zr 10, zr 10, zr 12, .inl (1, 156, fun _ => 0)])) 156 (H.length + 28) rfl rfl (by decide) (List.length_append ..) (List.append_assoc H _ _) ?_
  refine pr_putf rfl (h1 := (H ++ [.inr (.inr (4, [.inl 0, .inr (some (H.length + 1)), .inr (some (H.length + 2)), .inr (some (H.length + 3)), .inr (some (H.length + 4)), .inr (some (H.length + 5)), .inr (some (H.length + 6)), .inl 0, .inr (some (H.length + 7)), .inr (some (H.length + 8)), .inr (some (H.length + 9)), .inl 0, .inl 0, .inr (some (H.length + 10)), .inr (some (H.length + 11)), .inr (some (H.length + 12)), .inl 0, .inr (some (H.length + 13)), .inr (some (H.length + 14)), .inr (some (H.length + 15)), .inr (some (H.length + 16)), .inl 0, .inr (some (H.length + 17)), .inl 0, .inr (some (H.length + 18)), .inr (some (H.length + 19)), .inr (some (H.length + 20)), .inr (some (H.length + 21)), .inr (some (H.length + 22)), .inr (some (H.length + 23)), .inl 0, .inr (some (H.length + 24)), .inr (some (H.length + 25)), .inr (some (H.length + 26)), .inl 7, .inr (some (H.length + 27)), .inr (some (H.length + 28)), .inr none, .inr none, .inr none])), zr 4, zr 4, zr 4, zr 48, zr 48, zr 48, zr 12, zr 12, zr 12, zr 12, zr 12, zr 12, zr 60, zr 60, zr 60, zr 60, zr 20, zr 6, zr 6, zr 6, zr 6, zr 6, zr 6, zr 10, zr 10, zr 10, zr 12, .inl (1, 156, fun _ => 0)])) (wg0 rfl) (Nat.le_of_ble_eq_true rfl) rfl (wk_set H _ 0 _) ?_
  refine pr_aload_n rfl rfl ?_
  refine pr_push (v := 144) rfl rfl ?_
  refine pr_newi (h1 := (H ++ [.inr (.inr (4, [.inl 0, .inr (some (H.length + 1)), .inr (some (H.length + 2)), .inr (some (H.length + 3)), .inr (some (H.length + 4)), .inr (some (H.length + 5)), .inr (some (H.length + 6)), .inl 0, .inr (some (H.length + 7)), .inr (some (H.length + 8)), .inr (some (H.length + 9)), .inl 0, .inl 0, .inr (some (H.length + 10)), .inr (some (H.length + 11)), .inr (some (H.length + 12)), .inl 0, .inr (some (H.length + 13)), .inr (some (H.length + 14)), .inr (some (H.length + 15)), .inr (some (H.length + 16)), .inl 0, .inr (some (H.length + 17)), .inl 0, .inr (some (H.length + 18)), .inr (some (H.length + 19)), .inr (some (H.length + 20)), .inr (some (H.length + 21)), .inr (some (H.length + 22)), .inr (some (H.length + 23)), .inl 0, .inr (some (H.length + 24)), .inr (some (H.length + 25)), .inr (some (H.length + 26)), .inl 7, .inr (some (H.length + 27)), .inr (some (H.length + 28)), .inr none, .inr none, .inr none])), zr 4, zr 4, zr 4, zr 48, zr 48, zr 48, zr 12, zr 12, zr 12, zr 12, zr 12, zr 12, zr 60, zr 60, zr 60, zr 60, zr 20, zr 6, zr 6, zr 6, zr 6, zr 6, zr 6, zr 10, zr 10, zr 10, zr 12, .inl (1, 156, fun _ => 0), zr 144])) 144 (H.length + 29) rfl rfl (by decide) (List.length_append ..) (List.append_assoc H _ _) ?_
  refine pr_putf rfl (h1 := (H ++ [.inr (.inr (4, [.inl 0, .inr (some (H.length + 1)), .inr (some (H.length + 2)), .inr (some (H.length + 3)), .inr (some (H.length + 4)), .inr (some (H.length + 5)), .inr (some (H.length + 6)), .inl 0, .inr (some (H.length + 7)), .inr (some (H.length + 8)), .inr (some (H.length + 9)), .inl 0, .inl 0, .inr (some (H.length + 10)), .inr (some (H.length + 11)), .inr (some (H.length + 12)), .inl 0, .inr (some (H.length + 13)), .inr (some (H.length + 14)), .inr (some (H.length + 15)), .inr (some (H.length + 16)), .inl 0, .inr (some (H.length + 17)), .inl 0, .inr (some (H.length + 18)), .inr (some (H.length + 19)), .inr (some (H.length + 20)), .inr (some (H.length + 21)), .inr (some (H.length + 22)), .inr (some (H.length + 23)), .inl 0, .inr (some (H.length + 24)), .inr (some (H.length + 25)), .inr (some (H.length + 26)), .inl 7, .inr (some (H.length + 27)), .inr (some (H.length + 28)), .inr (some (H.length + 29)), .inr none, .inr none])), zr 4, zr 4, zr 4, zr 48, zr 48, zr 48, zr 12, zr 12, zr 12, zr 12, zr 12, zr 12, zr 60, zr 60, zr 60, zr 60, zr 20, zr 6, zr 6, zr 6, zr 6, zr 6, zr 6, zr 10, zr 10, zr 10, zr 12, .inl (1, 156, fun _ => 0), zr 144])) (wg0 rfl) (Nat.le_of_ble_eq_true rfl) rfl (wk_set H _ 0 _) ?_
  refine pr_aload_n rfl rfl ?_
  refine pr_push (v := 4) rfl rfl ?_
  refine pr_newi (h1 := (H ++ [.inr (.inr (4, [.inl 0, .inr (some (H.length + 1)), .inr (some (H.length + 2)), .inr (some (H.length + 3)), .inr (some (H.length + 4)), .inr (some (H.length + 5)), .inr (some (H.length + 6)), .inl 0, .inr (some (H.length + 7)), .inr (some (H.length + 8)), .inr (some (H.length + 9)), .inl 0, .inl 0, .inr (some (H.length + 10)), .inr (some (H.length + 11)), .inr (some (H.length + 12)), .inl 0, .inr (some (H.length + 13)), .inr (some (H.length + 14)), .inr (some (H.length + 15)), .inr (some (H.length + 16)), .inl 0, .inr (some (H.length + 17)), .inl 0, .inr (some (H.length + 18)), .inr (some (H.length + 19)), .inr (some (H.length + 20)), .inr (some (H.length + 21)), .inr (some (H.length + 22)), .inr (some (H.length + 23)), .inl 0, .inr (some (H.length + 24)), .inr (some (H.length + 25)), .inr (some (H.length + 26)), .inl 7, .inr (some (H.length + 27)), .inr (some (H.length + 28)), .inr (some (H.length + 29)), .inr none, .inr none])), zr 4, zr 4, zr 4, zr 48, zr 48, zr 48, zr 12, zr 12, zr 12, zr 12, zr 12, zr 12, zr 60, zr 60, zr 60, zr 60, zr 20, zr 6, zr 6, zr 6, zr 6, zr 6, zr 6, zr 10, zr 10, zr 10, zr 12, .inl (1, 156, fun _ => 0), zr 144, zr 4])) 4 (H.length + 30) rfl rfl (by decide) (List.length_append ..) (List.append_assoc H _ _) ?_
  refine pr_putf rfl (h1 := (H ++ [.inr (.inr (4, [.inl 0, .inr (some (H.length + 1)), .inr (some (H.length + 2)), .inr (some (H.length + 3)), .inr (some (H.length + 4)), .inr (some (H.length + 5)), .inr (some (H.length + 6)), .inl 0, .inr (some (H.length + 7)), .inr (some (H.length + 8)), .inr (some (H.length + 9)), .inl 0, .inl 0, .inr (some (H.length + 10)), .inr (some (H.length + 11)), .inr (some (H.length + 12)), .inl 0, .inr (some (H.length + 13)), .inr (some (H.length + 14)), .inr (some (H.length + 15)), .inr (some (H.length + 16)), .inl 0, .inr (some (H.length + 17)), .inl 0, .inr (some (H.length + 18)), .inr (some (H.length + 19)), .inr (some (H.length + 20)), .inr (some (H.length + 21)), .inr (some (H.length + 22)), .inr (some (H.length + 23)), .inl 0, .inr (some (H.length + 24)), .inr (some (H.length + 25)), .inr (some (H.length + 26)), .inl 7, .inr (some (H.length + 27)), .inr (some (H.length + 28)), .inr (some (H.length + 29)), .inr (some (H.length + 30)), .inr none])), zr 4, zr 4, zr 4, zr 48, zr 48, zr 48, zr 12, zr 12, zr 12, zr 12, zr 12, zr 12, zr 60, zr 60, zr 60, zr 60, zr 20, zr 6, zr 6, zr 6, zr 6, zr 6, zr 6, zr 10, zr 10, zr 10, zr 12, .inl (1, 156, fun _ => 0), zr 144, zr 4])) (wg0 rfl) (Nat.le_of_ble_eq_true rfl) rfl (wk_set H _ 0 _) ?_
  refine pr_aload_n rfl rfl ?_
  refine pr_push (v := 12) rfl rfl ?_
  refine pr_newi (h1 := (H ++ [.inr (.inr (4, [.inl 0, .inr (some (H.length + 1)), .inr (some (H.length + 2)), .inr (some (H.length + 3)), .inr (some (H.length + 4)), .inr (some (H.length + 5)), .inr (some (H.length + 6)), .inl 0, .inr (some (H.length + 7)), .inr (some (H.length + 8)), .inr (some (H.length + 9)), .inl 0, .inl 0, .inr (some (H.length + 10)), .inr (some (H.length + 11)), .inr (some (H.length + 12)), .inl 0, .inr (some (H.length + 13)), .inr (some (H.length + 14)), .inr (some (H.length + 15)), .inr (some (H.length + 16)), .inl 0, .inr (some (H.length + 17)), .inl 0, .inr (some (H.length + 18)), .inr (some (H.length + 19)), .inr (some (H.length + 20)), .inr (some (H.length + 21)), .inr (some (H.length + 22)), .inr (some (H.length + 23)), .inl 0, .inr (some (H.length + 24)), .inr (some (H.length + 25)), .inr (some (H.length + 26)), .inl 7, .inr (some (H.length + 27)), .inr (some (H.length + 28)), .inr (some (H.length + 29)), .inr (some (H.length + 30)), .inr none])), zr 4, zr 4, zr 4, zr 48, zr 48, zr 48, zr 12, zr 12, zr 12, zr 12, zr 12, zr 12, zr 60, zr 60, zr 60, zr 60, zr 20, zr 6, zr 6, zr 6, zr 6, zr 6, zr 6, zr 10, zr 10, zr 10, zr 12, .inl (1, 156, fun _ => 0), zr 144, zr 4, zr 12])) 12 (H.length + 31) rfl rfl (by decide) (List.length_append ..) (List.append_assoc H _ _) ?_
  refine pr_putf rfl (h1 := (H ++ [.inr (.inr (4, [.inl 0, .inr (some (H.length + 1)), .inr (some (H.length + 2)), .inr (some (H.length + 3)), .inr (some (H.length + 4)), .inr (some (H.length + 5)), .inr (some (H.length + 6)), .inl 0, .inr (some (H.length + 7)), .inr (some (H.length + 8)), .inr (some (H.length + 9)), .inl 0, .inl 0, .inr (some (H.length + 10)), .inr (some (H.length + 11)), .inr (some (H.length + 12)), .inl 0, .inr (some (H.length + 13)), .inr (some (H.length + 14)), .inr (some (H.length + 15)), .inr (some (H.length + 16)), .inl 0, .inr (some (H.length + 17)), .inl 0, .inr (some (H.length + 18)), .inr (some (H.length + 19)), .inr (some (H.length + 20)), .inr (some (H.length + 21)), .inr (some (H.length + 22)), .inr (some (H.length + 23)), .inl 0, .inr (some (H.length + 24)), .inr (some (H.length + 25)), .inr (some (H.length + 26)), .inl 7, .inr (some (H.length + 27)), .inr (some (H.length + 28)), .inr (some (H.length + 29)), .inr (some (H.length + 30)), .inr (some (H.length + 31))])), zr 4, zr 4, zr 4, zr 48, zr 48, zr 48, zr 12, zr 12, zr 12, zr 12, zr 12, zr 12, zr 60, zr 60, zr 60, zr 60, zr 20, zr 6, zr 6, zr 6, zr 6, zr 6, zr 6, zr 10, zr 10, zr 10, zr 12, .inl (1, 156, fun _ => 0), zr 144, zr 4, zr 12])) (wg0 rfl) (Nat.le_of_ble_eq_true rfl) rfl (wk_set H _ 0 _) ?_
  exact pr_retv rfl rfl (rfl)
def hp_0 (N : Nat) (xs : Nat → Int32) : pw_H := hp_h N xs (fun k => if k = 14 then 7 else 0) 0 0 0 (fun k => if k = 34 then 7 else 0) (fun _ _ => 0) (fun _ => none) (fun _ => none) []
theorem hp_0_eq (N : Nat) (xs : Nat → Int32) : ([.inl (2, N, xs)] ++ bw_c 1) ++ md_c 25 = hp_0 N xs := rfl
end
section
theorem dr_cons {l : pw_H} {k : Nat} {a : pw_C} (h : l[k]? = some a) : l.drop k = a :: l.drop (k + 1) := by
  obtain ⟨h1, h2⟩ := List.getElem?_eq_some_iff.mp h
  rw [List.drop_eq_getElem_cons h1, h2]
/-- a walk among the dynamic cells -/
def wk_at (dy : pw_H) (k : Nat) (x0 y0 : Int32) (D L U C R : Nat → Int32) (n : Nat) (hl hr : Int32) : Prop := dy[k]? = some (.inr (.inr (2, wk_o (57 + k) x0 y0 n hl hr))) ∧ dy[k + 1]? = some (.inl (0, 12, D)) ∧ dy[k + 2]? = some (.inl (0, 12, L)) ∧ dy[k + 3]? = some (.inl (0, 12, U)) ∧ dy[k + 4]? = some (.inl (0, 12, C)) ∧ dy[k + 5]? = some (.inl (0, 12, R))
section WA
variable {dy : pw_H} {k : Nat} {x0 y0 : Int32} {D L U C R : Nat → Int32} {n : Nat} {hl hr : Int32}
theorem wk_split (h : wk_at dy k x0 y0 D L U C R n hl hr) : ∃ pre pst, dy = pre ++ wk_c (57 + k) x0 y0 D L U C R n hl hr pst ∧ pre.length = k := by
  obtain ⟨h0, h1, h2, h3, h4, h5⟩ := h
  have hk : k < dy.length := (List.getElem?_eq_some_iff.mp h0).1
  refine ⟨dy.take k, dy.drop (k + 6), ?_, by rw [List.length_take]; omega⟩
  have e : dy.drop k = wk_c (57 + k) x0 y0 D L U C R n hl hr (dy.drop (k + 6)) := by
    rw [dr_cons h0, dr_cons h1, dr_cons h2, dr_cons h3, dr_cons h4, dr_cons h5]
    rfl
  rw [← e, List.take_append_drop]
theorem wk_join {pre pst : pw_H} (hk : pre.length = k) : wk_at (pre ++ wk_c (57 + k) x0 y0 D L U C R n hl hr pst) k x0 y0 D L U C R n hl hr := by
  subst hk
  exact ⟨wk_get pre _ 0, wk_get pre _ 1, wk_get pre _ 2, wk_get pre _ 3, wk_get pre _ 4, wk_get pre _ 5⟩
theorem wk_frame {pre pst : pw_H} {x1 y1 : Int32} {D1 L1 U1 C1 R1 : Nat → Int32} {n1 : Nat} {hl1 hr1 : Int32} (hk : pre.length = k) : ∀ b, (b < k ∨ k + 5 < b) → (pre ++ wk_c (57 + k) x0 y0 D L U C R n hl hr pst)[b]? = (pre ++ wk_c (57 + k) x1 y1 D1 L1 U1 C1 R1 n1 hl1 hr1 pst)[b]? := by
  intro b hb
  rcases hb with h | h
  · rw [List.getElem?_append_left (by omega), List.getElem?_append_left (by omega)]
  · obtain ⟨c, rfl⟩ : ∃ c, b = pre.length + (c + 6) := ⟨b - k - 6, by omega⟩
    rw [wk_get, wk_get]
    rfl
end WA
section WB
variable {N : Nat} {xs : Nat → Int32} {zc zm : Nat → Int32} {e3 e11 e18 : Nat} {A : Nat → Nat → Int32} {g gh : Nat → Option Nat} {dy : pw_H} {k : Nat} {x0 y0 : Int32} {D L U C R : Nat → Int32} {n : Nat} {hl hr : Int32}
theorem wk_hp {pre pst : pw_H} (hk : pre.length = k) : (hp_h N xs zc e3 e11 e18 zm A g gh (pre ++ wk_c (57 + k) x0 y0 D L U C R n hl hr pst)) = wk_h (hp_h N xs zc e3 e11 e18 zm A g gh pre) pst x0 y0 D L U C R n hl hr := by
  subst hk
  rw [wk_h, hp_len, hp_app]
theorem hp_ln {pre : pw_H} (hk : pre.length = k) : (hp_h N xs zc e3 e11 e18 zm A g gh pre).length = 57 + k := by rw [hp_len, hk]
end WB
theorem k_11 (d : Nat) {N : Nat} {xs : Nat → Int32} {zc zm : Nat → Int32} {e3 e11 e18 : Nat} {A : Nat → Nat → Int32} {g gh : Nat → Option Nat} {dy : pw_H} {k : Nat} {x0 y0 : Int32} {D L U C R : Nat → Int32} {n : Nat} {hr : Int32} (B : Prop) [Decidable B] (hat : wk_at dy k x0 y0 D L U C R n (pw_b B) hr) (hn : n ≤ 12) (i : Nat) (hi : i < n) : pw_M (d + 1) 11 [.inr (some (57 + k)), .inl (nI i)] (hp_h N xs zc e3 e11 e18 zm A g gh dy) (pw_qi (pw_is (hp_h N xs zc e3 e11 e18 zm A g gh dy) (if B then C i else -1))) := by
  obtain ⟨pre, pst, rfl, hk⟩ := wk_split hat
  rw [wk_hp hk, ← hp_ln (N := N) (xs := xs) (zc := zc) (e3 := e3) (e11 := e11) (e18 := e18) (zm := zm) (A := A) (g := g) (gh := gh) hk]
  exact c_11 d hn B i hi
theorem k_12 (d : Nat) {N : Nat} {xs : Nat → Int32} {zc zm : Nat → Int32} {e3 e11 e18 : Nat} {A : Nat → Nat → Int32} {g gh : Nat → Option Nat} {dy : pw_H} {k : Nat} {x0 y0 : Int32} {D L U C R : Nat → Int32} {n : Nat} {hl hr : Int32} (hat : wk_at dy k x0 y0 D L U C R n hl hr) (x y : Nat) (hx : x < 12) (hy : y < 12) : pw_M (d + 2) 12 [.inr (some (57 + k)), .inl (nI x), .inl (nI y)] (hp_h N xs zc e3 e11 e18 zm A g gh dy) (pw_qi (pw_is (hp_h N xs zc e3 e11 e18 zm A g gh dy) (pw_b ((R y >>> (nI x &&& 31)) &&& 1 = 1)))) := by
  obtain ⟨pre, pst, rfl, hk⟩ := wk_split hat
  rw [wk_hp hk, ← hp_ln (N := N) (xs := xs) (zc := zc) (e3 := e3) (e11 := e11) (e18 := e18) (zm := zm) (A := A) (g := g) (gh := gh) hk]
  exact c_12 d x y hx hy
theorem k_13 (d : Nat) {N : Nat} {xs : Nat → Int32} {zc zm : Nat → Int32} {e3 e11 e18 : Nat} {A : Nat → Nat → Int32} {g gh : Nat → Option Nat} {dy : pw_H} {k : Nat} {x0 y0 : Int32} {D L U C R : Nat → Int32} {n : Nat} {hl : Int32} (B : Prop) [Decidable B] (hat : wk_at dy k x0 y0 D L U C R n hl (pw_b B)) : pw_M (d + 1) 13 [.inr (some (57 + k))] (hp_h N xs zc e3 e11 e18 zm A g gh dy) (pw_qi (pw_is (hp_h N xs zc e3 e11 e18 zm A g gh dy) (if B then fi_run R 12 else -1))) := by
  obtain ⟨pre, pst, rfl, hk⟩ := wk_split hat
  rw [wk_hp hk, ← hp_ln (N := N) (xs := xs) (zc := zc) (e3 := e3) (e11 := e11) (e18 := e18) (zm := zm) (A := A) (g := g) (gh := gh) hk]
  exact c_13 d B
theorem k_9 (d : Nat) {N : Nat} {xs : Nat → Int32} {zc zm : Nat → Int32} {e3 e11 e18 : Nat} {A : Nat → Nat → Int32} {g gh : Nat → Option Nat} {dy : pw_H} {k : Nat} {x0 y0 : Int32} {D L U C R : Nat → Int32} {n : Nat} {hl hr : Int32} (hat : wk_at dy k x0 y0 D L U C R n hl hr) (e l u : Int32) (hn : n < 12) (hw : wl_ok (iT (upd D n e)) (iT (upd L n l)) (iT (upd U n u)) (n + 1)) (hx0 : 0 ≤ x0.toInt ∧ x0.toInt ≤ 12) (hy0 : 0 ≤ y0.toInt ∧ y0.toInt ≤ 12) : pw_M (d + 4) 9 [.inr (some (57 + k)), .inl e, .inl l, .inl u] (hp_h N xs zc e3 e11 e18 zm A g gh dy) (pw_qv (fun h' => ∃ (dy2 : pw_H) (C2 R2 : Nat → Int32), h' = (hp_h N xs zc e3 e11 e18 zm A g gh dy2) ∧ wk_at dy2 k x0 y0 (upd D n e) (upd L n l) (upd U n u) C2 R2 (n + 1) (pw_b (wk_fe (upd D n e) (upd L n l) (upd U n u) (n + 1))) (pw_b (wk_rg (upd D n e) (upd L n l) (upd U n u) (n + 1) x0 y0)) ∧ wk_res (upd D n e) (upd L n l) (upd U n u) C2 R2 (n + 1) x0 y0 ∧ dy2.length = dy.length ∧ ∀ b, (b < k ∨ k + 5 < b) → dy2[b]? = dy[b]?)) := by
  obtain ⟨pre, pst, rfl, hk⟩ := wk_split hat
  have hln := hp_ln (N := N) (xs := xs) (zc := zc) (e3 := e3) (e11 := e11) (e18 := e18) (zm := zm) (A := A) (g := g) (gh := gh) hk
  refine pr_post (Q' := pw_qv (fun h' => ∃ C2 R2 : Nat → Int32, h' = wk_h (hp_h N xs zc e3 e11 e18 zm A g gh pre) pst x0 y0 (upd D n e) (upd L n l) (upd U n u) C2 R2 (n + 1) (pw_b (wk_fe (upd D n e) (upd L n l) (upd U n u) (n + 1))) (pw_b (wk_rg (upd D n e) (upd L n l) (upd U n u) (n + 1) x0 y0)) ∧ wk_res (upd D n e) (upd L n l) (upd U n u) C2 R2 (n + 1) x0 y0)) ?_ (fun r h1 hq => ?_)
  · rw [wk_hp hk, ← hln]
    exact c_9 d e l u hn hw hx0 hy0
  · obtain ⟨e1, C2, R2, e2, e3x⟩ := hq
    refine ⟨e1, _, C2, R2, e2.trans (wk_hp hk).symm, wk_join hk, e3x, ?_, wk_frame hk⟩
    rw [List.length_append, List.length_append]
    rfl
theorem k_10 (d : Nat) {N : Nat} {xs : Nat → Int32} {zc zm : Nat → Int32} {e3 e11 e18 : Nat} {A : Nat → Nat → Int32} {g gh : Nat → Option Nat} {dy : pw_H} {k : Nat} {x0 y0 : Int32} {D L U C R : Nat → Int32} {n : Nat} {hl hr : Int32} (hat : wk_at dy k x0 y0 D L U C R n hl hr) (hn : 0 < n) (hn2 : n ≤ 12) (hw : wl_ok (iT D) (iT L) (iT U) (n - 1)) (hx0 : 0 ≤ x0.toInt ∧ x0.toInt ≤ 12) (hy0 : 0 ≤ y0.toInt ∧ y0.toInt ≤ 12) : pw_M (d + 4) 10 [.inr (some (57 + k))] (hp_h N xs zc e3 e11 e18 zm A g gh dy) (pw_qv (fun h' => ∃ (dy2 : pw_H) (C2 R2 : Nat → Int32), h' = (hp_h N xs zc e3 e11 e18 zm A g gh dy2) ∧ wk_at dy2 k x0 y0 D L U C2 R2 (n - 1) (pw_b (wk_fe D L U (n - 1))) (pw_b (wk_rg D L U (n - 1) x0 y0)) ∧ wk_res D L U C2 R2 (n - 1) x0 y0 ∧ dy2.length = dy.length ∧ ∀ b, (b < k ∨ k + 5 < b) → dy2[b]? = dy[b]?)) := by
  obtain ⟨pre, pst, rfl, hk⟩ := wk_split hat
  have hln := hp_ln (N := N) (xs := xs) (zc := zc) (e3 := e3) (e11 := e11) (e18 := e18) (zm := zm) (A := A) (g := g) (gh := gh) hk
  refine pr_post (Q' := pw_qv (fun h' => ∃ C2 R2 : Nat → Int32, h' = wk_h (hp_h N xs zc e3 e11 e18 zm A g gh pre) pst x0 y0 D L U C2 R2 (n - 1) (pw_b (wk_fe D L U (n - 1))) (pw_b (wk_rg D L U (n - 1) x0 y0)) ∧ wk_res D L U C2 R2 (n - 1) x0 y0)) ?_ (fun r h1 hq => ?_)
  · rw [wk_hp hk, ← hln]
    exact c_10 d hn hn2 hw hx0 hy0
  · obtain ⟨e1, C2, R2, e2, e3x⟩ := hq
    refine ⟨e1, _, C2, R2, e2.trans (wk_hp hk).symm, wk_join hk, e3x, ?_, wk_frame hk⟩
    rw [List.length_append, List.length_append]
    rfl
end
section
abbrev lc_3 := @c_3
abbrev lc_4 := @c_4
abbrev lc_5 := @c_5
abbrev lc_6 := @c_6
abbrev lc_8 := @c_8
theorem c_33 (d : Nat) {N : Nat} {xs : Nat → Int32} {zc zm : Nat → Int32} {e3 e11 e18 : Nat} {A : Nat → Nat → Int32} {g gh : Nat → Option Nat} {dy : pw_H} (Y : Nat) (hY : zc 3 = nI Y) (hYb : Y ≤ 300)  (n : Int32) : pw_M (d + 2) 33 [.inr (some 1), .inl n] (hp_h N xs zc e3 e11 e18 zm A g gh dy) (pw_qi (fun r h' => ((¬ pw_bt n 1 50 ∨ 300 < (Y : Int) + n.toInt) ∧ r = -2 ∧ h' = (hp_h N xs zc e3 e11 e18 zm A g gh dy)) ∨ (pw_bt n 1 50 ∧ (Y : Int) + n.toInt ≤ 300 ∧ r = zc 3 + n ∧ h' = (hp_h N xs (upd zc 3 (zc 3 + n)) e3 e11 e18 zm A g gh dy)))) := by
  have z0 := pz_0
  have z1 := pz_1
  have z2 := pz_2
  have z3 := pz_3
  have z4 := pz_4
  have z6 := pz_6
  have z7 := pz_7
  have z10 := pz_10
  have z11 := pz_11
  have z12 := pz_12
  have z20 := pz_20
  have z30 := pz_30
  have z50 := pz_50
  have z60 := pz_60
  have z80 := pz_80
  have z300 := pz_300
  have hYT : (zc 3).toInt = (Y : Int) := by rw [hY]; exact pw_T (by omega)
  have hYP : (zc 3 - 1).toInt = (Y : Int) - 1 := by rw [hY]; exact pw_pred (by omega)
  refine pr_iload_n rfl rfl ?_
  refine pr_push (v := 1) rfl rfl ?_
  refine pr_push (v := 50) rfl rfl ?_
  refine pr_si3 rfl (by decide) (Nat.le_of_ble_eq_true rfl) (Nat.le_of_ble_eq_true rfl) (c_48 _ _ _ _ _) (fun r_4 h_4 q_4 => ?_)
  obtain ⟨rfl, rfl⟩ := q_4
  refine pr_b_eq rfl (fun c_7 => ?_) (fun c_7 => ?_)
  · skip
    refine pr_push (v := (-2)) rfl rfl ?_
    exact pr_reti rfl rfl (Or.inl ⟨by omega, rfl, rfl⟩)
  · skip
    refine pr_aload_n rfl rfl ?_
    refine pr_getf rfl rfl rfl ?_
    refine pr_iload_n rfl rfl ?_
    refine pr_step rfl rfl rfl rfl ?_
    have hs : (zc 3 + n).toInt = (Y : Int) + n.toInt := by
      rw [pw_addT (by omega) (by omega)]
      omega
    refine pr_push (v := 300) rfl rfl ?_
    refine pr_c_le rfl (fun c_19 => ?_) (fun c_19 => ?_)
    · skip
      refine pr_aload_n rfl rfl ?_
      refine pr_step rfl rfl rfl rfl ?_
      refine pr_getf rfl rfl rfl ?_
      refine pr_iload_n rfl rfl ?_
      refine pr_step rfl rfl rfl rfl ?_
      refine pr_putf rfl rfl (Nat.le_of_ble_eq_true rfl) rfl hs_c3 ?_
      refine pr_aload_n rfl rfl ?_
      refine pr_getf rfl rfl rfl ?_
      exact pr_reti rfl rfl (Or.inr ⟨by omega, by omega, rfl, rfl⟩)
    · skip
      refine pr_push (v := (-2)) rfl rfl ?_
      exact pr_reti rfl rfl (Or.inl ⟨by omega, rfl, rfl⟩)
theorem c_34 (d : Nat) {N : Nat} {xs : Nat → Int32} {zc zm : Nat → Int32} {e3 e11 e18 : Nat} {A : Nat → Nat → Int32} {g gh : Nat → Option Nat} {dy : pw_H} (S : Nat) (hS : zc 7 = nI S) (hSb : S ≤ 12)  (x y : Int32) : pw_M (d + 2) 34 [.inr (some 1), .inl x, .inl y] (hp_h N xs zc e3 e11 e18 zm A g gh dy) (pw_qi (fun r h' => (¬ pw_pt x y ∧ r = -2 ∧ h' = (hp_h N xs zc e3 e11 e18 zm A g gh dy)) ∨ (¬ (¬ pw_pt x y) ∧ S = 12 ∧ r = -4 ∧ h' = (hp_h N xs zc e3 e11 e18 zm A g gh dy)) ∨ (¬ (¬ pw_pt x y) ∧ ¬ (S = 12) ∧ r = nI S ∧ h' = (hp_h N xs (upd zc 7 (nI (S + 1))) e3 e11 e18 zm (uA (uA (uA A 8 (upd (A 8) S (100 * x + y))) 9 (upd (A 9) S (zc 3))) 10 (upd (A 10) S (zc 3))) g gh dy)))) := by
  have z0 := pz_0
  have z1 := pz_1
  have z2 := pz_2
  have z3 := pz_3
  have z4 := pz_4
  have z6 := pz_6
  have z7 := pz_7
  have z10 := pz_10
  have z11 := pz_11
  have z12 := pz_12
  have z20 := pz_20
  have z30 := pz_30
  have z50 := pz_50
  have z60 := pz_60
  have z80 := pz_80
  have z300 := pz_300
  have hST : (zc 7).toInt = (S : Int) := by rw [hS]; exact pw_T (by omega)
  have hSP : (zc 7 - 1).toInt = (S : Int) - 1 := by rw [hS]; exact pw_pred (by omega)
  refine pr_iload_n rfl rfl ?_
  refine pr_iload_n rfl rfl ?_
  refine pr_si2 rfl (by decide) (Nat.le_of_ble_eq_true rfl) (Nat.le_of_ble_eq_true rfl) (c_49 _ _ _ _) (fun r_2 h_2 q_2 => ?_)
  obtain ⟨rfl, rfl⟩ := q_2
  refine pr_b_ne rfl (fun c_5 => ?_) (fun c_5 => ?_)
  · skip
    refine pr_aload_n rfl rfl ?_
    refine pr_getf rfl rfl rfl ?_
    refine pr_push (v := 12) rfl rfl ?_
    refine pr_c_lt rfl (fun c_17 => ?_) (fun c_17 => ?_)
    · skip
      refine pr_aload_n rfl rfl ?_
      refine pr_getf rfl rfl rfl ?_
      refine pr_aload_n rfl rfl ?_
      refine pr_getf rfl rfl rfl ?_
      refine pr_iload_n rfl rfl ?_
      refine pr_iload_n rfl rfl ?_
      refine pr_si2 rfl (by decide) (Nat.le_of_ble_eq_true rfl) (Nat.le_of_ble_eq_true rfl) (c_54 _ _ _ _) (fun r_33 h_33 q_33 => ?_)
      obtain ⟨rfl, rfl⟩ := q_33
      refine pr_iast (S) rfl rfl (by decide) hS (by omega) hs_a8 ?_
      refine pr_aload_n rfl rfl ?_
      refine pr_getf rfl rfl rfl ?_
      refine pr_aload_n rfl rfl ?_
      refine pr_getf rfl rfl rfl ?_
      refine pr_aload_n rfl rfl ?_
      refine pr_getf rfl rfl rfl ?_
      refine pr_iast (S) rfl rfl (by decide) hS (by omega) hs_a9 ?_
      refine pr_aload_n rfl rfl ?_
      refine pr_getf rfl rfl rfl ?_
      refine pr_aload_n rfl rfl ?_
      refine pr_getf rfl rfl rfl ?_
      refine pr_aload_n rfl rfl ?_
      refine pr_getf rfl rfl rfl ?_
      refine pr_iast (S) rfl rfl (by decide) hS (by omega) hs_a10 ?_
      refine pr_aload_n rfl rfl ?_
      refine pr_step rfl rfl rfl rfl ?_
      refine pr_getf rfl rfl rfl ?_
      refine pr_step rfl rfl rfl rfl ?_
      refine pr_push (v := 1) rfl rfl ?_
      refine pr_step rfl rfl rfl rfl ?_
      refine pr_top (pw_s hS) ?_
      refine pr_putf rfl rfl (Nat.le_of_ble_eq_true rfl) rfl hs_c7 ?_
      exact pr_reti rfl rfl (Or.inr (Or.inr ⟨by omega, by omega, hS, rfl⟩))
    · skip
      refine pr_push (v := (-4)) rfl rfl ?_
      exact pr_reti rfl rfl (Or.inr (Or.inl ⟨by omega, by omega, rfl, rfl⟩))
  · skip
    refine pr_push (v := (-2)) rfl rfl ?_
    exact pr_reti rfl rfl (Or.inl ⟨by omega, rfl, rfl⟩)
theorem c_38 (d : Nat) {N : Nat} {xs : Nat → Int32} {zc zm : Nat → Int32} {e3 e11 e18 : Nat} {A : Nat → Nat → Int32} {g gh : Nat → Option Nat} {dy : pw_H} (W : Nat) (hW : zc 10 = nI W) (hWb : W ≤ 20)  (y : Int32) : pw_M (d + 2) 38 [.inr (some 1), .inl y] (hp_h N xs zc e3 e11 e18 zm A g gh dy) (pw_qi (fun r h' => (¬ pw_yr y ∧ r = -2 ∧ h' = (hp_h N xs zc e3 e11 e18 zm A g gh dy)) ∨ (¬ (¬ pw_yr y) ∧ W = 20 ∧ r = -4 ∧ h' = (hp_h N xs zc e3 e11 e18 zm A g gh dy)) ∨ (¬ (¬ pw_yr y) ∧ ¬ (W = 20) ∧ r = nI W ∧ h' = (hp_h N xs (upd zc 10 (nI (W + 1))) e3 e11 e18 zm (uA A 16 (upd (A 16) W y)) g gh dy)))) := by
  have z0 := pz_0
  have z1 := pz_1
  have z2 := pz_2
  have z3 := pz_3
  have z4 := pz_4
  have z6 := pz_6
  have z7 := pz_7
  have z10 := pz_10
  have z11 := pz_11
  have z12 := pz_12
  have z20 := pz_20
  have z30 := pz_30
  have z50 := pz_50
  have z60 := pz_60
  have z80 := pz_80
  have z300 := pz_300
  have hWT : (zc 10).toInt = (W : Int) := by rw [hW]; exact pw_T (by omega)
  have hWP : (zc 10 - 1).toInt = (W : Int) - 1 := by rw [hW]; exact pw_pred (by omega)
  refine pr_iload_n rfl rfl ?_
  refine pr_si1 rfl (by decide) (Nat.le_of_ble_eq_true rfl) (Nat.le_of_ble_eq_true rfl) (c_51 _ _ _) (fun r_1 h_1 q_1 => ?_)
  obtain ⟨rfl, rfl⟩ := q_1
  refine pr_b_ne rfl (fun c_4 => ?_) (fun c_4 => ?_)
  · skip
    refine pr_aload_n rfl rfl ?_
    refine pr_getf rfl rfl rfl ?_
    refine pr_push (v := 20) rfl rfl ?_
    refine pr_c_lt rfl (fun c_16 => ?_) (fun c_16 => ?_)
    · skip
      refine pr_aload_n rfl rfl ?_
      refine pr_getf rfl rfl rfl ?_
      refine pr_aload_n rfl rfl ?_
      refine pr_getf rfl rfl rfl ?_
      refine pr_iload_n rfl rfl ?_
      refine pr_iast (W) rfl rfl (by decide) hW (by omega) hs_a16 ?_
      refine pr_aload_n rfl rfl ?_
      refine pr_step rfl rfl rfl rfl ?_
      refine pr_getf rfl rfl rfl ?_
      refine pr_step rfl rfl rfl rfl ?_
      refine pr_push (v := 1) rfl rfl ?_
      refine pr_step rfl rfl rfl rfl ?_
      refine pr_top (pw_s hW) ?_
      refine pr_putf rfl rfl (Nat.le_of_ble_eq_true rfl) rfl hs_c10 ?_
      exact pr_reti rfl rfl (Or.inr (Or.inr ⟨by omega, by omega, hW, rfl⟩))
    · skip
      refine pr_push (v := (-4)) rfl rfl ?_
      exact pr_reti rfl rfl (Or.inr (Or.inl ⟨by omega, by omega, rfl, rfl⟩))
  · skip
    refine pr_push (v := (-2)) rfl rfl ?_
    exact pr_reti rfl rfl (Or.inl ⟨by omega, rfl, rfl⟩)
theorem c_44 (d : Nat) {N : Nat} {xs : Nat → Int32} {zc zm : Nat → Int32} {e3 e11 e18 : Nat} {A : Nat → Nat → Int32} {g gh : Nat → Option Nat} {dy : pw_H}   (v : Int32) : pw_M (d + 2) 44 [.inr (some 1), .inl v] (hp_h N xs zc e3 e11 e18 zm A g gh dy) (pw_qi (fun r h' => (¬ pw_bt v 1 20 ∧ r = -2 ∧ h' = (hp_h N xs zc e3 e11 e18 zm A g gh dy)) ∨ (pw_bt v 1 20 ∧ r = zc 14 ∧ h' = (hp_h N xs (upd zc 14 v) e3 e11 e18 zm A g gh dy)))) := by
  have z0 := pz_0
  have z1 := pz_1
  have z2 := pz_2
  have z3 := pz_3
  have z4 := pz_4
  have z6 := pz_6
  have z7 := pz_7
  have z10 := pz_10
  have z11 := pz_11
  have z12 := pz_12
  have z20 := pz_20
  have z30 := pz_30
  have z50 := pz_50
  have z60 := pz_60
  have z80 := pz_80
  have z300 := pz_300

  refine pr_iload_n rfl rfl ?_
  refine pr_push (v := 1) rfl rfl ?_
  refine pr_push (v := 20) rfl rfl ?_
  refine pr_si3 rfl (by decide) (Nat.le_of_ble_eq_true rfl) (Nat.le_of_ble_eq_true rfl) (c_48 _ _ _ _ _) (fun r_4 h_4 q_4 => ?_)
  obtain ⟨rfl, rfl⟩ := q_4
  refine pr_b_ne rfl (fun c_7 => ?_) (fun c_7 => ?_)
  · skip
    refine pr_aload_n rfl rfl ?_
    refine pr_getf rfl rfl rfl ?_
    refine pr_istore_n rfl (Nat.le_of_ble_eq_true rfl) rfl ?_
    refine pr_aload_n rfl rfl ?_
    refine pr_iload_n rfl rfl ?_
    refine pr_putf rfl rfl (Nat.le_of_ble_eq_true rfl) rfl hs_c14 ?_
    refine pr_iload_n rfl rfl ?_
    exact pr_reti rfl rfl (Or.inr ⟨by assumption, rfl, rfl⟩)
  · skip
    refine pr_push (v := (-2)) rfl rfl ?_
    exact pr_reti rfl rfl (Or.inl ⟨by assumption, rfl, rfl⟩)
theorem c_47 (d : Nat) {N : Nat} {xs : Nat → Int32} {zc zm : Nat → Int32} {e3 e11 e18 : Nat} {A : Nat → Nat → Int32} {g gh : Nat → Option Nat} {dy : pw_H} (x : Int32) : pw_M (d + 1) 47 [.inr (some 1), .inl x] (hp_h N xs zc e3 e11 e18 zm A g gh dy) (pw_qi (fun r h' => r = ct_of (fun k => match k with | 0 => zc 1 | 1 => zc 3 | 2 => zc 7 | 3 => nI e11 | 4 => zc 10 | 5 => zc 12 | 6 => nI e3 | _ => nI e18) x ∧ h' = (hp_h N xs zc e3 e11 e18 zm A g gh dy))) := by
  refine pr_iload_n rfl rfl ?_
  refine pr_switch rfl (fun hx => ?_) (fun j u hj hu hx => ?_) (by decide)
  · refine pr_push (v := (-2)) rfl rfl ?_
    exact pr_reti rfl rfl ⟨by unfold ct_of; simp only [show ¬ x.toInt = 0 by omega, show ¬ x.toInt = 1 by omega, show ¬ x.toInt = 2 by omega, show ¬ x.toInt = 3 by omega, show ¬ x.toInt = 4 by omega, show ¬ x.toInt = 5 by omega, show ¬ x.toInt = 6 by omega, show ¬ x.toInt = 7 by omega, if_false], rfl⟩
  · match j, hj, hu with
    | 0, hj, hu =>
      obtain rfl := Option.some.inj hu
      refine pr_aload_n rfl rfl ?_
      refine pr_getf rfl rfl rfl ?_
      exact pr_reti rfl rfl (⟨by unfold ct_of; rw [hj]; rfl, rfl⟩)
    | 1, hj, hu =>
      obtain rfl := Option.some.inj hu
      refine pr_aload_n rfl rfl ?_
      refine pr_getf rfl rfl rfl ?_
      exact pr_reti rfl rfl (⟨by unfold ct_of; rw [hj]; rfl, rfl⟩)
    | 2, hj, hu =>
      obtain rfl := Option.some.inj hu
      refine pr_aload_n rfl rfl ?_
      refine pr_getf rfl rfl rfl ?_
      exact pr_reti rfl rfl (⟨by unfold ct_of; rw [hj]; rfl, rfl⟩)
    | 3, hj, hu =>
      obtain rfl := Option.some.inj hu
      refine pr_aload_n rfl rfl ?_
      refine pr_getf rfl rfl rfl ?_
      refine pr_vi0 rfl (by decide) (Nat.le_of_ble_eq_true rfl) rfl (Nat.le_of_ble_eq_true rfl) (lc_3 _ _ 11 _ _ rfl rfl) (fun r_67 h_67 q_67 => ?_)
      obtain ⟨rfl, rfl⟩ := q_67
      exact pr_reti rfl rfl (⟨by unfold ct_of; rw [hj]; rfl, rfl⟩)
    | 4, hj, hu =>
      obtain rfl := Option.some.inj hu
      refine pr_aload_n rfl rfl ?_
      refine pr_getf rfl rfl rfl ?_
      exact pr_reti rfl rfl (⟨by unfold ct_of; rw [hj]; rfl, rfl⟩)
    | 5, hj, hu =>
      obtain rfl := Option.some.inj hu
      refine pr_aload_n rfl rfl ?_
      refine pr_getf rfl rfl rfl ?_
      exact pr_reti rfl rfl (⟨by unfold ct_of; rw [hj]; rfl, rfl⟩)
    | 6, hj, hu =>
      obtain rfl := Option.some.inj hu
      refine pr_aload_n rfl rfl ?_
      refine pr_getf rfl rfl rfl ?_
      refine pr_vi0 rfl (by decide) (Nat.le_of_ble_eq_true rfl) rfl (Nat.le_of_ble_eq_true rfl) (lc_3 _ _ 3 _ _ rfl rfl) (fun r_85 h_85 q_85 => ?_)
      obtain ⟨rfl, rfl⟩ := q_85
      exact pr_reti rfl rfl (⟨by unfold ct_of; rw [hj]; rfl, rfl⟩)
    | 7, hj, hu =>
      obtain rfl := Option.some.inj hu
      refine pr_aload_n rfl rfl ?_
      refine pr_getf rfl rfl rfl ?_
      refine pr_vi0 rfl (by decide) (Nat.le_of_ble_eq_true rfl) rfl (Nat.le_of_ble_eq_true rfl) (lc_3 _ _ 18 _ _ rfl rfl) (fun r_93 h_93 q_93 => ?_)
      obtain ⟨rfl, rfl⟩ := q_93
      exact pr_reti rfl rfl (⟨by unfold ct_of; rw [hj]; rfl, rfl⟩)
    | j + 8, hj, hu => exact absurd hx (by omega)
theorem c_30 (d : Nat) {N : Nat} {xs : Nat → Int32} {zc zm : Nat → Int32} {e3 e11 e18 : Nat} {A : Nat → Nat → Int32} {g gh : Nat → Option Nat} {dy : pw_H} (P : Nat) (hP : zc 1 = nI P) (hPb : P ≤ 4) (he3 : e3 ≤ 12) (one two y x z to : Int32) : pw_M (d + 2) 30 [.inr (some 1), .inl one, .inl two, .inl y, .inl x, .inl z, .inl to] (hp_h N xs zc e3 e11 e18 zm A g gh dy) (pw_qi (fun r h' => (¬ (pw_bt one 0 (zc 1 - 1) ∧ pw_bt two 0 (zc 1 - 1) ∧ ¬ one.toInt = two.toInt ∧ pw_yr y ∧ pw_fd x z ∧ (to.toInt = one.toInt ∨ to.toInt = two.toInt)) ∧ r = -2 ∧ h' = (hp_h N xs zc e3 e11 e18 zm A g gh dy)) ∨ (¬ (¬ (pw_bt one 0 (zc 1 - 1) ∧ pw_bt two 0 (zc 1 - 1) ∧ ¬ one.toInt = two.toInt ∧ pw_yr y ∧ pw_fd x z ∧ (to.toInt = one.toInt ∨ to.toInt = two.toInt))) ∧ e3 = 12 ∧ r = -4 ∧ h' = (hp_h N xs zc e3 e11 e18 zm A g gh dy)) ∨ (¬ (¬ (pw_bt one 0 (zc 1 - 1) ∧ pw_bt two 0 (zc 1 - 1) ∧ ¬ one.toInt = two.toInt ∧ pw_yr y ∧ pw_fd x z ∧ (to.toInt = one.toInt ∨ to.toInt = two.toInt))) ∧ ¬ (e3 = 12) ∧ r = nI e3 ∧ h' = (hp_h N xs zc (e3 + 1) e11 e18 zm (uA (uA (uA (uA A 4 (upd (A 4) e3 (12 * z + x))) 5 (upd (A 5) e3 y)) 6 (upd (A 6) e3 (zc 3))) 7 (upd (A 7) e3 to)) g gh dy)))) := by
  have z0 := pz_0
  have z1 := pz_1
  have z2 := pz_2
  have z3 := pz_3
  have z4 := pz_4
  have z6 := pz_6
  have z7 := pz_7
  have z10 := pz_10
  have z11 := pz_11
  have z12 := pz_12
  have z20 := pz_20
  have z30 := pz_30
  have z50 := pz_50
  have z60 := pz_60
  have z80 := pz_80
  have z300 := pz_300
  have hPT : (zc 1).toInt = (P : Int) := by rw [hP]; exact pw_T (by omega)
  have hPP : (zc 1 - 1).toInt = (P : Int) - 1 := by rw [hP]; exact pw_pred (by omega)
  refine pr_aload_n rfl rfl ?_
  refine pr_iload_n rfl rfl ?_
  refine pr_vi1 rfl (by decide) (Nat.le_of_ble_eq_true rfl) rfl (Nat.le_of_ble_eq_true rfl) (c_52 _ _ 1 (hp_c zc) (zc 1) _ rfl rfl) (fun r_2 h_2 q_2 => ?_)
  obtain ⟨rfl, rfl⟩ := q_2
  refine pr_b_eq rfl (fun c_5 => ?_) (fun c_5 => ?_)
  · skip
    refine pr_push (v := (-2)) rfl rfl ?_
    exact pr_reti rfl rfl (Or.inl ⟨by omega, rfl, rfl⟩)
  · skip
    refine pr_aload_n rfl rfl ?_
    refine pr_iload_n rfl rfl ?_
    refine pr_vi1 rfl (by decide) (Nat.le_of_ble_eq_true rfl) rfl (Nat.le_of_ble_eq_true rfl) (c_52 _ _ 1 (hp_c zc) (zc 1) _ rfl rfl) (fun r_10 h_10 q_10 => ?_)
    obtain ⟨rfl, rfl⟩ := q_10
    refine pr_b_eq rfl (fun c_13 => ?_) (fun c_13 => ?_)
    · skip
      refine pr_push (v := (-2)) rfl rfl ?_
      exact pr_reti rfl rfl (Or.inl ⟨by omega, rfl, rfl⟩)
    · skip
      refine pr_iload_n rfl rfl ?_
      refine pr_iload_n rfl rfl ?_
      refine pr_u_eq rfl (fun c_18 => ?_) (fun c_18 => ?_)
      · skip
        refine pr_push (v := (-2)) rfl rfl ?_
        exact pr_reti rfl rfl (Or.inl ⟨by omega, rfl, rfl⟩)
      · skip
        refine pr_iload rfl rfl ?_
        refine pr_iload_n rfl rfl ?_
        refine pr_u_eq rfl (fun c_24 => ?_) (fun c_24 => ?_)
        · skip
          refine pr_iload_n rfl rfl ?_
          refine pr_si1 rfl (by decide) (Nat.le_of_ble_eq_true rfl) (Nat.le_of_ble_eq_true rfl) (c_51 _ _ _) (fun r_34 h_34 q_34 => ?_)
          obtain ⟨rfl, rfl⟩ := q_34
          refine pr_b_eq rfl (fun c_37 => ?_) (fun c_37 => ?_)
          · skip
            refine pr_push (v := (-2)) rfl rfl ?_
            exact pr_reti rfl rfl (Or.inl ⟨by omega, rfl, rfl⟩)
          · skip
            refine pr_iload rfl rfl ?_
            refine pr_iload rfl rfl ?_
            refine pr_si2 rfl (by decide) (Nat.le_of_ble_eq_true rfl) (Nat.le_of_ble_eq_true rfl) (c_50 _ _ _ _) (fun r_44 h_44 q_44 => ?_)
            obtain ⟨rfl, rfl⟩ := q_44
            refine pr_b_ne rfl (fun c_47 => ?_) (fun c_47 => ?_)
            · skip
              refine pr_aload_n rfl rfl ?_
              refine pr_getf rfl rfl rfl ?_
              refine pr_vi0 rfl (by decide) (Nat.le_of_ble_eq_true rfl) rfl (Nat.le_of_ble_eq_true rfl) (lc_4 _ _ 3 4 5 6 7 12 e3 _ _ _ _ (hl_3 he3)) (fun r_57 h_57 q_57 => ?_)
              obtain ⟨rfl, rfl⟩ := q_57
              refine pr_b_eq rfl (fun c_60 => ?_) (fun c_60 => ?_)
              · skip
                refine pr_aload_n rfl rfl ?_
                refine pr_getf rfl rfl rfl ?_
                refine pr_iload rfl rfl ?_
                refine pr_iload rfl rfl ?_
                refine pr_si2 rfl (by decide) (Nat.le_of_ble_eq_true rfl) (Nat.le_of_ble_eq_true rfl) (c_55 _ _ _ _) (fun r_74 h_74 q_74 => ?_)
                obtain ⟨rfl, rfl⟩ := q_74
                refine pr_iload_n rfl rfl ?_
                refine pr_aload_n rfl rfl ?_
                refine pr_getf rfl rfl rfl ?_
                refine pr_iload rfl rfl ?_
                refine pr_vi4 rfl (by decide) (Nat.le_of_ble_eq_true rfl) rfl (Nat.le_of_ble_eq_true rfl) (lc_5 _ _ 3 4 5 6 7 12 e3 _ _ _ _ (hl_3 he3) (by decide) (by omega) _ _ _ _) (fun r_84 h_84 q_84 => ?_)
                obtain ⟨rfl, rfl⟩ := q_84
                refine pr_heap hl_put_3 ?_
                exact pr_reti rfl rfl (Or.inr (Or.inr ⟨by omega, by omega, rfl, rfl⟩))
              · skip
                refine pr_push (v := (-4)) rfl rfl ?_
                exact pr_reti rfl rfl (Or.inr (Or.inl ⟨by omega, by omega, rfl, rfl⟩))
            · skip
              refine pr_push (v := (-2)) rfl rfl ?_
              exact pr_reti rfl rfl (Or.inl ⟨by omega, rfl, rfl⟩)
        · skip
          refine pr_iload rfl rfl ?_
          refine pr_iload_n rfl rfl ?_
          refine pr_u_ne rfl (fun c_30 => ?_) (fun c_30 => ?_)
          · skip
            refine pr_push (v := (-2)) rfl rfl ?_
            exact pr_reti rfl rfl (Or.inl ⟨by omega, rfl, rfl⟩)
          · skip
            refine pr_iload_n rfl rfl ?_
            refine pr_si1 rfl (by decide) (Nat.le_of_ble_eq_true rfl) (Nat.le_of_ble_eq_true rfl) (c_51 _ _ _) (fun r_34 h_34 q_34 => ?_)
            obtain ⟨rfl, rfl⟩ := q_34
            refine pr_b_eq rfl (fun c_37 => ?_) (fun c_37 => ?_)
            · skip
              refine pr_push (v := (-2)) rfl rfl ?_
              exact pr_reti rfl rfl (Or.inl ⟨by omega, rfl, rfl⟩)
            · skip
              refine pr_iload rfl rfl ?_
              refine pr_iload rfl rfl ?_
              refine pr_si2 rfl (by decide) (Nat.le_of_ble_eq_true rfl) (Nat.le_of_ble_eq_true rfl) (c_50 _ _ _ _) (fun r_44 h_44 q_44 => ?_)
              obtain ⟨rfl, rfl⟩ := q_44
              refine pr_b_ne rfl (fun c_47 => ?_) (fun c_47 => ?_)
              · skip
                refine pr_aload_n rfl rfl ?_
                refine pr_getf rfl rfl rfl ?_
                refine pr_vi0 rfl (by decide) (Nat.le_of_ble_eq_true rfl) rfl (Nat.le_of_ble_eq_true rfl) (lc_4 _ _ 3 4 5 6 7 12 e3 _ _ _ _ (hl_3 he3)) (fun r_57 h_57 q_57 => ?_)
                obtain ⟨rfl, rfl⟩ := q_57
                refine pr_b_eq rfl (fun c_60 => ?_) (fun c_60 => ?_)
                · skip
                  refine pr_aload_n rfl rfl ?_
                  refine pr_getf rfl rfl rfl ?_
                  refine pr_iload rfl rfl ?_
                  refine pr_iload rfl rfl ?_
                  refine pr_si2 rfl (by decide) (Nat.le_of_ble_eq_true rfl) (Nat.le_of_ble_eq_true rfl) (c_55 _ _ _ _) (fun r_74 h_74 q_74 => ?_)
                  obtain ⟨rfl, rfl⟩ := q_74
                  refine pr_iload_n rfl rfl ?_
                  refine pr_aload_n rfl rfl ?_
                  refine pr_getf rfl rfl rfl ?_
                  refine pr_iload rfl rfl ?_
                  refine pr_vi4 rfl (by decide) (Nat.le_of_ble_eq_true rfl) rfl (Nat.le_of_ble_eq_true rfl) (lc_5 _ _ 3 4 5 6 7 12 e3 _ _ _ _ (hl_3 he3) (by decide) (by omega) _ _ _ _) (fun r_84 h_84 q_84 => ?_)
                  obtain ⟨rfl, rfl⟩ := q_84
                  refine pr_heap hl_put_3 ?_
                  exact pr_reti rfl rfl (Or.inr (Or.inr ⟨by omega, by omega, rfl, rfl⟩))
                · skip
                  refine pr_push (v := (-4)) rfl rfl ?_
                  exact pr_reti rfl rfl (Or.inr (Or.inl ⟨by omega, by omega, rfl, rfl⟩))
              · skip
                refine pr_push (v := (-2)) rfl rfl ?_
                exact pr_reti rfl rfl (Or.inl ⟨by omega, rfl, rfl⟩)
theorem c_41 (d : Nat) {N : Nat} {xs : Nat → Int32} {zc zm : Nat → Int32} {e3 e11 e18 : Nat} {A : Nat → Nat → Int32} {g gh : Nat → Option Nat} {dy : pw_H}  (he18 : e18 ≤ 10) (u y b : Int32) : pw_M (d + 2) 41 [.inr (some 1), .inl u, .inl y, .inl b] (hp_h N xs zc e3 e11 e18 zm A g gh dy) (pw_qi (fun r h' => (¬ (pw_bt u 0 3 ∧ pw_yr y ∧ pw_bt b 0 2) ∧ r = -2 ∧ h' = (hp_h N xs zc e3 e11 e18 zm A g gh dy)) ∨ (¬ (¬ (pw_bt u 0 3 ∧ pw_yr y ∧ pw_bt b 0 2)) ∧ e18 = 10 ∧ r = -4 ∧ h' = (hp_h N xs zc e3 e11 e18 zm A g gh dy)) ∨ (¬ (¬ (pw_bt u 0 3 ∧ pw_yr y ∧ pw_bt b 0 2)) ∧ ¬ (e18 = 10) ∧ r = nI e18 ∧ h' = (hp_h N xs zc e3 e11 (e18 + 1) zm (uA (uA (uA (uA A 19 (upd (A 19) e18 u)) 20 (upd (A 20) e18 y)) 21 (upd (A 21) e18 (zc 3))) 22 (upd (A 22) e18 b)) g gh dy)))) := by
  have z0 := pz_0
  have z1 := pz_1
  have z2 := pz_2
  have z3 := pz_3
  have z4 := pz_4
  have z6 := pz_6
  have z7 := pz_7
  have z10 := pz_10
  have z11 := pz_11
  have z12 := pz_12
  have z20 := pz_20
  have z30 := pz_30
  have z50 := pz_50
  have z60 := pz_60
  have z80 := pz_80
  have z300 := pz_300

  refine pr_iload_n rfl rfl ?_
  refine pr_push (v := 0) rfl rfl ?_
  refine pr_push (v := 3) rfl rfl ?_
  refine pr_si3 rfl (by decide) (Nat.le_of_ble_eq_true rfl) (Nat.le_of_ble_eq_true rfl) (c_48 _ _ _ _ _) (fun r_3 h_3 q_3 => ?_)
  obtain ⟨rfl, rfl⟩ := q_3
  refine pr_b_eq rfl (fun c_6 => ?_) (fun c_6 => ?_)
  · skip
    refine pr_push (v := (-2)) rfl rfl ?_
    exact pr_reti rfl rfl (Or.inl ⟨by omega, rfl, rfl⟩)
  · skip
    refine pr_iload_n rfl rfl ?_
    refine pr_si1 rfl (by decide) (Nat.le_of_ble_eq_true rfl) (Nat.le_of_ble_eq_true rfl) (c_51 _ _ _) (fun r_10 h_10 q_10 => ?_)
    obtain ⟨rfl, rfl⟩ := q_10
    refine pr_b_eq rfl (fun c_13 => ?_) (fun c_13 => ?_)
    · skip
      refine pr_push (v := (-2)) rfl rfl ?_
      exact pr_reti rfl rfl (Or.inl ⟨by omega, rfl, rfl⟩)
    · skip
      refine pr_iload_n rfl rfl ?_
      refine pr_push (v := 0) rfl rfl ?_
      refine pr_push (v := 2) rfl rfl ?_
      refine pr_si3 rfl (by decide) (Nat.le_of_ble_eq_true rfl) (Nat.le_of_ble_eq_true rfl) (c_48 _ _ _ _ _) (fun r_19 h_19 q_19 => ?_)
      obtain ⟨rfl, rfl⟩ := q_19
      refine pr_b_ne rfl (fun c_22 => ?_) (fun c_22 => ?_)
      · skip
        refine pr_aload_n rfl rfl ?_
        refine pr_getf rfl rfl rfl ?_
        refine pr_vi0 rfl (by decide) (Nat.le_of_ble_eq_true rfl) rfl (Nat.le_of_ble_eq_true rfl) (lc_4 _ _ 18 19 20 21 22 10 e18 _ _ _ _ (hl_18 he18)) (fun r_32 h_32 q_32 => ?_)
        obtain ⟨rfl, rfl⟩ := q_32
        refine pr_b_eq rfl (fun c_35 => ?_) (fun c_35 => ?_)
        · skip
          refine pr_aload_n rfl rfl ?_
          refine pr_getf rfl rfl rfl ?_
          refine pr_iload_n rfl rfl ?_
          refine pr_iload_n rfl rfl ?_
          refine pr_aload_n rfl rfl ?_
          refine pr_getf rfl rfl rfl ?_
          refine pr_iload_n rfl rfl ?_
          refine pr_vi4 rfl (by decide) (Nat.le_of_ble_eq_true rfl) rfl (Nat.le_of_ble_eq_true rfl) (lc_5 _ _ 18 19 20 21 22 10 e18 _ _ _ _ (hl_18 he18) (by decide) (by omega) _ _ _ _) (fun r_52 h_52 q_52 => ?_)
          obtain ⟨rfl, rfl⟩ := q_52
          refine pr_heap hl_put_18 ?_
          exact pr_reti rfl rfl (Or.inr (Or.inr ⟨by omega, by omega, rfl, rfl⟩))
        · skip
          refine pr_push (v := (-4)) rfl rfl ?_
          exact pr_reti rfl rfl (Or.inr (Or.inl ⟨by omega, by omega, rfl, rfl⟩))
      · skip
        refine pr_push (v := (-2)) rfl rfl ?_
        exact pr_reti rfl rfl (Or.inl ⟨by omega, rfl, rfl⟩)
theorem c_62 (d : Nat) {N : Nat} {xs : Nat → Int32} {zc zm : Nat → Int32} {e3 e11 e18 : Nat} {A : Nat → Nat → Int32} {g gh : Nat → Option Nat} {dy : pw_H} (Y : Nat) (hY : zc 3 = nI Y) (hYb : Y ≤ 300) (S : Nat) (hS : zc 7 = nI S) (hSb : S ≤ 12) (s y : Int32) : pw_M (d + 2) 62 [.inr (some 1), .inl s, .inl y] (hp_h N xs zc e3 e11 e18 zm A g gh dy) (pw_qi (fun r h' => ((¬ pw_bt s 0 (zc 7 - 1) ∧ r = 0) ∨ ∃ j : Nat, j < S ∧ s = nI j ∧ r = pw_b (pw_bt y (A 9 j) (zc 3))) ∧ h' = (hp_h N xs zc e3 e11 e18 zm A g gh dy))) := by
  have z0 := pz_0
  have z1 := pz_1
  have z2 := pz_2
  have z3 := pz_3
  have z4 := pz_4
  have z6 := pz_6
  have z7 := pz_7
  have z10 := pz_10
  have z11 := pz_11
  have z12 := pz_12
  have z20 := pz_20
  have z30 := pz_30
  have z50 := pz_50
  have z60 := pz_60
  have z80 := pz_80
  have z300 := pz_300
  have hYT : (zc 3).toInt = (Y : Int) := by rw [hY]; exact pw_T (by omega)
  have hYP : (zc 3 - 1).toInt = (Y : Int) - 1 := by rw [hY]; exact pw_pred (by omega)
  have hST : (zc 7).toInt = (S : Int) := by rw [hS]; exact pw_T (by omega)
  have hSP : (zc 7 - 1).toInt = (S : Int) - 1 := by rw [hS]; exact pw_pred (by omega)
  refine pr_aload_n rfl rfl ?_
  refine pr_iload_n rfl rfl ?_
  refine pr_vi1 rfl (by decide) (Nat.le_of_ble_eq_true rfl) rfl (Nat.le_of_ble_eq_true rfl) (c_53 _ _ 1 (hp_c zc) (zc 7) _ rfl rfl) (fun r_2 h_2 q_2 => ?_)
  obtain ⟨rfl, rfl⟩ := q_2
  refine pr_b_eq rfl (fun c_5 => ?_) (fun c_5 => ?_)
  · skip
    refine pr_push (v := 0) rfl rfl ?_
    exact pr_retb rfl rfl rfl (⟨by first
    | exact Or.inl ⟨by assumption, rfl⟩
    | exact Or.inr ⟨j, by omega, rfl, by first | rw [pw_b1 (by assumption)] | rw [pw_b0 (by assumption)]⟩, rfl⟩)
  · skip
    obtain ⟨j, rfl, hjT, hjl⟩ := pw_nat (x := s) (by omega)
    refine pr_iload_n rfl rfl ?_
    refine pr_aload_n rfl rfl ?_
    refine pr_getf rfl rfl rfl ?_
    refine pr_iload_n rfl rfl ?_
    refine pr_iald (j) rfl rfl (by decide) (by decide) rfl (by omega) ?_
    refine pr_aload_n rfl rfl ?_
    refine pr_getf rfl rfl rfl ?_
    refine pr_si3 rfl (by decide) (Nat.le_of_ble_eq_true rfl) (Nat.le_of_ble_eq_true rfl) (c_48 _ _ _ _ _) (fun r_19 h_19 q_19 => ?_)
    obtain ⟨rfl, rfl⟩ := q_19
    refine pr_b_eq rfl (fun c_22 => ?_) (fun c_22 => ?_)
    · skip
      refine pr_push (v := 0) rfl rfl ?_
      exact pr_retb rfl rfl rfl (⟨by first
    | exact Or.inl ⟨by assumption, rfl⟩
    | exact Or.inr ⟨j, by omega, rfl, by first | rw [pw_b1 (by assumption)] | rw [pw_b0 (by assumption)]⟩, rfl⟩)
    · skip
      refine pr_push (v := 1) rfl rfl ?_
      refine pr_step rfl rfl rfl rfl ?_
      exact pr_retb rfl rfl rfl (⟨by first
    | exact Or.inl ⟨by assumption, rfl⟩
    | exact Or.inr ⟨j, by omega, rfl, by first | rw [pw_b1 (by assumption)] | rw [pw_b0 (by assumption)]⟩, rfl⟩)
theorem c_63 (d : Nat) {N : Nat} {xs : Nat → Int32} {zc zm : Nat → Int32} {e3 e11 e18 : Nat} {A : Nat → Nat → Int32} {g gh : Nat → Option Nat} {dy : pw_H}  (he11 : e11 ≤ 60) (s y v : Int32) : pw_M (d + 2) 63 [.inr (some 1), .inl s, .inl y, .inl v] (hp_h N xs zc e3 e11 e18 zm A g gh dy) (pw_qi (fun r h' => (e11 = 60 ∧ r = -4 ∧ h' = (hp_h N xs zc e3 e11 e18 zm A g gh dy)) ∨ (¬ e11 = 60 ∧ r = 1 ∧ h' = (hp_h N xs zc e3 (e11 + 1) e18 zm (uA (uA (uA (uA A 12 (upd (A 12) e11 s)) 13 (upd (A 13) e11 y)) 14 (upd (A 14) e11 (zc 3))) 15 (upd (A 15) e11 v)) g gh dy)))) := by
  have z0 := pz_0
  have z1 := pz_1
  have z2 := pz_2
  have z3 := pz_3
  have z4 := pz_4
  have z6 := pz_6
  have z7 := pz_7
  have z10 := pz_10
  have z11 := pz_11
  have z12 := pz_12
  have z20 := pz_20
  have z30 := pz_30
  have z50 := pz_50
  have z60 := pz_60
  have z80 := pz_80
  have z300 := pz_300

  refine pr_aload_n rfl rfl ?_
  refine pr_getf rfl rfl rfl ?_
  refine pr_vi0 rfl (by decide) (Nat.le_of_ble_eq_true rfl) rfl (Nat.le_of_ble_eq_true rfl) (lc_4 _ _ 11 12 13 14 15 60 e11 _ _ _ _ (hl_11 he11)) (fun r_4 h_4 q_4 => ?_)
  obtain ⟨rfl, rfl⟩ := q_4
  refine pr_b_eq rfl (fun c_7 => ?_) (fun c_7 => ?_)
  · skip
    refine pr_aload_n rfl rfl ?_
    refine pr_getf rfl rfl rfl ?_
    refine pr_iload_n rfl rfl ?_
    refine pr_iload_n rfl rfl ?_
    refine pr_aload_n rfl rfl ?_
    refine pr_getf rfl rfl rfl ?_
    refine pr_iload_n rfl rfl ?_
    refine pr_vi4 rfl (by decide) (Nat.le_of_ble_eq_true rfl) rfl (Nat.le_of_ble_eq_true rfl) (lc_5 _ _ 11 12 13 14 15 60 e11 _ _ _ _ (hl_11 he11) (by decide) (by omega) _ _ _ _) (fun r_24 h_24 q_24 => ?_)
    obtain ⟨rfl, rfl⟩ := q_24
    refine pr_heap hl_put_11 ?_
    refine pr_step rfl rfl rfl rfl ?_
    refine pr_push (v := 1) rfl rfl ?_
    exact pr_reti rfl rfl (Or.inr ⟨by omega, rfl, rfl⟩)
  · skip
    refine pr_push (v := (-4)) rfl rfl ?_
    exact pr_reti rfl rfl (Or.inl ⟨by omega, rfl, rfl⟩)
theorem c_64 (d : Nat) {N : Nat} {xs : Nat → Int32} {zc zm : Nat → Int32} {e3 e11 e18 : Nat} {A : Nat → Nat → Int32} {g gh : Nat → Option Nat} {dy : pw_H} (he11 : e11 ≤ 60) (j : Nat) (hj : j < 12) : pw_M (d + 1) 64 [.inr (some 1), .inl (nI j)] (hp_h N xs zc e3 e11 e18 zm A g gh dy) (pw_qi (fun r h' => r = pw_b ((ld_run (nI j) (zc 3) (zc 3) (A 8 j) (A 12) (A 13) (A 14) (A 15) e11).2 = -1) ∧ h' = (hp_h N xs zc e3 e11 e18 zm A g gh dy))) := by
  refine pr_aload_n rfl rfl ?_
  refine pr_getf rfl rfl rfl ?_
  refine pr_iload_n rfl rfl ?_
  refine pr_aload_n rfl rfl ?_
  refine pr_getf rfl rfl rfl ?_
  refine pr_aload_n rfl rfl ?_
  refine pr_getf rfl rfl rfl ?_
  refine pr_aload_n rfl rfl ?_
  refine pr_getf rfl rfl rfl ?_
  refine pr_iload_n rfl rfl ?_
  refine pr_iald (j) rfl rfl (by decide) (by decide) rfl (by omega) ?_
  refine pr_vi4 rfl (by decide) (Nat.le_of_ble_eq_true rfl) rfl (Nat.le_of_ble_eq_true rfl) (lc_6 _ _ 11 12 13 14 15 60 e11 _ _ _ _ (hl_11 he11) _ _ _ _) (fun r_19 h_19 q_19 => ?_)
  obtain ⟨rfl, rfl⟩ := q_19
  refine pr_push (v := (-1)) rfl rfl ?_
  refine pr_c_ne rfl (fun c_23 => ?_) (fun c_23 => ?_)
  · skip
    refine pr_push (v := 0) rfl rfl ?_
    exact pr_retb rfl rfl rfl (⟨by first | rw [pw_b1 (by assumption)] | rw [pw_b0 (by assumption)], rfl⟩)
  · skip
    refine pr_push (v := 1) rfl rfl ?_
    refine pr_step rfl rfl rfl rfl ?_
    exact pr_retb rfl rfl rfl (⟨by first | rw [pw_b1 (by assumption)] | rw [pw_b0 (by assumption)], rfl⟩)
end
