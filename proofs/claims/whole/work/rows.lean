section
-- ===== PART A: goes FIRST, ahead of the names: the tables' words, and 'selects' of the private methods out of them =====
/-- a private method of a class that the tables say can be made, by its rows of tables_1 -/
def lw_okq (q : MethodName × Nat) : Prop := (q.1.cls ≠ "java/lang/invoke/MethodHandle" ∧ q.1.cls ≠ "java/lang/invoke/VarHandle") ∧ Cond.instantiable q.1.cls q.2 ∈ tables_1 ∧ Cond.privateMethod q.1 ∈ tables_1 ∧ Cond.instanceMethod q.1 ∈ tables_1
theorem lw_p0 : lw_okq (⟨"BoundWalks", "walkOf", "(I)LBoundWalks$Walk;"⟩, 17) := ⟨⟨by decide +kernel, by decide +kernel⟩, List.mem_of_getElem? (i := 9) (by decide +kernel), List.mem_of_getElem? (i := 149) (by decide +kernel), List.mem_of_getElem? (i := 150) (by decide +kernel)⟩
theorem lw_p1 : lw_okq (⟨"BoundWalks$Walk", "settle", "()V"⟩, 10) := ⟨⟨by decide +kernel, by decide +kernel⟩, List.mem_of_getElem? (i := 108) (by decide +kernel), List.mem_of_getElem? (i := 161) (by decide +kernel), List.mem_of_getElem? (i := 162) (by decide +kernel)⟩
theorem lw_p2 : lw_okq (⟨"BoundWalks$Walk", "chooseLengths", "()Z"⟩, 10) := ⟨⟨by decide +kernel, by decide +kernel⟩, List.mem_of_getElem? (i := 108) (by decide +kernel), List.mem_of_getElem? (i := 165) (by decide +kernel), List.mem_of_getElem? (i := 166) (by decide +kernel)⟩
theorem lw_p3 : lw_okq (⟨"BoundWalks$Walk", "isAlongX", "(I)Z"⟩, 10) := ⟨⟨by decide +kernel, by decide +kernel⟩, List.mem_of_getElem? (i := 108) (by decide +kernel), List.mem_of_getElem? (i := 169) (by decide +kernel), List.mem_of_getElem? (i := 170) (by decide +kernel)⟩
theorem lw_p4 : lw_okq (⟨"BoundWalks$Walk", "leastLength", "(II)I"⟩, 10) := ⟨⟨by decide +kernel, by decide +kernel⟩, List.mem_of_getElem? (i := 108) (by decide +kernel), List.mem_of_getElem? (i := 173) (by decide +kernel), List.mem_of_getElem? (i := 174) (by decide +kernel)⟩
theorem lw_p5 : lw_okq (⟨"BoundWalks$Walk", "sign", "(I)I"⟩, 10) := ⟨⟨by decide +kernel, by decide +kernel⟩, List.mem_of_getElem? (i := 108) (by decide +kernel), List.mem_of_getElem? (i := 177) (by decide +kernel), List.mem_of_getElem? (i := 178) (by decide +kernel)⟩
theorem lw_p6 : lw_okq (⟨"BoundWalks$Walk", "stepX", "(I)I"⟩, 10) := ⟨⟨by decide +kernel, by decide +kernel⟩, List.mem_of_getElem? (i := 108) (by decide +kernel), List.mem_of_getElem? (i := 182) (by decide +kernel), List.mem_of_getElem? (i := 183) (by decide +kernel)⟩
theorem lw_p7 : lw_okq (⟨"BoundWalks$Walk", "stepY", "(I)I"⟩, 10) := ⟨⟨by decide +kernel, by decide +kernel⟩, List.mem_of_getElem? (i := 108) (by decide +kernel), List.mem_of_getElem? (i := 186) (by decide +kernel), List.mem_of_getElem? (i := 187) (by decide +kernel)⟩
theorem lw_p8 : lw_okq (⟨"BoundWalks$Walk", "staysOnLand", "()Z"⟩, 10) := ⟨⟨by decide +kernel, by decide +kernel⟩, List.mem_of_getElem? (i := 108) (by decide +kernel), List.mem_of_getElem? (i := 190) (by decide +kernel), List.mem_of_getElem? (i := 191) (by decide +kernel)⟩
theorem lw_p9 : lw_okq (⟨"BoundWalks$Walk", "markInside", "()V"⟩, 10) := ⟨⟨by decide +kernel, by decide +kernel⟩, List.mem_of_getElem? (i := 108) (by decide +kernel), List.mem_of_getElem? (i := 195) (by decide +kernel), List.mem_of_getElem? (i := 196) (by decide +kernel)⟩
theorem lw_p10 : lw_okq (⟨"BoundWalks", "claimsOf", "(I)I"⟩, 17) := ⟨⟨by decide +kernel, by decide +kernel⟩, List.mem_of_getElem? (i := 9) (by decide +kernel), List.mem_of_getElem? (i := 243) (by decide +kernel), List.mem_of_getElem? (i := 244) (by decide +kernel)⟩
theorem lw_p11 : lw_okq (⟨"BoundWalks", "isParish", "(I)Z"⟩, 17) := ⟨⟨by decide +kernel, by decide +kernel⟩, List.mem_of_getElem? (i := 9) (by decide +kernel), List.mem_of_getElem? (i := 256) (by decide +kernel), List.mem_of_getElem? (i := 257) (by decide +kernel)⟩
theorem lw_p12 : lw_okq (⟨"BoundWalks", "ownerOf", "(II)I"⟩, 17) := ⟨⟨by decide +kernel, by decide +kernel⟩, List.mem_of_getElem? (i := 9) (by decide +kernel), List.mem_of_getElem? (i := 276) (by decide +kernel), List.mem_of_getElem? (i := 277) (by decide +kernel)⟩
theorem lw_p13 : lw_okq (⟨"BoundWalks", "canHappen", "(II)Z"⟩, 17) := ⟨⟨by decide +kernel, by decide +kernel⟩, List.mem_of_getElem? (i := 9) (by decide +kernel), List.mem_of_getElem? (i := 307) (by decide +kernel), List.mem_of_getElem? (i := 308) (by decide +kernel)⟩
theorem lw_p14 : lw_okq (⟨"BoundWalks", "isStone", "(I)Z"⟩, 17) := ⟨⟨by decide +kernel, by decide +kernel⟩, List.mem_of_getElem? (i := 9) (by decide +kernel), List.mem_of_getElem? (i := 311) (by decide +kernel), List.mem_of_getElem? (i := 312) (by decide +kernel)⟩
theorem lw_p15 : lw_okq (⟨"BoundWalks", "tell", "(III)I"⟩, 17) := ⟨⟨by decide +kernel, by decide +kernel⟩, List.mem_of_getElem? (i := 9) (by decide +kernel), List.mem_of_getElem? (i := 315) (by decide +kernel), List.mem_of_getElem? (i := 316) (by decide +kernel)⟩
def lw_privs_1 : List (MethodName × Nat) := [(⟨"BoundWalks", "walkOf", "(I)LBoundWalks$Walk;"⟩, 17), (⟨"BoundWalks$Walk", "settle", "()V"⟩, 10), (⟨"BoundWalks$Walk", "chooseLengths", "()Z"⟩, 10), (⟨"BoundWalks$Walk", "isAlongX", "(I)Z"⟩, 10), (⟨"BoundWalks$Walk", "leastLength", "(II)I"⟩, 10), (⟨"BoundWalks$Walk", "sign", "(I)I"⟩, 10), (⟨"BoundWalks$Walk", "stepX", "(I)I"⟩, 10), (⟨"BoundWalks$Walk", "stepY", "(I)I"⟩, 10), (⟨"BoundWalks$Walk", "staysOnLand", "()Z"⟩, 10), (⟨"BoundWalks$Walk", "markInside", "()V"⟩, 10), (⟨"BoundWalks", "claimsOf", "(I)I"⟩, 17), (⟨"BoundWalks", "isParish", "(I)Z"⟩, 17), (⟨"BoundWalks", "ownerOf", "(II)I"⟩, 17), (⟨"BoundWalks", "canHappen", "(II)Z"⟩, 17), (⟨"BoundWalks", "isStone", "(I)Z"⟩, 17), (⟨"BoundWalks", "tell", "(III)I"⟩, 17)]
theorem lw_r1 : ∀ q ∈ lw_privs_1, lw_okq q := List.forall_mem_cons.mpr ⟨lw_p0, List.forall_mem_cons.mpr ⟨lw_p1, List.forall_mem_cons.mpr ⟨lw_p2, List.forall_mem_cons.mpr ⟨lw_p3, List.forall_mem_cons.mpr ⟨lw_p4, List.forall_mem_cons.mpr ⟨lw_p5, List.forall_mem_cons.mpr ⟨lw_p6, List.forall_mem_cons.mpr ⟨lw_p7, List.forall_mem_cons.mpr ⟨lw_p8, List.forall_mem_cons.mpr ⟨lw_p9, List.forall_mem_cons.mpr ⟨lw_p10, List.forall_mem_cons.mpr ⟨lw_p11, List.forall_mem_cons.mpr ⟨lw_p12, List.forall_mem_cons.mpr ⟨lw_p13, List.forall_mem_cons.mpr ⟨lw_p14, List.forall_mem_cons.mpr ⟨lw_p15, fun _ h => absurd h List.not_mem_nil⟩⟩⟩⟩⟩⟩⟩⟩⟩⟩⟩⟩⟩⟩⟩⟩
theorem lw_p16 : lw_okq (⟨"BoundWalks", "houseOf", "(I)LBoundWalks$House;"⟩, 17) := ⟨⟨by decide +kernel, by decide +kernel⟩, List.mem_of_getElem? (i := 9) (by decide +kernel), List.mem_of_getElem? (i := 377) (by decide +kernel), List.mem_of_getElem? (i := 378) (by decide +kernel)⟩
theorem lw_p17 : lw_okq (⟨"BoundWalks", "ownerOfMost", "(LBoundWalks$House;I)I"⟩, 17) := ⟨⟨by decide +kernel, by decide +kernel⟩, List.mem_of_getElem? (i := 9) (by decide +kernel), List.mem_of_getElem? (i := 381) (by decide +kernel), List.mem_of_getElem? (i := 382) (by decide +kernel)⟩
theorem lw_p18 : lw_okq (⟨"BoundWalks", "isLostNow", "(I)Z"⟩, 17) := ⟨⟨by decide +kernel, by decide +kernel⟩, List.mem_of_getElem? (i := 9) (by decide +kernel), List.mem_of_getElem? (i := 389) (by decide +kernel), List.mem_of_getElem? (i := 390) (by decide +kernel)⟩
theorem lw_p19 : lw_okq (⟨"BoundWalks", "gatherForRound", "()I"⟩, 17) := ⟨⟨by decide +kernel, by decide +kernel⟩, List.mem_of_getElem? (i := 9) (by decide +kernel), List.mem_of_getElem? (i := 405) (by decide +kernel), List.mem_of_getElem? (i := 406) (by decide +kernel)⟩
theorem lw_p20 : lw_okq (⟨"BoundWalks", "seeOldest", "(III)V"⟩, 17) := ⟨⟨by decide +kernel, by decide +kernel⟩, List.mem_of_getElem? (i := 9) (by decide +kernel), List.mem_of_getElem? (i := 409) (by decide +kernel), List.mem_of_getElem? (i := 410) (by decide +kernel)⟩
theorem lw_p21 : lw_okq (⟨"BoundWalks", "someUnseen", "(II)Z"⟩, 17) := ⟨⟨by decide +kernel, by decide +kernel⟩, List.mem_of_getElem? (i := 9) (by decide +kernel), List.mem_of_getElem? (i := 413) (by decide +kernel), List.mem_of_getElem? (i := 414) (by decide +kernel)⟩
theorem lw_p22 : lw_okq (⟨"BoundWalksModel", "isParish", "(I)Z"⟩, 40) := ⟨⟨by decide +kernel, by decide +kernel⟩, List.mem_of_getElem? (i := 425) (by decide +kernel), List.mem_of_getElem? (i := 567) (by decide +kernel), List.mem_of_getElem? (i := 568) (by decide +kernel)⟩
theorem lw_p23 : lw_okq (⟨"BoundWalksModel", "findLengths", "(I)Z"⟩, 40) := ⟨⟨by decide +kernel, by decide +kernel⟩, List.mem_of_getElem? (i := 425) (by decide +kernel), List.mem_of_getElem? (i := 579) (by decide +kernel), List.mem_of_getElem? (i := 580) (by decide +kernel)⟩
theorem lw_p24 : lw_okq (⟨"BoundWalksModel", "leastFrom", "(III)I"⟩, 40) := ⟨⟨by decide +kernel, by decide +kernel⟩, List.mem_of_getElem? (i := 425) (by decide +kernel), List.mem_of_getElem? (i := 583) (by decide +kernel), List.mem_of_getElem? (i := 584) (by decide +kernel)⟩
theorem lw_p25 : lw_okq (⟨"BoundWalksModel", "mostFrom", "(III)I"⟩, 40) := ⟨⟨by decide +kernel, by decide +kernel⟩, List.mem_of_getElem? (i := 425) (by decide +kernel), List.mem_of_getElem? (i := 587) (by decide +kernel), List.mem_of_getElem? (i := 588) (by decide +kernel)⟩
theorem lw_p26 : lw_okq (⟨"BoundWalksModel", "layInside", "(I)I"⟩, 40) := ⟨⟨by decide +kernel, by decide +kernel⟩, List.mem_of_getElem? (i := 425) (by decide +kernel), List.mem_of_getElem? (i := 595) (by decide +kernel), List.mem_of_getElem? (i := 596) (by decide +kernel)⟩
theorem lw_p27 : lw_okq (⟨"BoundWalksModel", "layRing", "(I)Z"⟩, 40) := ⟨⟨by decide +kernel, by decide +kernel⟩, List.mem_of_getElem? (i := 425) (by decide +kernel), List.mem_of_getElem? (i := 599) (by decide +kernel), List.mem_of_getElem? (i := 600) (by decide +kernel)⟩
theorem lw_p28 : lw_okq (⟨"BoundWalksModel", "layClaims", "()V"⟩, 40) := ⟨⟨by decide +kernel, by decide +kernel⟩, List.mem_of_getElem? (i := 425) (by decide +kernel), List.mem_of_getElem? (i := 610) (by decide +kernel), List.mem_of_getElem? (i := 611) (by decide +kernel)⟩
theorem lw_p29 : lw_okq (⟨"BoundWalksModel", "ownerOf", "(II)I"⟩, 40) := ⟨⟨by decide +kernel, by decide +kernel⟩, List.mem_of_getElem? (i := 425) (by decide +kernel), List.mem_of_getElem? (i := 625) (by decide +kernel), List.mem_of_getElem? (i := 626) (by decide +kernel)⟩
theorem lw_p30 : lw_okq (⟨"BoundWalksModel", "mayTell", "(II)Z"⟩, 40) := ⟨⟨by decide +kernel, by decide +kernel⟩, List.mem_of_getElem? (i := 425) (by decide +kernel), List.mem_of_getElem? (i := 648) (by decide +kernel), List.mem_of_getElem? (i := 649) (by decide +kernel)⟩
theorem lw_p31 : lw_okq (⟨"BoundWalksModel", "isStone", "(I)Z"⟩, 40) := ⟨⟨by decide +kernel, by decide +kernel⟩, List.mem_of_getElem? (i := 425) (by decide +kernel), List.mem_of_getElem? (i := 652) (by decide +kernel), List.mem_of_getElem? (i := 653) (by decide +kernel)⟩
def lw_privs_2 : List (MethodName × Nat) := [(⟨"BoundWalks", "houseOf", "(I)LBoundWalks$House;"⟩, 17), (⟨"BoundWalks", "ownerOfMost", "(LBoundWalks$House;I)I"⟩, 17), (⟨"BoundWalks", "isLostNow", "(I)Z"⟩, 17), (⟨"BoundWalks", "gatherForRound", "()I"⟩, 17), (⟨"BoundWalks", "seeOldest", "(III)V"⟩, 17), (⟨"BoundWalks", "someUnseen", "(II)Z"⟩, 17), (⟨"BoundWalksModel", "isParish", "(I)Z"⟩, 40), (⟨"BoundWalksModel", "findLengths", "(I)Z"⟩, 40), (⟨"BoundWalksModel", "leastFrom", "(III)I"⟩, 40), (⟨"BoundWalksModel", "mostFrom", "(III)I"⟩, 40), (⟨"BoundWalksModel", "layInside", "(I)I"⟩, 40), (⟨"BoundWalksModel", "layRing", "(I)Z"⟩, 40), (⟨"BoundWalksModel", "layClaims", "()V"⟩, 40), (⟨"BoundWalksModel", "ownerOf", "(II)I"⟩, 40), (⟨"BoundWalksModel", "mayTell", "(II)Z"⟩, 40), (⟨"BoundWalksModel", "isStone", "(I)Z"⟩, 40)]
theorem lw_r2 : ∀ q ∈ lw_privs_2, lw_okq q := List.forall_mem_cons.mpr ⟨lw_p16, List.forall_mem_cons.mpr ⟨lw_p17, List.forall_mem_cons.mpr ⟨lw_p18, List.forall_mem_cons.mpr ⟨lw_p19, List.forall_mem_cons.mpr ⟨lw_p20, List.forall_mem_cons.mpr ⟨lw_p21, List.forall_mem_cons.mpr ⟨lw_p22, List.forall_mem_cons.mpr ⟨lw_p23, List.forall_mem_cons.mpr ⟨lw_p24, List.forall_mem_cons.mpr ⟨lw_p25, List.forall_mem_cons.mpr ⟨lw_p26, List.forall_mem_cons.mpr ⟨lw_p27, List.forall_mem_cons.mpr ⟨lw_p28, List.forall_mem_cons.mpr ⟨lw_p29, List.forall_mem_cons.mpr ⟨lw_p30, List.forall_mem_cons.mpr ⟨lw_p31, fun _ h => absurd h List.not_mem_nil⟩⟩⟩⟩⟩⟩⟩⟩⟩⟩⟩⟩⟩⟩⟩⟩
theorem lw_p32 : lw_okq (⟨"BoundWalksModel", "tell", "(III)I"⟩, 40) := ⟨⟨by decide +kernel, by decide +kernel⟩, List.mem_of_getElem? (i := 425) (by decide +kernel), List.mem_of_getElem? (i := 656) (by decide +kernel), List.mem_of_getElem? (i := 657) (by decide +kernel)⟩
theorem lw_p33 : lw_okq (⟨"BoundWalksModel", "whereOf", "(III)I"⟩, 40) := ⟨⟨by decide +kernel, by decide +kernel⟩, List.mem_of_getElem? (i := 425) (by decide +kernel), List.mem_of_getElem? (i := 668) (by decide +kernel), List.mem_of_getElem? (i := 669) (by decide +kernel)⟩
theorem lw_p34 : lw_okq (⟨"BoundWalksModel", "byOf", "(II)I"⟩, 40) := ⟨⟨by decide +kernel, by decide +kernel⟩, List.mem_of_getElem? (i := 425) (by decide +kernel), List.mem_of_getElem? (i := 692) (by decide +kernel), List.mem_of_getElem? (i := 693) (by decide +kernel)⟩
theorem lw_p35 : lw_okq (⟨"BoundWalksModel", "greaterPart", "(II)I"⟩, 40) := ⟨⟨by decide +kernel, by decide +kernel⟩, List.mem_of_getElem? (i := 425) (by decide +kernel), List.mem_of_getElem? (i := 696) (by decide +kernel), List.mem_of_getElem? (i := 697) (by decide +kernel)⟩
theorem lw_p36 : lw_okq (⟨"BoundWalksModel", "isLost", "(I)Z"⟩, 40) := ⟨⟨by decide +kernel, by decide +kernel⟩, List.mem_of_getElem? (i := 425) (by decide +kernel), List.mem_of_getElem? (i := 704) (by decide +kernel), List.mem_of_getElem? (i := 705) (by decide +kernel)⟩
theorem lw_p37 : lw_okq (⟨"BoundWalksModel", "longestAgo", "(I)I"⟩, 40) := ⟨⟨by decide +kernel, by decide +kernel⟩, List.mem_of_getElem? (i := 425) (by decide +kernel), List.mem_of_getElem? (i := 720) (by decide +kernel), List.mem_of_getElem? (i := 721) (by decide +kernel)⟩
def lw_privs_3 : List (MethodName × Nat) := [(⟨"BoundWalksModel", "tell", "(III)I"⟩, 40), (⟨"BoundWalksModel", "whereOf", "(III)I"⟩, 40), (⟨"BoundWalksModel", "byOf", "(II)I"⟩, 40), (⟨"BoundWalksModel", "greaterPart", "(II)I"⟩, 40), (⟨"BoundWalksModel", "isLost", "(I)Z"⟩, 40), (⟨"BoundWalksModel", "longestAgo", "(I)I"⟩, 40)]
theorem lw_r3 : ∀ q ∈ lw_privs_3, lw_okq q := List.forall_mem_cons.mpr ⟨lw_p32, List.forall_mem_cons.mpr ⟨lw_p33, List.forall_mem_cons.mpr ⟨lw_p34, List.forall_mem_cons.mpr ⟨lw_p35, List.forall_mem_cons.mpr ⟨lw_p36, List.forall_mem_cons.mpr ⟨lw_p37, fun _ h => absurd h List.not_mem_nil⟩⟩⟩⟩⟩⟩
def lw_privs : List (MethodName × Nat) := lw_privs_1 ++ (lw_privs_2 ++ (lw_privs_3))
def lw_tbl : List Cond := k2_sels lw_privs ++ tables_1
theorem lw_privs_ok : ∀ q ∈ lw_privs, lw_okq q := by
  show ∀ q ∈ lw_privs_1 ++ (lw_privs_2 ++ (lw_privs_3)), lw_okq q
  exact List.forall_mem_append.mpr ⟨lw_r1, List.forall_mem_append.mpr ⟨lw_r2, lw_r3⟩⟩
end
section
def pw_T0 : u_T := fun k => match k with
  | 0 => ("BoundWalks$House", "x", "I", true)
  | 1 => ("BoundWalks$House", "y", "I", true)
  | 2 => ("BoundWalks$House", "w", "I", true)
  | 3 => ("BoundWalks$House", "h", "I", true)
  | 4 => ("BoundWalks$House", "door", "I", true)
  | _ => ("BoundWalks$House", "hearth", "I", true)
def pw_t0 : Nat → FieldType := fun k => match k with
  | 0 => .int
  | 1 => .int
  | 2 => .int
  | 3 => .int
  | 4 => .int
  | _ => .int
theorem pw_nm0 : ∀ a, a < 6 → ∀ b, b < 6 → a ≠ b → (pw_T0 a).2.1 ≠ (pw_T0 b).2.1 := by decide +kernel
theorem pw_ty0 : ∀ k, k < 6 → parseFieldDescriptor (pw_T0 k).2.2.1 = some (pw_t0 k) := by decide +kernel
theorem pw_in0 : ∀ w ∈ u_ws "BoundWalks$House" pw_T0 6, w ∈ lw_tbl := by decide +kernel
theorem pw_gd0 : (u_ws "BoundWalks$House" pw_T0 6).all goodWord = true := by decide +kernel
def pw_T1 : u_T := fun k => match k with
  | 0 => ("BoundWalks$Ledger", "thing", "[I", true)
  | 1 => ("BoundWalks$Ledger", "from", "[I", true)
  | 2 => ("BoundWalks$Ledger", "told", "[I", true)
  | 3 => ("BoundWalks$Ledger", "value", "[I", true)
  | _ => ("BoundWalks$Ledger", "entries", "I", false)
def pw_t1 : Nat → FieldType := fun k => match k with
  | 0 => .array .int
  | 1 => .array .int
  | 2 => .array .int
  | 3 => .array .int
  | _ => .int
theorem pw_nm1 : ∀ a, a < 5 → ∀ b, b < 5 → a ≠ b → (pw_T1 a).2.1 ≠ (pw_T1 b).2.1 := by decide +kernel
theorem pw_ty1 : ∀ k, k < 5 → parseFieldDescriptor (pw_T1 k).2.2.1 = some (pw_t1 k) := by decide +kernel
theorem pw_in1 : ∀ w ∈ u_ws "BoundWalks$Ledger" pw_T1 5, w ∈ lw_tbl := by decide +kernel
theorem pw_gd1 : (u_ws "BoundWalks$Ledger" pw_T1 5).all goodWord = true := by decide +kernel
def pw_T2 : u_T := fun k => match k with
  | 0 => ("BoundWalks$Walk", "startX", "I", true)
  | 1 => ("BoundWalks$Walk", "startY", "I", true)
  | 2 => ("BoundWalks$Walk", "direction", "[I", true)
  | 3 => ("BoundWalks$Walk", "low", "[I", true)
  | 4 => ("BoundWalks$Walk", "high", "[I", true)
  | 5 => ("BoundWalks$Walk", "chosen", "[I", true)
  | 6 => ("BoundWalks$Walk", "insideRow", "[I", true)
  | 7 => ("BoundWalks$Walk", "legs", "I", false)
  | 8 => ("BoundWalks$Walk", "hasLengths", "Z", false)
  | _ => ("BoundWalks$Walk", "hasRing", "Z", false)
def pw_t2 : Nat → FieldType := fun k => match k with
  | 0 => .int
  | 1 => .int
  | 2 => .array .int
  | 3 => .array .int
  | 4 => .array .int
  | 5 => .array .int
  | 6 => .array .int
  | 7 => .int
  | 8 => .boolean
  | _ => .boolean
theorem pw_nm2 : ∀ a, a < 10 → ∀ b, b < 10 → a ≠ b → (pw_T2 a).2.1 ≠ (pw_T2 b).2.1 := by decide +kernel
theorem pw_ty2 : ∀ k, k < 10 → parseFieldDescriptor (pw_T2 k).2.2.1 = some (pw_t2 k) := by decide +kernel
theorem pw_in2 : ∀ w ∈ u_ws "BoundWalks$Walk" pw_T2 10, w ∈ lw_tbl := by decide +kernel
theorem pw_gd2 : (u_ws "BoundWalks$Walk" pw_T2 10).all goodWord = true := by decide +kernel
def pw_T3 : u_T := fun k => match k with
  | 0 => ("BoundWalks", "walks", "[LBoundWalks$Walk;", true)
  | 1 => ("BoundWalks", "parishCount", "I", false)
  | 2 => ("BoundWalks", "agreements", "LBoundWalks$Ledger;", true)
  | 3 => ("BoundWalks", "thisYear", "I", false)
  | 4 => ("BoundWalks", "stonePoint", "[I", true)
  | 5 => ("BoundWalks", "stoneSet", "[I", true)
  | 6 => ("BoundWalks", "stoneSeen", "[I", true)
  | 7 => ("BoundWalks", "stoneCount", "I", false)
  | 8 => ("BoundWalks", "tellings", "LBoundWalks$Ledger;", true)
  | 9 => ("BoundWalks", "births", "[I", true)
  | 10 => ("BoundWalks", "witnessCount", "I", false)
  | 11 => ("BoundWalks", "houses", "[LBoundWalks$House;", true)
  | 12 => ("BoundWalks", "houseCount", "I", false)
  | 13 => ("BoundWalks", "laws", "LBoundWalks$Ledger;", true)
  | 14 => ("BoundWalks", "gapYears", "I", false)
  | 15 => ("BoundWalks", "ownedFields", "[I", true)
  | _ => ("BoundWalks", "roundSeen", "[I", true)
def pw_t3 : Nat → FieldType := fun k => match k with
  | 0 => .array (.object "BoundWalks$Walk")
  | 1 => .int
  | 2 => .object "BoundWalks$Ledger"
  | 3 => .int
  | 4 => .array .int
  | 5 => .array .int
  | 6 => .array .int
  | 7 => .int
  | 8 => .object "BoundWalks$Ledger"
  | 9 => .array .int
  | 10 => .int
  | 11 => .array (.object "BoundWalks$House")
  | 12 => .int
  | 13 => .object "BoundWalks$Ledger"
  | 14 => .int
  | 15 => .array .int
  | _ => .array .int
theorem pw_nm3 : ∀ a, a < 17 → ∀ b, b < 17 → a ≠ b → (pw_T3 a).2.1 ≠ (pw_T3 b).2.1 := by decide +kernel
theorem pw_ty3 : ∀ k, k < 17 → parseFieldDescriptor (pw_T3 k).2.2.1 = some (pw_t3 k) := by decide +kernel
theorem pw_in3 : ∀ w ∈ u_ws "BoundWalks" pw_T3 17, w ∈ lw_tbl := by decide +kernel
theorem pw_gd3 : (u_ws "BoundWalks" pw_T3 17).all goodWord = true := by decide +kernel
def pw_T4 : u_T := fun k => match k with
  | 0 => ("BoundWalksModel", "parishes", "I", false)
  | 1 => ("BoundWalksModel", "startX", "[I", true)
  | 2 => ("BoundWalksModel", "startY", "[I", true)
  | 3 => ("BoundWalksModel", "legMany", "[I", true)
  | 4 => ("BoundWalksModel", "way", "[I", true)
  | 5 => ("BoundWalksModel", "low", "[I", true)
  | 6 => ("BoundWalksModel", "high", "[I", true)
  | 7 => ("BoundWalksModel", "agreements", "I", false)
  | 8 => ("BoundWalksModel", "agreeYear", "[I", true)
  | 9 => ("BoundWalksModel", "agreeField", "[I", true)
  | 10 => ("BoundWalksModel", "agreeTo", "[I", true)
  | 11 => ("BoundWalksModel", "now", "I", false)
  | 12 => ("BoundWalksModel", "stones", "I", false)
  | 13 => ("BoundWalksModel", "setYear", "[I", true)
  | 14 => ("BoundWalksModel", "setPoint", "[I", true)
  | 15 => ("BoundWalksModel", "seen", "[I", true)
  | 16 => ("BoundWalksModel", "tellings", "I", false)
  | 17 => ("BoundWalksModel", "toldOf", "[I", true)
  | 18 => ("BoundWalksModel", "toldYear", "[I", true)
  | 19 => ("BoundWalksModel", "toldWhen", "[I", true)
  | 20 => ("BoundWalksModel", "toldPoint", "[I", true)
  | 21 => ("BoundWalksModel", "witnesses", "I", false)
  | 22 => ("BoundWalksModel", "born", "[I", true)
  | 23 => ("BoundWalksModel", "houses", "I", false)
  | 24 => ("BoundWalksModel", "houseX", "[I", true)
  | 25 => ("BoundWalksModel", "houseY", "[I", true)
  | 26 => ("BoundWalksModel", "houseW", "[I", true)
  | 27 => ("BoundWalksModel", "houseH", "[I", true)
  | 28 => ("BoundWalksModel", "door", "[I", true)
  | 29 => ("BoundWalksModel", "hearth", "[I", true)
  | 30 => ("BoundWalksModel", "laws", "I", false)
  | 31 => ("BoundWalksModel", "lawUse", "[I", true)
  | 32 => ("BoundWalksModel", "lawYear", "[I", true)
  | 33 => ("BoundWalksModel", "lawBy", "[I", true)
  | 34 => ("BoundWalksModel", "gap", "I", false)
  | 35 => ("BoundWalksModel", "lengths", "[I", true)
  | 36 => ("BoundWalksModel", "sides", "[Z", true)
  | 37 => ("BoundWalksModel", "claim", "[I", true)
  | 38 => ("BoundWalksModel", "owns", "[I", true)
  | _ => ("BoundWalksModel", "last", "[I", true)
def pw_t4 : Nat → FieldType := fun k => match k with
  | 0 => .int
  | 1 => .array .int
  | 2 => .array .int
  | 3 => .array .int
  | 4 => .array .int
  | 5 => .array .int
  | 6 => .array .int
  | 7 => .int
  | 8 => .array .int
  | 9 => .array .int
  | 10 => .array .int
  | 11 => .int
  | 12 => .int
  | 13 => .array .int
  | 14 => .array .int
  | 15 => .array .int
  | 16 => .int
  | 17 => .array .int
  | 18 => .array .int
  | 19 => .array .int
  | 20 => .array .int
  | 21 => .int
  | 22 => .array .int
  | 23 => .int
  | 24 => .array .int
  | 25 => .array .int
  | 26 => .array .int
  | 27 => .array .int
  | 28 => .array .int
  | 29 => .array .int
  | 30 => .int
  | 31 => .array .int
  | 32 => .array .int
  | 33 => .array .int
  | 34 => .int
  | 35 => .array .int
  | 36 => .array .boolean
  | 37 => .array .int
  | 38 => .array .int
  | _ => .array .int
theorem pw_nm4 : ∀ a, a < 40 → ∀ b, b < 40 → a ≠ b → (pw_T4 a).2.1 ≠ (pw_T4 b).2.1 := by decide +kernel
theorem pw_ty4 : ∀ k, k < 40 → parseFieldDescriptor (pw_T4 k).2.2.1 = some (pw_t4 k) := by decide +kernel
theorem pw_in4 : ∀ w ∈ u_ws "BoundWalksModel" pw_T4 40, w ∈ lw_tbl := by decide +kernel
theorem pw_gd4 : (u_ws "BoundWalksModel" pw_T4 40).all goodWord = true := by decide +kernel
abbrev pw_cl : List vw_C := [("BoundWalks$House", pw_T0, 6), ("BoundWalks$Ledger", pw_T1, 5), ("BoundWalks$Walk", pw_T2, 10), ("BoundWalks", pw_T3, 17), ("BoundWalksModel", pw_T4, 40)]
abbrev pw_V : Type := Int32 ⊕ Option Nat
abbrev pw_O : Type := Instr × Nat × Nat × List Nat
def pw_def (k : Nat) : List pw_V := match k with
  | 0 => [.inl 0, .inl 0, .inl 0, .inl 0, .inl 0, .inl 0]
  | 1 => [.inr none, .inr none, .inr none, .inr none, .inl 0]
  | 2 => [.inl 0, .inl 0, .inr none, .inr none, .inr none, .inr none, .inr none, .inl 0, .inl 0, .inl 0]
  | 3 => [.inr none, .inl 0, .inr none, .inl 0, .inr none, .inr none, .inr none, .inl 0, .inr none, .inr none, .inl 0, .inr none, .inl 0, .inr none, .inl 0, .inr none, .inr none]
  | _ => [.inl 0, .inr none, .inr none, .inr none, .inr none, .inr none, .inr none, .inl 0, .inr none, .inr none, .inr none, .inl 0, .inl 0, .inr none, .inr none, .inr none, .inl 0, .inr none, .inr none, .inr none, .inr none, .inl 0, .inr none, .inl 0, .inr none, .inr none, .inr none, .inr none, .inr none, .inr none, .inl 0, .inr none, .inr none, .inr none, .inl 0, .inr none, .inr none, .inr none, .inr none, .inr none]
def pw_tyf (k : Nat) : Nat → FieldType := match k with
  | 0 => pw_t0
  | 1 => pw_t1
  | 2 => pw_t2
  | 3 => pw_t3
  | _ => pw_t4
-- 0 BoundWalksLaw.law([I)Z
def pw_o0_0 : List (Nat × pw_O) := [(0, .new 7, 3, 3, [46, 47, 39]), (3, .dup, 4, 0, []), (4, .invokespecial 9, 7, 23, [0, 3, 48, 49, 0, 39, 50]), (7, .astore_n 1, 8, 0, []), (8, .new 10, 11, 4, [462, 463, 42]), (11, .dup, 12, 0, []), (12, .invokespecial 12, 15, 68, [0, 4, 464, 465, 0, 42, 466]), (15, .astore_n 2, 16, 0, []), (16, .iconst 0, 17, 0, []), (17, .istore_n 3, 18, 0, []), (18, .iload_n 3, 19, 0, []), (19, .aload_n 0, 20, 0, []), (20, .arraylength, 21, 0, []), (21, .bipush 9, 23, 0, []), (23, .isub, 24, 0, []), (24, .if_icmp .gt 1006, 27, 1030, []), (27, .aload_n 0, 28, 0, []), (28, .iload_n 3, 29, 0, []), (29, .iaload, 30, 0, []), (30, .bipush 31, 32, 0, []), (32, .iand, 33, 0, []), (33, .tableswitch 991 0 23 #[111, 144, 197, 220, 253, 276, 309, 384, 427, 450, 473, 506, 559, 592, 635, 658, 691, 790, 833, 876, 899, 922, 935, 968], 144, 1024, [144, 177, 230, 253, 286, 309, 342, 417, 460, 483, 506, 539, 592, 625, 668, 691, 724, 823, 866, 909, 932, 955, 968, 1001]), (144, .aload_n 1, 145, 0, []), (145, .aload_n 0, 146, 0, []), (146, .iload_n 3, 147, 0, []), (147, .iconst 1, 148, 0, []), (148, .iadd, 149, 0, []), (149, .iaload, 150, 0, []), (150, .aload_n 0, 151, 0, []), (151, .iload_n 3, 152, 0, []), (152, .iconst 2, 153, 0, []), (153, .iadd, 154, 0, []), (154, .iaload, 155, 0, []), (155, .invokevirtual 13, 158, 24, [2, 3, 136, 137, 138, 39, 139]), (158, .aload_n 2, 159, 0, []), (159, .aload_n 0, 160, 0, []), (160, .iload_n 3, 161, 0, []), (161, .iconst 1, 162, 0, []), (162, .iadd, 163, 0, []), (163, .iaload, 164, 0, []), (164, .aload_n 0, 165, 0, []), (165, .iload_n 3, 166, 0, []), (166, .iconst 2, 167, 0, []), (167, .iadd, 168, 0, []), (168, .iaload, 169, 0, []), (169, .invokevirtual 17, 172, 74, [2, 4, 590, 591, 592, 42, 593]), (172, .if_icmp .eq 852, 175, 1024, []), (175, .iconst 0, 176, 0, [])]
def pw_o0_1 : List (Nat × pw_O) := [(176, .ireturn, 177, 0, []), (177, .aload_n 1, 178, 0, []), (178, .aload_n 0, 179, 0, []), (179, .iload_n 3, 180, 0, []), (180, .iconst 1, 181, 0, []), (181, .iadd, 182, 0, []), (182, .iaload, 183, 0, []), (183, .aload_n 0, 184, 0, []), (184, .iload_n 3, 185, 0, []), (185, .iconst 2, 186, 0, []), (186, .iadd, 187, 0, []), (187, .iaload, 188, 0, []), (188, .aload_n 0, 189, 0, []), (189, .iload_n 3, 190, 0, []), (190, .iconst 3, 191, 0, []), (191, .iadd, 192, 0, []), (192, .iaload, 193, 0, []), (193, .aload_n 0, 194, 0, []), (194, .iload_n 3, 195, 0, []), (195, .iconst 4, 196, 0, []), (196, .iadd, 197, 0, []), (197, .iaload, 198, 0, []), (198, .invokevirtual 18, 201, 25, [4, 3, 182, 183, 184, 39, 185]), (201, .aload_n 2, 202, 0, []), (202, .aload_n 0, 203, 0, []), (203, .iload_n 3, 204, 0, []), (204, .iconst 1, 205, 0, []), (205, .iadd, 206, 0, []), (206, .iaload, 207, 0, []), (207, .aload_n 0, 208, 0, []), (208, .iload_n 3, 209, 0, []), (209, .iconst 2, 210, 0, []), (210, .iadd, 211, 0, []), (211, .iaload, 212, 0, []), (212, .aload_n 0, 213, 0, []), (213, .iload_n 3, 214, 0, []), (214, .iconst 3, 215, 0, []), (215, .iadd, 216, 0, []), (216, .iaload, 217, 0, []), (217, .aload_n 0, 218, 0, []), (218, .iload_n 3, 219, 0, []), (219, .iconst 4, 220, 0, []), (220, .iadd, 221, 0, []), (221, .iaload, 222, 0, []), (222, .invokevirtual 22, 225, 75, [4, 4, 600, 601, 602, 42, 603]), (225, .if_icmp .eq 799, 228, 1024, []), (228, .iconst 0, 229, 0, []), (229, .ireturn, 230, 0, [])]
def pw_o0_2 : List (Nat × pw_O) := [(230, .aload_n 1, 231, 0, []), (231, .aload_n 0, 232, 0, []), (232, .iload_n 3, 233, 0, []), (233, .iconst 1, 234, 0, []), (234, .iadd, 235, 0, []), (235, .iaload, 236, 0, []), (236, .invokevirtual 23, 239, 26, [1, 3, 240, 241, 242, 39, 243]), (239, .aload_n 2, 240, 0, []), (240, .aload_n 0, 241, 0, []), (241, .iload_n 3, 242, 0, []), (242, .iconst 1, 243, 0, []), (243, .iadd, 244, 0, []), (244, .iaload, 245, 0, []), (245, .invokevirtual 27, 248, 76, [1, 4, 608, 609, 610, 42, 611]), (248, .if_icmp .eq 776, 251, 1024, []), (251, .iconst 0, 252, 0, []), (252, .ireturn, 253, 0, []), (253, .aload_n 1, 254, 0, []), (254, .aload_n 0, 255, 0, []), (255, .iload_n 3, 256, 0, []), (256, .iconst 1, 257, 0, []), (257, .iadd, 258, 0, []), (258, .iaload, 259, 0, []), (259, .aload_n 0, 260, 0, []), (260, .iload_n 3, 261, 0, []), (261, .iconst 2, 262, 0, []), (262, .iadd, 263, 0, []), (263, .iaload, 264, 0, []), (264, .invokevirtual 28, 267, 27, [2, 3, 248, 249, 250, 39, 251]), (267, .aload_n 2, 268, 0, []), (268, .aload_n 0, 269, 0, []), (269, .iload_n 3, 270, 0, []), (270, .iconst 1, 271, 0, []), (271, .iadd, 272, 0, []), (272, .iaload, 273, 0, []), (273, .aload_n 0, 274, 0, []), (274, .iload_n 3, 275, 0, []), (275, .iconst 2, 276, 0, []), (276, .iadd, 277, 0, []), (277, .iaload, 278, 0, []), (278, .invokevirtual 31, 281, 80, [2, 4, 612, 613, 614, 42, 615]), (281, .if_icmp .eq 743, 284, 1024, []), (284, .iconst 0, 285, 0, []), (285, .ireturn, 286, 0, []), (286, .aload_n 1, 287, 0, []), (287, .aload_n 0, 288, 0, []), (288, .iload_n 3, 289, 0, []), (289, .iconst 1, 290, 0, [])]
def pw_o0_3 : List (Nat × pw_O) := [(290, .iadd, 291, 0, []), (291, .iaload, 292, 0, []), (292, .invokevirtual 32, 295, 28, [1, 3, 256, 257, 258, 39, 259]), (295, .aload_n 2, 296, 0, []), (296, .aload_n 0, 297, 0, []), (297, .iload_n 3, 298, 0, []), (298, .iconst 1, 299, 0, []), (299, .iadd, 300, 0, []), (300, .iaload, 301, 0, []), (301, .invokevirtual 35, 304, 83, [1, 4, 628, 629, 630, 42, 631]), (304, .if_icmp .eq 720, 307, 1024, []), (307, .iconst 0, 308, 0, []), (308, .ireturn, 309, 0, []), (309, .aload_n 1, 310, 0, []), (310, .aload_n 0, 311, 0, []), (311, .iload_n 3, 312, 0, []), (312, .iconst 1, 313, 0, []), (313, .iadd, 314, 0, []), (314, .iaload, 315, 0, []), (315, .aload_n 0, 316, 0, []), (316, .iload_n 3, 317, 0, []), (317, .iconst 2, 318, 0, []), (318, .iadd, 319, 0, []), (319, .iaload, 320, 0, []), (320, .invokevirtual 36, 323, 29, [2, 3, 270, 271, 272, 39, 273]), (323, .aload_n 2, 324, 0, []), (324, .aload_n 0, 325, 0, []), (325, .iload_n 3, 326, 0, []), (326, .iconst 1, 327, 0, []), (327, .iadd, 328, 0, []), (328, .iaload, 329, 0, []), (329, .aload_n 0, 330, 0, []), (330, .iload_n 3, 331, 0, []), (331, .iconst 2, 332, 0, []), (332, .iadd, 333, 0, []), (333, .iaload, 334, 0, []), (334, .invokevirtual 39, 337, 85, [2, 4, 640, 641, 642, 42, 643]), (337, .if_icmp .eq 687, 340, 1024, []), (340, .iconst 0, 341, 0, []), (341, .ireturn, 342, 0, []), (342, .aload_n 1, 343, 0, []), (343, .aload_n 0, 344, 0, []), (344, .iload_n 3, 345, 0, []), (345, .iconst 1, 346, 0, []), (346, .iadd, 347, 0, []), (347, .iaload, 348, 0, []), (348, .aload_n 0, 349, 0, []), (349, .iload_n 3, 350, 0, [])]
def pw_o0_4 : List (Nat × pw_O) := [(350, .iconst 2, 351, 0, []), (351, .iadd, 352, 0, []), (352, .iaload, 353, 0, []), (353, .aload_n 0, 354, 0, []), (354, .iload_n 3, 355, 0, []), (355, .iconst 3, 356, 0, []), (356, .iadd, 357, 0, []), (357, .iaload, 358, 0, []), (358, .aload_n 0, 359, 0, []), (359, .iload_n 3, 360, 0, []), (360, .iconst 4, 361, 0, []), (361, .iadd, 362, 0, []), (362, .iaload, 363, 0, []), (363, .aload_n 0, 364, 0, []), (364, .iload_n 3, 365, 0, []), (365, .iconst 5, 366, 0, []), (366, .iadd, 367, 0, []), (367, .iaload, 368, 0, []), (368, .aload_n 0, 369, 0, []), (369, .iload_n 3, 370, 0, []), (370, .bipush 6, 372, 0, []), (372, .iadd, 373, 0, []), (373, .iaload, 374, 0, []), (374, .invokevirtual 40, 377, 30, [6, 3, 289, 290, 291, 39, 292]), (377, .aload_n 2, 378, 0, []), (378, .aload_n 0, 379, 0, []), (379, .iload_n 3, 380, 0, []), (380, .iconst 1, 381, 0, []), (381, .iadd, 382, 0, []), (382, .iaload, 383, 0, []), (383, .aload_n 0, 384, 0, []), (384, .iload_n 3, 385, 0, []), (385, .iconst 2, 386, 0, []), (386, .iadd, 387, 0, []), (387, .iaload, 388, 0, []), (388, .aload_n 0, 389, 0, []), (389, .iload_n 3, 390, 0, []), (390, .iconst 3, 391, 0, []), (391, .iadd, 392, 0, []), (392, .iaload, 393, 0, []), (393, .aload_n 0, 394, 0, []), (394, .iload_n 3, 395, 0, []), (395, .iconst 4, 396, 0, []), (396, .iadd, 397, 0, []), (397, .iaload, 398, 0, []), (398, .aload_n 0, 399, 0, []), (399, .iload_n 3, 400, 0, []), (400, .iconst 5, 401, 0, [])]
def pw_o0_5 : List (Nat × pw_O) := [(401, .iadd, 402, 0, []), (402, .iaload, 403, 0, []), (403, .aload_n 0, 404, 0, []), (404, .iload_n 3, 405, 0, []), (405, .bipush 6, 407, 0, []), (407, .iadd, 408, 0, []), (408, .iaload, 409, 0, []), (409, .invokevirtual 44, 412, 86, [6, 4, 651, 652, 653, 42, 654]), (412, .if_icmp .eq 612, 415, 1024, []), (415, .iconst 0, 416, 0, []), (416, .ireturn, 417, 0, []), (417, .aload_n 1, 418, 0, []), (418, .aload_n 0, 419, 0, []), (419, .iload_n 3, 420, 0, []), (420, .iconst 1, 421, 0, []), (421, .iadd, 422, 0, []), (422, .iaload, 423, 0, []), (423, .aload_n 0, 424, 0, []), (424, .iload_n 3, 425, 0, []), (425, .iconst 2, 426, 0, []), (426, .iadd, 427, 0, []), (427, .iaload, 428, 0, []), (428, .aload_n 0, 429, 0, []), (429, .iload_n 3, 430, 0, []), (430, .iconst 3, 431, 0, []), (431, .iadd, 432, 0, []), (432, .iaload, 433, 0, []), (433, .invokevirtual 45, 436, 31, [3, 3, 309, 310, 311, 39, 312]), (436, .aload_n 2, 437, 0, []), (437, .aload_n 0, 438, 0, []), (438, .iload_n 3, 439, 0, []), (439, .iconst 1, 440, 0, []), (440, .iadd, 441, 0, []), (441, .iaload, 442, 0, []), (442, .aload_n 0, 443, 0, []), (443, .iload_n 3, 444, 0, []), (444, .iconst 2, 445, 0, []), (445, .iadd, 446, 0, []), (446, .iaload, 447, 0, []), (447, .aload_n 0, 448, 0, []), (448, .iload_n 3, 449, 0, []), (449, .iconst 3, 450, 0, []), (450, .iadd, 451, 0, []), (451, .iaload, 452, 0, []), (452, .invokevirtual 49, 455, 88, [3, 4, 658, 659, 660, 42, 661]), (455, .if_icmp .eq 569, 458, 1024, []), (458, .iconst 0, 459, 0, []), (459, .ireturn, 460, 0, [])]
def pw_o0_6 : List (Nat × pw_O) := [(460, .aload_n 1, 461, 0, []), (461, .aload_n 0, 462, 0, []), (462, .iload_n 3, 463, 0, []), (463, .iconst 1, 464, 0, []), (464, .iadd, 465, 0, []), (465, .iaload, 466, 0, []), (466, .invokevirtual 50, 469, 32, [1, 3, 324, 325, 326, 39, 327]), (469, .aload_n 2, 470, 0, []), (470, .aload_n 0, 471, 0, []), (471, .iload_n 3, 472, 0, []), (472, .iconst 1, 473, 0, []), (473, .iadd, 474, 0, []), (474, .iaload, 475, 0, []), (475, .invokevirtual 53, 478, 90, [1, 4, 666, 667, 668, 42, 669]), (478, .if_icmp .eq 546, 481, 1024, []), (481, .iconst 0, 482, 0, []), (482, .ireturn, 483, 0, []), (483, .aload_n 1, 484, 0, []), (484, .aload_n 0, 485, 0, []), (485, .iload_n 3, 486, 0, []), (486, .iconst 1, 487, 0, []), (487, .iadd, 488, 0, []), (488, .iaload, 489, 0, []), (489, .invokevirtual 54, 492, 33, [1, 3, 329, 330, 331, 39, 332]), (492, .aload_n 2, 493, 0, []), (493, .aload_n 0, 494, 0, []), (494, .iload_n 3, 495, 0, []), (495, .iconst 1, 496, 0, []), (496, .iadd, 497, 0, []), (497, .iaload, 498, 0, []), (498, .invokevirtual 57, 501, 91, [1, 4, 673, 674, 675, 42, 676]), (501, .if_icmp .eq 523, 504, 1024, []), (504, .iconst 0, 505, 0, []), (505, .ireturn, 506, 0, []), (506, .aload_n 1, 507, 0, []), (507, .aload_n 0, 508, 0, []), (508, .iload_n 3, 509, 0, []), (509, .iconst 1, 510, 0, []), (510, .iadd, 511, 0, []), (511, .iaload, 512, 0, []), (512, .aload_n 0, 513, 0, []), (513, .iload_n 3, 514, 0, []), (514, .iconst 2, 515, 0, []), (515, .iadd, 516, 0, []), (516, .iaload, 517, 0, []), (517, .invokevirtual 58, 520, 34, [2, 3, 333, 334, 335, 39, 336]), (520, .aload_n 2, 521, 0, []), (521, .aload_n 0, 522, 0, [])]
def pw_o0_7 : List (Nat × pw_O) := [(522, .iload_n 3, 523, 0, []), (523, .iconst 1, 524, 0, []), (524, .iadd, 525, 0, []), (525, .iaload, 526, 0, []), (526, .aload_n 0, 527, 0, []), (527, .iload_n 3, 528, 0, []), (528, .iconst 2, 529, 0, []), (529, .iadd, 530, 0, []), (530, .iaload, 531, 0, []), (531, .invokevirtual 61, 534, 93, [2, 4, 677, 678, 679, 42, 680]), (534, .if_icmp .eq 490, 537, 1024, []), (537, .iconst 0, 538, 0, []), (538, .ireturn, 539, 0, []), (539, .aload_n 1, 540, 0, []), (540, .aload_n 0, 541, 0, []), (541, .iload_n 3, 542, 0, []), (542, .iconst 1, 543, 0, []), (543, .iadd, 544, 0, []), (544, .iaload, 545, 0, []), (545, .aload_n 0, 546, 0, []), (546, .iload_n 3, 547, 0, []), (547, .iconst 2, 548, 0, []), (548, .iadd, 549, 0, []), (549, .iaload, 550, 0, []), (550, .aload_n 0, 551, 0, []), (551, .iload_n 3, 552, 0, []), (552, .iconst 3, 553, 0, []), (553, .iadd, 554, 0, []), (554, .iaload, 555, 0, []), (555, .aload_n 0, 556, 0, []), (556, .iload_n 3, 557, 0, []), (557, .iconst 4, 558, 0, []), (558, .iadd, 559, 0, []), (559, .iaload, 560, 0, []), (560, .invokevirtual 62, 563, 35, [4, 3, 340, 341, 342, 39, 343]), (563, .aload_n 2, 564, 0, []), (564, .aload_n 0, 565, 0, []), (565, .iload_n 3, 566, 0, []), (566, .iconst 1, 567, 0, []), (567, .iadd, 568, 0, []), (568, .iaload, 569, 0, []), (569, .aload_n 0, 570, 0, []), (570, .iload_n 3, 571, 0, []), (571, .iconst 2, 572, 0, []), (572, .iadd, 573, 0, []), (573, .iaload, 574, 0, []), (574, .aload_n 0, 575, 0, []), (575, .iload_n 3, 576, 0, [])]
def pw_o0_8 : List (Nat × pw_O) := [(576, .iconst 3, 577, 0, []), (577, .iadd, 578, 0, []), (578, .iaload, 579, 0, []), (579, .aload_n 0, 580, 0, []), (580, .iload_n 3, 581, 0, []), (581, .iconst 4, 582, 0, []), (582, .iadd, 583, 0, []), (583, .iaload, 584, 0, []), (584, .invokevirtual 65, 587, 96, [4, 4, 681, 682, 683, 42, 684]), (587, .if_icmp .eq 437, 590, 1024, []), (590, .iconst 0, 591, 0, []), (591, .ireturn, 592, 0, []), (592, .aload_n 1, 593, 0, []), (593, .aload_n 0, 594, 0, []), (594, .iload_n 3, 595, 0, []), (595, .iconst 1, 596, 0, []), (596, .iadd, 597, 0, []), (597, .iaload, 598, 0, []), (598, .aload_n 0, 599, 0, []), (599, .iload_n 3, 600, 0, []), (600, .iconst 2, 601, 0, []), (601, .iadd, 602, 0, []), (602, .iaload, 603, 0, []), (603, .invokevirtual 66, 606, 36, [2, 3, 356, 357, 358, 39, 359]), (606, .aload_n 2, 607, 0, []), (607, .aload_n 0, 608, 0, []), (608, .iload_n 3, 609, 0, []), (609, .iconst 1, 610, 0, []), (610, .iadd, 611, 0, []), (611, .iaload, 612, 0, []), (612, .aload_n 0, 613, 0, []), (613, .iload_n 3, 614, 0, []), (614, .iconst 2, 615, 0, []), (615, .iadd, 616, 0, []), (616, .iaload, 617, 0, []), (617, .invokevirtual 69, 620, 97, [2, 4, 697, 698, 699, 42, 700]), (620, .if_icmp .eq 404, 623, 1024, []), (623, .iconst 0, 624, 0, []), (624, .ireturn, 625, 0, []), (625, .aload_n 1, 626, 0, []), (626, .aload_n 0, 627, 0, []), (627, .iload_n 3, 628, 0, []), (628, .iconst 1, 629, 0, []), (629, .iadd, 630, 0, []), (630, .iaload, 631, 0, []), (631, .aload_n 0, 632, 0, []), (632, .iload_n 3, 633, 0, []), (633, .iconst 2, 634, 0, [])]
def pw_o0_9 : List (Nat × pw_O) := [(634, .iadd, 635, 0, []), (635, .iaload, 636, 0, []), (636, .aload_n 0, 637, 0, []), (637, .iload_n 3, 638, 0, []), (638, .iconst 3, 639, 0, []), (639, .iadd, 640, 0, []), (640, .iaload, 641, 0, []), (641, .invokevirtual 70, 644, 37, [3, 3, 360, 361, 362, 39, 363]), (644, .aload_n 2, 645, 0, []), (645, .aload_n 0, 646, 0, []), (646, .iload_n 3, 647, 0, []), (647, .iconst 1, 648, 0, []), (648, .iadd, 649, 0, []), (649, .iaload, 650, 0, []), (650, .aload_n 0, 651, 0, []), (651, .iload_n 3, 652, 0, []), (652, .iconst 2, 653, 0, []), (653, .iadd, 654, 0, []), (654, .iaload, 655, 0, []), (655, .aload_n 0, 656, 0, []), (656, .iload_n 3, 657, 0, []), (657, .iconst 3, 658, 0, []), (658, .iadd, 659, 0, []), (659, .iaload, 660, 0, []), (660, .invokevirtual 73, 663, 99, [3, 4, 701, 702, 703, 42, 704]), (663, .if_icmp .eq 361, 666, 1024, []), (666, .iconst 0, 667, 0, []), (667, .ireturn, 668, 0, []), (668, .aload_n 1, 669, 0, []), (669, .aload_n 0, 670, 0, []), (670, .iload_n 3, 671, 0, []), (671, .iconst 1, 672, 0, []), (672, .iadd, 673, 0, []), (673, .iaload, 674, 0, []), (674, .invokevirtual 74, 677, 38, [1, 3, 364, 365, 366, 39, 367]), (677, .aload_n 2, 678, 0, []), (678, .aload_n 0, 679, 0, []), (679, .iload_n 3, 680, 0, []), (680, .iconst 1, 681, 0, []), (681, .iadd, 682, 0, []), (682, .iaload, 683, 0, []), (683, .invokevirtual 77, 686, 100, [1, 4, 709, 710, 711, 42, 712]), (686, .if_icmp .eq 338, 689, 1024, []), (689, .iconst 0, 690, 0, []), (690, .ireturn, 691, 0, []), (691, .aload_n 1, 692, 0, []), (692, .aload_n 0, 693, 0, []), (693, .iload_n 3, 694, 0, [])]
def pw_o0_10 : List (Nat × pw_O) := [(694, .iconst 1, 695, 0, []), (695, .iadd, 696, 0, []), (696, .iaload, 697, 0, []), (697, .aload_n 0, 698, 0, []), (698, .iload_n 3, 699, 0, []), (699, .iconst 2, 700, 0, []), (700, .iadd, 701, 0, []), (701, .iaload, 702, 0, []), (702, .invokevirtual 78, 705, 39, [2, 3, 368, 369, 370, 39, 371]), (705, .aload_n 2, 706, 0, []), (706, .aload_n 0, 707, 0, []), (707, .iload_n 3, 708, 0, []), (708, .iconst 1, 709, 0, []), (709, .iadd, 710, 0, []), (710, .iaload, 711, 0, []), (711, .aload_n 0, 712, 0, []), (712, .iload_n 3, 713, 0, []), (713, .iconst 2, 714, 0, []), (714, .iadd, 715, 0, []), (715, .iaload, 716, 0, []), (716, .invokevirtual 81, 719, 101, [2, 4, 713, 714, 715, 42, 716]), (719, .if_icmp .eq 305, 722, 1024, []), (722, .iconst 0, 723, 0, []), (723, .ireturn, 724, 0, []), (724, .aload_n 1, 725, 0, []), (725, .aload_n 0, 726, 0, []), (726, .iload_n 3, 727, 0, []), (727, .iconst 1, 728, 0, []), (728, .iadd, 729, 0, []), (729, .iaload, 730, 0, []), (730, .aload_n 0, 731, 0, []), (731, .iload_n 3, 732, 0, []), (732, .iconst 2, 733, 0, []), (733, .iadd, 734, 0, []), (734, .iaload, 735, 0, []), (735, .aload_n 0, 736, 0, []), (736, .iload_n 3, 737, 0, []), (737, .iconst 3, 738, 0, []), (738, .iadd, 739, 0, []), (739, .iaload, 740, 0, []), (740, .aload_n 0, 741, 0, []), (741, .iload_n 3, 742, 0, []), (742, .iconst 4, 743, 0, []), (743, .iadd, 744, 0, []), (744, .iaload, 745, 0, []), (745, .aload_n 0, 746, 0, []), (746, .iload_n 3, 747, 0, []), (747, .iconst 5, 748, 0, [])]
def pw_o0_11 : List (Nat × pw_O) := [(748, .iadd, 749, 0, []), (749, .iaload, 750, 0, []), (750, .aload_n 0, 751, 0, []), (751, .iload_n 3, 752, 0, []), (752, .bipush 6, 754, 0, []), (754, .iadd, 755, 0, []), (755, .iaload, 756, 0, []), (756, .aload_n 0, 757, 0, []), (757, .iload_n 3, 758, 0, []), (758, .bipush 7, 760, 0, []), (760, .iadd, 761, 0, []), (761, .iaload, 762, 0, []), (762, .aload_n 0, 763, 0, []), (763, .iload_n 3, 764, 0, []), (764, .bipush 8, 766, 0, []), (766, .iadd, 767, 0, []), (767, .iaload, 768, 0, []), (768, .invokevirtual 82, 771, 40, [8, 3, 372, 373, 374, 39, 375]), (771, .aload_n 2, 772, 0, []), (772, .aload_n 0, 773, 0, []), (773, .iload_n 3, 774, 0, []), (774, .iconst 1, 775, 0, []), (775, .iadd, 776, 0, []), (776, .iaload, 777, 0, []), (777, .aload_n 0, 778, 0, []), (778, .iload_n 3, 779, 0, []), (779, .iconst 2, 780, 0, []), (780, .iadd, 781, 0, []), (781, .iaload, 782, 0, []), (782, .aload_n 0, 783, 0, []), (783, .iload_n 3, 784, 0, []), (784, .iconst 3, 785, 0, []), (785, .iadd, 786, 0, []), (786, .iaload, 787, 0, []), (787, .aload_n 0, 788, 0, []), (788, .iload_n 3, 789, 0, []), (789, .iconst 4, 790, 0, []), (790, .iadd, 791, 0, []), (791, .iaload, 792, 0, []), (792, .aload_n 0, 793, 0, []), (793, .iload_n 3, 794, 0, []), (794, .iconst 5, 795, 0, []), (795, .iadd, 796, 0, []), (796, .iaload, 797, 0, []), (797, .aload_n 0, 798, 0, []), (798, .iload_n 3, 799, 0, []), (799, .bipush 6, 801, 0, []), (801, .iadd, 802, 0, [])]
def pw_o0_12 : List (Nat × pw_O) := [(802, .iaload, 803, 0, []), (803, .aload_n 0, 804, 0, []), (804, .iload_n 3, 805, 0, []), (805, .bipush 7, 807, 0, []), (807, .iadd, 808, 0, []), (808, .iaload, 809, 0, []), (809, .aload_n 0, 810, 0, []), (810, .iload_n 3, 811, 0, []), (811, .bipush 8, 813, 0, []), (813, .iadd, 814, 0, []), (814, .iaload, 815, 0, []), (815, .invokevirtual 86, 818, 102, [8, 4, 717, 718, 719, 42, 720]), (818, .if_icmp .eq 206, 821, 1024, []), (821, .iconst 0, 822, 0, []), (822, .ireturn, 823, 0, []), (823, .aload_n 1, 824, 0, []), (824, .aload_n 0, 825, 0, []), (825, .iload_n 3, 826, 0, []), (826, .iconst 1, 827, 0, []), (827, .iadd, 828, 0, []), (828, .iaload, 829, 0, []), (829, .aload_n 0, 830, 0, []), (830, .iload_n 3, 831, 0, []), (831, .iconst 2, 832, 0, []), (832, .iadd, 833, 0, []), (833, .iaload, 834, 0, []), (834, .aload_n 0, 835, 0, []), (835, .iload_n 3, 836, 0, []), (836, .iconst 3, 837, 0, []), (837, .iadd, 838, 0, []), (838, .iaload, 839, 0, []), (839, .invokevirtual 87, 842, 41, [3, 3, 406, 407, 408, 39, 409]), (842, .aload_n 2, 843, 0, []), (843, .aload_n 0, 844, 0, []), (844, .iload_n 3, 845, 0, []), (845, .iconst 1, 846, 0, []), (846, .iadd, 847, 0, []), (847, .iaload, 848, 0, []), (848, .aload_n 0, 849, 0, []), (849, .iload_n 3, 850, 0, []), (850, .iconst 2, 851, 0, []), (851, .iadd, 852, 0, []), (852, .iaload, 853, 0, []), (853, .aload_n 0, 854, 0, []), (854, .iload_n 3, 855, 0, []), (855, .iconst 3, 856, 0, []), (856, .iadd, 857, 0, []), (857, .iaload, 858, 0, [])]
def pw_o0_13 : List (Nat × pw_O) := [(858, .invokevirtual 90, 861, 103, [3, 4, 721, 722, 723, 42, 724]), (861, .if_icmp .eq 163, 864, 1024, []), (864, .iconst 0, 865, 0, []), (865, .ireturn, 866, 0, []), (866, .aload_n 1, 867, 0, []), (867, .aload_n 0, 868, 0, []), (868, .iload_n 3, 869, 0, []), (869, .iconst 1, 870, 0, []), (870, .iadd, 871, 0, []), (871, .iaload, 872, 0, []), (872, .aload_n 0, 873, 0, []), (873, .iload_n 3, 874, 0, []), (874, .iconst 2, 875, 0, []), (875, .iadd, 876, 0, []), (876, .iaload, 877, 0, []), (877, .aload_n 0, 878, 0, []), (878, .iload_n 3, 879, 0, []), (879, .iconst 3, 880, 0, []), (880, .iadd, 881, 0, []), (881, .iaload, 882, 0, []), (882, .invokevirtual 91, 885, 42, [3, 3, 410, 411, 412, 39, 413]), (885, .aload_n 2, 886, 0, []), (886, .aload_n 0, 887, 0, []), (887, .iload_n 3, 888, 0, []), (888, .iconst 1, 889, 0, []), (889, .iadd, 890, 0, []), (890, .iaload, 891, 0, []), (891, .aload_n 0, 892, 0, []), (892, .iload_n 3, 893, 0, []), (893, .iconst 2, 894, 0, []), (894, .iadd, 895, 0, []), (895, .iaload, 896, 0, []), (896, .aload_n 0, 897, 0, []), (897, .iload_n 3, 898, 0, []), (898, .iconst 3, 899, 0, []), (899, .iadd, 900, 0, []), (900, .iaload, 901, 0, []), (901, .invokevirtual 94, 904, 106, [3, 4, 725, 726, 727, 42, 728]), (904, .if_icmp .eq 120, 907, 1024, []), (907, .iconst 0, 908, 0, []), (908, .ireturn, 909, 0, []), (909, .aload_n 1, 910, 0, []), (910, .aload_n 0, 911, 0, []), (911, .iload_n 3, 912, 0, []), (912, .iconst 1, 913, 0, []), (913, .iadd, 914, 0, []), (914, .iaload, 915, 0, []), (915, .invokevirtual 95, 918, 43, [1, 3, 422, 423, 424, 39, 425])]
def pw_o0_14 : List (Nat × pw_O) := [(918, .aload_n 2, 919, 0, []), (919, .aload_n 0, 920, 0, []), (920, .iload_n 3, 921, 0, []), (921, .iconst 1, 922, 0, []), (922, .iadd, 923, 0, []), (923, .iaload, 924, 0, []), (924, .invokevirtual 98, 927, 108, [1, 4, 737, 738, 739, 42, 740]), (927, .if_icmp .eq 97, 930, 1024, []), (930, .iconst 0, 931, 0, []), (931, .ireturn, 932, 0, []), (932, .aload_n 1, 933, 0, []), (933, .aload_n 0, 934, 0, []), (934, .iload_n 3, 935, 0, []), (935, .iconst 1, 936, 0, []), (936, .iadd, 937, 0, []), (937, .iaload, 938, 0, []), (938, .invokevirtual 99, 941, 44, [1, 3, 430, 431, 432, 39, 433]), (941, .aload_n 2, 942, 0, []), (942, .aload_n 0, 943, 0, []), (943, .iload_n 3, 944, 0, []), (944, .iconst 1, 945, 0, []), (945, .iadd, 946, 0, []), (946, .iaload, 947, 0, []), (947, .invokevirtual 102, 950, 109, [1, 4, 745, 746, 747, 42, 748]), (950, .if_icmp .eq 74, 953, 1024, []), (953, .iconst 0, 954, 0, []), (954, .ireturn, 955, 0, []), (955, .aload_n 1, 956, 0, []), (956, .invokevirtual 103, 959, 45, [0, 3, 434, 435, 436, 39, 437]), (959, .aload_n 2, 960, 0, []), (960, .invokevirtual 107, 963, 110, [0, 4, 749, 750, 751, 42, 752]), (963, .if_icmp .eq 61, 966, 1024, []), (966, .iconst 0, 967, 0, []), (967, .ireturn, 968, 0, []), (968, .aload_n 1, 969, 0, []), (969, .aload_n 0, 970, 0, []), (970, .iload_n 3, 971, 0, []), (971, .iconst 1, 972, 0, []), (972, .iadd, 973, 0, []), (973, .iaload, 974, 0, []), (974, .aload_n 0, 975, 0, []), (975, .iload_n 3, 976, 0, []), (976, .iconst 2, 977, 0, []), (977, .iadd, 978, 0, []), (978, .iaload, 979, 0, []), (979, .invokevirtual 108, 982, 46, [2, 3, 438, 439, 440, 39, 441]), (982, .aload_n 2, 983, 0, []), (983, .aload_n 0, 984, 0, [])]
def pw_o0_15 : List (Nat × pw_O) := [(984, .iload_n 3, 985, 0, []), (985, .iconst 1, 986, 0, []), (986, .iadd, 987, 0, []), (987, .iaload, 988, 0, []), (988, .aload_n 0, 989, 0, []), (989, .iload_n 3, 990, 0, []), (990, .iconst 2, 991, 0, []), (991, .iadd, 992, 0, []), (992, .iaload, 993, 0, []), (993, .invokevirtual 111, 996, 112, [2, 4, 753, 754, 755, 42, 756]), (996, .if_icmp .eq 28, 999, 1024, []), (999, .iconst 0, 1000, 0, []), (1000, .ireturn, 1001, 0, []), (1001, .aload_n 1, 1002, 0, []), (1002, .aload_n 0, 1003, 0, []), (1003, .iload_n 3, 1004, 0, []), (1004, .iconst 1, 1005, 0, []), (1005, .iadd, 1006, 0, []), (1006, .iaload, 1007, 0, []), (1007, .invokevirtual 112, 1010, 47, [1, 3, 454, 455, 456, 39, 457]), (1010, .aload_n 2, 1011, 0, []), (1011, .aload_n 0, 1012, 0, []), (1012, .iload_n 3, 1013, 0, []), (1013, .iconst 1, 1014, 0, []), (1014, .iadd, 1015, 0, []), (1015, .iaload, 1016, 0, []), (1016, .invokevirtual 115, 1019, 113, [1, 4, 761, 762, 763, 42, 764]), (1019, .if_icmp .eq 5, 1022, 1024, []), (1022, .iconst 0, 1023, 0, []), (1023, .ireturn, 1024, 0, []), (1024, .iinc 3 9, 1027, 0, []), (1027, .goto (-1009), 1030, 18, []), (1030, .iconst 1, 1031, 0, []), (1031, .ireturn, 1032, 0, [])]
def pw_o0 : List (Nat × pw_O) := pw_o0_0 ++ (pw_o0_1 ++ (pw_o0_2 ++ (pw_o0_3 ++ (pw_o0_4 ++ (pw_o0_5 ++ (pw_o0_6 ++ (pw_o0_7 ++ (pw_o0_8 ++ (pw_o0_9 ++ (pw_o0_10 ++ (pw_o0_11 ++ (pw_o0_12 ++ (pw_o0_13 ++ (pw_o0_14 ++ (pw_o0_15)))))))))))))))
-- 1 BoundWalks$House.<init>(IIIIII)V
def pw_o1 : List (Nat × pw_O) := [(0, .aload_n 0, 1, 0, []), (1, .invokespecial 1, 4, 0, [380]), (4, .aload_n 0, 5, 0, []), (5, .iload_n 1, 6, 0, []), (6, .putfield 7, 9, 0, [0, 0, 381, 1]), (9, .aload_n 0, 10, 0, []), (10, .iload_n 2, 11, 0, []), (11, .putfield 13, 14, 0, [1, 0, 383, 1]), (14, .aload_n 0, 15, 0, []), (15, .iload_n 3, 16, 0, []), (16, .putfield 16, 19, 0, [2, 0, 385, 1]), (19, .aload_n 0, 20, 0, []), (20, .iload 4, 22, 0, []), (22, .putfield 19, 25, 0, [3, 0, 387, 1]), (25, .aload_n 0, 26, 0, []), (26, .iload 5, 28, 0, []), (28, .putfield 22, 31, 0, [4, 0, 389, 1]), (31, .aload_n 0, 32, 0, []), (32, .iload 6, 34, 0, []), (34, .putfield 25, 37, 0, [5, 0, 391, 1]), (37, .return_, 38, 0, [])]
-- 2 BoundWalks$Ledger.<init>(I)V
def pw_o2 : List (Nat × pw_O) := [(0, .aload_n 0, 1, 0, []), (1, .invokespecial 3, 4, 0, [61]), (4, .iload_n 1, 5, 0, []), (5, .iconst 0, 6, 0, []), (6, .invokestatic 9, 9, 0, [62, 0]), (9, .istore_n 2, 10, 0, []), (10, .aload_n 0, 11, 0, []), (11, .iload_n 2, 12, 0, []), (12, .newarray .int, 14, 0, [81]), (14, .putfield 15, 17, 1, [0, 2, 65, 1]), (17, .aload_n 0, 18, 0, []), (18, .iload_n 2, 19, 0, []), (19, .newarray .int, 21, 0, [81]), (21, .putfield 21, 24, 1, [1, 2, 66, 1]), (24, .aload_n 0, 25, 0, []), (25, .iload_n 2, 26, 0, []), (26, .newarray .int, 28, 0, [81]), (28, .putfield 24, 31, 1, [2, 2, 67, 1]), (31, .aload_n 0, 32, 0, []), (32, .iload_n 2, 33, 0, []), (33, .newarray .int, 35, 0, [81]), (35, .putfield 27, 38, 1, [3, 2, 68, 1]), (38, .return_, 39, 0, [])]
-- 3 BoundWalks$Ledger.size()I
def pw_o3 : List (Nat × pw_O) := [(0, .aload_n 0, 1, 0, []), (1, .getfield 30, 4, 1, [4, 69, 0]), (4, .ireturn, 5, 0, [])]
-- 4 BoundWalks$Ledger.isFull()Z
def pw_o4 : List (Nat × pw_O) := [(0, .aload_n 0, 1, 0, []), (1, .getfield 30, 4, 1, [4, 69, 0]), (4, .aload_n 0, 5, 0, []), (5, .getfield 15, 8, 1, [0, 65, 0]), (8, .arraylength, 9, 0, []), (9, .if_icmp .lt 7, 12, 16, []), (12, .iconst 1, 13, 0, []), (13, .goto 4, 16, 17, []), (16, .iconst 0, 17, 0, []), (17, .ireturn, 18, 0, [])]
-- 5 BoundWalks$Ledger.write(IIII)I
def pw_o5 : List (Nat × pw_O) := [(0, .aload_n 0, 1, 0, []), (1, .invokevirtual 34, 4, 4, [0, 1, 308, 301, 302, 40, 303]), (4, .ifCond .eq 6, 7, 10, []), (7, .bipush (-4), 9, 0, []), (9, .ireturn, 10, 0, []), (10, .aload_n 0, 11, 0, []), (11, .getfield 15, 14, 1, [0, 65, 0]), (14, .aload_n 0, 15, 0, []), (15, .getfield 30, 18, 1, [4, 69, 0]), (18, .iload_n 1, 19, 0, []), (19, .iastore, 20, 0, []), (20, .aload_n 0, 21, 0, []), (21, .getfield 21, 24, 1, [1, 66, 0]), (24, .aload_n 0, 25, 0, []), (25, .getfield 30, 28, 1, [4, 69, 0]), (28, .iload_n 2, 29, 0, []), (29, .iastore, 30, 0, []), (30, .aload_n 0, 31, 0, []), (31, .getfield 24, 34, 1, [2, 67, 0]), (34, .aload_n 0, 35, 0, []), (35, .getfield 30, 38, 1, [4, 69, 0]), (38, .iload_n 3, 39, 0, []), (39, .iastore, 40, 0, []), (40, .aload_n 0, 41, 0, []), (41, .getfield 27, 44, 1, [3, 68, 0]), (44, .aload_n 0, 45, 0, []), (45, .getfield 30, 48, 1, [4, 69, 0]), (48, .iload 4, 50, 0, []), (50, .iastore, 51, 0, []), (51, .aload_n 0, 52, 0, []), (52, .dup, 53, 0, []), (53, .getfield 30, 56, 1, [4, 69, 0]), (56, .dup_x1, 57, 0, []), (57, .iconst 1, 58, 0, []), (58, .iadd, 59, 0, []), (59, .putfield 30, 62, 1, [4, 0, 69, 0]), (62, .ireturn, 63, 0, [])]
-- 6 BoundWalks$Ledger.latest(IIII)I
def pw_o6 : List (Nat × pw_O) := [(0, .iconst (-1), 1, 0, []), (1, .istore 5, 3, 0, []), (3, .iload 4, 5, 0, []), (5, .istore 6, 7, 0, []), (7, .iconst 0, 8, 0, []), (8, .istore 7, 10, 0, []), (10, .iload 7, 12, 0, []), (12, .aload_n 0, 13, 0, []), (13, .getfield 30, 16, 1, [4, 69, 0]), (16, .if_icmp .ge 84, 19, 100, []), (19, .aload_n 0, 20, 0, []), (20, .getfield 15, 23, 1, [0, 65, 0]), (23, .iload 7, 25, 0, []), (25, .iaload, 26, 0, []), (26, .iload_n 1, 27, 0, []), (27, .if_icmp .ne 29, 30, 56, []), (30, .aload_n 0, 31, 0, []), (31, .getfield 21, 34, 1, [1, 66, 0]), (34, .iload 7, 36, 0, []), (36, .iaload, 37, 0, []), (37, .iload_n 2, 38, 0, []), (38, .if_icmp .gt 18, 41, 56, []), (41, .aload_n 0, 42, 0, []), (42, .getfield 24, 45, 1, [2, 67, 0]), (45, .iload 7, 47, 0, []), (47, .iaload, 48, 0, []), (48, .iload_n 3, 49, 0, []), (49, .if_icmp .gt 7, 52, 56, []), (52, .iconst 1, 53, 0, []), (53, .goto 4, 56, 57, []), (56, .iconst 0, 57, 0, []), (57, .istore 8, 59, 0, []), (59, .iload 8, 61, 0, []), (61, .ifCond .eq 33, 64, 94, []), (64, .aload_n 0, 65, 0, []), (65, .getfield 21, 68, 1, [1, 66, 0]), (68, .iload 7, 70, 0, []), (70, .iaload, 71, 0, []), (71, .iload 5, 73, 0, []), (73, .if_icmp .lt 21, 76, 94, []), (76, .aload_n 0, 77, 0, []), (77, .getfield 21, 80, 1, [1, 66, 0]), (80, .iload 7, 82, 0, []), (82, .iaload, 83, 0, []), (83, .istore 5, 85, 0, []), (85, .aload_n 0, 86, 0, []), (86, .getfield 27, 89, 1, [3, 68, 0]), (89, .iload 7, 91, 0, []), (91, .iaload, 92, 0, []), (92, .istore 6, 94, 0, []), (94, .iinc 7 1, 97, 0, []), (97, .goto (-87), 100, 10, []), (100, .iload 6, 102, 0, []), (102, .ireturn, 103, 0, [])]
-- 7 BoundWalks$Walk.<init>(II)V
def pw_o7 : List (Nat × pw_O) := [(0, .aload_n 0, 1, 0, []), (1, .invokespecial 3, 4, 0, [150]), (4, .aload_n 0, 5, 0, []), (5, .bipush 12, 7, 0, []), (7, .newarray .int, 9, 0, [81]), (9, .putfield 9, 12, 2, [2, 2, 153, 1]), (12, .aload_n 0, 13, 0, []), (13, .bipush 12, 15, 0, []), (15, .newarray .int, 17, 0, [81]), (17, .putfield 15, 20, 2, [3, 2, 154, 1]), (20, .aload_n 0, 21, 0, []), (21, .bipush 12, 23, 0, []), (23, .newarray .int, 25, 0, [81]), (25, .putfield 18, 28, 2, [4, 2, 155, 1]), (28, .aload_n 0, 29, 0, []), (29, .bipush 12, 31, 0, []), (31, .newarray .int, 33, 0, [81]), (33, .putfield 21, 36, 2, [5, 2, 156, 1]), (36, .aload_n 0, 37, 0, []), (37, .bipush 12, 39, 0, []), (39, .newarray .int, 41, 0, [81]), (41, .putfield 24, 44, 2, [6, 2, 157, 1]), (44, .aload_n 0, 45, 0, []), (45, .iconst 1, 46, 0, []), (46, .putfield 27, 49, 2, [8, 1, 159, 0]), (49, .aload_n 0, 50, 0, []), (50, .iconst 1, 51, 0, []), (51, .putfield 31, 54, 2, [9, 1, 160, 0]), (54, .aload_n 0, 55, 0, []), (55, .iload_n 1, 56, 0, []), (56, .putfield 34, 59, 2, [0, 0, 151, 1]), (59, .aload_n 0, 60, 0, []), (60, .iload_n 2, 61, 0, []), (61, .putfield 38, 64, 2, [1, 0, 152, 1]), (64, .return_, 65, 0, [])]
-- 8 BoundWalks$Walk.legCount()I
def pw_o8 : List (Nat × pw_O) := [(0, .aload_n 0, 1, 0, []), (1, .getfield 41, 4, 2, [7, 158, 0]), (4, .ireturn, 5, 0, [])]
-- 9 BoundWalks$Walk.addLeg(III)V
def pw_o9 : List (Nat × pw_O) := [(0, .aload_n 0, 1, 0, []), (1, .getfield 41, 4, 2, [7, 158, 0]), (4, .bipush 12, 6, 0, []), (6, .if_icmp .ge 47, 9, 53, []), (9, .aload_n 0, 10, 0, []), (10, .getfield 9, 13, 2, [2, 153, 0]), (13, .aload_n 0, 14, 0, []), (14, .getfield 41, 17, 2, [7, 158, 0]), (17, .iload_n 1, 18, 0, []), (18, .iastore, 19, 0, []), (19, .aload_n 0, 20, 0, []), (20, .getfield 15, 23, 2, [3, 154, 0]), (23, .aload_n 0, 24, 0, []), (24, .getfield 41, 27, 2, [7, 158, 0]), (27, .iload_n 2, 28, 0, []), (28, .iastore, 29, 0, []), (29, .aload_n 0, 30, 0, []), (30, .getfield 18, 33, 2, [4, 155, 0]), (33, .aload_n 0, 34, 0, []), (34, .getfield 41, 37, 2, [7, 158, 0]), (37, .iload_n 3, 38, 0, []), (38, .iastore, 39, 0, []), (39, .aload_n 0, 40, 0, []), (40, .dup, 41, 0, []), (41, .getfield 41, 44, 2, [7, 158, 0]), (44, .iconst 1, 45, 0, []), (45, .iadd, 46, 0, []), (46, .putfield 41, 49, 2, [7, 0, 158, 0]), (49, .aload_n 0, 50, 0, []), (50, .invokevirtual 44, 53, 14, [0, 2, 198, 200, 1, 43, 201]), (53, .return_, 54, 0, [])]
-- 10 BoundWalks$Walk.dropLeg()V
def pw_o10 : List (Nat × pw_O) := [(0, .aload_n 0, 1, 0, []), (1, .getfield 41, 4, 2, [7, 158, 0]), (4, .ifCond .le 17, 7, 21, []), (7, .aload_n 0, 8, 0, []), (8, .dup, 9, 0, []), (9, .getfield 41, 12, 2, [7, 158, 0]), (12, .iconst 1, 13, 0, []), (13, .isub, 14, 0, []), (14, .putfield 41, 17, 2, [7, 0, 158, 0]), (17, .aload_n 0, 18, 0, []), (18, .invokevirtual 44, 21, 14, [0, 2, 198, 200, 1, 43, 201]), (21, .return_, 22, 0, [])]
-- 11 BoundWalks$Walk.lengthOf(I)I
def pw_o11 : List (Nat × pw_O) := [(0, .aload_n 0, 1, 0, []), (1, .getfield 27, 4, 2, [8, 159, 0]), (4, .ifCond .eq 26, 7, 30, []), (7, .iload_n 1, 8, 0, []), (8, .iconst 0, 9, 0, []), (9, .aload_n 0, 10, 0, []), (10, .getfield 41, 13, 2, [7, 158, 0]), (13, .iconst 1, 14, 0, []), (14, .isub, 15, 0, []), (15, .invokestatic 47, 18, 48, [3, 1, 218, 144, 0, 39, 145]), (18, .ifCond .eq 12, 21, 30, []), (21, .aload_n 0, 22, 0, []), (22, .getfield 21, 25, 2, [5, 156, 0]), (25, .iload_n 1, 26, 0, []), (26, .iaload, 27, 0, []), (27, .goto 4, 30, 31, []), (30, .iconst (-1), 31, 0, []), (31, .ireturn, 32, 0, [])]
-- 12 BoundWalks$Walk.surrounds(II)Z
def pw_o12 : List (Nat × pw_O) := [(0, .iload_n 1, 1, 0, []), (1, .iload_n 2, 2, 0, []), (2, .invokestatic 51, 5, 50, [2, 1, 288, 275, 0, 39, 276]), (5, .ifCond .eq 21, 8, 26, []), (8, .aload_n 0, 9, 0, []), (9, .getfield 24, 12, 2, [6, 157, 0]), (12, .iload_n 2, 13, 0, []), (13, .iaload, 14, 0, []), (14, .iload_n 1, 15, 0, []), (15, .ishr, 16, 0, []), (16, .iconst 1, 17, 0, []), (17, .iand, 18, 0, []), (18, .iconst 1, 19, 0, []), (19, .if_icmp .ne 7, 22, 26, []), (22, .iconst 1, 23, 0, []), (23, .goto 4, 26, 27, []), (26, .iconst 0, 27, 0, []), (27, .ireturn, 28, 0, [])]
-- 13 BoundWalks$Walk.fieldsInside()I
def pw_o13 : List (Nat × pw_O) := [(0, .aload_n 0, 1, 0, []), (1, .getfield 31, 4, 2, [9, 160, 0]), (4, .ifCond .ne 5, 7, 9, []), (7, .iconst (-1), 8, 0, []), (8, .ireturn, 9, 0, []), (9, .iconst 0, 10, 0, []), (10, .istore_n 1, 11, 0, []), (11, .iconst 0, 12, 0, []), (12, .istore_n 2, 13, 0, []), (13, .iload_n 2, 14, 0, []), (14, .bipush 12, 16, 0, []), (16, .if_icmp .ge 21, 19, 37, []), (19, .iload_n 1, 20, 0, []), (20, .aload_n 0, 21, 0, []), (21, .getfield 24, 24, 2, [6, 157, 0]), (24, .iload_n 2, 25, 0, []), (25, .iaload, 26, 0, []), (26, .invokestatic 55, 29, 114, [1, 0, 264, 265, 0, 44, 266]), (29, .iadd, 30, 0, []), (30, .istore_n 1, 31, 0, []), (31, .iinc 2 1, 34, 0, []), (34, .goto (-21), 37, 13, []), (37, .iload_n 1, 38, 0, []), (38, .ireturn, 39, 0, [])]
-- 14 BoundWalks$Walk.settle()V
def pw_o14 : List (Nat × pw_O) := [(0, .iconst 0, 1, 0, []), (1, .istore_n 1, 2, 0, []), (2, .iload_n 1, 3, 0, []), (3, .bipush 12, 5, 0, []), (5, .if_icmp .ge 16, 8, 21, []), (8, .aload_n 0, 9, 0, []), (9, .getfield 24, 12, 2, [6, 157, 0]), (12, .iload_n 1, 13, 0, []), (13, .iconst 0, 14, 0, []), (14, .iastore, 15, 0, []), (15, .iinc 1 1, 18, 0, []), (18, .goto (-16), 21, 2, []), (21, .aload_n 0, 22, 0, []), (22, .aload_n 0, 23, 0, []), (23, .invokevirtual 61, 26, 15, [0, 2, 202, 204, 2, 43, 205]), (26, .putfield 27, 29, 2, [8, 1, 159, 0]), (29, .aload_n 0, 30, 0, []), (30, .aload_n 0, 31, 0, []), (31, .getfield 27, 34, 2, [8, 159, 0]), (34, .ifCond .eq 14, 37, 48, []), (37, .aload_n 0, 38, 0, []), (38, .invokevirtual 65, 41, 17, [0, 2, 227, 229, 8, 43, 230]), (41, .ifCond .eq 7, 44, 48, []), (44, .iconst 1, 45, 0, []), (45, .goto 4, 48, 49, []), (48, .iconst 0, 49, 0, []), (49, .putfield 31, 52, 2, [9, 1, 160, 0]), (52, .aload_n 0, 53, 0, []), (53, .getfield 31, 56, 2, [9, 160, 0]), (56, .ifCond .eq 7, 59, 63, []), (59, .aload_n 0, 60, 0, []), (60, .invokevirtual 68, 63, 18, [0, 2, 232, 234, 9, 43, 235]), (63, .return_, 64, 0, [])]
-- 15 BoundWalks$Walk.chooseLengths()Z
def pw_o15 : List (Nat × pw_O) := [(0, .iconst 0, 1, 0, []), (1, .istore_n 1, 2, 0, []), (2, .iconst 0, 3, 0, []), (3, .istore_n 2, 4, 0, []), (4, .iconst 0, 5, 0, []), (5, .istore_n 3, 6, 0, []), (6, .iload_n 3, 7, 0, []), (7, .aload_n 0, 8, 0, []), (8, .getfield 41, 11, 2, [7, 158, 0]), (11, .if_icmp .ge 61, 14, 72, []), (14, .aload_n 0, 15, 0, []), (15, .iload_n 3, 16, 0, []), (16, .aload_n 0, 17, 0, []), (17, .iload_n 3, 18, 0, []), (18, .invokevirtual 71, 21, 19, [1, 2, 206, 208, 3, 43, 209]), (21, .ifCond .eq 7, 24, 28, []), (24, .iload_n 1, 25, 0, []), (25, .goto 4, 28, 29, []), (28, .iload_n 2, 29, 0, []), (29, .invokevirtual 75, 32, 16, [2, 2, 210, 212, 4, 43, 213]), (32, .istore 4, 34, 0, []), (34, .iload 4, 36, 0, []), (36, .iconst (-1), 37, 0, []), (37, .if_icmp .ne 5, 40, 42, []), (40, .iconst 0, 41, 0, []), (41, .ireturn, 42, 0, []), (42, .aload_n 0, 43, 0, []), (43, .getfield 21, 46, 2, [5, 156, 0]), (46, .iload_n 3, 47, 0, []), (47, .iload 4, 49, 0, []), (49, .iastore, 50, 0, []), (50, .iload_n 1, 51, 0, []), (51, .aload_n 0, 52, 0, []), (52, .iload_n 3, 53, 0, []), (53, .invokevirtual 79, 56, 21, [1, 2, 219, 221, 6, 43, 222]), (56, .iadd, 57, 0, []), (57, .istore_n 1, 58, 0, []), (58, .iload_n 2, 59, 0, []), (59, .aload_n 0, 60, 0, []), (60, .iload_n 3, 61, 0, []), (61, .invokevirtual 82, 64, 22, [1, 2, 223, 225, 7, 43, 226]), (64, .iadd, 65, 0, []), (65, .istore_n 2, 66, 0, []), (66, .iinc 3 1, 69, 0, []), (69, .goto (-63), 72, 6, []), (72, .iconst 1, 73, 0, []), (73, .ireturn, 74, 0, [])]
-- 16 BoundWalks$Walk.leastLength(II)I
def pw_o16_0 : List (Nat × pw_O) := [(0, .iconst 0, 1, 0, []), (1, .istore_n 3, 2, 0, []), (2, .iconst 0, 3, 0, []), (3, .istore 4, 5, 0, []), (5, .iload_n 1, 6, 0, []), (6, .iconst 1, 7, 0, []), (7, .iadd, 8, 0, []), (8, .istore 5, 10, 0, []), (10, .iload 5, 12, 0, []), (12, .aload_n 0, 13, 0, []), (13, .getfield 41, 16, 2, [7, 158, 0]), (16, .if_icmp .ge 85, 19, 101, []), (19, .aload_n 0, 20, 0, []), (20, .iload 5, 22, 0, []), (22, .invokevirtual 71, 25, 19, [1, 2, 206, 208, 3, 43, 209]), (25, .aload_n 0, 26, 0, []), (26, .iload_n 1, 27, 0, []), (27, .invokevirtual 71, 30, 19, [1, 2, 206, 208, 3, 43, 209]), (30, .if_icmp .ne 65, 33, 95, []), (33, .iload_n 3, 34, 0, []), (34, .aload_n 0, 35, 0, []), (35, .iload 5, 37, 0, []), (37, .invokevirtual 85, 40, 20, [1, 2, 214, 216, 5, 43, 217]), (40, .ifCond .le 13, 43, 53, []), (43, .aload_n 0, 44, 0, []), (44, .getfield 15, 47, 2, [3, 154, 0]), (47, .iload 5, 49, 0, []), (49, .iaload, 50, 0, []), (50, .goto 11, 53, 61, []), (53, .aload_n 0, 54, 0, []), (54, .getfield 18, 57, 2, [4, 155, 0]), (57, .iload 5, 59, 0, []), (59, .iaload, 60, 0, []), (60, .ineg, 61, 0, []), (61, .iadd, 62, 0, []), (62, .istore_n 3, 63, 0, []), (63, .iload 4, 65, 0, []), (65, .aload_n 0, 66, 0, []), (66, .iload 5, 68, 0, []), (68, .invokevirtual 85, 71, 20, [1, 2, 214, 216, 5, 43, 217]), (71, .ifCond .le 13, 74, 84, []), (74, .aload_n 0, 75, 0, []), (75, .getfield 18, 78, 2, [4, 155, 0]), (78, .iload 5, 80, 0, []), (80, .iaload, 81, 0, []), (81, .goto 11, 84, 92, []), (84, .aload_n 0, 85, 0, []), (85, .getfield 15, 88, 2, [3, 154, 0])]
def pw_o16_1 : List (Nat × pw_O) := [(88, .iload 5, 90, 0, []), (90, .iaload, 91, 0, []), (91, .ineg, 92, 0, []), (92, .iadd, 93, 0, []), (93, .istore 4, 95, 0, []), (95, .iinc 5 1, 98, 0, []), (98, .goto (-88), 101, 10, []), (101, .aload_n 0, 102, 0, []), (102, .getfield 15, 105, 2, [3, 154, 0]), (105, .iload_n 1, 106, 0, []), (106, .iaload, 107, 0, []), (107, .istore 5, 109, 0, []), (109, .iload 5, 111, 0, []), (111, .aload_n 0, 112, 0, []), (112, .getfield 18, 115, 2, [4, 155, 0]), (115, .iload_n 1, 116, 0, []), (116, .iaload, 117, 0, []), (117, .if_icmp .gt 32, 120, 149, []), (120, .iload_n 2, 121, 0, []), (121, .aload_n 0, 122, 0, []), (122, .iload_n 1, 123, 0, []), (123, .invokevirtual 85, 126, 20, [1, 2, 214, 216, 5, 43, 217]), (126, .iload 5, 128, 0, []), (128, .imul, 129, 0, []), (129, .iadd, 130, 0, []), (130, .ineg, 131, 0, []), (131, .iload_n 3, 132, 0, []), (132, .iload 4, 134, 0, []), (134, .invokestatic 47, 137, 48, [3, 1, 218, 144, 0, 39, 145]), (137, .ifCond .eq 6, 140, 143, []), (140, .iload 5, 142, 0, []), (142, .ireturn, 143, 0, []), (143, .iinc 5 1, 146, 0, []), (146, .goto (-37), 149, 109, []), (149, .iconst (-1), 150, 0, []), (150, .ireturn, 151, 0, [])]
def pw_o16 : List (Nat × pw_O) := pw_o16_0 ++ (pw_o16_1)
-- 17 BoundWalks$Walk.staysOnLand()Z
def pw_o17 : List (Nat × pw_O) := [(0, .aload_n 0, 1, 0, []), (1, .getfield 34, 4, 2, [0, 151, 0]), (4, .istore_n 1, 5, 0, []), (5, .aload_n 0, 6, 0, []), (6, .getfield 38, 9, 2, [1, 152, 0]), (9, .istore_n 2, 10, 0, []), (10, .iconst 0, 11, 0, []), (11, .istore_n 3, 12, 0, []), (12, .iload_n 3, 13, 0, []), (13, .aload_n 0, 14, 0, []), (14, .getfield 41, 17, 2, [7, 158, 0]), (17, .if_icmp .ge 35, 20, 52, []), (20, .iload_n 1, 21, 0, []), (21, .aload_n 0, 22, 0, []), (22, .iload_n 3, 23, 0, []), (23, .invokevirtual 79, 26, 21, [1, 2, 219, 221, 6, 43, 222]), (26, .iadd, 27, 0, []), (27, .istore_n 1, 28, 0, []), (28, .iload_n 2, 29, 0, []), (29, .aload_n 0, 30, 0, []), (30, .iload_n 3, 31, 0, []), (31, .invokevirtual 82, 34, 22, [1, 2, 223, 225, 7, 43, 226]), (34, .iadd, 35, 0, []), (35, .istore_n 2, 36, 0, []), (36, .iload_n 1, 37, 0, []), (37, .iload_n 2, 38, 0, []), (38, .invokestatic 88, 41, 49, [2, 1, 231, 141, 0, 39, 142]), (41, .ifCond .ne 5, 44, 46, []), (44, .iconst 0, 45, 0, []), (45, .ireturn, 46, 0, []), (46, .iinc 3 1, 49, 0, []), (49, .goto (-37), 52, 12, []), (52, .iconst 1, 53, 0, []), (53, .ireturn, 54, 0, [])]
-- 18 BoundWalks$Walk.markInside()V
def pw_o18 : List (Nat × pw_O) := [(0, .aload_n 0, 1, 0, []), (1, .getfield 34, 4, 2, [0, 151, 0]), (4, .istore_n 1, 5, 0, []), (5, .aload_n 0, 6, 0, []), (6, .getfield 38, 9, 2, [1, 152, 0]), (9, .istore_n 2, 10, 0, []), (10, .iconst 0, 11, 0, []), (11, .istore_n 3, 12, 0, []), (12, .iload_n 3, 13, 0, []), (13, .aload_n 0, 14, 0, []), (14, .getfield 41, 17, 2, [7, 158, 0]), (17, .if_icmp .ge 86, 20, 103, []), (20, .iload_n 2, 21, 0, []), (21, .aload_n 0, 22, 0, []), (22, .iload_n 3, 23, 0, []), (23, .invokevirtual 82, 26, 22, [1, 2, 223, 225, 7, 43, 226]), (26, .iadd, 27, 0, []), (27, .istore 4, 29, 0, []), (29, .iload_n 2, 30, 0, []), (30, .iload 4, 32, 0, []), (32, .invokestatic 91, 35, 0, [236, 0]), (35, .bipush 12, 37, 0, []), (37, .invokestatic 96, 40, 0, [237, 1]), (40, .istore 5, 42, 0, []), (42, .iload_n 2, 43, 0, []), (43, .iload 4, 45, 0, []), (45, .invokestatic 96, 48, 0, [237, 1]), (48, .iconst 0, 49, 0, []), (49, .invokestatic 91, 52, 0, [236, 0]), (52, .istore 6, 54, 0, []), (54, .iload 6, 56, 0, []), (56, .iload 5, 58, 0, []), (58, .if_icmp .ge 28, 61, 86, []), (61, .aload_n 0, 62, 0, []), (62, .getfield 24, 65, 2, [6, 157, 0]), (65, .iload 6, 67, 0, []), (67, .dup2, 68, 0, []), (68, .iaload, 69, 0, []), (69, .sipush 4095, 72, 0, []), (72, .iload_n 1, 73, 0, []), (73, .ishl, 74, 0, []), (74, .sipush 4095, 77, 0, []), (77, .iand, 78, 0, []), (78, .ixor, 79, 0, []), (79, .iastore, 80, 0, []), (80, .iinc 6 1, 83, 0, []), (83, .goto (-29), 86, 54, []), (86, .iload_n 1, 87, 0, []), (87, .aload_n 0, 88, 0, []), (88, .iload_n 3, 89, 0, []), (89, .invokevirtual 79, 92, 21, [1, 2, 219, 221, 6, 43, 222]), (92, .iadd, 93, 0, []), (93, .istore_n 1, 94, 0, []), (94, .iload 4, 96, 0, []), (96, .istore_n 2, 97, 0, []), (97, .iinc 3 1, 100, 0, []), (100, .goto (-88), 103, 12, []), (103, .return_, 104, 0, [])]
-- 19 BoundWalks$Walk.isAlongX(I)Z
def pw_o19 : List (Nat × pw_O) := [(0, .aload_n 0, 1, 0, []), (1, .getfield 9, 4, 2, [2, 153, 0]), (4, .iload_n 1, 5, 0, []), (5, .iaload, 6, 0, []), (6, .iconst 2, 7, 0, []), (7, .irem, 8, 0, []), (8, .ifCond .ne 7, 11, 15, []), (11, .iconst 1, 12, 0, []), (12, .goto 4, 15, 16, []), (15, .iconst 0, 16, 0, []), (16, .ireturn, 17, 0, [])]
-- 20 BoundWalks$Walk.sign(I)I
def pw_o20 : List (Nat × pw_O) := [(0, .aload_n 0, 1, 0, []), (1, .getfield 9, 4, 2, [2, 153, 0]), (4, .iload_n 1, 5, 0, []), (5, .iaload, 6, 0, []), (6, .iconst 2, 7, 0, []), (7, .if_icmp .ge 7, 10, 14, []), (10, .iconst 1, 11, 0, []), (11, .goto 4, 14, 15, []), (14, .iconst (-1), 15, 0, []), (15, .ireturn, 16, 0, [])]
-- 21 BoundWalks$Walk.stepX(I)I
def pw_o21 : List (Nat × pw_O) := [(0, .aload_n 0, 1, 0, []), (1, .iload_n 1, 2, 0, []), (2, .invokevirtual 71, 5, 19, [1, 2, 206, 208, 3, 43, 209]), (5, .ifCond .eq 18, 8, 23, []), (8, .aload_n 0, 9, 0, []), (9, .iload_n 1, 10, 0, []), (10, .invokevirtual 85, 13, 20, [1, 2, 214, 216, 5, 43, 217]), (13, .aload_n 0, 14, 0, []), (14, .getfield 21, 17, 2, [5, 156, 0]), (17, .iload_n 1, 18, 0, []), (18, .iaload, 19, 0, []), (19, .imul, 20, 0, []), (20, .goto 4, 23, 24, []), (23, .iconst 0, 24, 0, []), (24, .ireturn, 25, 0, [])]
-- 22 BoundWalks$Walk.stepY(I)I
def pw_o22 : List (Nat × pw_O) := [(0, .aload_n 0, 1, 0, []), (1, .iload_n 1, 2, 0, []), (2, .invokevirtual 71, 5, 19, [1, 2, 206, 208, 3, 43, 209]), (5, .ifCond .eq 7, 8, 12, []), (8, .iconst 0, 9, 0, []), (9, .goto 15, 12, 24, []), (12, .aload_n 0, 13, 0, []), (13, .iload_n 1, 14, 0, []), (14, .invokevirtual 85, 17, 20, [1, 2, 214, 216, 5, 43, 217]), (17, .aload_n 0, 18, 0, []), (18, .getfield 21, 21, 2, [5, 156, 0]), (21, .iload_n 1, 22, 0, []), (22, .iaload, 23, 0, []), (23, .imul, 24, 0, []), (24, .ireturn, 25, 0, [])]
-- 23 BoundWalks.<init>()V
def pw_o23 : List (Nat × pw_O) := [(0, .aload_n 0, 1, 0, []), (1, .invokespecial 3, 4, 0, [51]), (4, .aload_n 0, 5, 0, []), (5, .iconst 4, 6, 0, []), (6, .anewarray 9, 9, 2, [54]), (9, .putfield 11, 12, 3, [0, 2, 84, 1]), (12, .aload_n 0, 13, 0, []), (13, .new 15, 16, 1, [56, 57, 40]), (16, .dup, 17, 0, []), (17, .bipush 12, 19, 0, []), (19, .invokespecial 17, 22, 2, [1, 1, 58, 59, 0, 40, 60]), (22, .putfield 20, 25, 3, [2, 2, 86, 1]), (25, .aload_n 0, 26, 0, []), (26, .bipush 12, 28, 0, []), (28, .newarray .int, 30, 0, [81]), (30, .putfield 24, 33, 3, [4, 2, 88, 1]), (33, .aload_n 0, 34, 0, []), (34, .bipush 12, 36, 0, []), (36, .newarray .int, 38, 0, [81]), (38, .putfield 28, 41, 3, [5, 2, 89, 1]), (41, .aload_n 0, 42, 0, []), (42, .bipush 12, 44, 0, []), (44, .newarray .int, 46, 0, [81]), (46, .putfield 31, 49, 3, [6, 2, 90, 1]), (49, .aload_n 0, 50, 0, []), (50, .new 15, 53, 1, [56, 57, 40]), (53, .dup, 54, 0, []), (54, .bipush 60, 56, 0, []), (56, .invokespecial 17, 59, 2, [1, 1, 58, 59, 0, 40, 60]), (59, .putfield 34, 62, 3, [8, 2, 92, 1]), (62, .aload_n 0, 63, 0, []), (63, .bipush 20, 65, 0, []), (65, .newarray .int, 67, 0, [81]), (67, .putfield 37, 70, 3, [9, 2, 93, 1]), (70, .aload_n 0, 71, 0, []), (71, .bipush 6, 73, 0, []), (73, .anewarray 40, 76, 0, [82]), (76, .putfield 42, 79, 3, [11, 2, 95, 1]), (79, .aload_n 0, 80, 0, []), (80, .new 15, 83, 1, [56, 57, 40]), (83, .dup, 84, 0, []), (84, .bipush 10, 86, 0, []), (86, .invokespecial 17, 89, 2, [1, 1, 58, 59, 0, 40, 60]), (89, .putfield 46, 92, 3, [13, 2, 97, 1]), (92, .aload_n 0, 93, 0, []), (93, .bipush 7, 95, 0, []), (95, .putfield 49, 98, 3, [14, 0, 98, 0]), (98, .aload_n 0, 99, 0, []), (99, .iconst 4, 100, 0, []), (100, .newarray .int, 102, 0, [81]), (102, .putfield 53, 105, 3, [15, 2, 99, 1]), (105, .aload_n 0, 106, 0, []), (106, .bipush 12, 108, 0, []), (108, .newarray .int, 110, 0, [81]), (110, .putfield 56, 113, 3, [16, 2, 100, 1]), (113, .return_, 114, 0, [])]
-- 24 BoundWalks.parish(II)I
def pw_o24 : List (Nat × pw_O) := [(0, .iload_n 1, 1, 0, []), (1, .iload_n 2, 2, 0, []), (2, .invokestatic 59, 5, 49, [2, 0, 140, 141, 0, 39, 142]), (5, .ifCond .ne 6, 8, 11, []), (8, .bipush (-2), 10, 0, []), (10, .ireturn, 11, 0, []), (11, .aload_n 0, 12, 0, []), (12, .getfield 63, 15, 3, [1, 85, 0]), (15, .iconst 4, 16, 0, []), (16, .if_icmp .lt 6, 19, 22, []), (19, .bipush (-4), 21, 0, []), (21, .ireturn, 22, 0, []), (22, .aload_n 0, 23, 0, []), (23, .getfield 11, 26, 3, [0, 84, 0]), (26, .aload_n 0, 27, 0, []), (27, .getfield 63, 30, 3, [1, 85, 0]), (30, .new 9, 33, 2, [54, 146, 43]), (33, .dup, 34, 0, []), (34, .iload_n 1, 35, 0, []), (35, .iload_n 2, 36, 0, []), (36, .invokespecial 66, 39, 7, [2, 2, 147, 148, 0, 43, 149]), (39, .aastore, 40, 0, []), (40, .aload_n 0, 41, 0, []), (41, .dup, 42, 0, []), (42, .getfield 63, 45, 3, [1, 85, 0]), (45, .dup_x1, 46, 0, []), (46, .iconst 1, 47, 0, []), (47, .iadd, 48, 0, []), (48, .putfield 63, 51, 3, [1, 0, 85, 0]), (51, .ireturn, 52, 0, [])]
-- 25 BoundWalks.leg(IIII)I
def pw_o25 : List (Nat × pw_O) := [(0, .aload_n 0, 1, 0, []), (1, .iload_n 1, 2, 0, []), (2, .invokevirtual 69, 5, 56, [1, 3, 186, 188, 0, 39, 189]), (5, .astore 5, 7, 0, []), (7, .aload 5, 9, 0, []), (9, .ifnull 33, 12, 42, []), (12, .iload_n 2, 13, 0, []), (13, .iconst 0, 14, 0, []), (14, .iconst 3, 15, 0, []), (15, .invokestatic 73, 18, 48, [3, 0, 143, 144, 0, 39, 145]), (18, .ifCond .eq 24, 21, 42, []), (21, .iload_n 3, 22, 0, []), (22, .iconst 1, 23, 0, []), (23, .bipush 12, 25, 0, []), (25, .invokestatic 73, 28, 48, [3, 0, 143, 144, 0, 39, 145]), (28, .ifCond .eq 14, 31, 42, []), (31, .iload 4, 33, 0, []), (33, .iload_n 3, 34, 0, []), (34, .bipush 12, 36, 0, []), (36, .invokestatic 73, 39, 48, [3, 0, 143, 144, 0, 39, 145]), (39, .ifCond .ne 6, 42, 45, []), (42, .bipush (-2), 44, 0, []), (44, .ireturn, 45, 0, []), (45, .aload 5, 47, 0, []), (47, .invokevirtual 77, 50, 8, [0, 2, 190, 191, 192, 43, 193]), (50, .bipush 12, 52, 0, []), (52, .if_icmp .lt 6, 55, 58, []), (55, .bipush (-4), 57, 0, []), (57, .ireturn, 58, 0, []), (58, .aload 5, 60, 0, []), (60, .iload_n 2, 61, 0, []), (61, .iload_n 3, 62, 0, []), (62, .iload 4, 64, 0, []), (64, .invokevirtual 81, 67, 9, [3, 2, 194, 195, 196, 43, 197]), (67, .aload 5, 69, 0, []), (69, .invokevirtual 77, 72, 8, [0, 2, 190, 191, 192, 43, 193]), (72, .ireturn, 73, 0, [])]
-- 26 BoundWalks.unleg(I)I
def pw_o26 : List (Nat × pw_O) := [(0, .aload_n 0, 1, 0, []), (1, .iload_n 1, 2, 0, []), (2, .invokevirtual 69, 5, 56, [1, 3, 186, 188, 0, 39, 189]), (5, .astore_n 2, 6, 0, []), (6, .aload_n 2, 7, 0, []), (7, .ifnonnull 6, 10, 13, []), (10, .bipush (-2), 12, 0, []), (12, .ireturn, 13, 0, []), (13, .aload_n 2, 14, 0, []), (14, .invokevirtual 77, 17, 8, [0, 2, 190, 191, 192, 43, 193]), (17, .ifCond .ne 6, 20, 23, []), (20, .bipush (-3), 22, 0, []), (22, .ireturn, 23, 0, []), (23, .aload_n 2, 24, 0, []), (24, .invokevirtual 85, 27, 10, [0, 2, 244, 245, 246, 43, 247]), (27, .aload_n 2, 28, 0, []), (28, .invokevirtual 77, 31, 8, [0, 2, 190, 191, 192, 43, 193]), (31, .ireturn, 32, 0, [])]
-- 27 BoundWalks.length(II)I
def pw_o27 : List (Nat × pw_O) := [(0, .aload_n 0, 1, 0, []), (1, .iload_n 1, 2, 0, []), (2, .invokevirtual 69, 5, 56, [1, 3, 186, 188, 0, 39, 189]), (5, .astore_n 3, 6, 0, []), (6, .aload_n 3, 7, 0, []), (7, .ifnull 17, 10, 24, []), (10, .iload_n 2, 11, 0, []), (11, .iconst 0, 12, 0, []), (12, .aload_n 3, 13, 0, []), (13, .invokevirtual 77, 16, 8, [0, 2, 190, 191, 192, 43, 193]), (16, .iconst 1, 17, 0, []), (17, .isub, 18, 0, []), (18, .invokestatic 73, 21, 48, [3, 0, 143, 144, 0, 39, 145]), (21, .ifCond .ne 6, 24, 27, []), (24, .bipush (-2), 26, 0, []), (26, .ireturn, 27, 0, []), (27, .aload_n 3, 28, 0, []), (28, .iload_n 2, 29, 0, []), (29, .invokevirtual 88, 32, 11, [1, 2, 252, 253, 254, 43, 255]), (32, .ireturn, 33, 0, [])]
-- 28 BoundWalks.area(I)I
def pw_o28 : List (Nat × pw_O) := [(0, .aload_n 0, 1, 0, []), (1, .iload_n 1, 2, 0, []), (2, .invokevirtual 69, 5, 56, [1, 3, 186, 188, 0, 39, 189]), (5, .astore_n 2, 6, 0, []), (6, .aload_n 2, 7, 0, []), (7, .ifnonnull 6, 10, 13, []), (10, .bipush (-2), 12, 0, []), (12, .ireturn, 13, 0, []), (13, .aload_n 2, 14, 0, []), (14, .invokevirtual 92, 17, 13, [0, 2, 260, 261, 262, 43, 263]), (17, .ireturn, 18, 0, [])]
-- 29 BoundWalks.claims(II)I
def pw_o29 : List (Nat × pw_O) := [(0, .iload_n 1, 1, 0, []), (1, .iload_n 2, 2, 0, []), (2, .invokestatic 95, 5, 50, [2, 0, 274, 275, 0, 39, 276]), (5, .ifCond .ne 6, 8, 11, []), (8, .bipush (-2), 10, 0, []), (10, .ireturn, 11, 0, []), (11, .aload_n 0, 12, 0, []), (12, .iload_n 1, 13, 0, []), (13, .iload_n 2, 14, 0, []), (14, .invokestatic 98, 17, 55, [2, 0, 277, 278, 0, 39, 279]), (17, .invokevirtual 102, 20, 58, [1, 3, 280, 282, 10, 39, 283]), (20, .ireturn, 21, 0, [])]
-- 30 BoundWalks.agree(IIIIII)I
def pw_o30 : List (Nat × pw_O) := [(0, .aload_n 0, 1, 0, []), (1, .iload_n 1, 2, 0, []), (2, .invokevirtual 105, 5, 52, [1, 3, 293, 295, 11, 39, 296]), (5, .ifCond .eq 45, 8, 50, []), (8, .aload_n 0, 9, 0, []), (9, .iload_n 2, 10, 0, []), (10, .invokevirtual 105, 13, 52, [1, 3, 293, 295, 11, 39, 296]), (13, .ifCond .eq 37, 16, 50, []), (16, .iload_n 1, 17, 0, []), (17, .iload_n 2, 18, 0, []), (18, .if_icmp .eq 32, 21, 50, []), (21, .iload 6, 23, 0, []), (23, .iload_n 1, 24, 0, []), (24, .if_icmp .eq 9, 27, 33, []), (27, .iload 6, 29, 0, []), (29, .iload_n 2, 30, 0, []), (30, .if_icmp .ne 20, 33, 50, []), (33, .iload_n 3, 34, 0, []), (34, .invokestatic 109, 37, 51, [1, 0, 297, 298, 0, 39, 299]), (37, .ifCond .eq 13, 40, 50, []), (40, .iload 4, 42, 0, []), (42, .iload 5, 44, 0, []), (44, .invokestatic 95, 47, 50, [2, 0, 274, 275, 0, 39, 276]), (47, .ifCond .ne 6, 50, 53, []), (50, .bipush (-2), 52, 0, []), (52, .ireturn, 53, 0, []), (53, .aload_n 0, 54, 0, []), (54, .getfield 20, 57, 3, [2, 86, 0]), (57, .invokevirtual 112, 60, 4, [0, 1, 300, 301, 302, 40, 303]), (60, .ifCond .eq 6, 63, 66, []), (63, .bipush (-4), 65, 0, []), (65, .ireturn, 66, 0, []), (66, .aload_n 0, 67, 0, []), (67, .getfield 20, 70, 3, [2, 86, 0]), (70, .iload 4, 72, 0, []), (72, .iload 5, 74, 0, []), (74, .invokestatic 98, 77, 55, [2, 0, 277, 278, 0, 39, 279]), (77, .iload_n 3, 78, 0, []), (78, .aload_n 0, 79, 0, []), (79, .getfield 116, 82, 3, [3, 87, 0]), (82, .iload 6, 84, 0, []), (84, .invokevirtual 119, 87, 5, [4, 1, 304, 305, 306, 40, 307]), (87, .ireturn, 88, 0, [])]
-- 31 BoundWalks.owner(III)I
def pw_o31 : List (Nat × pw_O) := [(0, .iload_n 1, 1, 0, []), (1, .iload_n 2, 2, 0, []), (2, .invokestatic 95, 5, 50, [2, 0, 274, 275, 0, 39, 276]), (5, .ifCond .eq 10, 8, 15, []), (8, .iload_n 3, 9, 0, []), (9, .invokestatic 109, 12, 51, [1, 0, 297, 298, 0, 39, 299]), (12, .ifCond .ne 6, 15, 18, []), (15, .bipush (-2), 17, 0, []), (17, .ireturn, 18, 0, []), (18, .aload_n 0, 19, 0, []), (19, .iload_n 1, 20, 0, []), (20, .iload_n 2, 21, 0, []), (21, .invokestatic 98, 24, 55, [2, 0, 277, 278, 0, 39, 279]), (24, .iload_n 3, 25, 0, []), (25, .invokevirtual 123, 28, 59, [2, 3, 313, 315, 12, 39, 316]), (28, .ireturn, 29, 0, [])]
-- 32 BoundWalks.quarrel(I)I
def pw_o32 : List (Nat × pw_O) := [(0, .iload_n 1, 1, 0, []), (1, .invokestatic 109, 4, 51, [1, 0, 297, 298, 0, 39, 299]), (4, .ifCond .ne 6, 7, 10, []), (7, .bipush (-2), 9, 0, []), (9, .ireturn, 10, 0, []), (10, .iconst 0, 11, 0, []), (11, .istore_n 2, 12, 0, []), (12, .iconst 0, 13, 0, []), (13, .istore_n 3, 14, 0, []), (14, .iload_n 3, 15, 0, []), (15, .sipush 144, 18, 0, []), (18, .if_icmp .ge 34, 21, 52, []), (21, .aload_n 0, 22, 0, []), (22, .iload_n 3, 23, 0, []), (23, .invokevirtual 102, 26, 58, [1, 3, 280, 282, 10, 39, 283]), (26, .invokestatic 126, 29, 114, [1, 0, 328, 265, 0, 44, 266]), (29, .iconst 2, 30, 0, []), (30, .if_icmp .lt 16, 33, 46, []), (33, .aload_n 0, 34, 0, []), (34, .iload_n 3, 35, 0, []), (35, .iload_n 1, 36, 0, []), (36, .invokevirtual 123, 39, 59, [2, 3, 313, 315, 12, 39, 316]), (39, .iconst (-1), 40, 0, []), (40, .if_icmp .ne 6, 43, 46, []), (43, .iinc 2 1, 46, 0, []), (46, .iinc 3 1, 49, 0, []), (49, .goto (-35), 52, 14, []), (52, .iload_n 2, 53, 0, []), (53, .ireturn, 54, 0, [])]
-- 33 BoundWalks.years(I)I
def pw_o33 : List (Nat × pw_O) := [(0, .iload_n 1, 1, 0, []), (1, .iconst 1, 2, 0, []), (2, .bipush 50, 4, 0, []), (4, .invokestatic 73, 7, 48, [3, 0, 143, 144, 0, 39, 145]), (7, .ifCond .eq 15, 10, 22, []), (10, .aload_n 0, 11, 0, []), (11, .getfield 116, 14, 3, [3, 87, 0]), (14, .iload_n 1, 15, 0, []), (15, .iadd, 16, 0, []), (16, .sipush 300, 19, 0, []), (19, .if_icmp .le 6, 22, 25, []), (22, .bipush (-2), 24, 0, []), (24, .ireturn, 25, 0, []), (25, .aload_n 0, 26, 0, []), (26, .dup, 27, 0, []), (27, .getfield 116, 30, 3, [3, 87, 0]), (30, .iload_n 1, 31, 0, []), (31, .iadd, 32, 0, []), (32, .putfield 116, 35, 3, [3, 0, 87, 0]), (35, .aload_n 0, 36, 0, []), (36, .getfield 116, 39, 3, [3, 87, 0]), (39, .ireturn, 40, 0, [])]
-- 34 BoundWalks.stone(II)I
def pw_o34 : List (Nat × pw_O) := [(0, .iload_n 1, 1, 0, []), (1, .iload_n 2, 2, 0, []), (2, .invokestatic 59, 5, 49, [2, 0, 140, 141, 0, 39, 142]), (5, .ifCond .ne 6, 8, 11, []), (8, .bipush (-2), 10, 0, []), (10, .ireturn, 11, 0, []), (11, .aload_n 0, 12, 0, []), (12, .getfield 131, 15, 3, [7, 91, 0]), (15, .bipush 12, 17, 0, []), (17, .if_icmp .lt 6, 20, 23, []), (20, .bipush (-4), 22, 0, []), (22, .ireturn, 23, 0, []), (23, .aload_n 0, 24, 0, []), (24, .getfield 24, 27, 3, [4, 88, 0]), (27, .aload_n 0, 28, 0, []), (28, .getfield 131, 31, 3, [7, 91, 0]), (31, .iload_n 1, 32, 0, []), (32, .iload_n 2, 33, 0, []), (33, .invokestatic 134, 36, 54, [2, 0, 337, 338, 0, 39, 339]), (36, .iastore, 37, 0, []), (37, .aload_n 0, 38, 0, []), (38, .getfield 28, 41, 3, [5, 89, 0]), (41, .aload_n 0, 42, 0, []), (42, .getfield 131, 45, 3, [7, 91, 0]), (45, .aload_n 0, 46, 0, []), (46, .getfield 116, 49, 3, [3, 87, 0]), (49, .iastore, 50, 0, []), (50, .aload_n 0, 51, 0, []), (51, .getfield 31, 54, 3, [6, 90, 0]), (54, .aload_n 0, 55, 0, []), (55, .getfield 131, 58, 3, [7, 91, 0]), (58, .aload_n 0, 59, 0, []), (59, .getfield 116, 62, 3, [3, 87, 0]), (62, .iastore, 63, 0, []), (63, .aload_n 0, 64, 0, []), (64, .dup, 65, 0, []), (65, .getfield 131, 68, 3, [7, 91, 0]), (68, .dup_x1, 69, 0, []), (69, .iconst 1, 70, 0, []), (70, .iadd, 71, 0, []), (71, .putfield 131, 74, 3, [7, 0, 91, 0]), (74, .ireturn, 75, 0, [])]
-- 35 BoundWalks.moved(IIII)I
def pw_o35 : List (Nat × pw_O) := [(0, .aload_n 0, 1, 0, []), (1, .iload_n 1, 2, 0, []), (2, .iload_n 2, 3, 0, []), (3, .invokevirtual 137, 6, 62, [2, 3, 344, 346, 13, 39, 347]), (6, .ifCond .eq 12, 9, 18, []), (9, .iload_n 3, 10, 0, []), (10, .iload 4, 12, 0, []), (12, .invokestatic 59, 15, 49, [2, 0, 140, 141, 0, 39, 142]), (15, .ifCond .ne 6, 18, 21, []), (18, .bipush (-2), 20, 0, []), (20, .ireturn, 21, 0, []), (21, .aload_n 0, 22, 0, []), (22, .iload_n 1, 23, 0, []), (23, .iload_n 2, 24, 0, []), (24, .iload_n 3, 25, 0, []), (25, .iload 4, 27, 0, []), (27, .invokestatic 134, 30, 54, [2, 0, 337, 338, 0, 39, 339]), (30, .invokevirtual 140, 33, 63, [3, 3, 352, 354, 15, 39, 355]), (33, .ireturn, 34, 0, [])]
-- 36 BoundWalks.lost(II)I
def pw_o36 : List (Nat × pw_O) := [(0, .aload_n 0, 1, 0, []), (1, .iload_n 1, 2, 0, []), (2, .iload_n 2, 3, 0, []), (3, .invokevirtual 137, 6, 62, [2, 3, 344, 346, 13, 39, 347]), (6, .ifCond .ne 6, 9, 12, []), (9, .bipush (-2), 11, 0, []), (11, .ireturn, 12, 0, []), (12, .aload_n 0, 13, 0, []), (13, .iload_n 1, 14, 0, []), (14, .iload_n 2, 15, 0, []), (15, .iconst (-1), 16, 0, []), (16, .invokevirtual 140, 19, 63, [3, 3, 352, 354, 15, 39, 355]), (19, .ireturn, 20, 0, [])]
-- 37 BoundWalks.where(III)I
def pw_o37 : List (Nat × pw_O) := [(0, .aload_n 0, 1, 0, []), (1, .iload_n 1, 2, 0, []), (2, .invokevirtual 144, 5, 53, [1, 3, 348, 350, 14, 39, 351]), (5, .ifCond .eq 17, 8, 22, []), (8, .iload_n 2, 9, 0, []), (9, .invokestatic 109, 12, 51, [1, 0, 297, 298, 0, 39, 299]), (12, .ifCond .eq 10, 15, 22, []), (15, .iload_n 3, 16, 0, []), (16, .invokestatic 109, 19, 51, [1, 0, 297, 298, 0, 39, 299]), (19, .ifCond .ne 6, 22, 25, []), (22, .bipush (-2), 24, 0, []), (24, .ireturn, 25, 0, []), (25, .aload_n 0, 26, 0, []), (26, .getfield 28, 29, 3, [5, 89, 0]), (29, .iload_n 1, 30, 0, []), (30, .iaload, 31, 0, []), (31, .iload_n 2, 32, 0, []), (32, .if_icmp .gt 13, 35, 45, []), (35, .aload_n 0, 36, 0, []), (36, .getfield 28, 39, 3, [5, 89, 0]), (39, .iload_n 1, 40, 0, []), (40, .iaload, 41, 0, []), (41, .iload_n 3, 42, 0, []), (42, .if_icmp .le 5, 45, 47, []), (45, .iconst (-1), 46, 0, []), (46, .ireturn, 47, 0, []), (47, .aload_n 0, 48, 0, []), (48, .getfield 34, 51, 3, [8, 92, 0]), (51, .iload_n 1, 52, 0, []), (52, .iload_n 2, 53, 0, []), (53, .iload_n 3, 54, 0, []), (54, .aload_n 0, 55, 0, []), (55, .getfield 24, 58, 3, [4, 88, 0]), (58, .iload_n 1, 59, 0, []), (59, .iaload, 60, 0, []), (60, .invokevirtual 147, 63, 6, [4, 1, 320, 321, 322, 40, 323]), (63, .ireturn, 64, 0, [])]
-- 38 BoundWalks.witness(I)I
def pw_o38 : List (Nat × pw_O) := [(0, .iload_n 1, 1, 0, []), (1, .invokestatic 109, 4, 51, [1, 0, 297, 298, 0, 39, 299]), (4, .ifCond .ne 6, 7, 10, []), (7, .bipush (-2), 9, 0, []), (9, .ireturn, 10, 0, []), (10, .aload_n 0, 11, 0, []), (11, .getfield 150, 14, 3, [10, 94, 0]), (14, .bipush 20, 16, 0, []), (16, .if_icmp .lt 6, 19, 22, []), (19, .bipush (-4), 21, 0, []), (21, .ireturn, 22, 0, []), (22, .aload_n 0, 23, 0, []), (23, .getfield 37, 26, 3, [9, 93, 0]), (26, .aload_n 0, 27, 0, []), (27, .getfield 150, 30, 3, [10, 94, 0]), (30, .iload_n 1, 31, 0, []), (31, .iastore, 32, 0, []), (32, .aload_n 0, 33, 0, []), (33, .dup, 34, 0, []), (34, .getfield 150, 37, 3, [10, 94, 0]), (37, .dup_x1, 38, 0, []), (38, .iconst 1, 39, 0, []), (39, .iadd, 40, 0, []), (40, .putfield 150, 43, 3, [10, 0, 94, 0]), (43, .ireturn, 44, 0, [])]
-- 39 BoundWalks.remember(II)I
def pw_o39 : List (Nat × pw_O) := [(0, .iload_n 1, 1, 0, []), (1, .invokestatic 109, 4, 51, [1, 0, 297, 298, 0, 39, 299]), (4, .ifCond .eq 10, 7, 14, []), (7, .iload_n 2, 8, 0, []), (8, .invokestatic 109, 11, 51, [1, 0, 297, 298, 0, 39, 299]), (11, .ifCond .ne 6, 14, 17, []), (14, .bipush (-2), 16, 0, []), (16, .ireturn, 17, 0, []), (17, .iconst 0, 18, 0, []), (18, .istore_n 3, 19, 0, []), (19, .iconst 0, 20, 0, []), (20, .istore 4, 22, 0, []), (22, .iload 4, 24, 0, []), (24, .aload_n 0, 25, 0, []), (25, .getfield 150, 28, 3, [10, 94, 0]), (28, .if_icmp .ge 69, 31, 97, []), (31, .iload_n 1, 32, 0, []), (32, .aload_n 0, 33, 0, []), (33, .getfield 37, 36, 3, [9, 93, 0]), (36, .iload 4, 38, 0, []), (38, .iaload, 39, 0, []), (39, .isub, 40, 0, []), (40, .bipush 7, 42, 0, []), (42, .if_icmp .lt 7, 45, 49, []), (45, .iconst 1, 46, 0, []), (46, .goto 4, 49, 50, []), (49, .iconst 0, 50, 0, []), (50, .istore 5, 52, 0, []), (52, .iload_n 2, 53, 0, []), (53, .aload_n 0, 54, 0, []), (54, .getfield 37, 57, 3, [9, 93, 0]), (57, .iload 4, 59, 0, []), (59, .iaload, 60, 0, []), (60, .isub, 61, 0, []), (61, .bipush 80, 63, 0, []), (63, .if_icmp .ge 7, 66, 70, []), (66, .iconst 1, 67, 0, []), (67, .goto 4, 70, 71, []), (70, .iconst 0, 71, 0, []), (71, .istore 6, 73, 0, []), (73, .iload 5, 75, 0, []), (75, .ifCond .eq 16, 78, 91, []), (78, .iload 6, 80, 0, []), (80, .ifCond .eq 11, 83, 91, []), (83, .iload_n 2, 84, 0, []), (84, .iload_n 1, 85, 0, []), (85, .if_icmp .lt 6, 88, 91, []), (88, .iinc 3 1, 91, 0, []), (91, .iinc 4 1, 94, 0, []), (94, .goto (-72), 97, 22, []), (97, .iload_n 3, 98, 0, []), (98, .ireturn, 99, 0, [])]
-- 40 BoundWalks.house(IIIIIIII)I
def pw_o40_0 : List (Nat × pw_O) := [(0, .iload_n 1, 1, 0, []), (1, .iload_n 2, 2, 0, []), (2, .invokestatic 95, 5, 50, [2, 0, 274, 275, 0, 39, 276]), (5, .ifCond .eq 39, 8, 44, []), (8, .iload_n 3, 9, 0, []), (9, .iconst 1, 10, 0, []), (10, .iconst 4, 11, 0, []), (11, .invokestatic 73, 14, 48, [3, 0, 143, 144, 0, 39, 145]), (14, .ifCond .eq 30, 17, 44, []), (17, .iload 4, 19, 0, []), (19, .iconst 1, 20, 0, []), (20, .iconst 4, 21, 0, []), (21, .invokestatic 73, 24, 48, [3, 0, 143, 144, 0, 39, 145]), (24, .ifCond .eq 20, 27, 44, []), (27, .iload_n 1, 28, 0, []), (28, .iload_n 3, 29, 0, []), (29, .iadd, 30, 0, []), (30, .iconst 1, 31, 0, []), (31, .isub, 32, 0, []), (32, .iload_n 2, 33, 0, []), (33, .iload 4, 35, 0, []), (35, .iadd, 36, 0, []), (36, .iconst 1, 37, 0, []), (37, .isub, 38, 0, []), (38, .invokestatic 95, 41, 50, [2, 0, 274, 275, 0, 39, 276]), (41, .ifCond .ne 6, 44, 47, []), (44, .bipush (-2), 46, 0, []), (46, .ireturn, 47, 0, []), (47, .iload 5, 49, 0, []), (49, .iload_n 1, 50, 0, []), (50, .iload_n 1, 51, 0, []), (51, .iload_n 3, 52, 0, []), (52, .iadd, 53, 0, []), (53, .iconst 1, 54, 0, []), (54, .isub, 55, 0, []), (55, .invokestatic 73, 58, 48, [3, 0, 143, 144, 0, 39, 145]), (58, .ifCond .eq 22, 61, 80, []), (61, .iload 6, 63, 0, []), (63, .iload_n 2, 64, 0, []), (64, .iload_n 2, 65, 0, []), (65, .iload 4, 67, 0, []), (67, .iadd, 68, 0, []), (68, .iconst 1, 69, 0, []), (69, .isub, 70, 0, []), (70, .invokestatic 73, 73, 48, [3, 0, 143, 144, 0, 39, 145]), (73, .ifCond .eq 7, 76, 80, []), (76, .iconst 1, 77, 0, []), (77, .goto 4, 80, 81, [])]
def pw_o40_1 : List (Nat × pw_O) := [(80, .iconst 0, 81, 0, []), (81, .istore 9, 83, 0, []), (83, .iload 7, 85, 0, []), (85, .iload_n 1, 86, 0, []), (86, .iload_n 1, 87, 0, []), (87, .iload_n 3, 88, 0, []), (88, .iadd, 89, 0, []), (89, .iconst 1, 90, 0, []), (90, .isub, 91, 0, []), (91, .invokestatic 73, 94, 48, [3, 0, 143, 144, 0, 39, 145]), (94, .ifCond .eq 22, 97, 116, []), (97, .iload 8, 99, 0, []), (99, .iload_n 2, 100, 0, []), (100, .iload_n 2, 101, 0, []), (101, .iload 4, 103, 0, []), (103, .iadd, 104, 0, []), (104, .iconst 1, 105, 0, []), (105, .isub, 106, 0, []), (106, .invokestatic 73, 109, 48, [3, 0, 143, 144, 0, 39, 145]), (109, .ifCond .eq 7, 112, 116, []), (112, .iconst 1, 113, 0, []), (113, .goto 4, 116, 117, []), (116, .iconst 0, 117, 0, []), (117, .istore 10, 119, 0, []), (119, .iload 9, 121, 0, []), (121, .ifCond .eq 8, 124, 129, []), (124, .iload 10, 126, 0, []), (126, .ifCond .ne 6, 129, 132, []), (129, .bipush (-2), 131, 0, []), (131, .ireturn, 132, 0, []), (132, .aload_n 0, 133, 0, []), (133, .getfield 153, 136, 3, [12, 96, 0]), (136, .bipush 6, 138, 0, []), (138, .if_icmp .lt 6, 141, 144, []), (141, .bipush (-4), 143, 0, []), (143, .ireturn, 144, 0, []), (144, .aload_n 0, 145, 0, []), (145, .getfield 42, 148, 3, [11, 95, 0]), (148, .aload_n 0, 149, 0, []), (149, .getfield 153, 152, 3, [12, 96, 0]), (152, .new 40, 155, 0, [82, 376, 45]), (155, .dup, 156, 0, []), (156, .iload_n 1, 157, 0, []), (157, .iload_n 2, 158, 0, []), (158, .iload_n 3, 159, 0, []), (159, .iload 4, 161, 0, []), (161, .iload 5, 163, 0, []), (163, .iload 6, 165, 0, [])]
def pw_o40_2 : List (Nat × pw_O) := [(165, .invokestatic 98, 168, 55, [2, 0, 277, 278, 0, 39, 279]), (168, .iload 7, 170, 0, []), (170, .iload 8, 172, 0, []), (172, .invokestatic 98, 175, 55, [2, 0, 277, 278, 0, 39, 279]), (175, .invokespecial 156, 178, 1, [6, 0, 377, 378, 0, 45, 379]), (178, .aastore, 179, 0, []), (179, .aload_n 0, 180, 0, []), (180, .dup, 181, 0, []), (181, .getfield 153, 184, 3, [12, 96, 0]), (184, .dup_x1, 185, 0, []), (185, .iconst 1, 186, 0, []), (186, .iadd, 187, 0, []), (187, .putfield 153, 190, 3, [12, 0, 96, 0]), (190, .ireturn, 191, 0, [])]
def pw_o40 : List (Nat × pw_O) := pw_o40_0 ++ (pw_o40_1 ++ (pw_o40_2))
-- 41 BoundWalks.law(III)I
def pw_o41 : List (Nat × pw_O) := [(0, .iload_n 1, 1, 0, []), (1, .iconst 0, 2, 0, []), (2, .iconst 3, 3, 0, []), (3, .invokestatic 73, 6, 48, [3, 0, 143, 144, 0, 39, 145]), (6, .ifCond .eq 19, 9, 25, []), (9, .iload_n 2, 10, 0, []), (10, .invokestatic 109, 13, 51, [1, 0, 297, 298, 0, 39, 299]), (13, .ifCond .eq 12, 16, 25, []), (16, .iload_n 3, 17, 0, []), (17, .iconst 0, 18, 0, []), (18, .iconst 2, 19, 0, []), (19, .invokestatic 73, 22, 48, [3, 0, 143, 144, 0, 39, 145]), (22, .ifCond .ne 6, 25, 28, []), (25, .bipush (-2), 27, 0, []), (27, .ireturn, 28, 0, []), (28, .aload_n 0, 29, 0, []), (29, .getfield 46, 32, 3, [13, 97, 0]), (32, .invokevirtual 112, 35, 4, [0, 1, 300, 301, 302, 40, 303]), (35, .ifCond .eq 6, 38, 41, []), (38, .bipush (-4), 40, 0, []), (40, .ireturn, 41, 0, []), (41, .aload_n 0, 42, 0, []), (42, .getfield 46, 45, 3, [13, 97, 0]), (45, .iload_n 1, 46, 0, []), (46, .iload_n 2, 47, 0, []), (47, .aload_n 0, 48, 0, []), (48, .getfield 116, 51, 3, [3, 87, 0]), (51, .iload_n 3, 52, 0, []), (52, .invokevirtual 119, 55, 5, [4, 1, 304, 305, 306, 40, 307]), (55, .ireturn, 56, 0, [])]
-- 42 BoundWalks.whose(III)I
def pw_o42 : List (Nat × pw_O) := [(0, .aload_n 0, 1, 0, []), (1, .iload_n 1, 2, 0, []), (2, .invokevirtual 159, 5, 57, [1, 3, 414, 416, 16, 39, 417]), (5, .astore 4, 7, 0, []), (7, .aload 4, 9, 0, []), (9, .ifnull 19, 12, 28, []), (12, .iload_n 2, 13, 0, []), (13, .iconst 0, 14, 0, []), (14, .iconst 3, 15, 0, []), (15, .invokestatic 73, 18, 48, [3, 0, 143, 144, 0, 39, 145]), (18, .ifCond .eq 10, 21, 28, []), (21, .iload_n 3, 22, 0, []), (22, .invokestatic 109, 25, 51, [1, 0, 297, 298, 0, 39, 299]), (25, .ifCond .ne 6, 28, 31, []), (28, .bipush (-2), 30, 0, []), (30, .ireturn, 31, 0, []), (31, .aload_n 0, 32, 0, []), (32, .getfield 46, 35, 3, [13, 97, 0]), (35, .iload_n 2, 36, 0, []), (36, .iload_n 3, 37, 0, []), (37, .sipush 300, 40, 0, []), (40, .iconst 0, 41, 0, []), (41, .invokevirtual 147, 44, 6, [4, 1, 320, 321, 322, 40, 323]), (44, .istore 5, 46, 0, []), (46, .iload 5, 48, 0, []), (48, .iconst 1, 49, 0, []), (49, .if_icmp .ne 14, 52, 63, []), (52, .aload_n 0, 53, 0, []), (53, .aload 4, 55, 0, []), (55, .getfield 163, 58, 0, [5, 392, 1]), (58, .iload_n 3, 59, 0, []), (59, .invokevirtual 123, 62, 59, [2, 3, 313, 315, 12, 39, 316]), (62, .ireturn, 63, 0, []), (63, .iload 5, 65, 0, []), (65, .iconst 2, 66, 0, []), (66, .if_icmp .ne 13, 69, 79, []), (69, .aload_n 0, 70, 0, []), (70, .aload 4, 72, 0, []), (72, .iload_n 3, 73, 0, []), (73, .invokevirtual 166, 76, 61, [2, 3, 418, 420, 17, 39, 421]), (76, .goto 4, 79, 80, []), (79, .iconst (-1), 80, 0, []), (80, .istore 6, 82, 0, []), (82, .iload 6, 84, 0, []), (84, .iconst (-1), 85, 0, []), (85, .if_icmp .ne 16, 88, 101, []), (88, .aload_n 0, 89, 0, []), (89, .aload 4, 91, 0, []), (91, .getfield 170, 94, 0, [4, 390, 1]), (94, .iload_n 3, 95, 0, []), (95, .invokevirtual 123, 98, 59, [2, 3, 313, 315, 12, 39, 316]), (98, .goto 5, 101, 103, []), (101, .iload 6, 103, 0, []), (103, .ireturn, 104, 0, [])]
-- 43 BoundWalks.see(I)I
def pw_o43 : List (Nat × pw_O) := [(0, .aload_n 0, 1, 0, []), (1, .iload_n 1, 2, 0, []), (2, .invokevirtual 144, 5, 53, [1, 3, 348, 350, 14, 39, 351]), (5, .ifCond .ne 6, 8, 11, []), (8, .bipush (-2), 10, 0, []), (10, .ireturn, 11, 0, []), (11, .aload_n 0, 12, 0, []), (12, .iload_n 1, 13, 0, []), (13, .invokevirtual 173, 16, 64, [1, 3, 426, 428, 18, 39, 429]), (16, .ifCond .eq 6, 19, 22, []), (19, .bipush (-3), 21, 0, []), (21, .ireturn, 22, 0, []), (22, .aload_n 0, 23, 0, []), (23, .getfield 116, 26, 3, [3, 87, 0]), (26, .aload_n 0, 27, 0, []), (27, .getfield 31, 30, 3, [6, 90, 0]), (30, .iload_n 1, 31, 0, []), (31, .iaload, 32, 0, []), (32, .isub, 33, 0, []), (33, .istore_n 2, 34, 0, []), (34, .aload_n 0, 35, 0, []), (35, .getfield 31, 38, 3, [6, 90, 0]), (38, .iload_n 1, 39, 0, []), (39, .aload_n 0, 40, 0, []), (40, .getfield 116, 43, 3, [3, 87, 0]), (43, .iastore, 44, 0, []), (44, .iload_n 2, 45, 0, []), (45, .ireturn, 46, 0, [])]
-- 44 BoundWalks.gap(I)I
def pw_o44 : List (Nat × pw_O) := [(0, .iload_n 1, 1, 0, []), (1, .iconst 1, 2, 0, []), (2, .bipush 20, 4, 0, []), (4, .invokestatic 73, 7, 48, [3, 0, 143, 144, 0, 39, 145]), (7, .ifCond .ne 6, 10, 13, []), (10, .bipush (-2), 12, 0, []), (12, .ireturn, 13, 0, []), (13, .aload_n 0, 14, 0, []), (14, .getfield 49, 17, 3, [14, 98, 0]), (17, .istore_n 2, 18, 0, []), (18, .aload_n 0, 19, 0, []), (19, .iload_n 1, 20, 0, []), (20, .putfield 49, 23, 3, [14, 0, 98, 0]), (23, .iload_n 2, 24, 0, []), (24, .ireturn, 25, 0, [])]
-- 45 BoundWalks.due()I
def pw_o45 : List (Nat × pw_O) := [(0, .iconst 0, 1, 0, []), (1, .istore_n 1, 2, 0, []), (2, .iconst 0, 3, 0, []), (3, .istore_n 2, 4, 0, []), (4, .iload_n 2, 5, 0, []), (5, .aload_n 0, 6, 0, []), (6, .getfield 131, 9, 3, [7, 91, 0]), (9, .if_icmp .ge 41, 12, 50, []), (12, .aload_n 0, 13, 0, []), (13, .getfield 116, 16, 3, [3, 87, 0]), (16, .aload_n 0, 17, 0, []), (17, .getfield 31, 20, 3, [6, 90, 0]), (20, .iload_n 2, 21, 0, []), (21, .iaload, 22, 0, []), (22, .isub, 23, 0, []), (23, .aload_n 0, 24, 0, []), (24, .getfield 49, 27, 3, [14, 98, 0]), (27, .if_icmp .lt 17, 30, 44, []), (30, .aload_n 0, 31, 0, []), (31, .iload_n 2, 32, 0, []), (32, .invokevirtual 173, 35, 64, [1, 3, 426, 428, 18, 39, 429]), (35, .ifCond .ne 9, 38, 44, []), (38, .iload_n 1, 39, 0, []), (39, .iconst 1, 40, 0, []), (40, .iload_n 2, 41, 0, []), (41, .ishl, 42, 0, []), (42, .ior, 43, 0, []), (43, .istore_n 1, 44, 0, []), (44, .iinc 2 1, 47, 0, []), (47, .goto (-43), 50, 4, []), (50, .iload_n 1, 51, 0, []), (51, .ireturn, 52, 0, [])]
-- 46 BoundWalks.round(II)I
def pw_o46 : List (Nat × pw_O) := [(0, .iload_n 1, 1, 0, []), (1, .iconst 1, 2, 0, []), (2, .bipush 30, 4, 0, []), (4, .invokestatic 73, 7, 48, [3, 0, 143, 144, 0, 39, 145]), (7, .ifCond .eq 13, 10, 20, []), (10, .iload_n 2, 11, 0, []), (11, .iconst 1, 12, 0, []), (12, .bipush 12, 14, 0, []), (14, .invokestatic 73, 17, 48, [3, 0, 143, 144, 0, 39, 145]), (17, .ifCond .ne 6, 20, 23, []), (20, .bipush (-2), 22, 0, []), (22, .ireturn, 23, 0, []), (23, .aload_n 0, 24, 0, []), (24, .invokevirtual 176, 27, 65, [0, 3, 442, 444, 19, 39, 445]), (27, .istore_n 3, 28, 0, []), (28, .aload_n 0, 29, 0, []), (29, .getfield 116, 32, 3, [3, 87, 0]), (32, .istore 4, 34, 0, []), (34, .iload 4, 36, 0, []), (36, .aload_n 0, 37, 0, []), (37, .getfield 116, 40, 3, [3, 87, 0]), (40, .iload_n 1, 41, 0, []), (41, .iadd, 42, 0, []), (42, .if_icmp .ge 30, 45, 72, []), (45, .aload_n 0, 46, 0, []), (46, .iload_n 3, 47, 0, []), (47, .iload_n 2, 48, 0, []), (48, .iload 4, 50, 0, []), (50, .invokevirtual 179, 53, 66, [3, 3, 446, 448, 20, 39, 449]), (53, .aload_n 0, 54, 0, []), (54, .iload_n 3, 55, 0, []), (55, .iload 4, 57, 0, []), (57, .invokevirtual 182, 60, 67, [2, 3, 450, 452, 21, 39, 453]), (60, .ifCond .eq 6, 63, 66, []), (63, .iload 4, 65, 0, []), (65, .ireturn, 66, 0, []), (66, .iinc 4 1, 69, 0, []), (69, .goto (-35), 72, 34, []), (72, .iconst (-1), 73, 0, []), (73, .ireturn, 74, 0, [])]
-- 47 BoundWalks.count(I)I
def pw_o47 : List (Nat × pw_O) := [(0, .iload_n 1, 1, 0, []), (1, .tableswitch 96 0 7 #[47, 52, 57, 62, 70, 75, 80, 88], 48, 97, [48, 53, 58, 63, 71, 76, 81, 89]), (48, .aload_n 0, 49, 0, []), (49, .getfield 63, 52, 3, [1, 85, 0]), (52, .ireturn, 53, 0, []), (53, .aload_n 0, 54, 0, []), (54, .getfield 116, 57, 3, [3, 87, 0]), (57, .ireturn, 58, 0, []), (58, .aload_n 0, 59, 0, []), (59, .getfield 131, 62, 3, [7, 91, 0]), (62, .ireturn, 63, 0, []), (63, .aload_n 0, 64, 0, []), (64, .getfield 34, 67, 3, [8, 92, 0]), (67, .invokevirtual 185, 70, 3, [0, 1, 458, 459, 460, 40, 461]), (70, .ireturn, 71, 0, []), (71, .aload_n 0, 72, 0, []), (72, .getfield 150, 75, 3, [10, 94, 0]), (75, .ireturn, 76, 0, []), (76, .aload_n 0, 77, 0, []), (77, .getfield 153, 80, 3, [12, 96, 0]), (80, .ireturn, 81, 0, []), (81, .aload_n 0, 82, 0, []), (82, .getfield 20, 85, 3, [2, 86, 0]), (85, .invokevirtual 185, 88, 3, [0, 1, 458, 459, 460, 40, 461]), (88, .ireturn, 89, 0, []), (89, .aload_n 0, 90, 0, []), (90, .getfield 46, 93, 3, [13, 97, 0]), (93, .invokevirtual 185, 96, 3, [0, 1, 458, 459, 460, 40, 461]), (96, .ireturn, 97, 0, []), (97, .bipush (-2), 99, 0, []), (99, .ireturn, 100, 0, [])]
-- 48 BoundWalks.between(III)Z
def pw_o48 : List (Nat × pw_O) := [(0, .iload_n 1, 1, 0, []), (1, .iload_n 0, 2, 0, []), (2, .if_icmp .gt 12, 5, 14, []), (5, .iload_n 0, 6, 0, []), (6, .iload_n 2, 7, 0, []), (7, .if_icmp .gt 7, 10, 14, []), (10, .iconst 1, 11, 0, []), (11, .goto 4, 14, 15, []), (14, .iconst 0, 15, 0, []), (15, .ireturn, 16, 0, [])]
-- 49 BoundWalks.isPoint(II)Z
def pw_o49 : List (Nat × pw_O) := [(0, .iload_n 0, 1, 0, []), (1, .iconst 0, 2, 0, []), (2, .bipush 12, 4, 0, []), (4, .invokestatic 73, 7, 48, [3, 0, 143, 144, 0, 39, 145]), (7, .ifCond .eq 17, 10, 24, []), (10, .iload_n 1, 11, 0, []), (11, .iconst 0, 12, 0, []), (12, .bipush 12, 14, 0, []), (14, .invokestatic 73, 17, 48, [3, 0, 143, 144, 0, 39, 145]), (17, .ifCond .eq 7, 20, 24, []), (20, .iconst 1, 21, 0, []), (21, .goto 4, 24, 25, []), (24, .iconst 0, 25, 0, []), (25, .ireturn, 26, 0, [])]
-- 50 BoundWalks.isField(II)Z
def pw_o50 : List (Nat × pw_O) := [(0, .iload_n 0, 1, 0, []), (1, .iconst 0, 2, 0, []), (2, .bipush 11, 4, 0, []), (4, .invokestatic 73, 7, 48, [3, 0, 143, 144, 0, 39, 145]), (7, .ifCond .eq 17, 10, 24, []), (10, .iload_n 1, 11, 0, []), (11, .iconst 0, 12, 0, []), (12, .bipush 11, 14, 0, []), (14, .invokestatic 73, 17, 48, [3, 0, 143, 144, 0, 39, 145]), (17, .ifCond .eq 7, 20, 24, []), (20, .iconst 1, 21, 0, []), (21, .goto 4, 24, 25, []), (24, .iconst 0, 25, 0, []), (25, .ireturn, 26, 0, [])]
-- 51 BoundWalks.isYear(I)Z
def pw_o51 : List (Nat × pw_O) := [(0, .iload_n 0, 1, 0, []), (1, .iconst 0, 2, 0, []), (2, .sipush 300, 5, 0, []), (5, .invokestatic 73, 8, 48, [3, 0, 143, 144, 0, 39, 145]), (8, .ireturn, 9, 0, [])]
-- 52 BoundWalks.isParish(I)Z
def pw_o52 : List (Nat × pw_O) := [(0, .iload_n 1, 1, 0, []), (1, .iconst 0, 2, 0, []), (2, .aload_n 0, 3, 0, []), (3, .getfield 63, 6, 3, [1, 85, 0]), (6, .iconst 1, 7, 0, []), (7, .isub, 8, 0, []), (8, .invokestatic 73, 11, 48, [3, 0, 143, 144, 0, 39, 145]), (11, .ireturn, 12, 0, [])]
-- 53 BoundWalks.isStone(I)Z
def pw_o53 : List (Nat × pw_O) := [(0, .iload_n 1, 1, 0, []), (1, .iconst 0, 2, 0, []), (2, .aload_n 0, 3, 0, []), (3, .getfield 131, 6, 3, [7, 91, 0]), (6, .iconst 1, 7, 0, []), (7, .isub, 8, 0, []), (8, .invokestatic 73, 11, 48, [3, 0, 143, 144, 0, 39, 145]), (11, .ireturn, 12, 0, [])]
-- 54 BoundWalks.pointNumber(II)I
def pw_o54 : List (Nat × pw_O) := [(0, .bipush 100, 2, 0, []), (2, .iload_n 0, 3, 0, []), (3, .imul, 4, 0, []), (4, .iload_n 1, 5, 0, []), (5, .iadd, 6, 0, []), (6, .ireturn, 7, 0, [])]
-- 55 BoundWalks.fieldNumber(II)I
def pw_o55 : List (Nat × pw_O) := [(0, .bipush 12, 2, 0, []), (2, .iload_n 1, 3, 0, []), (3, .imul, 4, 0, []), (4, .iload_n 0, 5, 0, []), (5, .iadd, 6, 0, []), (6, .ireturn, 7, 0, [])]
-- 56 BoundWalks.walkOf(I)LBoundWalks$Walk;
def pw_o56 : List (Nat × pw_O) := [(0, .iload_n 1, 1, 0, []), (1, .iconst 0, 2, 0, []), (2, .iconst 3, 3, 0, []), (3, .invokestatic 73, 6, 48, [3, 0, 143, 144, 0, 39, 145]), (6, .ifCond .eq 12, 9, 18, []), (9, .aload_n 0, 10, 0, []), (10, .getfield 11, 13, 3, [0, 84, 0]), (13, .iload_n 1, 14, 0, []), (14, .aaload, 15, 0, []), (15, .goto 4, 18, 19, []), (18, .aconst_null, 19, 0, []), (19, .areturn, 20, 0, [])]
-- 57 BoundWalks.houseOf(I)LBoundWalks$House;
def pw_o57 : List (Nat × pw_O) := [(0, .iload_n 1, 1, 0, []), (1, .iconst 0, 2, 0, []), (2, .iconst 5, 3, 0, []), (3, .invokestatic 73, 6, 48, [3, 0, 143, 144, 0, 39, 145]), (6, .ifCond .eq 12, 9, 18, []), (9, .aload_n 0, 10, 0, []), (10, .getfield 42, 13, 3, [11, 95, 0]), (13, .iload_n 1, 14, 0, []), (14, .aaload, 15, 0, []), (15, .goto 4, 18, 19, []), (18, .aconst_null, 19, 0, []), (19, .areturn, 20, 0, [])]
-- 58 BoundWalks.claimsOf(I)I
def pw_o58 : List (Nat × pw_O) := [(0, .iconst 0, 1, 0, []), (1, .istore_n 2, 2, 0, []), (2, .iconst 0, 3, 0, []), (3, .istore_n 3, 4, 0, []), (4, .iload_n 3, 5, 0, []), (5, .iconst 4, 6, 0, []), (6, .if_icmp .ge 44, 9, 50, []), (9, .aload_n 0, 10, 0, []), (10, .getfield 11, 13, 3, [0, 84, 0]), (13, .iload_n 3, 14, 0, []), (14, .aaload, 15, 0, []), (15, .astore 4, 17, 0, []), (17, .aload 4, 19, 0, []), (19, .ifnull 25, 22, 44, []), (22, .aload 4, 24, 0, []), (24, .iload_n 1, 25, 0, []), (25, .bipush 12, 27, 0, []), (27, .irem, 28, 0, []), (28, .iload_n 1, 29, 0, []), (29, .bipush 12, 31, 0, []), (31, .idiv, 32, 0, []), (32, .invokevirtual 188, 35, 12, [2, 2, 284, 285, 286, 43, 287]), (35, .ifCond .eq 9, 38, 44, []), (38, .iload_n 2, 39, 0, []), (39, .iconst 1, 40, 0, []), (40, .iload_n 3, 41, 0, []), (41, .ishl, 42, 0, []), (42, .ior, 43, 0, []), (43, .istore_n 2, 44, 0, []), (44, .iinc 3 1, 47, 0, []), (47, .goto (-43), 50, 4, []), (50, .iload_n 2, 51, 0, []), (51, .ireturn, 52, 0, [])]
-- 59 BoundWalks.ownerOf(II)I
def pw_o59 : List (Nat × pw_O) := [(0, .aload_n 0, 1, 0, []), (1, .getfield 20, 4, 3, [2, 86, 0]), (4, .iload_n 1, 5, 0, []), (5, .iload_n 2, 6, 0, []), (6, .sipush 300, 9, 0, []), (9, .aload_n 0, 10, 0, []), (10, .iload_n 1, 11, 0, []), (11, .invokevirtual 102, 14, 58, [1, 3, 280, 282, 10, 39, 283]), (14, .invokestatic 191, 17, 60, [1, 0, 317, 318, 0, 39, 319]), (17, .invokevirtual 147, 20, 6, [4, 1, 320, 321, 322, 40, 323]), (20, .ireturn, 21, 0, [])]
-- 60 BoundWalks.onlyParish(I)I
def pw_o60 : List (Nat × pw_O) := [(0, .iconst 0, 1, 0, []), (1, .istore_n 1, 2, 0, []), (2, .iload_n 1, 3, 0, []), (3, .iconst 4, 4, 0, []), (4, .if_icmp .ge 18, 7, 22, []), (7, .iload_n 0, 8, 0, []), (8, .iconst 1, 9, 0, []), (9, .iload_n 1, 10, 0, []), (10, .ishl, 11, 0, []), (11, .if_icmp .ne 5, 14, 16, []), (14, .iload_n 1, 15, 0, []), (15, .ireturn, 16, 0, []), (16, .iinc 1 1, 19, 0, []), (19, .goto (-17), 22, 2, []), (22, .iconst (-1), 23, 0, []), (23, .ireturn, 24, 0, [])]
-- 61 BoundWalks.ownerOfMost(LBoundWalks$House;I)I
def pw_o61_0 : List (Nat × pw_O) := [(0, .iconst 0, 1, 0, []), (1, .istore_n 3, 2, 0, []), (2, .iload_n 3, 3, 0, []), (3, .iconst 4, 4, 0, []), (4, .if_icmp .ge 16, 7, 20, []), (7, .aload_n 0, 8, 0, []), (8, .getfield 53, 11, 3, [15, 99, 0]), (11, .iload_n 3, 12, 0, []), (12, .iconst 0, 13, 0, []), (13, .iastore, 14, 0, []), (14, .iinc 3 1, 17, 0, []), (17, .goto (-15), 20, 2, []), (20, .aload_n 1, 21, 0, []), (21, .getfield 194, 24, 0, [1, 384, 1]), (24, .istore_n 3, 25, 0, []), (25, .iload_n 3, 26, 0, []), (26, .aload_n 1, 27, 0, []), (27, .getfield 194, 30, 0, [1, 384, 1]), (30, .aload_n 1, 31, 0, []), (31, .getfield 197, 34, 0, [3, 388, 1]), (34, .iadd, 35, 0, []), (35, .if_icmp .ge 69, 38, 104, []), (38, .aload_n 1, 39, 0, []), (39, .getfield 200, 42, 0, [0, 382, 1]), (42, .istore 4, 44, 0, []), (44, .iload 4, 46, 0, []), (46, .aload_n 1, 47, 0, []), (47, .getfield 200, 50, 0, [0, 382, 1]), (50, .aload_n 1, 51, 0, []), (51, .getfield 203, 54, 0, [2, 386, 1]), (54, .iadd, 55, 0, []), (55, .if_icmp .ge 43, 58, 98, []), (58, .aload_n 0, 59, 0, []), (59, .iload 4, 61, 0, []), (61, .iload_n 3, 62, 0, []), (62, .invokestatic 98, 65, 55, [2, 0, 277, 278, 0, 39, 279]), (65, .iload_n 2, 66, 0, []), (66, .invokevirtual 123, 69, 59, [2, 3, 313, 315, 12, 39, 316]), (69, .istore 5, 71, 0, []), (71, .iload 5, 73, 0, []), (73, .iconst 0, 74, 0, []), (74, .iconst 3, 75, 0, []), (75, .invokestatic 73, 78, 48, [3, 0, 143, 144, 0, 39, 145]), (78, .ifCond .eq 14, 81, 92, []), (81, .aload_n 0, 82, 0, []), (82, .getfield 53, 85, 3, [15, 99, 0]), (85, .iload 5, 87, 0, []), (87, .dup2, 88, 0, [])]
def pw_o61_1 : List (Nat × pw_O) := [(88, .iaload, 89, 0, []), (89, .iconst 1, 90, 0, []), (90, .iadd, 91, 0, []), (91, .iastore, 92, 0, []), (92, .iinc 4 1, 95, 0, []), (95, .goto (-51), 98, 44, []), (98, .iinc 3 1, 101, 0, []), (101, .goto (-76), 104, 25, []), (104, .iconst 0, 105, 0, []), (105, .istore_n 3, 106, 0, []), (106, .iconst (-1), 107, 0, []), (107, .istore 4, 109, 0, []), (109, .iconst 0, 110, 0, []), (110, .istore 5, 112, 0, []), (112, .iload 5, 114, 0, []), (114, .iconst 4, 115, 0, []), (115, .if_icmp .ge 49, 118, 164, []), (118, .aload_n 0, 119, 0, []), (119, .getfield 53, 122, 3, [15, 99, 0]), (122, .iload 5, 124, 0, []), (124, .iaload, 125, 0, []), (125, .iload_n 3, 126, 0, []), (126, .if_icmp .le 18, 129, 144, []), (129, .aload_n 0, 130, 0, []), (130, .getfield 53, 133, 3, [15, 99, 0]), (133, .iload 5, 135, 0, []), (135, .iaload, 136, 0, []), (136, .istore_n 3, 137, 0, []), (137, .iload 5, 139, 0, []), (139, .istore 4, 141, 0, []), (141, .goto 17, 144, 158, []), (144, .aload_n 0, 145, 0, []), (145, .getfield 53, 148, 3, [15, 99, 0]), (148, .iload 5, 150, 0, []), (150, .iaload, 151, 0, []), (151, .iload_n 3, 152, 0, []), (152, .if_icmp .ne 6, 155, 158, []), (155, .iconst (-1), 156, 0, []), (156, .istore 4, 158, 0, []), (158, .iinc 5 1, 161, 0, []), (161, .goto (-49), 164, 112, []), (164, .iload 4, 166, 0, []), (166, .ireturn, 167, 0, [])]
def pw_o61 : List (Nat × pw_O) := pw_o61_0 ++ (pw_o61_1)
-- 62 BoundWalks.canHappen(II)Z
def pw_o62 : List (Nat × pw_O) := [(0, .aload_n 0, 1, 0, []), (1, .iload_n 1, 2, 0, []), (2, .invokevirtual 144, 5, 53, [1, 3, 348, 350, 14, 39, 351]), (5, .ifCond .eq 24, 8, 29, []), (8, .iload_n 2, 9, 0, []), (9, .aload_n 0, 10, 0, []), (10, .getfield 28, 13, 3, [5, 89, 0]), (13, .iload_n 1, 14, 0, []), (14, .iaload, 15, 0, []), (15, .aload_n 0, 16, 0, []), (16, .getfield 116, 19, 3, [3, 87, 0]), (19, .invokestatic 73, 22, 48, [3, 0, 143, 144, 0, 39, 145]), (22, .ifCond .eq 7, 25, 29, []), (25, .iconst 1, 26, 0, []), (26, .goto 4, 29, 30, []), (29, .iconst 0, 30, 0, []), (30, .ireturn, 31, 0, [])]
-- 63 BoundWalks.tell(III)I
def pw_o63 : List (Nat × pw_O) := [(0, .aload_n 0, 1, 0, []), (1, .getfield 34, 4, 3, [8, 92, 0]), (4, .invokevirtual 112, 7, 4, [0, 1, 300, 301, 302, 40, 303]), (7, .ifCond .eq 6, 10, 13, []), (10, .bipush (-4), 12, 0, []), (12, .ireturn, 13, 0, []), (13, .aload_n 0, 14, 0, []), (14, .getfield 34, 17, 3, [8, 92, 0]), (17, .iload_n 1, 18, 0, []), (18, .iload_n 2, 19, 0, []), (19, .aload_n 0, 20, 0, []), (20, .getfield 116, 23, 3, [3, 87, 0]), (23, .iload_n 3, 24, 0, []), (24, .invokevirtual 119, 27, 5, [4, 1, 304, 305, 306, 40, 307]), (27, .pop, 28, 0, []), (28, .iconst 1, 29, 0, []), (29, .ireturn, 30, 0, [])]
-- 64 BoundWalks.isLostNow(I)Z
def pw_o64 : List (Nat × pw_O) := [(0, .aload_n 0, 1, 0, []), (1, .getfield 34, 4, 3, [8, 92, 0]), (4, .iload_n 1, 5, 0, []), (5, .aload_n 0, 6, 0, []), (6, .getfield 116, 9, 3, [3, 87, 0]), (9, .aload_n 0, 10, 0, []), (10, .getfield 116, 13, 3, [3, 87, 0]), (13, .aload_n 0, 14, 0, []), (14, .getfield 24, 17, 3, [4, 88, 0]), (17, .iload_n 1, 18, 0, []), (18, .iaload, 19, 0, []), (19, .invokevirtual 147, 22, 6, [4, 1, 320, 321, 322, 40, 323]), (22, .iconst (-1), 23, 0, []), (23, .if_icmp .ne 7, 26, 30, []), (26, .iconst 1, 27, 0, []), (27, .goto 4, 30, 31, []), (30, .iconst 0, 31, 0, []), (31, .ireturn, 32, 0, [])]
-- 65 BoundWalks.gatherForRound()I
def pw_o65 : List (Nat × pw_O) := [(0, .iconst 0, 1, 0, []), (1, .istore_n 1, 2, 0, []), (2, .iconst 0, 3, 0, []), (3, .istore_n 2, 4, 0, []), (4, .iload_n 2, 5, 0, []), (5, .aload_n 0, 6, 0, []), (6, .getfield 131, 9, 3, [7, 91, 0]), (9, .if_icmp .ge 32, 12, 41, []), (12, .aload_n 0, 13, 0, []), (13, .iload_n 2, 14, 0, []), (14, .invokevirtual 173, 17, 64, [1, 3, 426, 428, 18, 39, 429]), (17, .ifCond .ne 18, 20, 35, []), (20, .aload_n 0, 21, 0, []), (21, .getfield 56, 24, 3, [16, 100, 0]), (24, .iload_n 1, 25, 0, []), (25, .aload_n 0, 26, 0, []), (26, .getfield 31, 29, 3, [6, 90, 0]), (29, .iload_n 2, 30, 0, []), (30, .iaload, 31, 0, []), (31, .iastore, 32, 0, []), (32, .iinc 1 1, 35, 0, []), (35, .iinc 2 1, 38, 0, []), (38, .goto (-34), 41, 4, []), (41, .iload_n 1, 42, 0, []), (42, .ireturn, 43, 0, [])]
-- 66 BoundWalks.seeOldest(III)V
def pw_o66 : List (Nat × pw_O) := [(0, .iconst 0, 1, 0, []), (1, .istore 4, 3, 0, []), (3, .iload 4, 5, 0, []), (5, .iload_n 2, 6, 0, []), (6, .if_icmp .ge 62, 9, 68, []), (9, .iload 4, 11, 0, []), (11, .iload_n 1, 12, 0, []), (12, .if_icmp .ge 56, 15, 68, []), (15, .iconst 0, 16, 0, []), (16, .istore 5, 18, 0, []), (18, .iconst 1, 19, 0, []), (19, .istore 6, 21, 0, []), (21, .iload 6, 23, 0, []), (23, .iload_n 1, 24, 0, []), (24, .if_icmp .ge 30, 27, 54, []), (27, .aload_n 0, 28, 0, []), (28, .getfield 56, 31, 3, [16, 100, 0]), (31, .iload 6, 33, 0, []), (33, .iaload, 34, 0, []), (34, .aload_n 0, 35, 0, []), (35, .getfield 56, 38, 3, [16, 100, 0]), (38, .iload 5, 40, 0, []), (40, .iaload, 41, 0, []), (41, .if_icmp .ge 7, 44, 48, []), (44, .iload 6, 46, 0, []), (46, .istore 5, 48, 0, []), (48, .iinc 6 1, 51, 0, []), (51, .goto (-30), 54, 21, []), (54, .aload_n 0, 55, 0, []), (55, .getfield 56, 58, 3, [16, 100, 0]), (58, .iload 5, 60, 0, []), (60, .iload_n 3, 61, 0, []), (61, .iastore, 62, 0, []), (62, .iinc 4 1, 65, 0, []), (65, .goto (-62), 68, 3, []), (68, .return_, 69, 0, [])]
-- 67 BoundWalks.someUnseen(II)Z
def pw_o67 : List (Nat × pw_O) := [(0, .iconst 0, 1, 0, []), (1, .istore_n 3, 2, 0, []), (2, .iload_n 3, 3, 0, []), (3, .iload_n 1, 4, 0, []), (4, .if_icmp .ge 26, 7, 30, []), (7, .iload_n 2, 8, 0, []), (8, .aload_n 0, 9, 0, []), (9, .getfield 56, 12, 3, [16, 100, 0]), (12, .iload_n 3, 13, 0, []), (13, .iaload, 14, 0, []), (14, .isub, 15, 0, []), (15, .aload_n 0, 16, 0, []), (16, .getfield 49, 19, 3, [14, 98, 0]), (19, .if_icmp .lt 5, 22, 24, []), (22, .iconst 1, 23, 0, []), (23, .ireturn, 24, 0, []), (24, .iinc 3 1, 27, 0, []), (27, .goto (-25), 30, 2, []), (30, .iconst 0, 31, 0, []), (31, .ireturn, 32, 0, [])]
-- 68 BoundWalksModel.<init>()V
def pw_o68_0 : List (Nat × pw_O) := [(0, .aload_n 0, 1, 0, []), (1, .invokespecial 1, 4, 0, [467]), (4, .aload_n 0, 5, 0, []), (5, .iconst 4, 6, 0, []), (6, .newarray .int, 8, 0, [81]), (8, .putfield 7, 11, 4, [1, 2, 469, 1]), (11, .aload_n 0, 12, 0, []), (12, .iconst 4, 13, 0, []), (13, .newarray .int, 15, 0, [81]), (15, .putfield 13, 18, 4, [2, 2, 470, 1]), (18, .aload_n 0, 19, 0, []), (19, .iconst 4, 20, 0, []), (20, .newarray .int, 22, 0, [81]), (22, .putfield 16, 25, 4, [3, 2, 471, 1]), (25, .aload_n 0, 26, 0, []), (26, .bipush 48, 28, 0, []), (28, .newarray .int, 30, 0, [81]), (30, .putfield 19, 33, 4, [4, 2, 472, 1]), (33, .aload_n 0, 34, 0, []), (34, .bipush 48, 36, 0, []), (36, .newarray .int, 38, 0, [81]), (38, .putfield 22, 41, 4, [5, 2, 473, 1]), (41, .aload_n 0, 42, 0, []), (42, .bipush 48, 44, 0, []), (44, .newarray .int, 46, 0, [81]), (46, .putfield 25, 49, 4, [6, 2, 474, 1]), (49, .aload_n 0, 50, 0, []), (50, .bipush 12, 52, 0, []), (52, .newarray .int, 54, 0, [81]), (54, .putfield 28, 57, 4, [8, 2, 476, 1]), (57, .aload_n 0, 58, 0, []), (58, .bipush 12, 60, 0, []), (60, .newarray .int, 62, 0, [81]), (62, .putfield 31, 65, 4, [9, 2, 477, 1]), (65, .aload_n 0, 66, 0, []), (66, .bipush 12, 68, 0, []), (68, .newarray .int, 70, 0, [81]), (70, .putfield 34, 73, 4, [10, 2, 478, 1]), (73, .aload_n 0, 74, 0, []), (74, .bipush 12, 76, 0, []), (76, .newarray .int, 78, 0, [81]), (78, .putfield 37, 81, 4, [13, 2, 481, 1]), (81, .aload_n 0, 82, 0, []), (82, .bipush 12, 84, 0, []), (84, .newarray .int, 86, 0, [81]), (86, .putfield 40, 89, 4, [14, 2, 482, 1]), (89, .aload_n 0, 90, 0, []), (90, .bipush 12, 92, 0, [])]
def pw_o68_1 : List (Nat × pw_O) := [(92, .newarray .int, 94, 0, [81]), (94, .putfield 43, 97, 4, [15, 2, 483, 1]), (97, .aload_n 0, 98, 0, []), (98, .bipush 60, 100, 0, []), (100, .newarray .int, 102, 0, [81]), (102, .putfield 46, 105, 4, [17, 2, 485, 1]), (105, .aload_n 0, 106, 0, []), (106, .bipush 60, 108, 0, []), (108, .newarray .int, 110, 0, [81]), (110, .putfield 49, 113, 4, [18, 2, 486, 1]), (113, .aload_n 0, 114, 0, []), (114, .bipush 60, 116, 0, []), (116, .newarray .int, 118, 0, [81]), (118, .putfield 52, 121, 4, [19, 2, 487, 1]), (121, .aload_n 0, 122, 0, []), (122, .bipush 60, 124, 0, []), (124, .newarray .int, 126, 0, [81]), (126, .putfield 55, 129, 4, [20, 2, 488, 1]), (129, .aload_n 0, 130, 0, []), (130, .bipush 20, 132, 0, []), (132, .newarray .int, 134, 0, [81]), (134, .putfield 58, 137, 4, [22, 2, 490, 1]), (137, .aload_n 0, 138, 0, []), (138, .bipush 6, 140, 0, []), (140, .newarray .int, 142, 0, [81]), (142, .putfield 61, 145, 4, [24, 2, 492, 1]), (145, .aload_n 0, 146, 0, []), (146, .bipush 6, 148, 0, []), (148, .newarray .int, 150, 0, [81]), (150, .putfield 64, 153, 4, [25, 2, 493, 1]), (153, .aload_n 0, 154, 0, []), (154, .bipush 6, 156, 0, []), (156, .newarray .int, 158, 0, [81]), (158, .putfield 67, 161, 4, [26, 2, 494, 1]), (161, .aload_n 0, 162, 0, []), (162, .bipush 6, 164, 0, []), (164, .newarray .int, 166, 0, [81]), (166, .putfield 70, 169, 4, [27, 2, 495, 1]), (169, .aload_n 0, 170, 0, []), (170, .bipush 6, 172, 0, []), (172, .newarray .int, 174, 0, [81]), (174, .putfield 73, 177, 4, [28, 2, 496, 1]), (177, .aload_n 0, 178, 0, []), (178, .bipush 6, 180, 0, []), (180, .newarray .int, 182, 0, [81]), (182, .putfield 76, 185, 4, [29, 2, 497, 1]), (185, .aload_n 0, 186, 0, []), (186, .bipush 10, 188, 0, [])]
def pw_o68_2 : List (Nat × pw_O) := [(188, .newarray .int, 190, 0, [81]), (190, .putfield 79, 193, 4, [31, 2, 499, 1]), (193, .aload_n 0, 194, 0, []), (194, .bipush 10, 196, 0, []), (196, .newarray .int, 198, 0, [81]), (198, .putfield 82, 201, 4, [32, 2, 500, 1]), (201, .aload_n 0, 202, 0, []), (202, .bipush 10, 204, 0, []), (204, .newarray .int, 206, 0, [81]), (206, .putfield 85, 209, 4, [33, 2, 501, 1]), (209, .aload_n 0, 210, 0, []), (210, .bipush 7, 212, 0, []), (212, .putfield 88, 215, 4, [34, 0, 502, 0]), (215, .aload_n 0, 216, 0, []), (216, .bipush 12, 218, 0, []), (218, .newarray .int, 220, 0, [81]), (220, .putfield 92, 223, 4, [35, 2, 503, 1]), (223, .aload_n 0, 224, 0, []), (224, .sipush 156, 227, 0, []), (227, .newarray .boolean, 229, 1, [589]), (229, .putfield 95, 232, 4, [36, 2, 504, 1]), (232, .aload_n 0, 233, 0, []), (233, .sipush 144, 236, 0, []), (236, .newarray .int, 238, 0, [81]), (238, .putfield 99, 241, 4, [37, 2, 505, 1]), (241, .aload_n 0, 242, 0, []), (242, .iconst 4, 243, 0, []), (243, .newarray .int, 245, 0, [81]), (245, .putfield 102, 248, 4, [38, 2, 506, 1]), (248, .aload_n 0, 249, 0, []), (249, .bipush 12, 251, 0, []), (251, .newarray .int, 253, 0, [81]), (253, .putfield 105, 256, 4, [39, 2, 507, 1]), (256, .return_, 257, 0, [])]
def pw_o68 : List (Nat × pw_O) := pw_o68_0 ++ (pw_o68_1 ++ (pw_o68_2))
-- 69 BoundWalksModel.in(III)Z
def pw_o69 : List (Nat × pw_O) := [(0, .iload_n 0, 1, 0, []), (1, .iload_n 1, 2, 0, []), (2, .if_icmp .lt 12, 5, 14, []), (5, .iload_n 0, 6, 0, []), (6, .iload_n 2, 7, 0, []), (7, .if_icmp .gt 7, 10, 14, []), (10, .iconst 1, 11, 0, []), (11, .goto 4, 14, 15, []), (14, .iconst 0, 15, 0, []), (15, .ireturn, 16, 0, [])]
-- 70 BoundWalksModel.isPoint(II)Z
def pw_o70 : List (Nat × pw_O) := [(0, .iload_n 0, 1, 0, []), (1, .iconst 0, 2, 0, []), (2, .bipush 12, 4, 0, []), (4, .invokestatic 108, 7, 69, [3, 0, 597, 598, 0, 42, 599]), (7, .ifCond .eq 17, 10, 24, []), (10, .iload_n 1, 11, 0, []), (11, .iconst 0, 12, 0, []), (12, .bipush 12, 14, 0, []), (14, .invokestatic 108, 17, 69, [3, 0, 597, 598, 0, 42, 599]), (17, .ifCond .eq 7, 20, 24, []), (20, .iconst 1, 21, 0, []), (21, .goto 4, 24, 25, []), (24, .iconst 0, 25, 0, []), (25, .ireturn, 26, 0, [])]
-- 71 BoundWalksModel.isField(II)Z
def pw_o71 : List (Nat × pw_O) := [(0, .iload_n 0, 1, 0, []), (1, .iconst 0, 2, 0, []), (2, .bipush 11, 4, 0, []), (4, .invokestatic 108, 7, 69, [3, 0, 597, 598, 0, 42, 599]), (7, .ifCond .eq 17, 10, 24, []), (10, .iload_n 1, 11, 0, []), (11, .iconst 0, 12, 0, []), (12, .bipush 11, 14, 0, []), (14, .invokestatic 108, 17, 69, [3, 0, 597, 598, 0, 42, 599]), (17, .ifCond .eq 7, 20, 24, []), (20, .iconst 1, 21, 0, []), (21, .goto 4, 24, 25, []), (24, .iconst 0, 25, 0, []), (25, .ireturn, 26, 0, [])]
-- 72 BoundWalksModel.isYear(I)Z
def pw_o72 : List (Nat × pw_O) := [(0, .iload_n 0, 1, 0, []), (1, .iconst 0, 2, 0, []), (2, .sipush 300, 5, 0, []), (5, .invokestatic 108, 8, 69, [3, 0, 597, 598, 0, 42, 599]), (8, .ireturn, 9, 0, [])]
-- 73 BoundWalksModel.isParish(I)Z
def pw_o73 : List (Nat × pw_O) := [(0, .iload_n 1, 1, 0, []), (1, .iconst 0, 2, 0, []), (2, .aload_n 0, 3, 0, []), (3, .getfield 112, 6, 4, [0, 468, 0]), (6, .iconst 1, 7, 0, []), (7, .isub, 8, 0, []), (8, .invokestatic 108, 11, 69, [3, 0, 597, 598, 0, 42, 599]), (11, .ireturn, 12, 0, [])]
-- 74 BoundWalksModel.parish(II)I
def pw_o74 : List (Nat × pw_O) := [(0, .iload_n 1, 1, 0, []), (1, .iload_n 2, 2, 0, []), (2, .invokestatic 115, 5, 70, [2, 0, 594, 595, 0, 42, 596]), (5, .ifCond .ne 6, 8, 11, []), (8, .bipush (-2), 10, 0, []), (10, .ireturn, 11, 0, []), (11, .aload_n 0, 12, 0, []), (12, .getfield 112, 15, 4, [0, 468, 0]), (15, .iconst 4, 16, 0, []), (16, .if_icmp .ne 6, 19, 22, []), (19, .bipush (-4), 21, 0, []), (21, .ireturn, 22, 0, []), (22, .aload_n 0, 23, 0, []), (23, .getfield 7, 26, 4, [1, 469, 0]), (26, .aload_n 0, 27, 0, []), (27, .getfield 112, 30, 4, [0, 468, 0]), (30, .iload_n 1, 31, 0, []), (31, .iastore, 32, 0, []), (32, .aload_n 0, 33, 0, []), (33, .getfield 13, 36, 4, [2, 470, 0]), (36, .aload_n 0, 37, 0, []), (37, .getfield 112, 40, 4, [0, 468, 0]), (40, .iload_n 2, 41, 0, []), (41, .iastore, 42, 0, []), (42, .aload_n 0, 43, 0, []), (43, .dup, 44, 0, []), (44, .getfield 112, 47, 4, [0, 468, 0]), (47, .iconst 1, 48, 0, []), (48, .iadd, 49, 0, []), (49, .putfield 112, 52, 4, [0, 0, 468, 0]), (52, .aload_n 0, 53, 0, []), (53, .getfield 112, 56, 4, [0, 468, 0]), (56, .iconst 1, 57, 0, []), (57, .isub, 58, 0, []), (58, .ireturn, 59, 0, [])]
-- 75 BoundWalksModel.leg(IIII)I
def pw_o75_0 : List (Nat × pw_O) := [(0, .aload_n 0, 1, 0, []), (1, .iload_n 1, 2, 0, []), (2, .invokevirtual 119, 5, 73, [1, 4, 604, 606, 22, 42, 607]), (5, .ifCond .eq 33, 8, 38, []), (8, .iload_n 2, 9, 0, []), (9, .iconst 0, 10, 0, []), (10, .iconst 3, 11, 0, []), (11, .invokestatic 108, 14, 69, [3, 0, 597, 598, 0, 42, 599]), (14, .ifCond .eq 24, 17, 38, []), (17, .iload_n 3, 18, 0, []), (18, .iconst 1, 19, 0, []), (19, .bipush 12, 21, 0, []), (21, .invokestatic 108, 24, 69, [3, 0, 597, 598, 0, 42, 599]), (24, .ifCond .eq 14, 27, 38, []), (27, .iload 4, 29, 0, []), (29, .iload_n 3, 30, 0, []), (30, .bipush 12, 32, 0, []), (32, .invokestatic 108, 35, 69, [3, 0, 597, 598, 0, 42, 599]), (35, .ifCond .ne 6, 38, 41, []), (38, .bipush (-2), 40, 0, []), (40, .ireturn, 41, 0, []), (41, .aload_n 0, 42, 0, []), (42, .getfield 16, 45, 4, [3, 471, 0]), (45, .iload_n 1, 46, 0, []), (46, .iaload, 47, 0, []), (47, .bipush 12, 49, 0, []), (49, .if_icmp .ne 6, 52, 55, []), (52, .bipush (-4), 54, 0, []), (54, .ireturn, 55, 0, []), (55, .bipush 12, 57, 0, []), (57, .iload_n 1, 58, 0, []), (58, .imul, 59, 0, []), (59, .aload_n 0, 60, 0, []), (60, .getfield 16, 63, 4, [3, 471, 0]), (63, .iload_n 1, 64, 0, []), (64, .iaload, 65, 0, []), (65, .iadd, 66, 0, []), (66, .istore 5, 68, 0, []), (68, .aload_n 0, 69, 0, []), (69, .getfield 19, 72, 4, [4, 472, 0]), (72, .iload 5, 74, 0, []), (74, .iload_n 2, 75, 0, []), (75, .iastore, 76, 0, []), (76, .aload_n 0, 77, 0, []), (77, .getfield 22, 80, 4, [5, 473, 0]), (80, .iload 5, 82, 0, []), (82, .iload_n 3, 83, 0, []), (83, .iastore, 84, 0, [])]
def pw_o75_1 : List (Nat × pw_O) := [(84, .aload_n 0, 85, 0, []), (85, .getfield 25, 88, 4, [6, 474, 0]), (88, .iload 5, 90, 0, []), (90, .iload 4, 92, 0, []), (92, .iastore, 93, 0, []), (93, .aload_n 0, 94, 0, []), (94, .getfield 16, 97, 4, [3, 471, 0]), (97, .iload_n 1, 98, 0, []), (98, .dup2, 99, 0, []), (99, .iaload, 100, 0, []), (100, .iconst 1, 101, 0, []), (101, .iadd, 102, 0, []), (102, .iastore, 103, 0, []), (103, .aload_n 0, 104, 0, []), (104, .getfield 16, 107, 4, [3, 471, 0]), (107, .iload_n 1, 108, 0, []), (108, .iaload, 109, 0, []), (109, .ireturn, 110, 0, [])]
def pw_o75 : List (Nat × pw_O) := pw_o75_0 ++ (pw_o75_1)
-- 76 BoundWalksModel.unleg(I)I
def pw_o76 : List (Nat × pw_O) := [(0, .aload_n 0, 1, 0, []), (1, .iload_n 1, 2, 0, []), (2, .invokevirtual 119, 5, 73, [1, 4, 604, 606, 22, 42, 607]), (5, .ifCond .ne 6, 8, 11, []), (8, .bipush (-2), 10, 0, []), (10, .ireturn, 11, 0, []), (11, .aload_n 0, 12, 0, []), (12, .getfield 16, 15, 4, [3, 471, 0]), (15, .iload_n 1, 16, 0, []), (16, .iaload, 17, 0, []), (17, .ifCond .ne 6, 20, 23, []), (20, .bipush (-3), 22, 0, []), (22, .ireturn, 23, 0, []), (23, .aload_n 0, 24, 0, []), (24, .getfield 16, 27, 4, [3, 471, 0]), (27, .iload_n 1, 28, 0, []), (28, .dup2, 29, 0, []), (29, .iaload, 30, 0, []), (30, .iconst 1, 31, 0, []), (31, .isub, 32, 0, []), (32, .iastore, 33, 0, []), (33, .aload_n 0, 34, 0, []), (34, .getfield 16, 37, 4, [3, 471, 0]), (37, .iload_n 1, 38, 0, []), (38, .iaload, 39, 0, []), (39, .ireturn, 40, 0, [])]
-- 77 BoundWalksModel.leastFrom(III)I
def pw_o77 : List (Nat × pw_O) := [(0, .iconst 0, 1, 0, []), (1, .istore 4, 3, 0, []), (3, .iload_n 2, 4, 0, []), (4, .istore 5, 6, 0, []), (6, .iload 5, 8, 0, []), (8, .aload_n 0, 9, 0, []), (9, .getfield 16, 12, 4, [3, 471, 0]), (12, .iload_n 1, 13, 0, []), (13, .iaload, 14, 0, []), (14, .if_icmp .ge 65, 17, 79, []), (17, .bipush 12, 19, 0, []), (19, .iload_n 1, 20, 0, []), (20, .imul, 21, 0, []), (21, .iload 5, 23, 0, []), (23, .iadd, 24, 0, []), (24, .istore 6, 26, 0, []), (26, .aload_n 0, 27, 0, []), (27, .getfield 19, 30, 4, [4, 472, 0]), (30, .iload 6, 32, 0, []), (32, .iaload, 33, 0, []), (33, .iconst 2, 34, 0, []), (34, .irem, 35, 0, []), (35, .iload_n 3, 36, 0, []), (36, .if_icmp .ne 37, 39, 73, []), (39, .iload 4, 41, 0, []), (41, .aload_n 0, 42, 0, []), (42, .getfield 19, 45, 4, [4, 472, 0]), (45, .iload 6, 47, 0, []), (47, .iaload, 48, 0, []), (48, .iconst 2, 49, 0, []), (49, .if_icmp .ge 13, 52, 62, []), (52, .aload_n 0, 53, 0, []), (53, .getfield 22, 56, 4, [5, 473, 0]), (56, .iload 6, 58, 0, []), (58, .iaload, 59, 0, []), (59, .goto 11, 62, 70, []), (62, .aload_n 0, 63, 0, []), (63, .getfield 25, 66, 4, [6, 474, 0]), (66, .iload 6, 68, 0, []), (68, .iaload, 69, 0, []), (69, .ineg, 70, 0, []), (70, .iadd, 71, 0, []), (71, .istore 4, 73, 0, []), (73, .iinc 5 1, 76, 0, []), (76, .goto (-70), 79, 6, []), (79, .iload 4, 81, 0, []), (81, .ireturn, 82, 0, [])]
-- 78 BoundWalksModel.mostFrom(III)I
def pw_o78 : List (Nat × pw_O) := [(0, .iconst 0, 1, 0, []), (1, .istore 4, 3, 0, []), (3, .iload_n 2, 4, 0, []), (4, .istore 5, 6, 0, []), (6, .iload 5, 8, 0, []), (8, .aload_n 0, 9, 0, []), (9, .getfield 16, 12, 4, [3, 471, 0]), (12, .iload_n 1, 13, 0, []), (13, .iaload, 14, 0, []), (14, .if_icmp .ge 65, 17, 79, []), (17, .bipush 12, 19, 0, []), (19, .iload_n 1, 20, 0, []), (20, .imul, 21, 0, []), (21, .iload 5, 23, 0, []), (23, .iadd, 24, 0, []), (24, .istore 6, 26, 0, []), (26, .aload_n 0, 27, 0, []), (27, .getfield 19, 30, 4, [4, 472, 0]), (30, .iload 6, 32, 0, []), (32, .iaload, 33, 0, []), (33, .iconst 2, 34, 0, []), (34, .irem, 35, 0, []), (35, .iload_n 3, 36, 0, []), (36, .if_icmp .ne 37, 39, 73, []), (39, .iload 4, 41, 0, []), (41, .aload_n 0, 42, 0, []), (42, .getfield 19, 45, 4, [4, 472, 0]), (45, .iload 6, 47, 0, []), (47, .iaload, 48, 0, []), (48, .iconst 2, 49, 0, []), (49, .if_icmp .ge 13, 52, 62, []), (52, .aload_n 0, 53, 0, []), (53, .getfield 25, 56, 4, [6, 474, 0]), (56, .iload 6, 58, 0, []), (58, .iaload, 59, 0, []), (59, .goto 11, 62, 70, []), (62, .aload_n 0, 63, 0, []), (63, .getfield 22, 66, 4, [5, 473, 0]), (66, .iload 6, 68, 0, []), (68, .iaload, 69, 0, []), (69, .ineg, 70, 0, []), (70, .iadd, 71, 0, []), (71, .istore 4, 73, 0, []), (73, .iinc 5 1, 76, 0, []), (76, .goto (-70), 79, 6, []), (79, .iload 4, 81, 0, []), (81, .ireturn, 82, 0, [])]
-- 79 BoundWalksModel.findLengths(I)Z
def pw_o79_0 : List (Nat × pw_O) := [(0, .iconst 0, 1, 0, []), (1, .istore_n 2, 2, 0, []), (2, .iload_n 2, 3, 0, []), (3, .iconst 2, 4, 0, []), (4, .if_icmp .ge 159, 7, 163, []), (7, .iconst 0, 8, 0, []), (8, .istore_n 3, 9, 0, []), (9, .iload_n 3, 10, 0, []), (10, .aload_n 0, 11, 0, []), (11, .iload_n 1, 12, 0, []), (12, .iconst 0, 13, 0, []), (13, .iload_n 2, 14, 0, []), (14, .invokevirtual 123, 17, 77, [3, 4, 620, 622, 24, 42, 623]), (17, .aload_n 0, 18, 0, []), (18, .iload_n 1, 19, 0, []), (19, .iconst 0, 20, 0, []), (20, .iload_n 2, 21, 0, []), (21, .invokevirtual 127, 24, 78, [3, 4, 624, 626, 25, 42, 627]), (24, .invokestatic 108, 27, 69, [3, 0, 597, 598, 0, 42, 599]), (27, .ifCond .ne 5, 30, 32, []), (30, .iconst 0, 31, 0, []), (31, .ireturn, 32, 0, []), (32, .iconst 0, 33, 0, []), (33, .istore 4, 35, 0, []), (35, .iload 4, 37, 0, []), (37, .aload_n 0, 38, 0, []), (38, .getfield 16, 41, 4, [3, 471, 0]), (41, .iload_n 1, 42, 0, []), (42, .iaload, 43, 0, []), (43, .if_icmp .ge 114, 46, 157, []), (46, .bipush 12, 48, 0, []), (48, .iload_n 1, 49, 0, []), (49, .imul, 50, 0, []), (50, .iload 4, 52, 0, []), (52, .iadd, 53, 0, []), (53, .istore 5, 55, 0, []), (55, .aload_n 0, 56, 0, []), (56, .getfield 19, 59, 4, [4, 472, 0]), (59, .iload 5, 61, 0, []), (61, .iaload, 62, 0, []), (62, .iconst 2, 63, 0, []), (63, .irem, 64, 0, []), (64, .iload_n 2, 65, 0, []), (65, .if_icmp .ne 86, 68, 151, []), (68, .aload_n 0, 69, 0, []), (69, .getfield 19, 72, 4, [4, 472, 0]), (72, .iload 5, 74, 0, []), (74, .iaload, 75, 0, [])]
def pw_o79_1 : List (Nat × pw_O) := [(75, .iconst 2, 76, 0, []), (76, .if_icmp .ge 7, 79, 83, []), (79, .iconst 1, 80, 0, []), (80, .goto 4, 83, 84, []), (83, .iconst (-1), 84, 0, []), (84, .istore 6, 86, 0, []), (86, .aload_n 0, 87, 0, []), (87, .getfield 22, 90, 4, [5, 473, 0]), (90, .iload 5, 92, 0, []), (92, .iaload, 93, 0, []), (93, .istore 7, 95, 0, []), (95, .iload_n 3, 96, 0, []), (96, .iload 6, 98, 0, []), (98, .iload 7, 100, 0, []), (100, .imul, 101, 0, []), (101, .isub, 102, 0, []), (102, .aload_n 0, 103, 0, []), (103, .iload_n 1, 104, 0, []), (104, .iload 4, 106, 0, []), (106, .iconst 1, 107, 0, []), (107, .iadd, 108, 0, []), (108, .iload_n 2, 109, 0, []), (109, .invokevirtual 123, 112, 77, [3, 4, 620, 622, 24, 42, 623]), (112, .aload_n 0, 113, 0, []), (113, .iload_n 1, 114, 0, []), (114, .iload 4, 116, 0, []), (116, .iconst 1, 117, 0, []), (117, .iadd, 118, 0, []), (118, .iload_n 2, 119, 0, []), (119, .invokevirtual 127, 122, 78, [3, 4, 624, 626, 25, 42, 627]), (122, .invokestatic 108, 125, 69, [3, 0, 597, 598, 0, 42, 599]), (125, .ifCond .ne 9, 128, 134, []), (128, .iinc 7 1, 131, 0, []), (131, .goto (-36), 134, 95, []), (134, .aload_n 0, 135, 0, []), (135, .getfield 92, 138, 4, [35, 503, 0]), (138, .iload 4, 140, 0, []), (140, .iload 7, 142, 0, []), (142, .iastore, 143, 0, []), (143, .iload_n 3, 144, 0, []), (144, .iload 6, 146, 0, []), (146, .iload 7, 148, 0, []), (148, .imul, 149, 0, []), (149, .isub, 150, 0, []), (150, .istore_n 3, 151, 0, []), (151, .iinc 4 1, 154, 0, []), (154, .goto (-119), 157, 35, []), (157, .iinc 2 1, 160, 0, [])]
def pw_o79_2 : List (Nat × pw_O) := [(160, .goto (-158), 163, 2, []), (163, .iconst 1, 164, 0, []), (164, .ireturn, 165, 0, [])]
def pw_o79 : List (Nat × pw_O) := pw_o79_0 ++ (pw_o79_1 ++ (pw_o79_2))
-- 80 BoundWalksModel.length(II)I
def pw_o80 : List (Nat × pw_O) := [(0, .aload_n 0, 1, 0, []), (1, .iload_n 1, 2, 0, []), (2, .invokevirtual 119, 5, 73, [1, 4, 604, 606, 22, 42, 607]), (5, .ifCond .eq 19, 8, 24, []), (8, .iload_n 2, 9, 0, []), (9, .iconst 0, 10, 0, []), (10, .aload_n 0, 11, 0, []), (11, .getfield 16, 14, 4, [3, 471, 0]), (14, .iload_n 1, 15, 0, []), (15, .iaload, 16, 0, []), (16, .iconst 1, 17, 0, []), (17, .isub, 18, 0, []), (18, .invokestatic 108, 21, 69, [3, 0, 597, 598, 0, 42, 599]), (21, .ifCond .ne 6, 24, 27, []), (24, .bipush (-2), 26, 0, []), (26, .ireturn, 27, 0, []), (27, .aload_n 0, 28, 0, []), (28, .iload_n 1, 29, 0, []), (29, .invokevirtual 130, 32, 79, [1, 4, 616, 618, 23, 42, 619]), (32, .ifCond .eq 12, 35, 44, []), (35, .aload_n 0, 36, 0, []), (36, .getfield 92, 39, 4, [35, 503, 0]), (39, .iload_n 2, 40, 0, []), (40, .iaload, 41, 0, []), (41, .goto 4, 44, 45, []), (44, .iconst (-1), 45, 0, []), (45, .ireturn, 46, 0, [])]
-- 81 BoundWalksModel.layRing(I)Z
def pw_o81_0 : List (Nat × pw_O) := [(0, .iconst 0, 1, 0, []), (1, .istore_n 2, 2, 0, []), (2, .iload_n 2, 3, 0, []), (3, .sipush 156, 6, 0, []), (6, .if_icmp .ge 16, 9, 22, []), (9, .aload_n 0, 10, 0, []), (10, .getfield 95, 13, 4, [36, 504, 0]), (13, .iload_n 2, 14, 0, []), (14, .iconst 0, 15, 0, []), (15, .bastore, 16, 0, []), (16, .iinc 2 1, 19, 0, []), (19, .goto (-17), 22, 2, []), (22, .aload_n 0, 23, 0, []), (23, .iload_n 1, 24, 0, []), (24, .invokevirtual 130, 27, 79, [1, 4, 616, 618, 23, 42, 619]), (27, .ifCond .ne 5, 30, 32, []), (30, .iconst 0, 31, 0, []), (31, .ireturn, 32, 0, []), (32, .aload_n 0, 33, 0, []), (33, .getfield 7, 36, 4, [1, 469, 0]), (36, .iload_n 1, 37, 0, []), (37, .iaload, 38, 0, []), (38, .istore_n 2, 39, 0, []), (39, .aload_n 0, 40, 0, []), (40, .getfield 13, 43, 4, [2, 470, 0]), (43, .iload_n 1, 44, 0, []), (44, .iaload, 45, 0, []), (45, .istore_n 3, 46, 0, []), (46, .iconst 0, 47, 0, []), (47, .istore 4, 49, 0, []), (49, .iload 4, 51, 0, []), (51, .aload_n 0, 52, 0, []), (52, .getfield 16, 55, 4, [3, 471, 0]), (55, .iload_n 1, 56, 0, []), (56, .iaload, 57, 0, []), (57, .if_icmp .ge 158, 60, 215, []), (60, .aload_n 0, 61, 0, []), (61, .getfield 19, 64, 4, [4, 472, 0]), (64, .bipush 12, 66, 0, []), (66, .iload_n 1, 67, 0, []), (67, .imul, 68, 0, []), (68, .iload 4, 70, 0, []), (70, .iadd, 71, 0, []), (71, .iaload, 72, 0, []), (72, .istore 5, 74, 0, []), (74, .iconst 0, 75, 0, []), (75, .istore 6, 77, 0, []), (77, .iload 6, 79, 0, [])]
def pw_o81_1 : List (Nat × pw_O) := [(79, .aload_n 0, 80, 0, []), (80, .getfield 92, 83, 4, [35, 503, 0]), (83, .iload 4, 85, 0, []), (85, .iaload, 86, 0, []), (86, .if_icmp .ge 123, 89, 209, []), (89, .iload_n 2, 90, 0, []), (90, .iload 5, 92, 0, []), (92, .ifCond .ne 7, 95, 99, []), (95, .iconst 1, 96, 0, []), (96, .goto 14, 99, 110, []), (99, .iload 5, 101, 0, []), (101, .iconst 2, 102, 0, []), (102, .if_icmp .ne 7, 105, 109, []), (105, .iconst (-1), 106, 0, []), (106, .goto 4, 109, 110, []), (109, .iconst 0, 110, 0, []), (110, .iadd, 111, 0, []), (111, .istore 7, 113, 0, []), (113, .iload_n 3, 114, 0, []), (114, .iload 5, 116, 0, []), (116, .iconst 1, 117, 0, []), (117, .if_icmp .ne 7, 120, 124, []), (120, .iconst 1, 121, 0, []), (121, .goto 14, 124, 135, []), (124, .iload 5, 126, 0, []), (126, .iconst 3, 127, 0, []), (127, .if_icmp .ne 7, 130, 134, []), (130, .iconst (-1), 131, 0, []), (131, .goto 4, 134, 135, []), (134, .iconst 0, 135, 0, []), (135, .iadd, 136, 0, []), (136, .istore 8, 138, 0, []), (138, .iload 7, 140, 0, []), (140, .iload 8, 142, 0, []), (142, .invokestatic 115, 145, 70, [2, 0, 594, 595, 0, 42, 596]), (145, .ifCond .ne 5, 148, 150, []), (148, .iconst 0, 149, 0, []), (149, .ireturn, 150, 0, []), (150, .iload 8, 152, 0, []), (152, .iload_n 3, 153, 0, []), (153, .if_icmp .eq 44, 156, 197, []), (156, .bipush 12, 158, 0, []), (158, .iload_n 2, 159, 0, []), (159, .imul, 160, 0, []), (160, .iload 8, 162, 0, []), (162, .iload_n 3, 163, 0, []), (163, .if_icmp .le 7, 166, 170, []), (166, .iload_n 3, 167, 0, [])]
def pw_o81_2 : List (Nat × pw_O) := [(167, .goto 5, 170, 172, []), (170, .iload 8, 172, 0, []), (172, .iadd, 173, 0, []), (173, .istore 9, 175, 0, []), (175, .aload_n 0, 176, 0, []), (176, .getfield 95, 179, 4, [36, 504, 0]), (179, .iload 9, 181, 0, []), (181, .aload_n 0, 182, 0, []), (182, .getfield 95, 185, 4, [36, 504, 0]), (185, .iload 9, 187, 0, []), (187, .baload, 188, 0, []), (188, .ifCond .ne 7, 191, 195, []), (191, .iconst 1, 192, 0, []), (192, .goto 4, 195, 196, []), (195, .iconst 0, 196, 0, []), (196, .bastore, 197, 0, []), (197, .iload 7, 199, 0, []), (199, .istore_n 2, 200, 0, []), (200, .iload 8, 202, 0, []), (202, .istore_n 3, 203, 0, []), (203, .iinc 6 1, 206, 0, []), (206, .goto (-129), 209, 77, []), (209, .iinc 4 1, 212, 0, []), (212, .goto (-163), 215, 49, []), (215, .iconst 1, 216, 0, []), (216, .ireturn, 217, 0, [])]
def pw_o81 : List (Nat × pw_O) := pw_o81_0 ++ (pw_o81_1 ++ (pw_o81_2))
-- 82 BoundWalksModel.layInside(I)I
def pw_o82_0 : List (Nat × pw_O) := [(0, .aload_n 0, 1, 0, []), (1, .iload_n 1, 2, 0, []), (2, .invokevirtual 133, 5, 81, [1, 4, 636, 638, 27, 42, 639]), (5, .ifCond .ne 5, 8, 10, []), (8, .iconst (-1), 9, 0, []), (9, .ireturn, 10, 0, []), (10, .iconst 0, 11, 0, []), (11, .istore_n 2, 12, 0, []), (12, .iconst 0, 13, 0, []), (13, .istore_n 3, 14, 0, []), (14, .iload_n 3, 15, 0, []), (15, .bipush 12, 17, 0, []), (17, .if_icmp .ge 92, 20, 109, []), (20, .iconst 0, 21, 0, []), (21, .istore 4, 23, 0, []), (23, .iconst 0, 24, 0, []), (24, .istore 5, 26, 0, []), (26, .iload 5, 28, 0, []), (28, .bipush 12, 30, 0, []), (30, .if_icmp .ge 73, 33, 103, []), (33, .iload 4, 35, 0, []), (35, .aload_n 0, 36, 0, []), (36, .getfield 95, 39, 4, [36, 504, 0]), (39, .bipush 12, 41, 0, []), (41, .iload 5, 43, 0, []), (43, .imul, 44, 0, []), (44, .iload_n 3, 45, 0, []), (45, .iadd, 46, 0, []), (46, .baload, 47, 0, []), (47, .if_icmp .eq 7, 50, 54, []), (50, .iconst 1, 51, 0, []), (51, .goto 4, 54, 55, []), (54, .iconst 0, 55, 0, []), (55, .istore 4, 57, 0, []), (57, .aload_n 0, 58, 0, []), (58, .getfield 99, 61, 4, [37, 505, 0]), (61, .bipush 12, 63, 0, []), (63, .iload_n 3, 64, 0, []), (64, .imul, 65, 0, []), (65, .iload 5, 67, 0, []), (67, .iadd, 68, 0, []), (68, .dup2, 69, 0, []), (69, .iaload, 70, 0, []), (70, .iload 4, 72, 0, []), (72, .ifCond .eq 9, 75, 81, []), (75, .iconst 1, 76, 0, []), (76, .iload_n 1, 77, 0, []), (77, .ishl, 78, 0, [])]
def pw_o82_1 : List (Nat × pw_O) := [(78, .goto 4, 81, 82, []), (81, .iconst 0, 82, 0, []), (82, .ior, 83, 0, []), (83, .iastore, 84, 0, []), (84, .iload_n 2, 85, 0, []), (85, .iload 4, 87, 0, []), (87, .ifCond .eq 7, 90, 94, []), (90, .iconst 1, 91, 0, []), (91, .goto 4, 94, 95, []), (94, .iconst 0, 95, 0, []), (95, .iadd, 96, 0, []), (96, .istore_n 2, 97, 0, []), (97, .iinc 5 1, 100, 0, []), (100, .goto (-74), 103, 26, []), (103, .iinc 3 1, 106, 0, []), (106, .goto (-92), 109, 14, []), (109, .iload_n 2, 110, 0, []), (110, .ireturn, 111, 0, [])]
def pw_o82 : List (Nat × pw_O) := pw_o82_0 ++ (pw_o82_1)
-- 83 BoundWalksModel.area(I)I
def pw_o83 : List (Nat × pw_O) := [(0, .aload_n 0, 1, 0, []), (1, .iload_n 1, 2, 0, []), (2, .invokevirtual 119, 5, 73, [1, 4, 604, 606, 22, 42, 607]), (5, .ifCond .eq 11, 8, 16, []), (8, .aload_n 0, 9, 0, []), (9, .iload_n 1, 10, 0, []), (10, .invokevirtual 136, 13, 82, [1, 4, 632, 634, 26, 42, 635]), (13, .goto 5, 16, 18, []), (16, .bipush (-2), 18, 0, []), (18, .ireturn, 19, 0, [])]
-- 84 BoundWalksModel.layClaims()V
def pw_o84 : List (Nat × pw_O) := [(0, .iconst 0, 1, 0, []), (1, .istore_n 1, 2, 0, []), (2, .iload_n 1, 3, 0, []), (3, .sipush 144, 6, 0, []), (6, .if_icmp .ge 16, 9, 22, []), (9, .aload_n 0, 10, 0, []), (10, .getfield 99, 13, 4, [37, 505, 0]), (13, .iload_n 1, 14, 0, []), (14, .iconst 0, 15, 0, []), (15, .iastore, 16, 0, []), (16, .iinc 1 1, 19, 0, []), (19, .goto (-17), 22, 2, []), (22, .iconst 0, 23, 0, []), (23, .istore_n 1, 24, 0, []), (24, .iload_n 1, 25, 0, []), (25, .aload_n 0, 26, 0, []), (26, .getfield 112, 29, 4, [0, 468, 0]), (29, .if_icmp .ge 15, 32, 44, []), (32, .aload_n 0, 33, 0, []), (33, .iload_n 1, 34, 0, []), (34, .invokevirtual 136, 37, 82, [1, 4, 632, 634, 26, 42, 635]), (37, .pop, 38, 0, []), (38, .iinc 1 1, 41, 0, []), (41, .goto (-17), 44, 24, []), (44, .return_, 45, 0, [])]
-- 85 BoundWalksModel.claims(II)I
def pw_o85 : List (Nat × pw_O) := [(0, .iload_n 1, 1, 0, []), (1, .iload_n 2, 2, 0, []), (2, .invokestatic 140, 5, 71, [2, 0, 644, 645, 0, 42, 646]), (5, .ifCond .ne 6, 8, 11, []), (8, .bipush (-2), 10, 0, []), (10, .ireturn, 11, 0, []), (11, .aload_n 0, 12, 0, []), (12, .invokevirtual 143, 15, 84, [0, 4, 647, 649, 28, 42, 650]), (15, .aload_n 0, 16, 0, []), (16, .getfield 99, 19, 4, [37, 505, 0]), (19, .bipush 12, 21, 0, []), (21, .iload_n 2, 22, 0, []), (22, .imul, 23, 0, []), (23, .iload_n 1, 24, 0, []), (24, .iadd, 25, 0, []), (25, .iaload, 26, 0, []), (26, .ireturn, 27, 0, [])]
-- 86 BoundWalksModel.agree(IIIIII)I
def pw_o86_0 : List (Nat × pw_O) := [(0, .aload_n 0, 1, 0, []), (1, .iload_n 1, 2, 0, []), (2, .invokevirtual 119, 5, 73, [1, 4, 604, 606, 22, 42, 607]), (5, .ifCond .eq 45, 8, 50, []), (8, .aload_n 0, 9, 0, []), (9, .iload_n 2, 10, 0, []), (10, .invokevirtual 119, 13, 73, [1, 4, 604, 606, 22, 42, 607]), (13, .ifCond .eq 37, 16, 50, []), (16, .iload_n 1, 17, 0, []), (17, .iload_n 2, 18, 0, []), (18, .if_icmp .eq 32, 21, 50, []), (21, .iload_n 3, 22, 0, []), (22, .invokestatic 146, 25, 72, [1, 0, 655, 656, 0, 42, 657]), (25, .ifCond .eq 25, 28, 50, []), (28, .iload 4, 30, 0, []), (30, .iload 5, 32, 0, []), (32, .invokestatic 140, 35, 71, [2, 0, 644, 645, 0, 42, 646]), (35, .ifCond .eq 15, 38, 50, []), (38, .iload 6, 40, 0, []), (40, .iload_n 1, 41, 0, []), (41, .if_icmp .eq 12, 44, 53, []), (44, .iload 6, 46, 0, []), (46, .iload_n 2, 47, 0, []), (47, .if_icmp .eq 6, 50, 53, []), (50, .bipush (-2), 52, 0, []), (52, .ireturn, 53, 0, []), (53, .aload_n 0, 54, 0, []), (54, .getfield 149, 57, 4, [7, 475, 0]), (57, .bipush 12, 59, 0, []), (59, .if_icmp .ne 6, 62, 65, []), (62, .bipush (-4), 64, 0, []), (64, .ireturn, 65, 0, []), (65, .aload_n 0, 66, 0, []), (66, .getfield 28, 69, 4, [8, 476, 0]), (69, .aload_n 0, 70, 0, []), (70, .getfield 149, 73, 4, [7, 475, 0]), (73, .iload_n 3, 74, 0, []), (74, .iastore, 75, 0, []), (75, .aload_n 0, 76, 0, []), (76, .getfield 31, 79, 4, [9, 477, 0]), (79, .aload_n 0, 80, 0, []), (80, .getfield 149, 83, 4, [7, 475, 0]), (83, .bipush 12, 85, 0, []), (85, .iload 5, 87, 0, []), (87, .imul, 88, 0, []), (88, .iload 4, 90, 0, []), (90, .iadd, 91, 0, []), (91, .iastore, 92, 0, [])]
def pw_o86_1 : List (Nat × pw_O) := [(92, .aload_n 0, 93, 0, []), (93, .getfield 34, 96, 4, [10, 478, 0]), (96, .aload_n 0, 97, 0, []), (97, .getfield 149, 100, 4, [7, 475, 0]), (100, .iload 6, 102, 0, []), (102, .iastore, 103, 0, []), (103, .aload_n 0, 104, 0, []), (104, .dup, 105, 0, []), (105, .getfield 149, 108, 4, [7, 475, 0]), (108, .iconst 1, 109, 0, []), (109, .iadd, 110, 0, []), (110, .putfield 149, 113, 4, [7, 0, 475, 0]), (113, .aload_n 0, 114, 0, []), (114, .getfield 149, 117, 4, [7, 475, 0]), (117, .iconst 1, 118, 0, []), (118, .isub, 119, 0, []), (119, .ireturn, 120, 0, [])]
def pw_o86 : List (Nat × pw_O) := pw_o86_0 ++ (pw_o86_1)
-- 87 BoundWalksModel.ownerOf(II)I
def pw_o87_0 : List (Nat × pw_O) := [(0, .iconst (-1), 1, 0, []), (1, .istore_n 3, 2, 0, []), (2, .iconst 0, 3, 0, []), (3, .istore 4, 5, 0, []), (5, .iload 4, 7, 0, []), (7, .aload_n 0, 8, 0, []), (8, .getfield 149, 11, 4, [7, 475, 0]), (11, .if_icmp .ge 59, 14, 70, []), (14, .aload_n 0, 15, 0, []), (15, .getfield 31, 18, 4, [9, 477, 0]), (18, .iload 4, 20, 0, []), (20, .iaload, 21, 0, []), (21, .iload_n 1, 22, 0, []), (22, .if_icmp .ne 42, 25, 64, []), (25, .aload_n 0, 26, 0, []), (26, .getfield 28, 29, 4, [8, 476, 0]), (29, .iload 4, 31, 0, []), (31, .iaload, 32, 0, []), (32, .iload_n 2, 33, 0, []), (33, .if_icmp .gt 31, 36, 64, []), (36, .iload_n 3, 37, 0, []), (37, .iconst (-1), 38, 0, []), (38, .if_icmp .eq 19, 41, 57, []), (41, .aload_n 0, 42, 0, []), (42, .getfield 28, 45, 4, [8, 476, 0]), (45, .iload 4, 47, 0, []), (47, .iaload, 48, 0, []), (48, .aload_n 0, 49, 0, []), (49, .getfield 28, 52, 4, [8, 476, 0]), (52, .iload_n 3, 53, 0, []), (53, .iaload, 54, 0, []), (54, .if_icmp .lt 8, 57, 62, []), (57, .iload 4, 59, 0, []), (59, .goto 4, 62, 63, []), (62, .iload_n 3, 63, 0, []), (63, .istore_n 3, 64, 0, []), (64, .iinc 4 1, 67, 0, []), (67, .goto (-62), 70, 5, []), (70, .iload_n 3, 71, 0, []), (71, .iconst (-1), 72, 0, []), (72, .if_icmp .eq 10, 75, 82, []), (75, .aload_n 0, 76, 0, []), (76, .getfield 34, 79, 4, [10, 478, 0]), (79, .iload_n 3, 80, 0, []), (80, .iaload, 81, 0, []), (81, .ireturn, 82, 0, []), (82, .iconst 0, 83, 0, []), (83, .istore 4, 85, 0, [])]
def pw_o87_1 : List (Nat × pw_O) := [(85, .iload 4, 87, 0, []), (87, .aload_n 0, 88, 0, []), (88, .getfield 112, 91, 4, [0, 468, 0]), (91, .if_icmp .ge 25, 94, 116, []), (94, .aload_n 0, 95, 0, []), (95, .getfield 99, 98, 4, [37, 505, 0]), (98, .iload_n 1, 99, 0, []), (99, .iaload, 100, 0, []), (100, .iconst 1, 101, 0, []), (101, .iload 4, 103, 0, []), (103, .ishl, 104, 0, []), (104, .if_icmp .ne 6, 107, 110, []), (107, .iload 4, 109, 0, []), (109, .ireturn, 110, 0, []), (110, .iinc 4 1, 113, 0, []), (113, .goto (-28), 116, 85, []), (116, .iconst (-1), 117, 0, []), (117, .ireturn, 118, 0, [])]
def pw_o87 : List (Nat × pw_O) := pw_o87_0 ++ (pw_o87_1)
-- 88 BoundWalksModel.owner(III)I
def pw_o88 : List (Nat × pw_O) := [(0, .iload_n 1, 1, 0, []), (1, .iload_n 2, 2, 0, []), (2, .invokestatic 140, 5, 71, [2, 0, 644, 645, 0, 42, 646]), (5, .ifCond .eq 10, 8, 15, []), (8, .iload_n 3, 9, 0, []), (9, .invokestatic 146, 12, 72, [1, 0, 655, 656, 0, 42, 657]), (12, .ifCond .ne 6, 15, 18, []), (15, .bipush (-2), 17, 0, []), (17, .ireturn, 18, 0, []), (18, .aload_n 0, 19, 0, []), (19, .invokevirtual 143, 22, 84, [0, 4, 647, 649, 28, 42, 650]), (22, .aload_n 0, 23, 0, []), (23, .bipush 12, 25, 0, []), (25, .iload_n 2, 26, 0, []), (26, .imul, 27, 0, []), (27, .iload_n 1, 28, 0, []), (28, .iadd, 29, 0, []), (29, .iload_n 3, 30, 0, []), (30, .invokevirtual 152, 33, 87, [2, 4, 662, 664, 29, 42, 665]), (33, .ireturn, 34, 0, [])]
-- 89 BoundWalksModel.ones(I)I
def pw_o89 : List (Nat × pw_O) := [(0, .iconst 0, 1, 0, []), (1, .istore_n 1, 2, 0, []), (2, .iconst 0, 3, 0, []), (3, .istore_n 2, 4, 0, []), (4, .iload_n 2, 5, 0, []), (5, .bipush 12, 7, 0, []), (7, .if_icmp .ge 17, 10, 24, []), (10, .iload_n 1, 11, 0, []), (11, .iload_n 0, 12, 0, []), (12, .iload_n 2, 13, 0, []), (13, .ishr, 14, 0, []), (14, .iconst 1, 15, 0, []), (15, .iand, 16, 0, []), (16, .iadd, 17, 0, []), (17, .istore_n 1, 18, 0, []), (18, .iinc 2 1, 21, 0, []), (21, .goto (-17), 24, 4, []), (24, .iload_n 1, 25, 0, []), (25, .ireturn, 26, 0, [])]
-- 90 BoundWalksModel.quarrel(I)I
def pw_o90 : List (Nat × pw_O) := [(0, .iload_n 1, 1, 0, []), (1, .invokestatic 146, 4, 72, [1, 0, 655, 656, 0, 42, 657]), (4, .ifCond .ne 6, 7, 10, []), (7, .bipush (-2), 9, 0, []), (9, .ireturn, 10, 0, []), (10, .aload_n 0, 11, 0, []), (11, .invokevirtual 143, 14, 84, [0, 4, 647, 649, 28, 42, 650]), (14, .iconst 0, 15, 0, []), (15, .istore_n 2, 16, 0, []), (16, .iconst 0, 17, 0, []), (17, .istore_n 3, 18, 0, []), (18, .iload_n 3, 19, 0, []), (19, .sipush 144, 22, 0, []), (22, .if_icmp .ge 40, 25, 62, []), (25, .iload_n 2, 26, 0, []), (26, .aload_n 0, 27, 0, []), (27, .getfield 99, 30, 4, [37, 505, 0]), (30, .iload_n 3, 31, 0, []), (31, .iaload, 32, 0, []), (32, .invokestatic 156, 35, 89, [1, 0, 670, 671, 0, 42, 672]), (35, .iconst 1, 36, 0, []), (36, .if_icmp .le 17, 39, 53, []), (39, .aload_n 0, 40, 0, []), (40, .iload_n 3, 41, 0, []), (41, .iload_n 1, 42, 0, []), (42, .invokevirtual 152, 45, 87, [2, 4, 662, 664, 29, 42, 665]), (45, .iconst (-1), 46, 0, []), (46, .if_icmp .ne 7, 49, 53, []), (49, .iconst 1, 50, 0, []), (50, .goto 4, 53, 54, []), (53, .iconst 0, 54, 0, []), (54, .iadd, 55, 0, []), (55, .istore_n 2, 56, 0, []), (56, .iinc 3 1, 59, 0, []), (59, .goto (-41), 62, 18, []), (62, .iload_n 2, 63, 0, []), (63, .ireturn, 64, 0, [])]
-- 91 BoundWalksModel.years(I)I
def pw_o91 : List (Nat × pw_O) := [(0, .iload_n 1, 1, 0, []), (1, .iconst 1, 2, 0, []), (2, .bipush 50, 4, 0, []), (4, .invokestatic 108, 7, 69, [3, 0, 597, 598, 0, 42, 599]), (7, .ifCond .eq 15, 10, 22, []), (10, .aload_n 0, 11, 0, []), (11, .getfield 159, 14, 4, [11, 479, 0]), (14, .iload_n 1, 15, 0, []), (15, .iadd, 16, 0, []), (16, .sipush 300, 19, 0, []), (19, .if_icmp .le 6, 22, 25, []), (22, .bipush (-2), 24, 0, []), (24, .ireturn, 25, 0, []), (25, .aload_n 0, 26, 0, []), (26, .dup, 27, 0, []), (27, .getfield 159, 30, 4, [11, 479, 0]), (30, .iload_n 1, 31, 0, []), (31, .iadd, 32, 0, []), (32, .putfield 159, 35, 4, [11, 0, 479, 0]), (35, .aload_n 0, 36, 0, []), (36, .getfield 159, 39, 4, [11, 479, 0]), (39, .ireturn, 40, 0, [])]
-- 92 BoundWalksModel.isStone(I)Z
def pw_o92 : List (Nat × pw_O) := [(0, .iload_n 1, 1, 0, []), (1, .iconst 0, 2, 0, []), (2, .aload_n 0, 3, 0, []), (3, .getfield 162, 6, 4, [12, 480, 0]), (6, .iconst 1, 7, 0, []), (7, .isub, 8, 0, []), (8, .invokestatic 108, 11, 69, [3, 0, 597, 598, 0, 42, 599]), (11, .ireturn, 12, 0, [])]
-- 93 BoundWalksModel.stone(II)I
def pw_o93 : List (Nat × pw_O) := [(0, .iload_n 1, 1, 0, []), (1, .iload_n 2, 2, 0, []), (2, .invokestatic 115, 5, 70, [2, 0, 594, 595, 0, 42, 596]), (5, .ifCond .ne 6, 8, 11, []), (8, .bipush (-2), 10, 0, []), (10, .ireturn, 11, 0, []), (11, .aload_n 0, 12, 0, []), (12, .getfield 162, 15, 4, [12, 480, 0]), (15, .bipush 12, 17, 0, []), (17, .if_icmp .ne 6, 20, 23, []), (20, .bipush (-4), 22, 0, []), (22, .ireturn, 23, 0, []), (23, .aload_n 0, 24, 0, []), (24, .getfield 37, 27, 4, [13, 481, 0]), (27, .aload_n 0, 28, 0, []), (28, .getfield 162, 31, 4, [12, 480, 0]), (31, .aload_n 0, 32, 0, []), (32, .getfield 159, 35, 4, [11, 479, 0]), (35, .iastore, 36, 0, []), (36, .aload_n 0, 37, 0, []), (37, .getfield 40, 40, 4, [14, 482, 0]), (40, .aload_n 0, 41, 0, []), (41, .getfield 162, 44, 4, [12, 480, 0]), (44, .bipush 100, 46, 0, []), (46, .iload_n 1, 47, 0, []), (47, .imul, 48, 0, []), (48, .iload_n 2, 49, 0, []), (49, .iadd, 50, 0, []), (50, .iastore, 51, 0, []), (51, .aload_n 0, 52, 0, []), (52, .getfield 43, 55, 4, [15, 483, 0]), (55, .aload_n 0, 56, 0, []), (56, .getfield 162, 59, 4, [12, 480, 0]), (59, .aload_n 0, 60, 0, []), (60, .getfield 159, 63, 4, [11, 479, 0]), (63, .iastore, 64, 0, []), (64, .aload_n 0, 65, 0, []), (65, .dup, 66, 0, []), (66, .getfield 162, 69, 4, [12, 480, 0]), (69, .iconst 1, 70, 0, []), (70, .iadd, 71, 0, []), (71, .putfield 162, 74, 4, [12, 0, 480, 0]), (74, .aload_n 0, 75, 0, []), (75, .getfield 162, 78, 4, [12, 480, 0]), (78, .iconst 1, 79, 0, []), (79, .isub, 80, 0, []), (80, .ireturn, 81, 0, [])]
-- 94 BoundWalksModel.tell(III)I
def pw_o94 : List (Nat × pw_O) := [(0, .aload_n 0, 1, 0, []), (1, .getfield 165, 4, 4, [16, 484, 0]), (4, .bipush 60, 6, 0, []), (6, .if_icmp .ne 6, 9, 12, []), (9, .bipush (-4), 11, 0, []), (11, .ireturn, 12, 0, []), (12, .aload_n 0, 13, 0, []), (13, .getfield 46, 16, 4, [17, 485, 0]), (16, .aload_n 0, 17, 0, []), (17, .getfield 165, 20, 4, [16, 484, 0]), (20, .iload_n 1, 21, 0, []), (21, .iastore, 22, 0, []), (22, .aload_n 0, 23, 0, []), (23, .getfield 49, 26, 4, [18, 486, 0]), (26, .aload_n 0, 27, 0, []), (27, .getfield 165, 30, 4, [16, 484, 0]), (30, .iload_n 2, 31, 0, []), (31, .iastore, 32, 0, []), (32, .aload_n 0, 33, 0, []), (33, .getfield 52, 36, 4, [19, 487, 0]), (36, .aload_n 0, 37, 0, []), (37, .getfield 165, 40, 4, [16, 484, 0]), (40, .aload_n 0, 41, 0, []), (41, .getfield 159, 44, 4, [11, 479, 0]), (44, .iastore, 45, 0, []), (45, .aload_n 0, 46, 0, []), (46, .getfield 55, 49, 4, [20, 488, 0]), (49, .aload_n 0, 50, 0, []), (50, .getfield 165, 53, 4, [16, 484, 0]), (53, .iload_n 3, 54, 0, []), (54, .iastore, 55, 0, []), (55, .aload_n 0, 56, 0, []), (56, .dup, 57, 0, []), (57, .getfield 165, 60, 4, [16, 484, 0]), (60, .iconst 1, 61, 0, []), (61, .iadd, 62, 0, []), (62, .putfield 165, 65, 4, [16, 0, 484, 0]), (65, .iconst 1, 66, 0, []), (66, .ireturn, 67, 0, [])]
-- 95 BoundWalksModel.mayTell(II)Z
def pw_o95 : List (Nat × pw_O) := [(0, .aload_n 0, 1, 0, []), (1, .iload_n 1, 2, 0, []), (2, .invokevirtual 168, 5, 92, [1, 4, 689, 691, 31, 42, 692]), (5, .ifCond .eq 24, 8, 29, []), (8, .iload_n 2, 9, 0, []), (9, .aload_n 0, 10, 0, []), (10, .getfield 37, 13, 4, [13, 481, 0]), (13, .iload_n 1, 14, 0, []), (14, .iaload, 15, 0, []), (15, .aload_n 0, 16, 0, []), (16, .getfield 159, 19, 4, [11, 479, 0]), (19, .invokestatic 108, 22, 69, [3, 0, 597, 598, 0, 42, 599]), (22, .ifCond .eq 7, 25, 29, []), (25, .iconst 1, 26, 0, []), (26, .goto 4, 29, 30, []), (29, .iconst 0, 30, 0, []), (30, .ireturn, 31, 0, [])]
-- 96 BoundWalksModel.moved(IIII)I
def pw_o96 : List (Nat × pw_O) := [(0, .aload_n 0, 1, 0, []), (1, .iload_n 1, 2, 0, []), (2, .iload_n 2, 3, 0, []), (3, .invokevirtual 171, 6, 95, [2, 4, 685, 687, 30, 42, 688]), (6, .ifCond .eq 12, 9, 18, []), (9, .iload_n 3, 10, 0, []), (10, .iload 4, 12, 0, []), (12, .invokestatic 115, 15, 70, [2, 0, 594, 595, 0, 42, 596]), (15, .ifCond .ne 8, 18, 23, []), (18, .bipush (-2), 20, 0, []), (20, .goto 16, 23, 36, []), (23, .aload_n 0, 24, 0, []), (24, .iload_n 1, 25, 0, []), (25, .iload_n 2, 26, 0, []), (26, .bipush 100, 28, 0, []), (28, .iload_n 3, 29, 0, []), (29, .imul, 30, 0, []), (30, .iload 4, 32, 0, []), (32, .iadd, 33, 0, []), (33, .invokevirtual 174, 36, 94, [3, 4, 693, 695, 32, 42, 696]), (36, .ireturn, 37, 0, [])]
-- 97 BoundWalksModel.lost(II)I
def pw_o97 : List (Nat × pw_O) := [(0, .aload_n 0, 1, 0, []), (1, .iload_n 1, 2, 0, []), (2, .iload_n 2, 3, 0, []), (3, .invokevirtual 171, 6, 95, [2, 4, 685, 687, 30, 42, 688]), (6, .ifCond .eq 13, 9, 19, []), (9, .aload_n 0, 10, 0, []), (10, .iload_n 1, 11, 0, []), (11, .iload_n 2, 12, 0, []), (12, .iconst (-1), 13, 0, []), (13, .invokevirtual 174, 16, 94, [3, 4, 693, 695, 32, 42, 696]), (16, .goto 5, 19, 21, []), (19, .bipush (-2), 21, 0, []), (21, .ireturn, 22, 0, [])]
-- 98 BoundWalksModel.whereOf(III)I
def pw_o98_0 : List (Nat × pw_O) := [(0, .aload_n 0, 1, 0, []), (1, .getfield 37, 4, 4, [13, 481, 0]), (4, .iload_n 1, 5, 0, []), (5, .iaload, 6, 0, []), (6, .iload_n 2, 7, 0, []), (7, .if_icmp .gt 13, 10, 20, []), (10, .aload_n 0, 11, 0, []), (11, .getfield 37, 14, 4, [13, 481, 0]), (14, .iload_n 1, 15, 0, []), (15, .iaload, 16, 0, []), (16, .iload_n 3, 17, 0, []), (17, .if_icmp .le 5, 20, 22, []), (20, .iconst (-1), 21, 0, []), (21, .ireturn, 22, 0, []), (22, .iconst (-1), 23, 0, []), (23, .istore 4, 25, 0, []), (25, .iconst 0, 26, 0, []), (26, .istore 5, 28, 0, []), (28, .iload 5, 30, 0, []), (30, .aload_n 0, 31, 0, []), (31, .getfield 165, 34, 4, [16, 484, 0]), (34, .if_icmp .ge 74, 37, 108, []), (37, .aload_n 0, 38, 0, []), (38, .getfield 46, 41, 4, [17, 485, 0]), (41, .iload 5, 43, 0, []), (43, .iaload, 44, 0, []), (44, .iload_n 1, 45, 0, []), (45, .if_icmp .ne 57, 48, 102, []), (48, .aload_n 0, 49, 0, []), (49, .getfield 49, 52, 4, [18, 486, 0]), (52, .iload 5, 54, 0, []), (54, .iaload, 55, 0, []), (55, .iload_n 2, 56, 0, []), (56, .if_icmp .gt 46, 59, 102, []), (59, .aload_n 0, 60, 0, []), (60, .getfield 52, 63, 4, [19, 487, 0]), (63, .iload 5, 65, 0, []), (65, .iaload, 66, 0, []), (66, .iload_n 3, 67, 0, []), (67, .if_icmp .gt 35, 70, 102, []), (70, .iload 4, 72, 0, []), (72, .iconst (-1), 73, 0, []), (73, .if_icmp .eq 20, 76, 93, []), (76, .aload_n 0, 77, 0, []), (77, .getfield 49, 80, 4, [18, 486, 0]), (80, .iload 5, 82, 0, []), (82, .iaload, 83, 0, []), (83, .aload_n 0, 84, 0, [])]
def pw_o98_1 : List (Nat × pw_O) := [(84, .getfield 49, 87, 4, [18, 486, 0]), (87, .iload 4, 89, 0, []), (89, .iaload, 90, 0, []), (90, .if_icmp .lt 8, 93, 98, []), (93, .iload 5, 95, 0, []), (95, .goto 5, 98, 100, []), (98, .iload 4, 100, 0, []), (100, .istore 4, 102, 0, []), (102, .iinc 5 1, 105, 0, []), (105, .goto (-77), 108, 28, []), (108, .iload 4, 110, 0, []), (110, .iconst (-1), 111, 0, []), (111, .if_icmp .ne 12, 114, 123, []), (114, .aload_n 0, 115, 0, []), (115, .getfield 40, 118, 4, [14, 482, 0]), (118, .iload_n 1, 119, 0, []), (119, .iaload, 120, 0, []), (120, .goto 10, 123, 130, []), (123, .aload_n 0, 124, 0, []), (124, .getfield 55, 127, 4, [20, 488, 0]), (127, .iload 4, 129, 0, []), (129, .iaload, 130, 0, []), (130, .ireturn, 131, 0, [])]
def pw_o98 : List (Nat × pw_O) := pw_o98_0 ++ (pw_o98_1)
-- 99 BoundWalksModel.where(III)I
def pw_o99 : List (Nat × pw_O) := [(0, .aload_n 0, 1, 0, []), (1, .iload_n 1, 2, 0, []), (2, .invokevirtual 168, 5, 92, [1, 4, 689, 691, 31, 42, 692]), (5, .ifCond .eq 27, 8, 32, []), (8, .iload_n 2, 9, 0, []), (9, .invokestatic 146, 12, 72, [1, 0, 655, 656, 0, 42, 657]), (12, .ifCond .eq 20, 15, 32, []), (15, .iload_n 3, 16, 0, []), (16, .invokestatic 146, 19, 72, [1, 0, 655, 656, 0, 42, 657]), (19, .ifCond .eq 13, 22, 32, []), (22, .aload_n 0, 23, 0, []), (23, .iload_n 1, 24, 0, []), (24, .iload_n 2, 25, 0, []), (25, .iload_n 3, 26, 0, []), (26, .invokevirtual 177, 29, 98, [3, 4, 705, 707, 33, 42, 708]), (29, .goto 5, 32, 34, []), (32, .bipush (-2), 34, 0, []), (34, .ireturn, 35, 0, [])]
-- 100 BoundWalksModel.witness(I)I
def pw_o100 : List (Nat × pw_O) := [(0, .iload_n 1, 1, 0, []), (1, .invokestatic 146, 4, 72, [1, 0, 655, 656, 0, 42, 657]), (4, .ifCond .ne 6, 7, 10, []), (7, .bipush (-2), 9, 0, []), (9, .ireturn, 10, 0, []), (10, .aload_n 0, 11, 0, []), (11, .getfield 180, 14, 4, [21, 489, 0]), (14, .bipush 20, 16, 0, []), (16, .if_icmp .ne 6, 19, 22, []), (19, .bipush (-4), 21, 0, []), (21, .ireturn, 22, 0, []), (22, .aload_n 0, 23, 0, []), (23, .getfield 58, 26, 4, [22, 490, 0]), (26, .aload_n 0, 27, 0, []), (27, .getfield 180, 30, 4, [21, 489, 0]), (30, .iload_n 1, 31, 0, []), (31, .iastore, 32, 0, []), (32, .aload_n 0, 33, 0, []), (33, .dup, 34, 0, []), (34, .getfield 180, 37, 4, [21, 489, 0]), (37, .iconst 1, 38, 0, []), (38, .iadd, 39, 0, []), (39, .putfield 180, 42, 4, [21, 0, 489, 0]), (42, .aload_n 0, 43, 0, []), (43, .getfield 180, 46, 4, [21, 489, 0]), (46, .iconst 1, 47, 0, []), (47, .isub, 48, 0, []), (48, .ireturn, 49, 0, [])]
-- 101 BoundWalksModel.remember(II)I
def pw_o101 : List (Nat × pw_O) := [(0, .iload_n 1, 1, 0, []), (1, .invokestatic 146, 4, 72, [1, 0, 655, 656, 0, 42, 657]), (4, .ifCond .eq 10, 7, 14, []), (7, .iload_n 2, 8, 0, []), (8, .invokestatic 146, 11, 72, [1, 0, 655, 656, 0, 42, 657]), (11, .ifCond .ne 6, 14, 17, []), (14, .bipush (-2), 16, 0, []), (16, .ireturn, 17, 0, []), (17, .iconst 0, 18, 0, []), (18, .istore_n 3, 19, 0, []), (19, .iconst 0, 20, 0, []), (20, .istore 4, 22, 0, []), (22, .iload 4, 24, 0, []), (24, .aload_n 0, 25, 0, []), (25, .getfield 180, 28, 4, [21, 489, 0]), (28, .if_icmp .ge 50, 31, 78, []), (31, .iload_n 3, 32, 0, []), (32, .iload_n 1, 33, 0, []), (33, .aload_n 0, 34, 0, []), (34, .getfield 58, 37, 4, [22, 490, 0]), (37, .iload 4, 39, 0, []), (39, .iaload, 40, 0, []), (40, .bipush 7, 42, 0, []), (42, .iadd, 43, 0, []), (43, .if_icmp .lt 26, 46, 69, []), (46, .iload_n 2, 47, 0, []), (47, .iload_n 1, 48, 0, []), (48, .if_icmp .lt 21, 51, 69, []), (51, .iload_n 2, 52, 0, []), (52, .aload_n 0, 53, 0, []), (53, .getfield 58, 56, 4, [22, 490, 0]), (56, .iload 4, 58, 0, []), (58, .iaload, 59, 0, []), (59, .bipush 80, 61, 0, []), (61, .iadd, 62, 0, []), (62, .if_icmp .ge 7, 65, 69, []), (65, .iconst 1, 66, 0, []), (66, .goto 4, 69, 70, []), (69, .iconst 0, 70, 0, []), (70, .iadd, 71, 0, []), (71, .istore_n 3, 72, 0, []), (72, .iinc 4 1, 75, 0, []), (75, .goto (-53), 78, 22, []), (78, .iload_n 3, 79, 0, []), (79, .ireturn, 80, 0, [])]
-- 102 BoundWalksModel.house(IIIIIIII)I
def pw_o102_0 : List (Nat × pw_O) := [(0, .iload_n 3, 1, 0, []), (1, .iconst 1, 2, 0, []), (2, .iconst 4, 3, 0, []), (3, .invokestatic 108, 6, 69, [3, 0, 597, 598, 0, 42, 599]), (6, .ifCond .eq 96, 9, 102, []), (9, .iload 4, 11, 0, []), (11, .iconst 1, 12, 0, []), (12, .iconst 4, 13, 0, []), (13, .invokestatic 108, 16, 69, [3, 0, 597, 598, 0, 42, 599]), (16, .ifCond .eq 86, 19, 102, []), (19, .iload_n 1, 20, 0, []), (20, .iconst 0, 21, 0, []), (21, .bipush 12, 23, 0, []), (23, .iload_n 3, 24, 0, []), (24, .isub, 25, 0, []), (25, .invokestatic 108, 28, 69, [3, 0, 597, 598, 0, 42, 599]), (28, .ifCond .eq 74, 31, 102, []), (31, .iload_n 2, 32, 0, []), (32, .iconst 0, 33, 0, []), (33, .bipush 12, 35, 0, []), (35, .iload 4, 37, 0, []), (37, .isub, 38, 0, []), (38, .invokestatic 108, 41, 69, [3, 0, 597, 598, 0, 42, 599]), (41, .ifCond .eq 61, 44, 102, []), (44, .iload 5, 46, 0, []), (46, .iload_n 1, 47, 0, []), (47, .iload_n 1, 48, 0, []), (48, .iload_n 3, 49, 0, []), (49, .iadd, 50, 0, []), (50, .iconst 1, 51, 0, []), (51, .isub, 52, 0, []), (52, .invokestatic 108, 55, 69, [3, 0, 597, 598, 0, 42, 599]), (55, .ifCond .eq 47, 58, 102, []), (58, .iload 6, 60, 0, []), (60, .iload_n 2, 61, 0, []), (61, .iload_n 2, 62, 0, []), (62, .iload 4, 64, 0, []), (64, .iadd, 65, 0, []), (65, .iconst 1, 66, 0, []), (66, .isub, 67, 0, []), (67, .invokestatic 108, 70, 69, [3, 0, 597, 598, 0, 42, 599]), (70, .ifCond .eq 32, 73, 102, []), (73, .iload 7, 75, 0, []), (75, .iload_n 1, 76, 0, []), (76, .iload_n 1, 77, 0, []), (77, .iload_n 3, 78, 0, []), (78, .iadd, 79, 0, []), (79, .iconst 1, 80, 0, [])]
def pw_o102_1 : List (Nat × pw_O) := [(80, .isub, 81, 0, []), (81, .invokestatic 108, 84, 69, [3, 0, 597, 598, 0, 42, 599]), (84, .ifCond .eq 18, 87, 102, []), (87, .iload 8, 89, 0, []), (89, .iload_n 2, 90, 0, []), (90, .iload_n 2, 91, 0, []), (91, .iload 4, 93, 0, []), (93, .iadd, 94, 0, []), (94, .iconst 1, 95, 0, []), (95, .isub, 96, 0, []), (96, .invokestatic 108, 99, 69, [3, 0, 597, 598, 0, 42, 599]), (99, .ifCond .ne 6, 102, 105, []), (102, .bipush (-2), 104, 0, []), (104, .ireturn, 105, 0, []), (105, .aload_n 0, 106, 0, []), (106, .getfield 183, 109, 4, [23, 491, 0]), (109, .bipush 6, 111, 0, []), (111, .if_icmp .ne 6, 114, 117, []), (114, .bipush (-4), 116, 0, []), (116, .ireturn, 117, 0, []), (117, .aload_n 0, 118, 0, []), (118, .getfield 61, 121, 4, [24, 492, 0]), (121, .aload_n 0, 122, 0, []), (122, .getfield 183, 125, 4, [23, 491, 0]), (125, .iload_n 1, 126, 0, []), (126, .iastore, 127, 0, []), (127, .aload_n 0, 128, 0, []), (128, .getfield 64, 131, 4, [25, 493, 0]), (131, .aload_n 0, 132, 0, []), (132, .getfield 183, 135, 4, [23, 491, 0]), (135, .iload_n 2, 136, 0, []), (136, .iastore, 137, 0, []), (137, .aload_n 0, 138, 0, []), (138, .getfield 67, 141, 4, [26, 494, 0]), (141, .aload_n 0, 142, 0, []), (142, .getfield 183, 145, 4, [23, 491, 0]), (145, .iload_n 3, 146, 0, []), (146, .iastore, 147, 0, []), (147, .aload_n 0, 148, 0, []), (148, .getfield 70, 151, 4, [27, 495, 0]), (151, .aload_n 0, 152, 0, []), (152, .getfield 183, 155, 4, [23, 491, 0]), (155, .iload 4, 157, 0, []), (157, .iastore, 158, 0, []), (158, .aload_n 0, 159, 0, []), (159, .getfield 73, 162, 4, [28, 496, 0]), (162, .aload_n 0, 163, 0, []), (163, .getfield 183, 166, 4, [23, 491, 0])]
def pw_o102_2 : List (Nat × pw_O) := [(166, .bipush 12, 168, 0, []), (168, .iload 6, 170, 0, []), (170, .imul, 171, 0, []), (171, .iload 5, 173, 0, []), (173, .iadd, 174, 0, []), (174, .iastore, 175, 0, []), (175, .aload_n 0, 176, 0, []), (176, .getfield 76, 179, 4, [29, 497, 0]), (179, .aload_n 0, 180, 0, []), (180, .getfield 183, 183, 4, [23, 491, 0]), (183, .bipush 12, 185, 0, []), (185, .iload 8, 187, 0, []), (187, .imul, 188, 0, []), (188, .iload 7, 190, 0, []), (190, .iadd, 191, 0, []), (191, .iastore, 192, 0, []), (192, .aload_n 0, 193, 0, []), (193, .dup, 194, 0, []), (194, .getfield 183, 197, 4, [23, 491, 0]), (197, .iconst 1, 198, 0, []), (198, .iadd, 199, 0, []), (199, .putfield 183, 202, 4, [23, 0, 491, 0]), (202, .aload_n 0, 203, 0, []), (203, .getfield 183, 206, 4, [23, 491, 0]), (206, .iconst 1, 207, 0, []), (207, .isub, 208, 0, []), (208, .ireturn, 209, 0, [])]
def pw_o102 : List (Nat × pw_O) := pw_o102_0 ++ (pw_o102_1 ++ (pw_o102_2))
-- 103 BoundWalksModel.law(III)I
def pw_o103 : List (Nat × pw_O) := [(0, .iload_n 1, 1, 0, []), (1, .iconst 0, 2, 0, []), (2, .iconst 3, 3, 0, []), (3, .invokestatic 108, 6, 69, [3, 0, 597, 598, 0, 42, 599]), (6, .ifCond .eq 19, 9, 25, []), (9, .iload_n 2, 10, 0, []), (10, .invokestatic 146, 13, 72, [1, 0, 655, 656, 0, 42, 657]), (13, .ifCond .eq 12, 16, 25, []), (16, .iload_n 3, 17, 0, []), (17, .iconst 0, 18, 0, []), (18, .iconst 2, 19, 0, []), (19, .invokestatic 108, 22, 69, [3, 0, 597, 598, 0, 42, 599]), (22, .ifCond .ne 6, 25, 28, []), (25, .bipush (-2), 27, 0, []), (27, .ireturn, 28, 0, []), (28, .aload_n 0, 29, 0, []), (29, .getfield 186, 32, 4, [30, 498, 0]), (32, .bipush 10, 34, 0, []), (34, .if_icmp .ne 6, 37, 40, []), (37, .bipush (-4), 39, 0, []), (39, .ireturn, 40, 0, []), (40, .aload_n 0, 41, 0, []), (41, .getfield 79, 44, 4, [31, 499, 0]), (44, .aload_n 0, 45, 0, []), (45, .getfield 186, 48, 4, [30, 498, 0]), (48, .iload_n 1, 49, 0, []), (49, .iastore, 50, 0, []), (50, .aload_n 0, 51, 0, []), (51, .getfield 82, 54, 4, [32, 500, 0]), (54, .aload_n 0, 55, 0, []), (55, .getfield 186, 58, 4, [30, 498, 0]), (58, .iload_n 2, 59, 0, []), (59, .iastore, 60, 0, []), (60, .aload_n 0, 61, 0, []), (61, .getfield 85, 64, 4, [33, 501, 0]), (64, .aload_n 0, 65, 0, []), (65, .getfield 186, 68, 4, [30, 498, 0]), (68, .iload_n 3, 69, 0, []), (69, .iastore, 70, 0, []), (70, .aload_n 0, 71, 0, []), (71, .dup, 72, 0, []), (72, .getfield 186, 75, 4, [30, 498, 0]), (75, .iconst 1, 76, 0, []), (76, .iadd, 77, 0, []), (77, .putfield 186, 80, 4, [30, 0, 498, 0]), (80, .aload_n 0, 81, 0, []), (81, .getfield 186, 84, 4, [30, 498, 0]), (84, .iconst 1, 85, 0, []), (85, .isub, 86, 0, []), (86, .ireturn, 87, 0, [])]
-- 104 BoundWalksModel.byOf(II)I
def pw_o104 : List (Nat × pw_O) := [(0, .iconst (-1), 1, 0, []), (1, .istore_n 3, 2, 0, []), (2, .iconst 0, 3, 0, []), (3, .istore 4, 5, 0, []), (5, .iload 4, 7, 0, []), (7, .aload_n 0, 8, 0, []), (8, .getfield 186, 11, 4, [30, 498, 0]), (11, .if_icmp .ge 59, 14, 70, []), (14, .aload_n 0, 15, 0, []), (15, .getfield 79, 18, 4, [31, 499, 0]), (18, .iload 4, 20, 0, []), (20, .iaload, 21, 0, []), (21, .iload_n 1, 22, 0, []), (22, .if_icmp .ne 42, 25, 64, []), (25, .aload_n 0, 26, 0, []), (26, .getfield 82, 29, 4, [32, 500, 0]), (29, .iload 4, 31, 0, []), (31, .iaload, 32, 0, []), (32, .iload_n 2, 33, 0, []), (33, .if_icmp .gt 31, 36, 64, []), (36, .iload_n 3, 37, 0, []), (37, .iconst (-1), 38, 0, []), (38, .if_icmp .eq 19, 41, 57, []), (41, .aload_n 0, 42, 0, []), (42, .getfield 82, 45, 4, [32, 500, 0]), (45, .iload 4, 47, 0, []), (47, .iaload, 48, 0, []), (48, .aload_n 0, 49, 0, []), (49, .getfield 82, 52, 4, [32, 500, 0]), (52, .iload_n 3, 53, 0, []), (53, .iaload, 54, 0, []), (54, .if_icmp .lt 8, 57, 62, []), (57, .iload 4, 59, 0, []), (59, .goto 4, 62, 63, []), (62, .iload_n 3, 63, 0, []), (63, .istore_n 3, 64, 0, []), (64, .iinc 4 1, 67, 0, []), (67, .goto (-62), 70, 5, []), (70, .iload_n 3, 71, 0, []), (71, .iconst (-1), 72, 0, []), (72, .if_icmp .ne 7, 75, 79, []), (75, .iconst 0, 76, 0, []), (76, .goto 9, 79, 85, []), (79, .aload_n 0, 80, 0, []), (80, .getfield 85, 83, 4, [33, 501, 0]), (83, .iload_n 3, 84, 0, []), (84, .iaload, 85, 0, []), (85, .ireturn, 86, 0, [])]
-- 105 BoundWalksModel.greaterPart(II)I
def pw_o105_0 : List (Nat × pw_O) := [(0, .iconst 0, 1, 0, []), (1, .istore_n 3, 2, 0, []), (2, .iload_n 3, 3, 0, []), (3, .iconst 4, 4, 0, []), (4, .if_icmp .ge 16, 7, 20, []), (7, .aload_n 0, 8, 0, []), (8, .getfield 102, 11, 4, [38, 506, 0]), (11, .iload_n 3, 12, 0, []), (12, .iconst 0, 13, 0, []), (13, .iastore, 14, 0, []), (14, .iinc 3 1, 17, 0, []), (17, .goto (-15), 20, 2, []), (20, .aload_n 0, 21, 0, []), (21, .getfield 64, 24, 4, [25, 493, 0]), (24, .iload_n 1, 25, 0, []), (25, .iaload, 26, 0, []), (26, .istore_n 3, 27, 0, []), (27, .iload_n 3, 28, 0, []), (28, .aload_n 0, 29, 0, []), (29, .getfield 64, 32, 4, [25, 493, 0]), (32, .iload_n 1, 33, 0, []), (33, .iaload, 34, 0, []), (34, .aload_n 0, 35, 0, []), (35, .getfield 70, 38, 4, [27, 495, 0]), (38, .iload_n 1, 39, 0, []), (39, .iaload, 40, 0, []), (40, .iadd, 41, 0, []), (41, .if_icmp .ge 72, 44, 113, []), (44, .aload_n 0, 45, 0, []), (45, .getfield 61, 48, 4, [24, 492, 0]), (48, .iload_n 1, 49, 0, []), (49, .iaload, 50, 0, []), (50, .istore 4, 52, 0, []), (52, .iload 4, 54, 0, []), (54, .aload_n 0, 55, 0, []), (55, .getfield 61, 58, 4, [24, 492, 0]), (58, .iload_n 1, 59, 0, []), (59, .iaload, 60, 0, []), (60, .aload_n 0, 61, 0, []), (61, .getfield 67, 64, 4, [26, 494, 0]), (64, .iload_n 1, 65, 0, []), (65, .iaload, 66, 0, []), (66, .iadd, 67, 0, []), (67, .if_icmp .ge 40, 70, 107, []), (70, .aload_n 0, 71, 0, []), (71, .bipush 12, 73, 0, []), (73, .iload_n 3, 74, 0, []), (74, .imul, 75, 0, [])]
def pw_o105_1 : List (Nat × pw_O) := [(75, .iload 4, 77, 0, []), (77, .iadd, 78, 0, []), (78, .iload_n 2, 79, 0, []), (79, .invokevirtual 152, 82, 87, [2, 4, 662, 664, 29, 42, 665]), (82, .istore 5, 84, 0, []), (84, .iload 5, 86, 0, []), (86, .iconst (-1), 87, 0, []), (87, .if_icmp .eq 14, 90, 101, []), (90, .aload_n 0, 91, 0, []), (91, .getfield 102, 94, 4, [38, 506, 0]), (94, .iload 5, 96, 0, []), (96, .dup2, 97, 0, []), (97, .iaload, 98, 0, []), (98, .iconst 1, 99, 0, []), (99, .iadd, 100, 0, []), (100, .iastore, 101, 0, []), (101, .iinc 4 1, 104, 0, []), (104, .goto (-52), 107, 52, []), (107, .iinc 3 1, 110, 0, []), (110, .goto (-83), 113, 27, []), (113, .iconst 0, 114, 0, []), (114, .istore_n 3, 115, 0, []), (115, .aload_n 0, 116, 0, []), (116, .getfield 102, 119, 4, [38, 506, 0]), (119, .iconst 0, 120, 0, []), (120, .iaload, 121, 0, []), (121, .ifCond .le 7, 124, 128, []), (124, .iconst 1, 125, 0, []), (125, .goto 4, 128, 129, []), (128, .iconst 0, 129, 0, []), (129, .istore 4, 131, 0, []), (131, .iconst 1, 132, 0, []), (132, .istore 5, 134, 0, []), (134, .iload 5, 136, 0, []), (136, .iconst 4, 137, 0, []), (137, .if_icmp .ge 76, 140, 213, []), (140, .aload_n 0, 141, 0, []), (141, .getfield 102, 144, 4, [38, 506, 0]), (144, .iload 5, 146, 0, []), (146, .iaload, 147, 0, []), (147, .aload_n 0, 148, 0, []), (148, .getfield 102, 151, 4, [38, 506, 0]), (151, .iload_n 3, 152, 0, []), (152, .iaload, 153, 0, []), (153, .if_icmp .gt 24, 156, 177, []), (156, .aload_n 0, 157, 0, []), (157, .getfield 102, 160, 4, [38, 506, 0]), (160, .iload 5, 162, 0, [])]
def pw_o105_2 : List (Nat × pw_O) := [(162, .iaload, 163, 0, []), (163, .aload_n 0, 164, 0, []), (164, .getfield 102, 167, 4, [38, 506, 0]), (167, .iload_n 3, 168, 0, []), (168, .iaload, 169, 0, []), (169, .if_icmp .ge 12, 172, 181, []), (172, .iload 4, 174, 0, []), (174, .ifCond .eq 7, 177, 181, []), (177, .iconst 1, 178, 0, []), (178, .goto 4, 181, 182, []), (181, .iconst 0, 182, 0, []), (182, .istore 4, 184, 0, []), (184, .aload_n 0, 185, 0, []), (185, .getfield 102, 188, 4, [38, 506, 0]), (188, .iload 5, 190, 0, []), (190, .iaload, 191, 0, []), (191, .aload_n 0, 192, 0, []), (192, .getfield 102, 195, 4, [38, 506, 0]), (195, .iload_n 3, 196, 0, []), (196, .iaload, 197, 0, []), (197, .if_icmp .le 8, 200, 205, []), (200, .iload 5, 202, 0, []), (202, .goto 4, 205, 206, []), (205, .iload_n 3, 206, 0, []), (206, .istore_n 3, 207, 0, []), (207, .iinc 5 1, 210, 0, []), (210, .goto (-76), 213, 134, []), (213, .iload 4, 215, 0, []), (215, .ifCond .eq 7, 218, 222, []), (218, .iload_n 3, 219, 0, []), (219, .goto 4, 222, 223, []), (222, .iconst (-1), 223, 0, []), (223, .ireturn, 224, 0, [])]
def pw_o105 : List (Nat × pw_O) := pw_o105_0 ++ (pw_o105_1 ++ (pw_o105_2))
-- 106 BoundWalksModel.whose(III)I
def pw_o106 : List (Nat × pw_O) := [(0, .iload_n 1, 1, 0, []), (1, .iconst 0, 2, 0, []), (2, .aload_n 0, 3, 0, []), (3, .getfield 183, 6, 4, [23, 491, 0]), (6, .iconst 1, 7, 0, []), (7, .isub, 8, 0, []), (8, .invokestatic 108, 11, 69, [3, 0, 597, 598, 0, 42, 599]), (11, .ifCond .eq 19, 14, 30, []), (14, .iload_n 2, 15, 0, []), (15, .iconst 0, 16, 0, []), (16, .iconst 3, 17, 0, []), (17, .invokestatic 108, 20, 69, [3, 0, 597, 598, 0, 42, 599]), (20, .ifCond .eq 10, 23, 30, []), (23, .iload_n 3, 24, 0, []), (24, .invokestatic 146, 27, 72, [1, 0, 655, 656, 0, 42, 657]), (27, .ifCond .ne 6, 30, 33, []), (30, .bipush (-2), 32, 0, []), (32, .ireturn, 33, 0, []), (33, .aload_n 0, 34, 0, []), (34, .invokevirtual 143, 37, 84, [0, 4, 647, 649, 28, 42, 650]), (37, .aload_n 0, 38, 0, []), (38, .iload_n 2, 39, 0, []), (39, .iload_n 3, 40, 0, []), (40, .invokevirtual 189, 43, 104, [2, 4, 729, 731, 34, 42, 732]), (43, .istore 4, 45, 0, []), (45, .iload 4, 47, 0, []), (47, .iconst 2, 48, 0, []), (48, .if_icmp .ne 12, 51, 60, []), (51, .aload_n 0, 52, 0, []), (52, .iload_n 1, 53, 0, []), (53, .iload_n 3, 54, 0, []), (54, .invokevirtual 192, 57, 105, [2, 4, 733, 735, 35, 42, 736]), (57, .goto 4, 60, 61, []), (60, .iconst (-1), 61, 0, []), (61, .istore 5, 63, 0, []), (63, .iload 5, 65, 0, []), (65, .iconst (-1), 66, 0, []), (66, .if_icmp .eq 8, 69, 74, []), (69, .iload 5, 71, 0, []), (71, .goto 29, 74, 100, []), (74, .aload_n 0, 75, 0, []), (75, .iload 4, 77, 0, []), (77, .iconst 1, 78, 0, []), (78, .if_icmp .ne 12, 81, 90, []), (81, .aload_n 0, 82, 0, []), (82, .getfield 76, 85, 4, [29, 497, 0]), (85, .iload_n 1, 86, 0, []), (86, .iaload, 87, 0, []), (87, .goto 9, 90, 96, []), (90, .aload_n 0, 91, 0, []), (91, .getfield 73, 94, 4, [28, 496, 0]), (94, .iload_n 1, 95, 0, []), (95, .iaload, 96, 0, []), (96, .iload_n 3, 97, 0, []), (97, .invokevirtual 152, 100, 87, [2, 4, 662, 664, 29, 42, 665]), (100, .ireturn, 101, 0, [])]
-- 107 BoundWalksModel.isLost(I)Z
def pw_o107 : List (Nat × pw_O) := [(0, .aload_n 0, 1, 0, []), (1, .iload_n 1, 2, 0, []), (2, .aload_n 0, 3, 0, []), (3, .getfield 159, 6, 4, [11, 479, 0]), (6, .aload_n 0, 7, 0, []), (7, .getfield 159, 10, 4, [11, 479, 0]), (10, .invokevirtual 177, 13, 98, [3, 4, 705, 707, 33, 42, 708]), (13, .iconst (-1), 14, 0, []), (14, .if_icmp .ne 7, 17, 21, []), (17, .iconst 1, 18, 0, []), (18, .goto 4, 21, 22, []), (21, .iconst 0, 22, 0, []), (22, .ireturn, 23, 0, [])]
-- 108 BoundWalksModel.see(I)I
def pw_o108 : List (Nat × pw_O) := [(0, .aload_n 0, 1, 0, []), (1, .iload_n 1, 2, 0, []), (2, .invokevirtual 168, 5, 92, [1, 4, 689, 691, 31, 42, 692]), (5, .ifCond .ne 6, 8, 11, []), (8, .bipush (-2), 10, 0, []), (10, .ireturn, 11, 0, []), (11, .aload_n 0, 12, 0, []), (12, .iload_n 1, 13, 0, []), (13, .invokevirtual 195, 16, 107, [1, 4, 741, 743, 36, 42, 744]), (16, .ifCond .eq 6, 19, 22, []), (19, .bipush (-3), 21, 0, []), (21, .ireturn, 22, 0, []), (22, .aload_n 0, 23, 0, []), (23, .getfield 159, 26, 4, [11, 479, 0]), (26, .aload_n 0, 27, 0, []), (27, .getfield 43, 30, 4, [15, 483, 0]), (30, .iload_n 1, 31, 0, []), (31, .iaload, 32, 0, []), (32, .isub, 33, 0, []), (33, .istore_n 2, 34, 0, []), (34, .aload_n 0, 35, 0, []), (35, .getfield 43, 38, 4, [15, 483, 0]), (38, .iload_n 1, 39, 0, []), (39, .aload_n 0, 40, 0, []), (40, .getfield 159, 43, 4, [11, 479, 0]), (43, .iastore, 44, 0, []), (44, .iload_n 2, 45, 0, []), (45, .ireturn, 46, 0, [])]
-- 109 BoundWalksModel.gap(I)I
def pw_o109 : List (Nat × pw_O) := [(0, .iload_n 1, 1, 0, []), (1, .iconst 1, 2, 0, []), (2, .bipush 20, 4, 0, []), (4, .invokestatic 108, 7, 69, [3, 0, 597, 598, 0, 42, 599]), (7, .ifCond .ne 6, 10, 13, []), (10, .bipush (-2), 12, 0, []), (12, .ireturn, 13, 0, []), (13, .aload_n 0, 14, 0, []), (14, .getfield 88, 17, 4, [34, 502, 0]), (17, .istore_n 2, 18, 0, []), (18, .aload_n 0, 19, 0, []), (19, .iload_n 1, 20, 0, []), (20, .putfield 88, 23, 4, [34, 0, 502, 0]), (23, .iload_n 2, 24, 0, []), (24, .ireturn, 25, 0, [])]
-- 110 BoundWalksModel.due()I
def pw_o110 : List (Nat × pw_O) := [(0, .iconst 0, 1, 0, []), (1, .istore_n 1, 2, 0, []), (2, .iconst 0, 3, 0, []), (3, .istore_n 2, 4, 0, []), (4, .iload_n 2, 5, 0, []), (5, .aload_n 0, 6, 0, []), (6, .getfield 162, 9, 4, [12, 480, 0]), (9, .if_icmp .ge 45, 12, 54, []), (12, .iload_n 1, 13, 0, []), (13, .aload_n 0, 14, 0, []), (14, .iload_n 2, 15, 0, []), (15, .invokevirtual 195, 18, 107, [1, 4, 741, 743, 36, 42, 744]), (18, .ifCond .ne 27, 21, 45, []), (21, .aload_n 0, 22, 0, []), (22, .getfield 159, 25, 4, [11, 479, 0]), (25, .aload_n 0, 26, 0, []), (26, .getfield 43, 29, 4, [15, 483, 0]), (29, .iload_n 2, 30, 0, []), (30, .iaload, 31, 0, []), (31, .isub, 32, 0, []), (32, .aload_n 0, 33, 0, []), (33, .getfield 88, 36, 4, [34, 502, 0]), (36, .if_icmp .lt 9, 39, 45, []), (39, .iconst 1, 40, 0, []), (40, .iload_n 2, 41, 0, []), (41, .ishl, 42, 0, []), (42, .goto 4, 45, 46, []), (45, .iconst 0, 46, 0, []), (46, .ior, 47, 0, []), (47, .istore_n 1, 48, 0, []), (48, .iinc 2 1, 51, 0, []), (51, .goto (-47), 54, 4, []), (54, .iload_n 1, 55, 0, []), (55, .ireturn, 56, 0, [])]
-- 111 BoundWalksModel.longestAgo(I)I
def pw_o111 : List (Nat × pw_O) := [(0, .iconst (-1), 1, 0, []), (1, .istore_n 2, 2, 0, []), (2, .iconst 0, 3, 0, []), (3, .istore_n 3, 4, 0, []), (4, .iload_n 3, 5, 0, []), (5, .aload_n 0, 6, 0, []), (6, .getfield 162, 9, 4, [12, 480, 0]), (9, .if_icmp .ge 53, 12, 62, []), (12, .aload_n 0, 13, 0, []), (13, .iload_n 3, 14, 0, []), (14, .invokevirtual 195, 17, 107, [1, 4, 741, 743, 36, 42, 744]), (17, .ifCond .ne 37, 20, 54, []), (20, .aload_n 0, 21, 0, []), (21, .getfield 105, 24, 4, [39, 507, 0]), (24, .iload_n 3, 25, 0, []), (25, .iaload, 26, 0, []), (26, .iload_n 1, 27, 0, []), (27, .if_icmp .ge 27, 30, 54, []), (30, .iload_n 2, 31, 0, []), (31, .iconst (-1), 32, 0, []), (32, .if_icmp .eq 18, 35, 50, []), (35, .aload_n 0, 36, 0, []), (36, .getfield 105, 39, 4, [39, 507, 0]), (39, .iload_n 3, 40, 0, []), (40, .iaload, 41, 0, []), (41, .aload_n 0, 42, 0, []), (42, .getfield 105, 45, 4, [39, 507, 0]), (45, .iload_n 2, 46, 0, []), (46, .iaload, 47, 0, []), (47, .if_icmp .ge 7, 50, 54, []), (50, .iload_n 3, 51, 0, []), (51, .goto 4, 54, 55, []), (54, .iload_n 2, 55, 0, []), (55, .istore_n 2, 56, 0, []), (56, .iinc 3 1, 59, 0, []), (59, .goto (-55), 62, 4, []), (62, .iload_n 2, 63, 0, []), (63, .ireturn, 64, 0, [])]
-- 112 BoundWalksModel.round(II)I
def pw_o112_0 : List (Nat × pw_O) := [(0, .iload_n 1, 1, 0, []), (1, .iconst 1, 2, 0, []), (2, .bipush 30, 4, 0, []), (4, .invokestatic 108, 7, 69, [3, 0, 597, 598, 0, 42, 599]), (7, .ifCond .eq 13, 10, 20, []), (10, .iload_n 2, 11, 0, []), (11, .iconst 1, 12, 0, []), (12, .bipush 12, 14, 0, []), (14, .invokestatic 108, 17, 69, [3, 0, 597, 598, 0, 42, 599]), (17, .ifCond .ne 6, 20, 23, []), (20, .bipush (-2), 22, 0, []), (22, .ireturn, 23, 0, []), (23, .iconst 0, 24, 0, []), (24, .istore_n 3, 25, 0, []), (25, .iload_n 3, 26, 0, []), (26, .aload_n 0, 27, 0, []), (27, .getfield 162, 30, 4, [12, 480, 0]), (30, .if_icmp .ge 21, 33, 51, []), (33, .aload_n 0, 34, 0, []), (34, .getfield 105, 37, 4, [39, 507, 0]), (37, .iload_n 3, 38, 0, []), (38, .aload_n 0, 39, 0, []), (39, .getfield 43, 42, 4, [15, 483, 0]), (42, .iload_n 3, 43, 0, []), (43, .iaload, 44, 0, []), (44, .iastore, 45, 0, []), (45, .iinc 3 1, 48, 0, []), (48, .goto (-23), 51, 25, []), (51, .aload_n 0, 52, 0, []), (52, .getfield 159, 55, 4, [11, 479, 0]), (55, .istore_n 3, 56, 0, []), (56, .iload_n 3, 57, 0, []), (57, .aload_n 0, 58, 0, []), (58, .getfield 159, 61, 4, [11, 479, 0]), (61, .iload_n 1, 62, 0, []), (62, .iadd, 63, 0, []), (63, .if_icmp .ge 90, 66, 153, []), (66, .iconst 0, 67, 0, []), (67, .istore 4, 69, 0, []), (69, .iload 4, 71, 0, []), (71, .iload_n 2, 72, 0, []), (72, .if_icmp .ge 30, 75, 102, []), (75, .aload_n 0, 76, 0, []), (76, .iload_n 3, 77, 0, []), (77, .invokevirtual 198, 80, 111, [1, 4, 757, 759, 37, 42, 760]), (80, .istore 5, 82, 0, []), (82, .iload 5, 84, 0, []), (84, .iconst (-1), 85, 0, [])]
def pw_o112_1 : List (Nat × pw_O) := [(85, .if_icmp .eq 11, 88, 96, []), (88, .aload_n 0, 89, 0, []), (89, .getfield 105, 92, 4, [39, 507, 0]), (92, .iload 5, 94, 0, []), (94, .iload_n 3, 95, 0, []), (95, .iastore, 96, 0, []), (96, .iinc 4 1, 99, 0, []), (99, .goto (-30), 102, 69, []), (102, .iconst 0, 103, 0, []), (103, .istore 4, 105, 0, []), (105, .iload 4, 107, 0, []), (107, .aload_n 0, 108, 0, []), (108, .getfield 162, 111, 4, [12, 480, 0]), (111, .if_icmp .ge 36, 114, 147, []), (114, .aload_n 0, 115, 0, []), (115, .iload 4, 117, 0, []), (117, .invokevirtual 195, 120, 107, [1, 4, 741, 743, 36, 42, 744]), (120, .ifCond .ne 21, 123, 141, []), (123, .iload_n 3, 124, 0, []), (124, .aload_n 0, 125, 0, []), (125, .getfield 105, 128, 4, [39, 507, 0]), (128, .iload 4, 130, 0, []), (130, .iaload, 131, 0, []), (131, .isub, 132, 0, []), (132, .aload_n 0, 133, 0, []), (133, .getfield 88, 136, 4, [34, 502, 0]), (136, .if_icmp .lt 5, 139, 141, []), (139, .iload_n 3, 140, 0, []), (140, .ireturn, 141, 0, []), (141, .iinc 4 1, 144, 0, []), (144, .goto (-39), 147, 105, []), (147, .iinc 3 1, 150, 0, []), (150, .goto (-94), 153, 56, []), (153, .iconst (-1), 154, 0, []), (154, .ireturn, 155, 0, [])]
def pw_o112 : List (Nat × pw_O) := pw_o112_0 ++ (pw_o112_1)
-- 113 BoundWalksModel.count(I)I
def pw_o113 : List (Nat × pw_O) := [(0, .iload_n 1, 1, 0, []), (1, .tableswitch 87 0 7 #[47, 52, 57, 62, 67, 72, 77, 82], 48, 88, [48, 53, 58, 63, 68, 73, 78, 83]), (48, .aload_n 0, 49, 0, []), (49, .getfield 112, 52, 4, [0, 468, 0]), (52, .ireturn, 53, 0, []), (53, .aload_n 0, 54, 0, []), (54, .getfield 159, 57, 4, [11, 479, 0]), (57, .ireturn, 58, 0, []), (58, .aload_n 0, 59, 0, []), (59, .getfield 162, 62, 4, [12, 480, 0]), (62, .ireturn, 63, 0, []), (63, .aload_n 0, 64, 0, []), (64, .getfield 165, 67, 4, [16, 484, 0]), (67, .ireturn, 68, 0, []), (68, .aload_n 0, 69, 0, []), (69, .getfield 180, 72, 4, [21, 489, 0]), (72, .ireturn, 73, 0, []), (73, .aload_n 0, 74, 0, []), (74, .getfield 183, 77, 4, [23, 491, 0]), (77, .ireturn, 78, 0, []), (78, .aload_n 0, 79, 0, []), (79, .getfield 149, 82, 4, [7, 475, 0]), (82, .ireturn, 83, 0, []), (83, .aload_n 0, 84, 0, []), (84, .getfield 186, 87, 4, [30, 498, 0]), (87, .ireturn, 88, 0, []), (88, .bipush (-2), 90, 0, []), (90, .ireturn, 91, 0, [])]
-- 114 java/lang/Integer.bitCount(I)I
def pw_o114 : List (Nat × pw_O) := [(0, .iload_n 0, 1, 0, []), (1, .iload_n 0, 2, 0, []), (2, .iconst 1, 3, 0, []), (3, .iushr, 4, 0, []), (4, .ldc_w 265, 7, 1431655765, [267]), (7, .iand, 8, 0, []), (8, .isub, 9, 0, []), (9, .istore_n 0, 10, 0, []), (10, .iload_n 0, 11, 0, []), (11, .ldc_w 266, 14, 858993459, [268]), (14, .iand, 15, 0, []), (15, .iload_n 0, 16, 0, []), (16, .iconst 2, 17, 0, []), (17, .iushr, 18, 0, []), (18, .ldc_w 266, 21, 858993459, [268]), (21, .iand, 22, 0, []), (22, .iadd, 23, 0, []), (23, .istore_n 0, 24, 0, []), (24, .iload_n 0, 25, 0, []), (25, .iload_n 0, 26, 0, []), (26, .iconst 4, 27, 0, []), (27, .iushr, 28, 0, []), (28, .iadd, 29, 0, []), (29, .ldc_w 267, 32, 252645135, [269]), (32, .iand, 33, 0, []), (33, .istore_n 0, 34, 0, []), (34, .iload_n 0, 35, 0, []), (35, .iload_n 0, 36, 0, []), (36, .bipush 8, 38, 0, []), (38, .iushr, 39, 0, []), (39, .iadd, 40, 0, []), (40, .istore_n 0, 41, 0, []), (41, .iload_n 0, 42, 0, []), (42, .iload_n 0, 43, 0, []), (43, .bipush 16, 45, 0, []), (45, .iushr, 46, 0, []), (46, .iadd, 47, 0, []), (47, .istore_n 0, 48, 0, []), (48, .iload_n 0, 49, 0, []), (49, .bipush 63, 51, 0, []), (51, .iand, 52, 0, []), (52, .ireturn, 53, 0, [])]
abbrev pw_I : Type := MethodName × ByteArray × Nat × Option FieldType
def pw_ms : List (pw_I × List (Nat × pw_O)) := [
  ((⟨"BoundWalksLaw", "law", "([I)Z"⟩, code, 4, some .boolean), pw_o0),
  ((⟨"BoundWalks$House", "<init>", "(IIIIII)V"⟩, prog_2_method_1_code, 7, none), pw_o1),
  ((⟨"BoundWalks$Ledger", "<init>", "(I)V"⟩, prog_3_method_1_code, 3, none), pw_o2),
  ((⟨"BoundWalks$Ledger", "size", "()I"⟩, prog_3_method_2_code, 1, some .int), pw_o3),
  ((⟨"BoundWalks$Ledger", "isFull", "()Z"⟩, prog_3_method_3_code, 1, some .boolean), pw_o4),
  ((⟨"BoundWalks$Ledger", "write", "(IIII)I"⟩, prog_3_method_4_code, 5, some .int), pw_o5),
  ((⟨"BoundWalks$Ledger", "latest", "(IIII)I"⟩, prog_3_method_5_code, 9, some .int), pw_o6),
  ((⟨"BoundWalks$Walk", "<init>", "(II)V"⟩, prog_4_method_1_code, 3, none), pw_o7),
  ((⟨"BoundWalks$Walk", "legCount", "()I"⟩, prog_4_method_2_code, 1, some .int), pw_o8),
  ((⟨"BoundWalks$Walk", "addLeg", "(III)V"⟩, prog_4_method_3_code, 4, none), pw_o9),
  ((⟨"BoundWalks$Walk", "dropLeg", "()V"⟩, prog_4_method_4_code, 1, none), pw_o10),
  ((⟨"BoundWalks$Walk", "lengthOf", "(I)I"⟩, prog_4_method_5_code, 2, some .int), pw_o11),
  ((⟨"BoundWalks$Walk", "surrounds", "(II)Z"⟩, prog_4_method_6_code, 3, some .boolean), pw_o12),
  ((⟨"BoundWalks$Walk", "fieldsInside", "()I"⟩, prog_4_method_7_code, 3, some .int), pw_o13),
  ((⟨"BoundWalks$Walk", "settle", "()V"⟩, prog_4_method_8_code, 2, none), pw_o14),
  ((⟨"BoundWalks$Walk", "chooseLengths", "()Z"⟩, prog_4_method_9_code, 5, some .boolean), pw_o15),
  ((⟨"BoundWalks$Walk", "leastLength", "(II)I"⟩, prog_4_method_10_code, 6, some .int), pw_o16),
  ((⟨"BoundWalks$Walk", "staysOnLand", "()Z"⟩, prog_4_method_11_code, 4, some .boolean), pw_o17),
  ((⟨"BoundWalks$Walk", "markInside", "()V"⟩, prog_4_method_12_code, 7, none), pw_o18),
  ((⟨"BoundWalks$Walk", "isAlongX", "(I)Z"⟩, prog_4_method_13_code, 2, some .boolean), pw_o19),
  ((⟨"BoundWalks$Walk", "sign", "(I)I"⟩, prog_4_method_14_code, 2, some .int), pw_o20),
  ((⟨"BoundWalks$Walk", "stepX", "(I)I"⟩, prog_4_method_15_code, 2, some .int), pw_o21),
  ((⟨"BoundWalks$Walk", "stepY", "(I)I"⟩, prog_4_method_16_code, 2, some .int), pw_o22),
  ((⟨"BoundWalks", "<init>", "()V"⟩, prog_1_method_1_code, 1, none), pw_o23),
  ((⟨"BoundWalks", "parish", "(II)I"⟩, prog_1_method_2_code, 3, some .int), pw_o24),
  ((⟨"BoundWalks", "leg", "(IIII)I"⟩, prog_1_method_3_code, 6, some .int), pw_o25),
  ((⟨"BoundWalks", "unleg", "(I)I"⟩, prog_1_method_4_code, 3, some .int), pw_o26),
  ((⟨"BoundWalks", "length", "(II)I"⟩, prog_1_method_5_code, 4, some .int), pw_o27),
  ((⟨"BoundWalks", "area", "(I)I"⟩, prog_1_method_6_code, 3, some .int), pw_o28),
  ((⟨"BoundWalks", "claims", "(II)I"⟩, prog_1_method_7_code, 3, some .int), pw_o29),
  ((⟨"BoundWalks", "agree", "(IIIIII)I"⟩, prog_1_method_8_code, 7, some .int), pw_o30),
  ((⟨"BoundWalks", "owner", "(III)I"⟩, prog_1_method_9_code, 4, some .int), pw_o31),
  ((⟨"BoundWalks", "quarrel", "(I)I"⟩, prog_1_method_10_code, 4, some .int), pw_o32),
  ((⟨"BoundWalks", "years", "(I)I"⟩, prog_1_method_11_code, 2, some .int), pw_o33),
  ((⟨"BoundWalks", "stone", "(II)I"⟩, prog_1_method_12_code, 3, some .int), pw_o34),
  ((⟨"BoundWalks", "moved", "(IIII)I"⟩, prog_1_method_13_code, 5, some .int), pw_o35),
  ((⟨"BoundWalks", "lost", "(II)I"⟩, prog_1_method_14_code, 3, some .int), pw_o36),
  ((⟨"BoundWalks", "where", "(III)I"⟩, prog_1_method_15_code, 4, some .int), pw_o37),
  ((⟨"BoundWalks", "witness", "(I)I"⟩, prog_1_method_16_code, 2, some .int), pw_o38),
  ((⟨"BoundWalks", "remember", "(II)I"⟩, prog_1_method_17_code, 7, some .int), pw_o39),
  ((⟨"BoundWalks", "house", "(IIIIIIII)I"⟩, prog_1_method_18_code, 11, some .int), pw_o40),
  ((⟨"BoundWalks", "law", "(III)I"⟩, prog_1_method_19_code, 4, some .int), pw_o41),
  ((⟨"BoundWalks", "whose", "(III)I"⟩, prog_1_method_20_code, 7, some .int), pw_o42),
  ((⟨"BoundWalks", "see", "(I)I"⟩, prog_1_method_21_code, 3, some .int), pw_o43),
  ((⟨"BoundWalks", "gap", "(I)I"⟩, prog_1_method_22_code, 3, some .int), pw_o44),
  ((⟨"BoundWalks", "due", "()I"⟩, prog_1_method_23_code, 3, some .int), pw_o45),
  ((⟨"BoundWalks", "round", "(II)I"⟩, prog_1_method_24_code, 5, some .int), pw_o46),
  ((⟨"BoundWalks", "count", "(I)I"⟩, prog_1_method_25_code, 2, some .int), pw_o47),
  ((⟨"BoundWalks", "between", "(III)Z"⟩, prog_1_method_26_code, 3, some .boolean), pw_o48),
  ((⟨"BoundWalks", "isPoint", "(II)Z"⟩, prog_1_method_27_code, 2, some .boolean), pw_o49),
  ((⟨"BoundWalks", "isField", "(II)Z"⟩, prog_1_method_28_code, 2, some .boolean), pw_o50),
  ((⟨"BoundWalks", "isYear", "(I)Z"⟩, prog_1_method_29_code, 1, some .boolean), pw_o51),
  ((⟨"BoundWalks", "isParish", "(I)Z"⟩, prog_1_method_30_code, 2, some .boolean), pw_o52),
  ((⟨"BoundWalks", "isStone", "(I)Z"⟩, prog_1_method_31_code, 2, some .boolean), pw_o53),
  ((⟨"BoundWalks", "pointNumber", "(II)I"⟩, prog_1_method_32_code, 2, some .int), pw_o54),
  ((⟨"BoundWalks", "fieldNumber", "(II)I"⟩, prog_1_method_33_code, 2, some .int), pw_o55),
  ((⟨"BoundWalks", "walkOf", "(I)LBoundWalks$Walk;"⟩, prog_1_method_34_code, 2, some (.object "BoundWalks$Walk")), pw_o56),
  ((⟨"BoundWalks", "houseOf", "(I)LBoundWalks$House;"⟩, prog_1_method_35_code, 2, some (.object "BoundWalks$House")), pw_o57),
  ((⟨"BoundWalks", "claimsOf", "(I)I"⟩, prog_1_method_36_code, 5, some .int), pw_o58),
  ((⟨"BoundWalks", "ownerOf", "(II)I"⟩, prog_1_method_37_code, 3, some .int), pw_o59),
  ((⟨"BoundWalks", "onlyParish", "(I)I"⟩, prog_1_method_38_code, 2, some .int), pw_o60),
  ((⟨"BoundWalks", "ownerOfMost", "(LBoundWalks$House;I)I"⟩, prog_1_method_39_code, 6, some .int), pw_o61),
  ((⟨"BoundWalks", "canHappen", "(II)Z"⟩, prog_1_method_40_code, 3, some .boolean), pw_o62),
  ((⟨"BoundWalks", "tell", "(III)I"⟩, prog_1_method_41_code, 4, some .int), pw_o63),
  ((⟨"BoundWalks", "isLostNow", "(I)Z"⟩, prog_1_method_42_code, 2, some .boolean), pw_o64),
  ((⟨"BoundWalks", "gatherForRound", "()I"⟩, prog_1_method_43_code, 3, some .int), pw_o65),
  ((⟨"BoundWalks", "seeOldest", "(III)V"⟩, prog_1_method_44_code, 7, none), pw_o66),
  ((⟨"BoundWalks", "someUnseen", "(II)Z"⟩, prog_1_method_45_code, 4, some .boolean), pw_o67),
  ((⟨"BoundWalksModel", "<init>", "()V"⟩, prog_6_method_1_code, 1, none), pw_o68),
  ((⟨"BoundWalksModel", "in", "(III)Z"⟩, prog_6_method_2_code, 3, some .boolean), pw_o69),
  ((⟨"BoundWalksModel", "isPoint", "(II)Z"⟩, prog_6_method_3_code, 2, some .boolean), pw_o70),
  ((⟨"BoundWalksModel", "isField", "(II)Z"⟩, prog_6_method_4_code, 2, some .boolean), pw_o71),
  ((⟨"BoundWalksModel", "isYear", "(I)Z"⟩, prog_6_method_5_code, 1, some .boolean), pw_o72),
  ((⟨"BoundWalksModel", "isParish", "(I)Z"⟩, prog_6_method_6_code, 2, some .boolean), pw_o73),
  ((⟨"BoundWalksModel", "parish", "(II)I"⟩, prog_6_method_7_code, 3, some .int), pw_o74),
  ((⟨"BoundWalksModel", "leg", "(IIII)I"⟩, prog_6_method_8_code, 6, some .int), pw_o75),
  ((⟨"BoundWalksModel", "unleg", "(I)I"⟩, prog_6_method_9_code, 2, some .int), pw_o76),
  ((⟨"BoundWalksModel", "leastFrom", "(III)I"⟩, prog_6_method_10_code, 7, some .int), pw_o77),
  ((⟨"BoundWalksModel", "mostFrom", "(III)I"⟩, prog_6_method_11_code, 7, some .int), pw_o78),
  ((⟨"BoundWalksModel", "findLengths", "(I)Z"⟩, prog_6_method_12_code, 8, some .boolean), pw_o79),
  ((⟨"BoundWalksModel", "length", "(II)I"⟩, prog_6_method_13_code, 3, some .int), pw_o80),
  ((⟨"BoundWalksModel", "layRing", "(I)Z"⟩, prog_6_method_14_code, 10, some .boolean), pw_o81),
  ((⟨"BoundWalksModel", "layInside", "(I)I"⟩, prog_6_method_15_code, 6, some .int), pw_o82),
  ((⟨"BoundWalksModel", "area", "(I)I"⟩, prog_6_method_16_code, 2, some .int), pw_o83),
  ((⟨"BoundWalksModel", "layClaims", "()V"⟩, prog_6_method_17_code, 2, none), pw_o84),
  ((⟨"BoundWalksModel", "claims", "(II)I"⟩, prog_6_method_18_code, 3, some .int), pw_o85),
  ((⟨"BoundWalksModel", "agree", "(IIIIII)I"⟩, prog_6_method_19_code, 7, some .int), pw_o86),
  ((⟨"BoundWalksModel", "ownerOf", "(II)I"⟩, prog_6_method_20_code, 5, some .int), pw_o87),
  ((⟨"BoundWalksModel", "owner", "(III)I"⟩, prog_6_method_21_code, 4, some .int), pw_o88),
  ((⟨"BoundWalksModel", "ones", "(I)I"⟩, prog_6_method_22_code, 3, some .int), pw_o89),
  ((⟨"BoundWalksModel", "quarrel", "(I)I"⟩, prog_6_method_23_code, 4, some .int), pw_o90),
  ((⟨"BoundWalksModel", "years", "(I)I"⟩, prog_6_method_24_code, 2, some .int), pw_o91),
  ((⟨"BoundWalksModel", "isStone", "(I)Z"⟩, prog_6_method_25_code, 2, some .boolean), pw_o92),
  ((⟨"BoundWalksModel", "stone", "(II)I"⟩, prog_6_method_26_code, 3, some .int), pw_o93),
  ((⟨"BoundWalksModel", "tell", "(III)I"⟩, prog_6_method_27_code, 4, some .int), pw_o94),
  ((⟨"BoundWalksModel", "mayTell", "(II)Z"⟩, prog_6_method_28_code, 3, some .boolean), pw_o95),
  ((⟨"BoundWalksModel", "moved", "(IIII)I"⟩, prog_6_method_29_code, 5, some .int), pw_o96),
  ((⟨"BoundWalksModel", "lost", "(II)I"⟩, prog_6_method_30_code, 3, some .int), pw_o97),
  ((⟨"BoundWalksModel", "whereOf", "(III)I"⟩, prog_6_method_31_code, 6, some .int), pw_o98),
  ((⟨"BoundWalksModel", "where", "(III)I"⟩, prog_6_method_32_code, 4, some .int), pw_o99),
  ((⟨"BoundWalksModel", "witness", "(I)I"⟩, prog_6_method_33_code, 2, some .int), pw_o100),
  ((⟨"BoundWalksModel", "remember", "(II)I"⟩, prog_6_method_34_code, 5, some .int), pw_o101),
  ((⟨"BoundWalksModel", "house", "(IIIIIIII)I"⟩, prog_6_method_35_code, 9, some .int), pw_o102),
  ((⟨"BoundWalksModel", "law", "(III)I"⟩, prog_6_method_36_code, 4, some .int), pw_o103),
  ((⟨"BoundWalksModel", "byOf", "(II)I"⟩, prog_6_method_37_code, 5, some .int), pw_o104),
  ((⟨"BoundWalksModel", "greaterPart", "(II)I"⟩, prog_6_method_38_code, 6, some .int), pw_o105),
  ((⟨"BoundWalksModel", "whose", "(III)I"⟩, prog_6_method_39_code, 6, some .int), pw_o106),
  ((⟨"BoundWalksModel", "isLost", "(I)Z"⟩, prog_6_method_40_code, 2, some .boolean), pw_o107),
  ((⟨"BoundWalksModel", "see", "(I)I"⟩, prog_6_method_41_code, 3, some .int), pw_o108),
  ((⟨"BoundWalksModel", "gap", "(I)I"⟩, prog_6_method_42_code, 3, some .int), pw_o109),
  ((⟨"BoundWalksModel", "due", "()I"⟩, prog_6_method_43_code, 3, some .int), pw_o110),
  ((⟨"BoundWalksModel", "longestAgo", "(I)I"⟩, prog_6_method_44_code, 4, some .int), pw_o111),
  ((⟨"BoundWalksModel", "round", "(II)I"⟩, prog_6_method_45_code, 6, some .int), pw_o112),
  ((⟨"BoundWalksModel", "count", "(I)I"⟩, prog_6_method_46_code, 2, some .int), pw_o113),
  ((⟨"java/lang/Integer", "bitCount", "(I)I"⟩, prog_7_method_49_code, 1, some .int), pw_o114)]
end
section
abbrev pw_C : Type := (Nat × Nat × (Nat → Int32)) ⊕ ((Nat × Nat × (Nat → Option Nat)) ⊕ (Nat × List pw_V))
abbrev pw_H : Type := List pw_C
abbrev pw_L : Type := List (Option pw_V)
def pw_look : List (Nat × pw_O) → Nat → Option pw_O
  | [], _ => none
  | e :: l, pc => match Nat.beq e.1 pc with
    | true => some e.2
    | false => pw_look l pc
def pw_op (M pc : Nat) : Option pw_O := match pw_ms[M]? with
  | some m => pw_look m.2 pc
  | none => none
def pw_inf (M : Nat) : pw_I := match pw_ms[M]? with
  | some m => m.1
  | none => (⟨"", "", ""⟩, ⟨#[]⟩, 0, none)
def pw_inb (i : Int32) (n : Nat) : Bool := decide (0 ≤ i.toInt) && decide (i.toInt < n)
def pw_cond (c : ClassFile.Cond) (x y : Int32) : Bool := match c with
  | .eq => decide (x = y)
  | .ne => !decide (x = y)
  | .lt => decide (x < y)
  | .ge => decide (y ≤ x)
  | .gt => decide (y < x)
  | .le => decide (x ≤ y)
def pw_bit (x : Int32) : Bool := decide (x = 0) || decide (x = 1)
def pw_kind (k : Nat) (v : pw_V) : Bool := match k, v with
  | 0, .inl _ => true
  | 1, .inl x => pw_bit x
  | 2, .inr _ => true
  | _, _ => false
def pw_sz (c : pw_C) : Nat := match c with
  | .inl (_, n, _) => n
  | .inr (.inl (_, n, _)) => n
  | .inr (.inr (_, fs)) => fs.length
def pw_size (h : pw_H) : Nat := (h.map pw_sz).sum
abbrev pw_S : Type := Nat × pw_L × List pw_V × pw_H
/-- an instruction that is no call and no return -/
def pw_step (o : pw_O) (L : pw_L) (st : List pw_V) (h : pw_H) : Option pw_S := match o with
  | (i, np, t, q) => match i with
    | .iconst z => some (np, L, .inl (Int32.ofInt z) :: st, h)
    | .bipush z => some (np, L, .inl (Int8.ofInt z).toInt32 :: st, h)
    | .sipush z => some (np, L, .inl (Int16.ofInt z).toInt32 :: st, h)
    | .ldc_w _ => some (np, L, .inl (Int32.ofNat t) :: st, h)
    | .aconst_null => some (np, L, .inr none :: st, h)
    | .iload k => match L[k]? with
      | some (some (.inl x)) => some (np, L, .inl x :: st, h)
      | _ => none
    | .iload_n k => match L[k.val]? with
      | some (some (.inl x)) => some (np, L, .inl x :: st, h)
      | _ => none
    | .aload k => match L[k]? with
      | some (some (.inr x)) => some (np, L, .inr x :: st, h)
      | _ => none
    | .aload_n k => match L[k.val]? with
      | some (some (.inr x)) => some (np, L, .inr x :: st, h)
      | _ => none
    | .istore k => match st with
      | .inl x :: st => if k < L.length then some (np, L.set k (some (.inl x)), st, h) else none
      | _ => none
    | .istore_n k => match st with
      | .inl x :: st => if k.val < L.length then some (np, L.set k.val (some (.inl x)), st, h) else none
      | _ => none
    | .astore k => match st with
      | .inr x :: st => if k < L.length then some (np, L.set k (some (.inr x)), st, h) else none
      | _ => none
    | .astore_n k => match st with
      | .inr x :: st => if k.val < L.length then some (np, L.set k.val (some (.inr x)), st, h) else none
      | _ => none
    | .iinc k z => match L[k]? with
      | some (some (.inl x)) => some (np, L.set k (some (.inl (x + Int32.ofInt z))), st, h)
      | _ => none
    | .iadd => match st with
      | .inl y :: .inl x :: st => some (np, L, .inl (x + y) :: st, h)
      | _ => none
    | .isub => match st with
      | .inl y :: .inl x :: st => some (np, L, .inl (x - y) :: st, h)
      | _ => none
    | .imul => match st with
      | .inl y :: .inl x :: st => some (np, L, .inl (x * y) :: st, h)
      | _ => none
    | .iand => match st with
      | .inl y :: .inl x :: st => some (np, L, .inl (x &&& y) :: st, h)
      | _ => none
    | .ior => match st with
      | .inl y :: .inl x :: st => some (np, L, .inl (x ||| y) :: st, h)
      | _ => none
    | .ixor => match st with
      | .inl y :: .inl x :: st => some (np, L, .inl (x ^^^ y) :: st, h)
      | _ => none
    | .ishl => match st with
      | .inl y :: .inl x :: st => some (np, L, .inl (x <<< (y &&& 31)) :: st, h)
      | _ => none
    | .ishr => match st with
      | .inl y :: .inl x :: st => some (np, L, .inl (x >>> (y &&& 31)) :: st, h)
      | _ => none
    | .iushr => match st with
      | .inl y :: .inl x :: st => some (np, L, .inl (x.toUInt32 >>> (y.toUInt32 &&& Int32.toUInt32 31)).toInt32 :: st, h)
      | _ => none
    | .idiv => match st with
      | .inl y :: .inl x :: st => if y = 0 then none else some (np, L, .inl (x / y) :: st, h)
      | _ => none
    | .irem => match st with
      | .inl y :: .inl x :: st => if y = 0 then none else some (np, L, .inl (x - x / y * y) :: st, h)
      | _ => none
    | .ineg => match st with
      | .inl x :: st => some (np, L, .inl (-x) :: st, h)
      | _ => none
    | .dup => match st with
      | v :: st => some (np, L, v :: v :: st, h)
      | _ => none
    | .dup_x1 => match st with
      | v :: w :: st => some (np, L, v :: w :: v :: st, h)
      | _ => none
    | .dup2 => match st with
      | v :: w :: st => some (np, L, v :: w :: v :: w :: st, h)
      | _ => none
    | .pop => match st with
      | _ :: st => some (np, L, st, h)
      | _ => none
    | .ifCond c _ => match st with
      | .inl x :: st => some (bif pw_cond c x 0 then t else np, L, st, h)
      | _ => none
    | .if_icmp c _ => match st with
      | .inl y :: .inl x :: st => some (bif pw_cond c x y then t else np, L, st, h)
      | _ => none
    | .ifnull _ => match st with
      | .inr none :: st => some (t, L, st, h)
      | .inr (some _) :: st => some (np, L, st, h)
      | _ => none
    | .ifnonnull _ => match st with
      | .inr none :: st => some (np, L, st, h)
      | .inr (some _) :: st => some (t, L, st, h)
      | _ => none
    | .goto _ => some (t, L, st, h)
    | .tableswitch _ lo hi _ => match st with
      | .inl x :: st => if x.toInt < lo ∨ hi < x.toInt then some (t, L, st, h) else match q[(x.toInt - lo).toNat]? with
        | some u => some (u, L, st, h)
        | none => none
      | _ => none
    | .getfield _ => match st, q with
      | .inr (some a) :: st, k :: _ => match h[a]? with
        | some (.inr (.inr (c, fs))) => if c = t then match fs[k]? with
          | some v => some (np, L, v :: st, h)
          | none => none else none
        | _ => none
      | _, _ => none
    | .putfield _ => match st, q with
      | v :: .inr (some a) :: st, k :: kd :: _ => match h[a]? with
        | some (.inr (.inr (c, fs))) => if c = t ∧ k < fs.length ∧ pw_kind kd v = true then some (np, L, st, h.set a (.inr (.inr (c, fs.set k v)))) else none
        | _ => none
      | _, _ => none
    | .iaload => match st with
      | .inl i :: .inr (some a) :: st => match h[a]? with
        | some (.inl (g, n, f)) => if g ≠ 1 ∧ pw_inb i n = true then some (np, L, .inl (f i.toNatClampNeg) :: st, h) else none
        | _ => none
      | _ => none
    | .baload => match st with
      | .inl i :: .inr (some a) :: st => match h[a]? with
        | some (.inl (g, n, f)) => if g = 1 ∧ pw_inb i n = true then some (np, L, .inl (f i.toNatClampNeg) :: st, h) else none
        | _ => none
      | _ => none
    | .iastore => match st with
      | .inl x :: .inl i :: .inr (some a) :: st => match h[a]? with
        | some (.inl (g, n, f)) => if g = 0 ∧ pw_inb i n = true then some (np, L, st, h.set a (.inl (g, n, upd f i.toNatClampNeg x))) else none
        | _ => none
      | _ => none
    | .bastore => match st with
      | .inl x :: .inl i :: .inr (some a) :: st => match h[a]? with
        | some (.inl (g, n, f)) => if g = 1 ∧ pw_inb i n = true ∧ pw_bit x = true then some (np, L, st, h.set a (.inl (g, n, upd f i.toNatClampNeg x))) else none
        | _ => none
      | _ => none
    | .aaload => match st with
      | .inl i :: .inr (some a) :: st => match h[a]? with
        | some (.inr (.inl (g, n, f))) => if pw_inb i n = true then some (np, L, .inr (f i.toNatClampNeg) :: st, h) else none
        | _ => none
      | _ => none
    | .aastore => match st with
      | .inr (some v) :: .inl i :: .inr (some a) :: st => match h[a]?, h[v]? with
        | some (.inr (.inl (g, n, f))), some (.inr (.inr (c, _))) => if c = g ∧ pw_inb i n = true then some (np, L, st, h.set a (.inr (.inl (g, n, va_up f i.toNatClampNeg (some v))))) else none
        | _, _ => none
      | _ => none
    | .arraylength => match st with
      | .inr (some a) :: st => match h[a]? with
        | some (.inl (_, n, _)) => some (np, L, .inl (Int32.ofNat n) :: st, h)
        | _ => none
      | _ => none
    | .newarray _ => match st with
      | .inl n :: st => if 0 ≤ n.toInt ∧ n.toInt ≤ 100000 then some (np, L, .inr (some h.length) :: st, h ++ [.inl (t, n.toNatClampNeg, fun _ => 0)]) else none
      | _ => none
    | .anewarray _ => match st with
      | .inl n :: st => if 0 ≤ n.toInt ∧ n.toInt ≤ 100000 then some (np, L, .inr (some h.length) :: st, h ++ [.inr (.inl (t, n.toNatClampNeg, fun _ => none))]) else none
      | _ => none
    | .new _ => some (np, L, .inr (some h.length) :: st, h ++ [.inr (.inr (t, pw_def t))])
    | _ => none
def pw_ent (M : Nat) (as : List pw_V) : pw_L := as.map some ++ List.replicate ((pw_inf M).2.2.1 - as.length) none
/-- what a return answers -/
def pw_ret (M : Nat) (i : Instr) (st : List pw_V) : Option (Option pw_V) := match i, st with
  | .ireturn, [.inl v] => if (pw_inf M).2.2.2 = some .int ∨ ((pw_inf M).2.2.2 = some .boolean ∧ pw_bit v = true) then some (some (.inl v)) else none
  | .areturn, [.inr v] => match (pw_inf M).2.2.2 with
    | some (.object _) => some (some (.inr v))
    | _ => none
  | .return_, [] => if (pw_inf M).2.2.2 = none then some none else none
  | _, _ => none
/-- the arguments of a call, and what lies below them -/
def pw_args (i : Instr) (q : List Nat) (st : List pw_V) (h : pw_H) : Option (List pw_V × List pw_V) := match q with
  | n :: k :: _ => if n ≤ st.length ∧ st.length ≤ n + 9 then (match i with
    | .invokestatic _ => some ((st.take n).reverse, st.drop n)
    | _ => match st.drop n with
      | .inr (some a) :: rest => (match h[a]? with
        | some (.inr (.inr (c, _))) => if c = k then some (.inr (some a) :: (st.take n).reverse, rest) else none
        | _ => none)
      | _ => none) else none
  | _ => none
def pw_isCall (i : Instr) : Bool := match i with
  | .invokestatic _ => true
  | .invokevirtual _ => true
  | .invokespecial _ => true
  | _ => false
def pw_isRet (i : Instr) : Bool := match i with
  | .ireturn => true
  | .areturn => true
  | .return_ => true
  | _ => false
def pw_run : Nat → Nat → Nat → Nat → pw_L → List pw_V → pw_H → Option (Option pw_V × pw_H)
  | 0, _, _, _, _, _, _ => none
  | n + 1, d, M, pc, L, st, h => match pw_op M pc with
    | none => none
    | some o => bif pw_isRet o.1 then (match pw_ret M o.1 st with
        | some r => some (r, h)
        | none => none)
      else bif pw_isCall o.1 then (match d with
        | 0 => none
        | d + 1 => match o.2.2.2 with
          | [_] => (match st with
            | .inr (some _) :: st => if st.length ≤ 8 then pw_run n (d + 1) M o.2.1 L st h else none
            | _ => none)
          | [_, k] => (match st with
            | .inl y :: .inl x :: st => if st.length ≤ 8 then pw_run n (d + 1) M o.2.1 L (.inl (if k = 0 then (if x < y then y else x) else (if y < x then y else x)) :: st) h else none
            | _ => none)
          | q => match pw_args o.1 q st h with
            | none => none
            | some (as, rest) => if as.length ≤ (pw_inf o.2.2.1).2.2.1 then (match pw_run n d o.2.2.1 0 (pw_ent o.2.2.1 as) [] h with
              | none => none
              | some (r, h') => pw_run n (d + 1) M o.2.1 L (r.toList ++ rest) h') else none)
      else match pw_step o L st h with
        | none => none
        | some (pc', L', st', h') => pw_run n d M pc' L' st' h'
end
section
def pw_has (i : Nat) (w : Cond) : Bool := decide (lw_tbl[i]? = some w) && goodWord w
def pw_ilen (i : Instr) : Nat := match i with
  | .bipush _ => 2
  | .sipush _ => 3
  | .ldc_w _ => 3
  | .iload _ => 2
  | .aload _ => 2
  | .istore _ => 2
  | .astore _ => 2
  | .iinc _ _ => 3
  | .ifCond _ _ => 3
  | .if_icmp _ _ => 3
  | .ifnull _ => 3
  | .ifnonnull _ => 3
  | .goto _ => 3
  | .getfield _ => 3
  | .putfield _ => 3
  | .new _ => 3
  | .newarray _ => 2
  | .anewarray _ => 3
  | .invokevirtual _ => 3
  | .invokespecial _ => 3
  | .invokestatic _ => 3
  | _ => 1
def pw_okW (own : String) (idx : Nat) (t : Nat) (n : Nat) (w1 w4 w5 : Nat) (nest : Bool) : Bool :=
  let y := (pw_inf t).1
  (bif nest then decide (lw_tbl[w1]? = some (.methodLinkNest own idx y "BoundWalks")) else pw_has w1 (.methodLink own idx y)) &&
  pw_has w4 (.initialized y.cls) &&
  decide (y.cls ≠ "java/lang/invoke/MethodHandle") && decide (y.cls ≠ "java/lang/invoke/VarHandle") &&
  decide ((parseMethodDescriptor y.desc).map (fun d => d.parameters.length) = some n) && decide ((pw_inf t).2.2.1 ≤ 17) && plainName y.cls
def pw_okI (inf : pw_I) (pc : Nat) (i : Instr) (t : Nat) (q : List Nat) : Bool := match i with
  | .ifCond _ off => decide ((pc : Int) + off = (t : Int))
  | .if_icmp _ off => decide ((pc : Int) + off = (t : Int))
  | .ifnull off => decide ((pc : Int) + off = (t : Int))
  | .ifnonnull off => decide ((pc : Int) + off = (t : Int))
  | .goto off => decide ((pc : Int) + off = (t : Int))
  | .tableswitch dflt _ _ offs => decide ((pc : Int) + dflt = (t : Int)) && decide (q.length = offs.size) && decide (q.map (fun u : Nat => some ((u : Int) - (pc : Int))) = (List.range q.length).map (fun j => offs[j]?))
  | .getfield idx => match pw_cl[t]?, q with
    | some c, [k, w, z] => decide (k < c.2.2) && decide ((c.2.1 k).1 = c.1) && (match z with
      | 0 => pw_has w (.fieldLink inf.1.cls idx c.1 (c.2.1 k).2.1 (c.2.1 k).2.2.1)
      | _ => decide (lw_tbl[w]? = some (.fieldLinkNest inf.1.cls idx c.1 (c.2.1 k).2.1 (c.2.1 k).2.2.1 "BoundWalks")))
    | _, _ => false
  | .putfield idx => match pw_cl[t]?, q with
    | some c, [k, kd, w, z] => decide (k < c.2.2) && decide ((c.2.1 k).1 = c.1) && pw_has w (.fieldLink inf.1.cls idx c.1 (c.2.1 k).2.1 (c.2.1 k).2.2.1) && (match z with
      | 0 => !(c.2.1 k).2.2.2
      | _ => (c.2.1 k).2.2.2 && decide (inf.1.name = "<init>") && decide (c.1 = inf.1.cls)) && (match kd, pw_tyf t k with
      | 0, .int => true
      | 1, .boolean => true
      | 2, .object _ => true
      | 2, .array _ => true
      | _, _ => false)
    | _, _ => false
  | .new idx => match pw_cl[t]?, q with
    | some c, [w1, w2, w3] => pw_has w1 (.classLink inf.1.cls idx c.1) && pw_has w2 (.instantiable c.1 c.2.2) && pw_has w3 (.initialized c.1)
    | _, _ => false
  | .newarray ty => match q with
    | [w] => (match t with
      | 0 => decide (ty = .int)
      | 1 => decide (ty = .boolean)
      | _ => false) && pw_has w (.arrayClass (newarray.typeOf ty))
    | _ => false
  | .anewarray idx => match pw_cl[t]?, q with
    | some c, [w] => (decide (t = 0) || decide (t = 2)) && pw_has w (.classLink inf.1.cls idx c.1)
    | _, _ => false
  | .ldc_w idx => match q with
    | [w] => pw_has w (.constant inf.1.cls idx (Int32.ofNat t))
    | _ => false
  | .invokevirtual idx => match q with
    | [n, k, w1, w2, w3, w4, w5] => pw_okW inf.1.cls idx t n w1 w4 w5 false && pw_has w2 (.instanceMethod (pw_inf t).1) && pw_has w3 (.selects (pw_inf t).1.cls (pw_inf t).1 (pw_inf t).1) && decide (pw_cl[k]?.map (fun c => c.1) = some (pw_inf t).1.cls)
    | _ => false
  | .invokespecial idx => match q with
    | [w] => pw_has w (.methodLink inf.1.cls idx Lib.objectInit)
    | [n, k, w1, w2, _, w4, w5] => pw_okW inf.1.cls idx t n w1 w4 w5 false && pw_has w2 (.instanceMethod (pw_inf t).1) && decide ((pw_inf t).1.name = "<init>") && decide ((pw_inf t).2.2.2 = none)
    | _ => false
  | .invokestatic idx => match q with
    | [w, k] => (match k with
      | 0 => pw_has w (.methodLink inf.1.cls idx Lib.Math.max.name)
      | 1 => pw_has w (.methodLink inf.1.cls idx Lib.Math.min.name)
      | _ => false)
    | [n, z, w1, w2, _, w4, w5] => pw_okW inf.1.cls idx t n w1 w4 w5 (match z with
      | 0 => false
      | _ => true) && pw_has w2 (.static (pw_inf t).1)
    | _ => false
  | _ => true
def pw_ok (inf : pw_I) (e : Nat × pw_O) : Bool := (match decode inf.2.1 e.1 with
  | .ok (j, len) => decide (j = e.2.1) && decide (e.2.2.1 = e.1 + len) && (match e.2.1 with
    | .tableswitch _ _ _ _ => true
    | i => decide (len = pw_ilen i))
  | _ => false) && pw_okI inf e.1 e.2.1 e.2.2.2.1 e.2.2.2.2
def pw_okm (m : pw_I × List (Nat × pw_O)) : Bool := m.2.all (pw_ok m.1)
theorem pw_all2 {α : Type} {p : α → Bool} {a b : List α} (ha : a.all p = true) (hb : b.all p = true) : (a ++ b).all p = true := by rw [List.all_append, ha, hb]; rfl
theorem pw_ck_0_0 : pw_o0_0.all (pw_ok (pw_inf 0)) = true := by decide +kernel
theorem pw_ck_0_1 : pw_o0_1.all (pw_ok (pw_inf 0)) = true := by decide +kernel
theorem pw_ck_0_2 : pw_o0_2.all (pw_ok (pw_inf 0)) = true := by decide +kernel
theorem pw_ck_0_3 : pw_o0_3.all (pw_ok (pw_inf 0)) = true := by decide +kernel
theorem pw_ck_0_4 : pw_o0_4.all (pw_ok (pw_inf 0)) = true := by decide +kernel
theorem pw_ck_0_5 : pw_o0_5.all (pw_ok (pw_inf 0)) = true := by decide +kernel
theorem pw_ck_0_6 : pw_o0_6.all (pw_ok (pw_inf 0)) = true := by decide +kernel
theorem pw_ck_0_7 : pw_o0_7.all (pw_ok (pw_inf 0)) = true := by decide +kernel
theorem pw_ck_0_8 : pw_o0_8.all (pw_ok (pw_inf 0)) = true := by decide +kernel
theorem pw_ck_0_9 : pw_o0_9.all (pw_ok (pw_inf 0)) = true := by decide +kernel
theorem pw_ck_0_10 : pw_o0_10.all (pw_ok (pw_inf 0)) = true := by decide +kernel
theorem pw_ck_0_11 : pw_o0_11.all (pw_ok (pw_inf 0)) = true := by decide +kernel
theorem pw_ck_0_12 : pw_o0_12.all (pw_ok (pw_inf 0)) = true := by decide +kernel
theorem pw_ck_0_13 : pw_o0_13.all (pw_ok (pw_inf 0)) = true := by decide +kernel
theorem pw_ck_0_14 : pw_o0_14.all (pw_ok (pw_inf 0)) = true := by decide +kernel
theorem pw_ck_0_15 : pw_o0_15.all (pw_ok (pw_inf 0)) = true := by decide +kernel
theorem pw_ck_0 : pw_o0.all (pw_ok (pw_inf 0)) = true := (pw_all2 pw_ck_0_0 (pw_all2 pw_ck_0_1 (pw_all2 pw_ck_0_2 (pw_all2 pw_ck_0_3 (pw_all2 pw_ck_0_4 (pw_all2 pw_ck_0_5 (pw_all2 pw_ck_0_6 (pw_all2 pw_ck_0_7 (pw_all2 pw_ck_0_8 (pw_all2 pw_ck_0_9 (pw_all2 pw_ck_0_10 (pw_all2 pw_ck_0_11 (pw_all2 pw_ck_0_12 (pw_all2 pw_ck_0_13 (pw_all2 pw_ck_0_14 pw_ck_0_15)))))))))))))))
theorem pw_ck_1 : pw_o1.all (pw_ok (pw_inf 1)) = true := by decide +kernel
theorem pw_ck_2 : pw_o2.all (pw_ok (pw_inf 2)) = true := by decide +kernel
theorem pw_ck_3 : pw_o3.all (pw_ok (pw_inf 3)) = true := by decide +kernel
theorem pw_ck_4 : pw_o4.all (pw_ok (pw_inf 4)) = true := by decide +kernel
theorem pw_ck_5 : pw_o5.all (pw_ok (pw_inf 5)) = true := by decide +kernel
theorem pw_ck_6 : pw_o6.all (pw_ok (pw_inf 6)) = true := by decide +kernel
theorem pw_ck_7 : pw_o7.all (pw_ok (pw_inf 7)) = true := by decide +kernel
theorem pw_ck_8 : pw_o8.all (pw_ok (pw_inf 8)) = true := by decide +kernel
theorem pw_ck_9 : pw_o9.all (pw_ok (pw_inf 9)) = true := by decide +kernel
theorem pw_ck_10 : pw_o10.all (pw_ok (pw_inf 10)) = true := by decide +kernel
theorem pw_ck_11 : pw_o11.all (pw_ok (pw_inf 11)) = true := by decide +kernel
theorem pw_ck_12 : pw_o12.all (pw_ok (pw_inf 12)) = true := by decide +kernel
theorem pw_ck_13 : pw_o13.all (pw_ok (pw_inf 13)) = true := by decide +kernel
theorem pw_ck_14 : pw_o14.all (pw_ok (pw_inf 14)) = true := by decide +kernel
theorem pw_ck_15 : pw_o15.all (pw_ok (pw_inf 15)) = true := by decide +kernel
theorem pw_ck_16_0 : pw_o16_0.all (pw_ok (pw_inf 16)) = true := by decide +kernel
theorem pw_ck_16_1 : pw_o16_1.all (pw_ok (pw_inf 16)) = true := by decide +kernel
theorem pw_ck_16 : pw_o16.all (pw_ok (pw_inf 16)) = true := (pw_all2 pw_ck_16_0 pw_ck_16_1)
theorem pw_ck_17 : pw_o17.all (pw_ok (pw_inf 17)) = true := by decide +kernel
theorem pw_ck_18 : pw_o18.all (pw_ok (pw_inf 18)) = true := by decide +kernel
theorem pw_ck_19 : pw_o19.all (pw_ok (pw_inf 19)) = true := by decide +kernel
theorem pw_ck_20 : pw_o20.all (pw_ok (pw_inf 20)) = true := by decide +kernel
theorem pw_ck_21 : pw_o21.all (pw_ok (pw_inf 21)) = true := by decide +kernel
theorem pw_ck_22 : pw_o22.all (pw_ok (pw_inf 22)) = true := by decide +kernel
theorem pw_ck_23 : pw_o23.all (pw_ok (pw_inf 23)) = true := by decide +kernel
theorem pw_ck_24 : pw_o24.all (pw_ok (pw_inf 24)) = true := by decide +kernel
theorem pw_ck_25 : pw_o25.all (pw_ok (pw_inf 25)) = true := by decide +kernel
theorem pw_ck_26 : pw_o26.all (pw_ok (pw_inf 26)) = true := by decide +kernel
theorem pw_ck_27 : pw_o27.all (pw_ok (pw_inf 27)) = true := by decide +kernel
theorem pw_ck_28 : pw_o28.all (pw_ok (pw_inf 28)) = true := by decide +kernel
theorem pw_ck_29 : pw_o29.all (pw_ok (pw_inf 29)) = true := by decide +kernel
theorem pw_ck_30 : pw_o30.all (pw_ok (pw_inf 30)) = true := by decide +kernel
theorem pw_ck_31 : pw_o31.all (pw_ok (pw_inf 31)) = true := by decide +kernel
theorem pw_ck_32 : pw_o32.all (pw_ok (pw_inf 32)) = true := by decide +kernel
theorem pw_ck_33 : pw_o33.all (pw_ok (pw_inf 33)) = true := by decide +kernel
theorem pw_ck_34 : pw_o34.all (pw_ok (pw_inf 34)) = true := by decide +kernel
theorem pw_ck_35 : pw_o35.all (pw_ok (pw_inf 35)) = true := by decide +kernel
theorem pw_ck_36 : pw_o36.all (pw_ok (pw_inf 36)) = true := by decide +kernel
theorem pw_ck_37 : pw_o37.all (pw_ok (pw_inf 37)) = true := by decide +kernel
theorem pw_ck_38 : pw_o38.all (pw_ok (pw_inf 38)) = true := by decide +kernel
theorem pw_ck_39 : pw_o39.all (pw_ok (pw_inf 39)) = true := by decide +kernel
theorem pw_ck_40_0 : pw_o40_0.all (pw_ok (pw_inf 40)) = true := by decide +kernel
theorem pw_ck_40_1 : pw_o40_1.all (pw_ok (pw_inf 40)) = true := by decide +kernel
theorem pw_ck_40_2 : pw_o40_2.all (pw_ok (pw_inf 40)) = true := by decide +kernel
theorem pw_ck_40 : pw_o40.all (pw_ok (pw_inf 40)) = true := (pw_all2 pw_ck_40_0 (pw_all2 pw_ck_40_1 pw_ck_40_2))
theorem pw_ck_41 : pw_o41.all (pw_ok (pw_inf 41)) = true := by decide +kernel
theorem pw_ck_42 : pw_o42.all (pw_ok (pw_inf 42)) = true := by decide +kernel
theorem pw_ck_43 : pw_o43.all (pw_ok (pw_inf 43)) = true := by decide +kernel
theorem pw_ck_44 : pw_o44.all (pw_ok (pw_inf 44)) = true := by decide +kernel
theorem pw_ck_45 : pw_o45.all (pw_ok (pw_inf 45)) = true := by decide +kernel
theorem pw_ck_46 : pw_o46.all (pw_ok (pw_inf 46)) = true := by decide +kernel
theorem pw_ck_47 : pw_o47.all (pw_ok (pw_inf 47)) = true := by decide +kernel
theorem pw_ck_48 : pw_o48.all (pw_ok (pw_inf 48)) = true := by decide +kernel
theorem pw_ck_49 : pw_o49.all (pw_ok (pw_inf 49)) = true := by decide +kernel
theorem pw_ck_50 : pw_o50.all (pw_ok (pw_inf 50)) = true := by decide +kernel
theorem pw_ck_51 : pw_o51.all (pw_ok (pw_inf 51)) = true := by decide +kernel
theorem pw_ck_52 : pw_o52.all (pw_ok (pw_inf 52)) = true := by decide +kernel
theorem pw_ck_53 : pw_o53.all (pw_ok (pw_inf 53)) = true := by decide +kernel
theorem pw_ck_54 : pw_o54.all (pw_ok (pw_inf 54)) = true := by decide +kernel
theorem pw_ck_55 : pw_o55.all (pw_ok (pw_inf 55)) = true := by decide +kernel
theorem pw_ck_56 : pw_o56.all (pw_ok (pw_inf 56)) = true := by decide +kernel
theorem pw_ck_57 : pw_o57.all (pw_ok (pw_inf 57)) = true := by decide +kernel
theorem pw_ck_58 : pw_o58.all (pw_ok (pw_inf 58)) = true := by decide +kernel
theorem pw_ck_59 : pw_o59.all (pw_ok (pw_inf 59)) = true := by decide +kernel
theorem pw_ck_60 : pw_o60.all (pw_ok (pw_inf 60)) = true := by decide +kernel
end
section
theorem pw_ck_61_0 : pw_o61_0.all (pw_ok (pw_inf 61)) = true := by decide +kernel
theorem pw_ck_61_1 : pw_o61_1.all (pw_ok (pw_inf 61)) = true := by decide +kernel
theorem pw_ck_61 : pw_o61.all (pw_ok (pw_inf 61)) = true := (pw_all2 pw_ck_61_0 pw_ck_61_1)
theorem pw_ck_62 : pw_o62.all (pw_ok (pw_inf 62)) = true := by decide +kernel
theorem pw_ck_63 : pw_o63.all (pw_ok (pw_inf 63)) = true := by decide +kernel
theorem pw_ck_64 : pw_o64.all (pw_ok (pw_inf 64)) = true := by decide +kernel
theorem pw_ck_65 : pw_o65.all (pw_ok (pw_inf 65)) = true := by decide +kernel
theorem pw_ck_66 : pw_o66.all (pw_ok (pw_inf 66)) = true := by decide +kernel
theorem pw_ck_67 : pw_o67.all (pw_ok (pw_inf 67)) = true := by decide +kernel
theorem pw_ck_68_0 : pw_o68_0.all (pw_ok (pw_inf 68)) = true := by decide +kernel
theorem pw_ck_68_1 : pw_o68_1.all (pw_ok (pw_inf 68)) = true := by decide +kernel
theorem pw_ck_68_2 : pw_o68_2.all (pw_ok (pw_inf 68)) = true := by decide +kernel
theorem pw_ck_68 : pw_o68.all (pw_ok (pw_inf 68)) = true := (pw_all2 pw_ck_68_0 (pw_all2 pw_ck_68_1 pw_ck_68_2))
theorem pw_ck_69 : pw_o69.all (pw_ok (pw_inf 69)) = true := by decide +kernel
theorem pw_ck_70 : pw_o70.all (pw_ok (pw_inf 70)) = true := by decide +kernel
theorem pw_ck_71 : pw_o71.all (pw_ok (pw_inf 71)) = true := by decide +kernel
theorem pw_ck_72 : pw_o72.all (pw_ok (pw_inf 72)) = true := by decide +kernel
theorem pw_ck_73 : pw_o73.all (pw_ok (pw_inf 73)) = true := by decide +kernel
theorem pw_ck_74 : pw_o74.all (pw_ok (pw_inf 74)) = true := by decide +kernel
theorem pw_ck_75_0 : pw_o75_0.all (pw_ok (pw_inf 75)) = true := by decide +kernel
theorem pw_ck_75_1 : pw_o75_1.all (pw_ok (pw_inf 75)) = true := by decide +kernel
theorem pw_ck_75 : pw_o75.all (pw_ok (pw_inf 75)) = true := (pw_all2 pw_ck_75_0 pw_ck_75_1)
theorem pw_ck_76 : pw_o76.all (pw_ok (pw_inf 76)) = true := by decide +kernel
theorem pw_ck_77 : pw_o77.all (pw_ok (pw_inf 77)) = true := by decide +kernel
theorem pw_ck_78 : pw_o78.all (pw_ok (pw_inf 78)) = true := by decide +kernel
theorem pw_ck_79_0 : pw_o79_0.all (pw_ok (pw_inf 79)) = true := by decide +kernel
theorem pw_ck_79_1 : pw_o79_1.all (pw_ok (pw_inf 79)) = true := by decide +kernel
theorem pw_ck_79_2 : pw_o79_2.all (pw_ok (pw_inf 79)) = true := by decide +kernel
theorem pw_ck_79 : pw_o79.all (pw_ok (pw_inf 79)) = true := (pw_all2 pw_ck_79_0 (pw_all2 pw_ck_79_1 pw_ck_79_2))
theorem pw_ck_80 : pw_o80.all (pw_ok (pw_inf 80)) = true := by decide +kernel
theorem pw_ck_81_0 : pw_o81_0.all (pw_ok (pw_inf 81)) = true := by decide +kernel
theorem pw_ck_81_1 : pw_o81_1.all (pw_ok (pw_inf 81)) = true := by decide +kernel
theorem pw_ck_81_2 : pw_o81_2.all (pw_ok (pw_inf 81)) = true := by decide +kernel
theorem pw_ck_81 : pw_o81.all (pw_ok (pw_inf 81)) = true := (pw_all2 pw_ck_81_0 (pw_all2 pw_ck_81_1 pw_ck_81_2))
theorem pw_ck_82_0 : pw_o82_0.all (pw_ok (pw_inf 82)) = true := by decide +kernel
theorem pw_ck_82_1 : pw_o82_1.all (pw_ok (pw_inf 82)) = true := by decide +kernel
theorem pw_ck_82 : pw_o82.all (pw_ok (pw_inf 82)) = true := (pw_all2 pw_ck_82_0 pw_ck_82_1)
theorem pw_ck_83 : pw_o83.all (pw_ok (pw_inf 83)) = true := by decide +kernel
theorem pw_ck_84 : pw_o84.all (pw_ok (pw_inf 84)) = true := by decide +kernel
theorem pw_ck_85 : pw_o85.all (pw_ok (pw_inf 85)) = true := by decide +kernel
theorem pw_ck_86_0 : pw_o86_0.all (pw_ok (pw_inf 86)) = true := by decide +kernel
theorem pw_ck_86_1 : pw_o86_1.all (pw_ok (pw_inf 86)) = true := by decide +kernel
theorem pw_ck_86 : pw_o86.all (pw_ok (pw_inf 86)) = true := (pw_all2 pw_ck_86_0 pw_ck_86_1)
theorem pw_ck_87_0 : pw_o87_0.all (pw_ok (pw_inf 87)) = true := by decide +kernel
theorem pw_ck_87_1 : pw_o87_1.all (pw_ok (pw_inf 87)) = true := by decide +kernel
theorem pw_ck_87 : pw_o87.all (pw_ok (pw_inf 87)) = true := (pw_all2 pw_ck_87_0 pw_ck_87_1)
theorem pw_ck_88 : pw_o88.all (pw_ok (pw_inf 88)) = true := by decide +kernel
theorem pw_ck_89 : pw_o89.all (pw_ok (pw_inf 89)) = true := by decide +kernel
theorem pw_ck_90 : pw_o90.all (pw_ok (pw_inf 90)) = true := by decide +kernel
theorem pw_ck_91 : pw_o91.all (pw_ok (pw_inf 91)) = true := by decide +kernel
theorem pw_ck_92 : pw_o92.all (pw_ok (pw_inf 92)) = true := by decide +kernel
theorem pw_ck_93 : pw_o93.all (pw_ok (pw_inf 93)) = true := by decide +kernel
theorem pw_ck_94 : pw_o94.all (pw_ok (pw_inf 94)) = true := by decide +kernel
theorem pw_ck_95 : pw_o95.all (pw_ok (pw_inf 95)) = true := by decide +kernel
theorem pw_ck_96 : pw_o96.all (pw_ok (pw_inf 96)) = true := by decide +kernel
theorem pw_ck_97 : pw_o97.all (pw_ok (pw_inf 97)) = true := by decide +kernel
theorem pw_ck_98_0 : pw_o98_0.all (pw_ok (pw_inf 98)) = true := by decide +kernel
theorem pw_ck_98_1 : pw_o98_1.all (pw_ok (pw_inf 98)) = true := by decide +kernel
theorem pw_ck_98 : pw_o98.all (pw_ok (pw_inf 98)) = true := (pw_all2 pw_ck_98_0 pw_ck_98_1)
theorem pw_ck_99 : pw_o99.all (pw_ok (pw_inf 99)) = true := by decide +kernel
theorem pw_ck_100 : pw_o100.all (pw_ok (pw_inf 100)) = true := by decide +kernel
theorem pw_ck_101 : pw_o101.all (pw_ok (pw_inf 101)) = true := by decide +kernel
theorem pw_ck_102_0 : pw_o102_0.all (pw_ok (pw_inf 102)) = true := by decide +kernel
theorem pw_ck_102_1 : pw_o102_1.all (pw_ok (pw_inf 102)) = true := by decide +kernel
theorem pw_ck_102_2 : pw_o102_2.all (pw_ok (pw_inf 102)) = true := by decide +kernel
theorem pw_ck_102 : pw_o102.all (pw_ok (pw_inf 102)) = true := (pw_all2 pw_ck_102_0 (pw_all2 pw_ck_102_1 pw_ck_102_2))
theorem pw_ck_103 : pw_o103.all (pw_ok (pw_inf 103)) = true := by decide +kernel
theorem pw_ck_104 : pw_o104.all (pw_ok (pw_inf 104)) = true := by decide +kernel
theorem pw_ck_105_0 : pw_o105_0.all (pw_ok (pw_inf 105)) = true := by decide +kernel
theorem pw_ck_105_1 : pw_o105_1.all (pw_ok (pw_inf 105)) = true := by decide +kernel
theorem pw_ck_105_2 : pw_o105_2.all (pw_ok (pw_inf 105)) = true := by decide +kernel
theorem pw_ck_105 : pw_o105.all (pw_ok (pw_inf 105)) = true := (pw_all2 pw_ck_105_0 (pw_all2 pw_ck_105_1 pw_ck_105_2))
theorem pw_ck_106 : pw_o106.all (pw_ok (pw_inf 106)) = true := by decide +kernel
theorem pw_ck_107 : pw_o107.all (pw_ok (pw_inf 107)) = true := by decide +kernel
theorem pw_ck_108 : pw_o108.all (pw_ok (pw_inf 108)) = true := by decide +kernel
theorem pw_ck_109 : pw_o109.all (pw_ok (pw_inf 109)) = true := by decide +kernel
theorem pw_ck_110 : pw_o110.all (pw_ok (pw_inf 110)) = true := by decide +kernel
theorem pw_ck_111 : pw_o111.all (pw_ok (pw_inf 111)) = true := by decide +kernel
theorem pw_ck_112_0 : pw_o112_0.all (pw_ok (pw_inf 112)) = true := by decide +kernel
theorem pw_ck_112_1 : pw_o112_1.all (pw_ok (pw_inf 112)) = true := by decide +kernel
theorem pw_ck_112 : pw_o112.all (pw_ok (pw_inf 112)) = true := (pw_all2 pw_ck_112_0 pw_ck_112_1)
theorem pw_ck_113 : pw_o113.all (pw_ok (pw_inf 113)) = true := by decide +kernel
theorem pw_ck_114 : pw_o114.all (pw_ok (pw_inf 114)) = true := by decide +kernel
end
section
set_option maxRecDepth 20000 in
theorem pw_cw_1 : Cond.code (pw_inf 1).1 (pw_inf 1).2.1 (pw_inf 1).2.2.1 (pw_inf 1).2.2.2 ∈ lw_tbl := List.mem_of_getElem? (i := 379) rfl
set_option maxRecDepth 20000 in
theorem pw_cw_2 : Cond.code (pw_inf 2).1 (pw_inf 2).2.1 (pw_inf 2).2.2.1 (pw_inf 2).2.2.2 ∈ lw_tbl := List.mem_of_getElem? (i := 60) rfl
set_option maxRecDepth 20000 in
theorem pw_cw_3 : Cond.code (pw_inf 3).1 (pw_inf 3).2.1 (pw_inf 3).2.2.1 (pw_inf 3).2.2.2 ∈ lw_tbl := List.mem_of_getElem? (i := 461) rfl
set_option maxRecDepth 20000 in
theorem pw_cw_4 : Cond.code (pw_inf 4).1 (pw_inf 4).2.1 (pw_inf 4).2.2.1 (pw_inf 4).2.2.2 ∈ lw_tbl := List.mem_of_getElem? (i := 303) rfl
set_option maxRecDepth 20000 in
theorem pw_cw_5 : Cond.code (pw_inf 5).1 (pw_inf 5).2.1 (pw_inf 5).2.2.1 (pw_inf 5).2.2.2 ∈ lw_tbl := List.mem_of_getElem? (i := 307) rfl
set_option maxRecDepth 20000 in
theorem pw_cw_6 : Cond.code (pw_inf 6).1 (pw_inf 6).2.1 (pw_inf 6).2.2.1 (pw_inf 6).2.2.2 ∈ lw_tbl := List.mem_of_getElem? (i := 323) rfl
set_option maxRecDepth 20000 in
theorem pw_cw_7 : Cond.code (pw_inf 7).1 (pw_inf 7).2.1 (pw_inf 7).2.2.1 (pw_inf 7).2.2.2 ∈ lw_tbl := List.mem_of_getElem? (i := 149) rfl
set_option maxRecDepth 20000 in
theorem pw_cw_8 : Cond.code (pw_inf 8).1 (pw_inf 8).2.1 (pw_inf 8).2.2.1 (pw_inf 8).2.2.2 ∈ lw_tbl := List.mem_of_getElem? (i := 193) rfl
set_option maxRecDepth 20000 in
theorem pw_cw_9 : Cond.code (pw_inf 9).1 (pw_inf 9).2.1 (pw_inf 9).2.2.1 (pw_inf 9).2.2.2 ∈ lw_tbl := List.mem_of_getElem? (i := 197) rfl
set_option maxRecDepth 20000 in
theorem pw_cw_10 : Cond.code (pw_inf 10).1 (pw_inf 10).2.1 (pw_inf 10).2.2.1 (pw_inf 10).2.2.2 ∈ lw_tbl := List.mem_of_getElem? (i := 247) rfl
set_option maxRecDepth 20000 in
theorem pw_cw_11 : Cond.code (pw_inf 11).1 (pw_inf 11).2.1 (pw_inf 11).2.2.1 (pw_inf 11).2.2.2 ∈ lw_tbl := List.mem_of_getElem? (i := 255) rfl
set_option maxRecDepth 20000 in
theorem pw_cw_12 : Cond.code (pw_inf 12).1 (pw_inf 12).2.1 (pw_inf 12).2.2.1 (pw_inf 12).2.2.2 ∈ lw_tbl := List.mem_of_getElem? (i := 287) rfl
set_option maxRecDepth 20000 in
theorem pw_cw_13 : Cond.code (pw_inf 13).1 (pw_inf 13).2.1 (pw_inf 13).2.2.1 (pw_inf 13).2.2.2 ∈ lw_tbl := List.mem_of_getElem? (i := 263) rfl
set_option maxRecDepth 20000 in
theorem pw_cw_14 : Cond.code (pw_inf 14).1 (pw_inf 14).2.1 (pw_inf 14).2.2.1 (pw_inf 14).2.2.2 ∈ lw_tbl := List.mem_of_getElem? (i := 201) rfl
set_option maxRecDepth 20000 in
theorem pw_cw_15 : Cond.code (pw_inf 15).1 (pw_inf 15).2.1 (pw_inf 15).2.2.1 (pw_inf 15).2.2.2 ∈ lw_tbl := List.mem_of_getElem? (i := 205) rfl
set_option maxRecDepth 20000 in
theorem pw_cw_16 : Cond.code (pw_inf 16).1 (pw_inf 16).2.1 (pw_inf 16).2.2.1 (pw_inf 16).2.2.2 ∈ lw_tbl := List.mem_of_getElem? (i := 213) rfl
set_option maxRecDepth 20000 in
theorem pw_cw_17 : Cond.code (pw_inf 17).1 (pw_inf 17).2.1 (pw_inf 17).2.2.1 (pw_inf 17).2.2.2 ∈ lw_tbl := List.mem_of_getElem? (i := 230) rfl
set_option maxRecDepth 20000 in
theorem pw_cw_18 : Cond.code (pw_inf 18).1 (pw_inf 18).2.1 (pw_inf 18).2.2.1 (pw_inf 18).2.2.2 ∈ lw_tbl := List.mem_of_getElem? (i := 235) rfl
set_option maxRecDepth 20000 in
theorem pw_cw_19 : Cond.code (pw_inf 19).1 (pw_inf 19).2.1 (pw_inf 19).2.2.1 (pw_inf 19).2.2.2 ∈ lw_tbl := List.mem_of_getElem? (i := 209) rfl
set_option maxRecDepth 20000 in
theorem pw_cw_20 : Cond.code (pw_inf 20).1 (pw_inf 20).2.1 (pw_inf 20).2.2.1 (pw_inf 20).2.2.2 ∈ lw_tbl := List.mem_of_getElem? (i := 217) rfl
set_option maxRecDepth 20000 in
theorem pw_cw_21 : Cond.code (pw_inf 21).1 (pw_inf 21).2.1 (pw_inf 21).2.2.1 (pw_inf 21).2.2.2 ∈ lw_tbl := List.mem_of_getElem? (i := 222) rfl
set_option maxRecDepth 20000 in
theorem pw_cw_22 : Cond.code (pw_inf 22).1 (pw_inf 22).2.1 (pw_inf 22).2.2.1 (pw_inf 22).2.2.2 ∈ lw_tbl := List.mem_of_getElem? (i := 226) rfl
set_option maxRecDepth 20000 in
theorem pw_cw_23 : Cond.code (pw_inf 23).1 (pw_inf 23).2.1 (pw_inf 23).2.2.1 (pw_inf 23).2.2.2 ∈ lw_tbl := List.mem_of_getElem? (i := 50) rfl
set_option maxRecDepth 20000 in
theorem pw_cw_24 : Cond.code (pw_inf 24).1 (pw_inf 24).2.1 (pw_inf 24).2.2.1 (pw_inf 24).2.2.2 ∈ lw_tbl := List.mem_of_getElem? (i := 139) rfl
set_option maxRecDepth 20000 in
theorem pw_cw_25 : Cond.code (pw_inf 25).1 (pw_inf 25).2.1 (pw_inf 25).2.2.1 (pw_inf 25).2.2.2 ∈ lw_tbl := List.mem_of_getElem? (i := 185) rfl
set_option maxRecDepth 20000 in
theorem pw_cw_26 : Cond.code (pw_inf 26).1 (pw_inf 26).2.1 (pw_inf 26).2.2.1 (pw_inf 26).2.2.2 ∈ lw_tbl := List.mem_of_getElem? (i := 243) rfl
set_option maxRecDepth 20000 in
theorem pw_cw_27 : Cond.code (pw_inf 27).1 (pw_inf 27).2.1 (pw_inf 27).2.2.1 (pw_inf 27).2.2.2 ∈ lw_tbl := List.mem_of_getElem? (i := 251) rfl
set_option maxRecDepth 20000 in
theorem pw_cw_28 : Cond.code (pw_inf 28).1 (pw_inf 28).2.1 (pw_inf 28).2.2.1 (pw_inf 28).2.2.2 ∈ lw_tbl := List.mem_of_getElem? (i := 259) rfl
set_option maxRecDepth 20000 in
theorem pw_cw_29 : Cond.code (pw_inf 29).1 (pw_inf 29).2.1 (pw_inf 29).2.2.1 (pw_inf 29).2.2.2 ∈ lw_tbl := List.mem_of_getElem? (i := 273) rfl
set_option maxRecDepth 20000 in
theorem pw_cw_30 : Cond.code (pw_inf 30).1 (pw_inf 30).2.1 (pw_inf 30).2.2.1 (pw_inf 30).2.2.2 ∈ lw_tbl := List.mem_of_getElem? (i := 292) rfl
set_option maxRecDepth 20000 in
theorem pw_cw_31 : Cond.code (pw_inf 31).1 (pw_inf 31).2.1 (pw_inf 31).2.2.1 (pw_inf 31).2.2.2 ∈ lw_tbl := List.mem_of_getElem? (i := 312) rfl
set_option maxRecDepth 20000 in
theorem pw_cw_32 : Cond.code (pw_inf 32).1 (pw_inf 32).2.1 (pw_inf 32).2.2.1 (pw_inf 32).2.2.2 ∈ lw_tbl := List.mem_of_getElem? (i := 327) rfl
set_option maxRecDepth 20000 in
theorem pw_cw_33 : Cond.code (pw_inf 33).1 (pw_inf 33).2.1 (pw_inf 33).2.2.1 (pw_inf 33).2.2.2 ∈ lw_tbl := List.mem_of_getElem? (i := 332) rfl
set_option maxRecDepth 20000 in
theorem pw_cw_34 : Cond.code (pw_inf 34).1 (pw_inf 34).2.1 (pw_inf 34).2.2.1 (pw_inf 34).2.2.2 ∈ lw_tbl := List.mem_of_getElem? (i := 336) rfl
set_option maxRecDepth 20000 in
theorem pw_cw_35 : Cond.code (pw_inf 35).1 (pw_inf 35).2.1 (pw_inf 35).2.2.1 (pw_inf 35).2.2.2 ∈ lw_tbl := List.mem_of_getElem? (i := 343) rfl
set_option maxRecDepth 20000 in
theorem pw_cw_36 : Cond.code (pw_inf 36).1 (pw_inf 36).2.1 (pw_inf 36).2.2.1 (pw_inf 36).2.2.2 ∈ lw_tbl := List.mem_of_getElem? (i := 359) rfl
set_option maxRecDepth 20000 in
theorem pw_cw_37 : Cond.code (pw_inf 37).1 (pw_inf 37).2.1 (pw_inf 37).2.2.1 (pw_inf 37).2.2.2 ∈ lw_tbl := List.mem_of_getElem? (i := 363) rfl
set_option maxRecDepth 20000 in
theorem pw_cw_38 : Cond.code (pw_inf 38).1 (pw_inf 38).2.1 (pw_inf 38).2.2.1 (pw_inf 38).2.2.2 ∈ lw_tbl := List.mem_of_getElem? (i := 367) rfl
set_option maxRecDepth 20000 in
theorem pw_cw_39 : Cond.code (pw_inf 39).1 (pw_inf 39).2.1 (pw_inf 39).2.2.1 (pw_inf 39).2.2.2 ∈ lw_tbl := List.mem_of_getElem? (i := 371) rfl
set_option maxRecDepth 20000 in
theorem pw_cw_40 : Cond.code (pw_inf 40).1 (pw_inf 40).2.1 (pw_inf 40).2.2.1 (pw_inf 40).2.2.2 ∈ lw_tbl := List.mem_of_getElem? (i := 375) rfl
set_option maxRecDepth 20000 in
theorem pw_cw_41 : Cond.code (pw_inf 41).1 (pw_inf 41).2.1 (pw_inf 41).2.2.1 (pw_inf 41).2.2.2 ∈ lw_tbl := List.mem_of_getElem? (i := 409) rfl
set_option maxRecDepth 20000 in
theorem pw_cw_42 : Cond.code (pw_inf 42).1 (pw_inf 42).2.1 (pw_inf 42).2.2.1 (pw_inf 42).2.2.2 ∈ lw_tbl := List.mem_of_getElem? (i := 413) rfl
set_option maxRecDepth 20000 in
theorem pw_cw_43 : Cond.code (pw_inf 43).1 (pw_inf 43).2.1 (pw_inf 43).2.2.1 (pw_inf 43).2.2.2 ∈ lw_tbl := List.mem_of_getElem? (i := 425) rfl
set_option maxRecDepth 20000 in
theorem pw_cw_44 : Cond.code (pw_inf 44).1 (pw_inf 44).2.1 (pw_inf 44).2.2.1 (pw_inf 44).2.2.2 ∈ lw_tbl := List.mem_of_getElem? (i := 433) rfl
set_option maxRecDepth 20000 in
theorem pw_cw_45 : Cond.code (pw_inf 45).1 (pw_inf 45).2.1 (pw_inf 45).2.2.1 (pw_inf 45).2.2.2 ∈ lw_tbl := List.mem_of_getElem? (i := 437) rfl
set_option maxRecDepth 20000 in
theorem pw_cw_46 : Cond.code (pw_inf 46).1 (pw_inf 46).2.1 (pw_inf 46).2.2.1 (pw_inf 46).2.2.2 ∈ lw_tbl := List.mem_of_getElem? (i := 441) rfl
set_option maxRecDepth 20000 in
theorem pw_cw_47 : Cond.code (pw_inf 47).1 (pw_inf 47).2.1 (pw_inf 47).2.2.1 (pw_inf 47).2.2.2 ∈ lw_tbl := List.mem_of_getElem? (i := 457) rfl
set_option maxRecDepth 20000 in
theorem pw_cw_48 : Cond.code (pw_inf 48).1 (pw_inf 48).2.1 (pw_inf 48).2.2.1 (pw_inf 48).2.2.2 ∈ lw_tbl := List.mem_of_getElem? (i := 145) rfl
set_option maxRecDepth 20000 in
theorem pw_cw_49 : Cond.code (pw_inf 49).1 (pw_inf 49).2.1 (pw_inf 49).2.2.1 (pw_inf 49).2.2.2 ∈ lw_tbl := List.mem_of_getElem? (i := 142) rfl
set_option maxRecDepth 20000 in
theorem pw_cw_50 : Cond.code (pw_inf 50).1 (pw_inf 50).2.1 (pw_inf 50).2.2.1 (pw_inf 50).2.2.2 ∈ lw_tbl := List.mem_of_getElem? (i := 276) rfl
set_option maxRecDepth 20000 in
theorem pw_cw_51 : Cond.code (pw_inf 51).1 (pw_inf 51).2.1 (pw_inf 51).2.2.1 (pw_inf 51).2.2.2 ∈ lw_tbl := List.mem_of_getElem? (i := 299) rfl
set_option maxRecDepth 20000 in
theorem pw_cw_52 : Cond.code (pw_inf 52).1 (pw_inf 52).2.1 (pw_inf 52).2.2.1 (pw_inf 52).2.2.2 ∈ lw_tbl := List.mem_of_getElem? (i := 296) rfl
set_option maxRecDepth 20000 in
theorem pw_cw_53 : Cond.code (pw_inf 53).1 (pw_inf 53).2.1 (pw_inf 53).2.2.1 (pw_inf 53).2.2.2 ∈ lw_tbl := List.mem_of_getElem? (i := 351) rfl
set_option maxRecDepth 20000 in
theorem pw_cw_54 : Cond.code (pw_inf 54).1 (pw_inf 54).2.1 (pw_inf 54).2.2.1 (pw_inf 54).2.2.2 ∈ lw_tbl := List.mem_of_getElem? (i := 339) rfl
set_option maxRecDepth 20000 in
theorem pw_cw_55 : Cond.code (pw_inf 55).1 (pw_inf 55).2.1 (pw_inf 55).2.2.1 (pw_inf 55).2.2.2 ∈ lw_tbl := List.mem_of_getElem? (i := 279) rfl
set_option maxRecDepth 20000 in
theorem pw_cw_56 : Cond.code (pw_inf 56).1 (pw_inf 56).2.1 (pw_inf 56).2.2.1 (pw_inf 56).2.2.2 ∈ lw_tbl := List.mem_of_getElem? (i := 189) rfl
set_option maxRecDepth 20000 in
theorem pw_cw_57 : Cond.code (pw_inf 57).1 (pw_inf 57).2.1 (pw_inf 57).2.2.1 (pw_inf 57).2.2.2 ∈ lw_tbl := List.mem_of_getElem? (i := 417) rfl
set_option maxRecDepth 20000 in
theorem pw_cw_58 : Cond.code (pw_inf 58).1 (pw_inf 58).2.1 (pw_inf 58).2.2.1 (pw_inf 58).2.2.2 ∈ lw_tbl := List.mem_of_getElem? (i := 283) rfl
set_option maxRecDepth 20000 in
theorem pw_cw_59 : Cond.code (pw_inf 59).1 (pw_inf 59).2.1 (pw_inf 59).2.2.1 (pw_inf 59).2.2.2 ∈ lw_tbl := List.mem_of_getElem? (i := 316) rfl
set_option maxRecDepth 20000 in
theorem pw_cw_60 : Cond.code (pw_inf 60).1 (pw_inf 60).2.1 (pw_inf 60).2.2.1 (pw_inf 60).2.2.2 ∈ lw_tbl := List.mem_of_getElem? (i := 319) rfl
set_option maxRecDepth 20000 in
theorem pw_cw_61 : Cond.code (pw_inf 61).1 (pw_inf 61).2.1 (pw_inf 61).2.2.1 (pw_inf 61).2.2.2 ∈ lw_tbl := List.mem_of_getElem? (i := 421) rfl
set_option maxRecDepth 20000 in
theorem pw_cw_62 : Cond.code (pw_inf 62).1 (pw_inf 62).2.1 (pw_inf 62).2.2.1 (pw_inf 62).2.2.2 ∈ lw_tbl := List.mem_of_getElem? (i := 347) rfl
set_option maxRecDepth 20000 in
theorem pw_cw_63 : Cond.code (pw_inf 63).1 (pw_inf 63).2.1 (pw_inf 63).2.2.1 (pw_inf 63).2.2.2 ∈ lw_tbl := List.mem_of_getElem? (i := 355) rfl
set_option maxRecDepth 20000 in
theorem pw_cw_64 : Cond.code (pw_inf 64).1 (pw_inf 64).2.1 (pw_inf 64).2.2.1 (pw_inf 64).2.2.2 ∈ lw_tbl := List.mem_of_getElem? (i := 429) rfl
set_option maxRecDepth 20000 in
theorem pw_cw_65 : Cond.code (pw_inf 65).1 (pw_inf 65).2.1 (pw_inf 65).2.2.1 (pw_inf 65).2.2.2 ∈ lw_tbl := List.mem_of_getElem? (i := 445) rfl
set_option maxRecDepth 20000 in
theorem pw_cw_66 : Cond.code (pw_inf 66).1 (pw_inf 66).2.1 (pw_inf 66).2.2.1 (pw_inf 66).2.2.2 ∈ lw_tbl := List.mem_of_getElem? (i := 449) rfl
set_option maxRecDepth 20000 in
theorem pw_cw_67 : Cond.code (pw_inf 67).1 (pw_inf 67).2.1 (pw_inf 67).2.2.1 (pw_inf 67).2.2.2 ∈ lw_tbl := List.mem_of_getElem? (i := 453) rfl
set_option maxRecDepth 20000 in
theorem pw_cw_68 : Cond.code (pw_inf 68).1 (pw_inf 68).2.1 (pw_inf 68).2.2.1 (pw_inf 68).2.2.2 ∈ lw_tbl := List.mem_of_getElem? (i := 466) rfl
set_option maxRecDepth 20000 in
theorem pw_cw_69 : Cond.code (pw_inf 69).1 (pw_inf 69).2.1 (pw_inf 69).2.2.1 (pw_inf 69).2.2.2 ∈ lw_tbl := List.mem_of_getElem? (i := 599) rfl
set_option maxRecDepth 20000 in
theorem pw_cw_70 : Cond.code (pw_inf 70).1 (pw_inf 70).2.1 (pw_inf 70).2.2.1 (pw_inf 70).2.2.2 ∈ lw_tbl := List.mem_of_getElem? (i := 596) rfl
set_option maxRecDepth 20000 in
theorem pw_cw_71 : Cond.code (pw_inf 71).1 (pw_inf 71).2.1 (pw_inf 71).2.2.1 (pw_inf 71).2.2.2 ∈ lw_tbl := List.mem_of_getElem? (i := 646) rfl
set_option maxRecDepth 20000 in
theorem pw_cw_72 : Cond.code (pw_inf 72).1 (pw_inf 72).2.1 (pw_inf 72).2.2.1 (pw_inf 72).2.2.2 ∈ lw_tbl := List.mem_of_getElem? (i := 657) rfl
set_option maxRecDepth 20000 in
theorem pw_cw_73 : Cond.code (pw_inf 73).1 (pw_inf 73).2.1 (pw_inf 73).2.2.1 (pw_inf 73).2.2.2 ∈ lw_tbl := List.mem_of_getElem? (i := 607) rfl
set_option maxRecDepth 20000 in
theorem pw_cw_74 : Cond.code (pw_inf 74).1 (pw_inf 74).2.1 (pw_inf 74).2.2.1 (pw_inf 74).2.2.2 ∈ lw_tbl := List.mem_of_getElem? (i := 593) rfl
set_option maxRecDepth 20000 in
theorem pw_cw_75 : Cond.code (pw_inf 75).1 (pw_inf 75).2.1 (pw_inf 75).2.2.1 (pw_inf 75).2.2.2 ∈ lw_tbl := List.mem_of_getElem? (i := 603) rfl
set_option maxRecDepth 20000 in
theorem pw_cw_76 : Cond.code (pw_inf 76).1 (pw_inf 76).2.1 (pw_inf 76).2.2.1 (pw_inf 76).2.2.2 ∈ lw_tbl := List.mem_of_getElem? (i := 611) rfl
set_option maxRecDepth 20000 in
theorem pw_cw_77 : Cond.code (pw_inf 77).1 (pw_inf 77).2.1 (pw_inf 77).2.2.1 (pw_inf 77).2.2.2 ∈ lw_tbl := List.mem_of_getElem? (i := 623) rfl
set_option maxRecDepth 20000 in
theorem pw_cw_78 : Cond.code (pw_inf 78).1 (pw_inf 78).2.1 (pw_inf 78).2.2.1 (pw_inf 78).2.2.2 ∈ lw_tbl := List.mem_of_getElem? (i := 627) rfl
set_option maxRecDepth 20000 in
theorem pw_cw_79 : Cond.code (pw_inf 79).1 (pw_inf 79).2.1 (pw_inf 79).2.2.1 (pw_inf 79).2.2.2 ∈ lw_tbl := List.mem_of_getElem? (i := 619) rfl
set_option maxRecDepth 20000 in
theorem pw_cw_80 : Cond.code (pw_inf 80).1 (pw_inf 80).2.1 (pw_inf 80).2.2.1 (pw_inf 80).2.2.2 ∈ lw_tbl := List.mem_of_getElem? (i := 615) rfl
set_option maxRecDepth 20000 in
theorem pw_cw_81 : Cond.code (pw_inf 81).1 (pw_inf 81).2.1 (pw_inf 81).2.2.1 (pw_inf 81).2.2.2 ∈ lw_tbl := List.mem_of_getElem? (i := 639) rfl
set_option maxRecDepth 20000 in
theorem pw_cw_82 : Cond.code (pw_inf 82).1 (pw_inf 82).2.1 (pw_inf 82).2.2.1 (pw_inf 82).2.2.2 ∈ lw_tbl := List.mem_of_getElem? (i := 635) rfl
set_option maxRecDepth 20000 in
theorem pw_cw_83 : Cond.code (pw_inf 83).1 (pw_inf 83).2.1 (pw_inf 83).2.2.1 (pw_inf 83).2.2.2 ∈ lw_tbl := List.mem_of_getElem? (i := 631) rfl
set_option maxRecDepth 20000 in
theorem pw_cw_84 : Cond.code (pw_inf 84).1 (pw_inf 84).2.1 (pw_inf 84).2.2.1 (pw_inf 84).2.2.2 ∈ lw_tbl := List.mem_of_getElem? (i := 650) rfl
set_option maxRecDepth 20000 in
theorem pw_cw_85 : Cond.code (pw_inf 85).1 (pw_inf 85).2.1 (pw_inf 85).2.2.1 (pw_inf 85).2.2.2 ∈ lw_tbl := List.mem_of_getElem? (i := 643) rfl
set_option maxRecDepth 20000 in
theorem pw_cw_86 : Cond.code (pw_inf 86).1 (pw_inf 86).2.1 (pw_inf 86).2.2.1 (pw_inf 86).2.2.2 ∈ lw_tbl := List.mem_of_getElem? (i := 654) rfl
set_option maxRecDepth 20000 in
theorem pw_cw_87 : Cond.code (pw_inf 87).1 (pw_inf 87).2.1 (pw_inf 87).2.2.1 (pw_inf 87).2.2.2 ∈ lw_tbl := List.mem_of_getElem? (i := 665) rfl
set_option maxRecDepth 20000 in
theorem pw_cw_88 : Cond.code (pw_inf 88).1 (pw_inf 88).2.1 (pw_inf 88).2.2.1 (pw_inf 88).2.2.2 ∈ lw_tbl := List.mem_of_getElem? (i := 661) rfl
set_option maxRecDepth 20000 in
theorem pw_cw_89 : Cond.code (pw_inf 89).1 (pw_inf 89).2.1 (pw_inf 89).2.2.1 (pw_inf 89).2.2.2 ∈ lw_tbl := List.mem_of_getElem? (i := 672) rfl
set_option maxRecDepth 20000 in
theorem pw_cw_90 : Cond.code (pw_inf 90).1 (pw_inf 90).2.1 (pw_inf 90).2.2.1 (pw_inf 90).2.2.2 ∈ lw_tbl := List.mem_of_getElem? (i := 669) rfl
set_option maxRecDepth 20000 in
theorem pw_cw_91 : Cond.code (pw_inf 91).1 (pw_inf 91).2.1 (pw_inf 91).2.2.1 (pw_inf 91).2.2.2 ∈ lw_tbl := List.mem_of_getElem? (i := 676) rfl
set_option maxRecDepth 20000 in
theorem pw_cw_92 : Cond.code (pw_inf 92).1 (pw_inf 92).2.1 (pw_inf 92).2.2.1 (pw_inf 92).2.2.2 ∈ lw_tbl := List.mem_of_getElem? (i := 692) rfl
set_option maxRecDepth 20000 in
theorem pw_cw_93 : Cond.code (pw_inf 93).1 (pw_inf 93).2.1 (pw_inf 93).2.2.1 (pw_inf 93).2.2.2 ∈ lw_tbl := List.mem_of_getElem? (i := 680) rfl
set_option maxRecDepth 20000 in
theorem pw_cw_94 : Cond.code (pw_inf 94).1 (pw_inf 94).2.1 (pw_inf 94).2.2.1 (pw_inf 94).2.2.2 ∈ lw_tbl := List.mem_of_getElem? (i := 696) rfl
set_option maxRecDepth 20000 in
theorem pw_cw_95 : Cond.code (pw_inf 95).1 (pw_inf 95).2.1 (pw_inf 95).2.2.1 (pw_inf 95).2.2.2 ∈ lw_tbl := List.mem_of_getElem? (i := 688) rfl
set_option maxRecDepth 20000 in
theorem pw_cw_96 : Cond.code (pw_inf 96).1 (pw_inf 96).2.1 (pw_inf 96).2.2.1 (pw_inf 96).2.2.2 ∈ lw_tbl := List.mem_of_getElem? (i := 684) rfl
set_option maxRecDepth 20000 in
theorem pw_cw_97 : Cond.code (pw_inf 97).1 (pw_inf 97).2.1 (pw_inf 97).2.2.1 (pw_inf 97).2.2.2 ∈ lw_tbl := List.mem_of_getElem? (i := 700) rfl
set_option maxRecDepth 20000 in
theorem pw_cw_98 : Cond.code (pw_inf 98).1 (pw_inf 98).2.1 (pw_inf 98).2.2.1 (pw_inf 98).2.2.2 ∈ lw_tbl := List.mem_of_getElem? (i := 708) rfl
set_option maxRecDepth 20000 in
theorem pw_cw_99 : Cond.code (pw_inf 99).1 (pw_inf 99).2.1 (pw_inf 99).2.2.1 (pw_inf 99).2.2.2 ∈ lw_tbl := List.mem_of_getElem? (i := 704) rfl
set_option maxRecDepth 20000 in
theorem pw_cw_100 : Cond.code (pw_inf 100).1 (pw_inf 100).2.1 (pw_inf 100).2.2.1 (pw_inf 100).2.2.2 ∈ lw_tbl := List.mem_of_getElem? (i := 712) rfl
set_option maxRecDepth 20000 in
theorem pw_cw_101 : Cond.code (pw_inf 101).1 (pw_inf 101).2.1 (pw_inf 101).2.2.1 (pw_inf 101).2.2.2 ∈ lw_tbl := List.mem_of_getElem? (i := 716) rfl
set_option maxRecDepth 20000 in
theorem pw_cw_102 : Cond.code (pw_inf 102).1 (pw_inf 102).2.1 (pw_inf 102).2.2.1 (pw_inf 102).2.2.2 ∈ lw_tbl := List.mem_of_getElem? (i := 720) rfl
set_option maxRecDepth 20000 in
theorem pw_cw_103 : Cond.code (pw_inf 103).1 (pw_inf 103).2.1 (pw_inf 103).2.2.1 (pw_inf 103).2.2.2 ∈ lw_tbl := List.mem_of_getElem? (i := 724) rfl
set_option maxRecDepth 20000 in
theorem pw_cw_104 : Cond.code (pw_inf 104).1 (pw_inf 104).2.1 (pw_inf 104).2.2.1 (pw_inf 104).2.2.2 ∈ lw_tbl := List.mem_of_getElem? (i := 732) rfl
set_option maxRecDepth 20000 in
theorem pw_cw_105 : Cond.code (pw_inf 105).1 (pw_inf 105).2.1 (pw_inf 105).2.2.1 (pw_inf 105).2.2.2 ∈ lw_tbl := List.mem_of_getElem? (i := 736) rfl
set_option maxRecDepth 20000 in
theorem pw_cw_106 : Cond.code (pw_inf 106).1 (pw_inf 106).2.1 (pw_inf 106).2.2.1 (pw_inf 106).2.2.2 ∈ lw_tbl := List.mem_of_getElem? (i := 728) rfl
set_option maxRecDepth 20000 in
theorem pw_cw_107 : Cond.code (pw_inf 107).1 (pw_inf 107).2.1 (pw_inf 107).2.2.1 (pw_inf 107).2.2.2 ∈ lw_tbl := List.mem_of_getElem? (i := 744) rfl
set_option maxRecDepth 20000 in
theorem pw_cw_108 : Cond.code (pw_inf 108).1 (pw_inf 108).2.1 (pw_inf 108).2.2.1 (pw_inf 108).2.2.2 ∈ lw_tbl := List.mem_of_getElem? (i := 740) rfl
set_option maxRecDepth 20000 in
theorem pw_cw_109 : Cond.code (pw_inf 109).1 (pw_inf 109).2.1 (pw_inf 109).2.2.1 (pw_inf 109).2.2.2 ∈ lw_tbl := List.mem_of_getElem? (i := 748) rfl
set_option maxRecDepth 20000 in
theorem pw_cw_110 : Cond.code (pw_inf 110).1 (pw_inf 110).2.1 (pw_inf 110).2.2.1 (pw_inf 110).2.2.2 ∈ lw_tbl := List.mem_of_getElem? (i := 752) rfl
set_option maxRecDepth 20000 in
theorem pw_cw_111 : Cond.code (pw_inf 111).1 (pw_inf 111).2.1 (pw_inf 111).2.2.1 (pw_inf 111).2.2.2 ∈ lw_tbl := List.mem_of_getElem? (i := 760) rfl
set_option maxRecDepth 20000 in
theorem pw_cw_112 : Cond.code (pw_inf 112).1 (pw_inf 112).2.1 (pw_inf 112).2.2.1 (pw_inf 112).2.2.2 ∈ lw_tbl := List.mem_of_getElem? (i := 756) rfl
set_option maxRecDepth 20000 in
theorem pw_cw_113 : Cond.code (pw_inf 113).1 (pw_inf 113).2.1 (pw_inf 113).2.2.1 (pw_inf 113).2.2.2 ∈ lw_tbl := List.mem_of_getElem? (i := 764) rfl
set_option maxRecDepth 20000 in
theorem pw_cw_114 : Cond.code (pw_inf 114).1 (pw_inf 114).2.1 (pw_inf 114).2.2.1 (pw_inf 114).2.2.2 ∈ lw_tbl := List.mem_of_getElem? (i := 266) rfl
theorem pw_chk {M : Nat} {m : pw_I × List (Nat × pw_O)} (h : pw_ms[M]? = some m) : ∀ e ∈ m.2, pw_ok m.1 e = true := by
  have hlt : M < 115 := (List.getElem?_eq_some_iff.mp h).1
  have key : ∀ M, M < 115 → ∀ m, pw_ms[M]? = some m → m.2.all (pw_ok m.1) = true := by
    intro M hM
    match M, hM with
    | 0, _ => intro m hm; obtain rfl := Option.some.inj hm; exact pw_ck_0
    | 1, _ => intro m hm; obtain rfl := Option.some.inj hm; exact pw_ck_1
    | 2, _ => intro m hm; obtain rfl := Option.some.inj hm; exact pw_ck_2
    | 3, _ => intro m hm; obtain rfl := Option.some.inj hm; exact pw_ck_3
    | 4, _ => intro m hm; obtain rfl := Option.some.inj hm; exact pw_ck_4
    | 5, _ => intro m hm; obtain rfl := Option.some.inj hm; exact pw_ck_5
    | 6, _ => intro m hm; obtain rfl := Option.some.inj hm; exact pw_ck_6
    | 7, _ => intro m hm; obtain rfl := Option.some.inj hm; exact pw_ck_7
    | 8, _ => intro m hm; obtain rfl := Option.some.inj hm; exact pw_ck_8
    | 9, _ => intro m hm; obtain rfl := Option.some.inj hm; exact pw_ck_9
    | 10, _ => intro m hm; obtain rfl := Option.some.inj hm; exact pw_ck_10
    | 11, _ => intro m hm; obtain rfl := Option.some.inj hm; exact pw_ck_11
    | 12, _ => intro m hm; obtain rfl := Option.some.inj hm; exact pw_ck_12
    | 13, _ => intro m hm; obtain rfl := Option.some.inj hm; exact pw_ck_13
    | 14, _ => intro m hm; obtain rfl := Option.some.inj hm; exact pw_ck_14
    | 15, _ => intro m hm; obtain rfl := Option.some.inj hm; exact pw_ck_15
    | 16, _ => intro m hm; obtain rfl := Option.some.inj hm; exact pw_ck_16
    | 17, _ => intro m hm; obtain rfl := Option.some.inj hm; exact pw_ck_17
    | 18, _ => intro m hm; obtain rfl := Option.some.inj hm; exact pw_ck_18
    | 19, _ => intro m hm; obtain rfl := Option.some.inj hm; exact pw_ck_19
    | 20, _ => intro m hm; obtain rfl := Option.some.inj hm; exact pw_ck_20
    | 21, _ => intro m hm; obtain rfl := Option.some.inj hm; exact pw_ck_21
    | 22, _ => intro m hm; obtain rfl := Option.some.inj hm; exact pw_ck_22
    | 23, _ => intro m hm; obtain rfl := Option.some.inj hm; exact pw_ck_23
    | 24, _ => intro m hm; obtain rfl := Option.some.inj hm; exact pw_ck_24
    | 25, _ => intro m hm; obtain rfl := Option.some.inj hm; exact pw_ck_25
    | 26, _ => intro m hm; obtain rfl := Option.some.inj hm; exact pw_ck_26
    | 27, _ => intro m hm; obtain rfl := Option.some.inj hm; exact pw_ck_27
    | 28, _ => intro m hm; obtain rfl := Option.some.inj hm; exact pw_ck_28
    | 29, _ => intro m hm; obtain rfl := Option.some.inj hm; exact pw_ck_29
    | 30, _ => intro m hm; obtain rfl := Option.some.inj hm; exact pw_ck_30
    | 31, _ => intro m hm; obtain rfl := Option.some.inj hm; exact pw_ck_31
    | 32, _ => intro m hm; obtain rfl := Option.some.inj hm; exact pw_ck_32
    | 33, _ => intro m hm; obtain rfl := Option.some.inj hm; exact pw_ck_33
    | 34, _ => intro m hm; obtain rfl := Option.some.inj hm; exact pw_ck_34
    | 35, _ => intro m hm; obtain rfl := Option.some.inj hm; exact pw_ck_35
    | 36, _ => intro m hm; obtain rfl := Option.some.inj hm; exact pw_ck_36
    | 37, _ => intro m hm; obtain rfl := Option.some.inj hm; exact pw_ck_37
    | 38, _ => intro m hm; obtain rfl := Option.some.inj hm; exact pw_ck_38
    | 39, _ => intro m hm; obtain rfl := Option.some.inj hm; exact pw_ck_39
    | 40, _ => intro m hm; obtain rfl := Option.some.inj hm; exact pw_ck_40
    | 41, _ => intro m hm; obtain rfl := Option.some.inj hm; exact pw_ck_41
    | 42, _ => intro m hm; obtain rfl := Option.some.inj hm; exact pw_ck_42
    | 43, _ => intro m hm; obtain rfl := Option.some.inj hm; exact pw_ck_43
    | 44, _ => intro m hm; obtain rfl := Option.some.inj hm; exact pw_ck_44
    | 45, _ => intro m hm; obtain rfl := Option.some.inj hm; exact pw_ck_45
    | 46, _ => intro m hm; obtain rfl := Option.some.inj hm; exact pw_ck_46
    | 47, _ => intro m hm; obtain rfl := Option.some.inj hm; exact pw_ck_47
    | 48, _ => intro m hm; obtain rfl := Option.some.inj hm; exact pw_ck_48
    | 49, _ => intro m hm; obtain rfl := Option.some.inj hm; exact pw_ck_49
    | 50, _ => intro m hm; obtain rfl := Option.some.inj hm; exact pw_ck_50
    | 51, _ => intro m hm; obtain rfl := Option.some.inj hm; exact pw_ck_51
    | 52, _ => intro m hm; obtain rfl := Option.some.inj hm; exact pw_ck_52
    | 53, _ => intro m hm; obtain rfl := Option.some.inj hm; exact pw_ck_53
    | 54, _ => intro m hm; obtain rfl := Option.some.inj hm; exact pw_ck_54
    | 55, _ => intro m hm; obtain rfl := Option.some.inj hm; exact pw_ck_55
    | 56, _ => intro m hm; obtain rfl := Option.some.inj hm; exact pw_ck_56
    | 57, _ => intro m hm; obtain rfl := Option.some.inj hm; exact pw_ck_57
    | 58, _ => intro m hm; obtain rfl := Option.some.inj hm; exact pw_ck_58
    | 59, _ => intro m hm; obtain rfl := Option.some.inj hm; exact pw_ck_59
    | 60, _ => intro m hm; obtain rfl := Option.some.inj hm; exact pw_ck_60
    | 61, _ => intro m hm; obtain rfl := Option.some.inj hm; exact pw_ck_61
    | 62, _ => intro m hm; obtain rfl := Option.some.inj hm; exact pw_ck_62
    | 63, _ => intro m hm; obtain rfl := Option.some.inj hm; exact pw_ck_63
    | 64, _ => intro m hm; obtain rfl := Option.some.inj hm; exact pw_ck_64
    | 65, _ => intro m hm; obtain rfl := Option.some.inj hm; exact pw_ck_65
    | 66, _ => intro m hm; obtain rfl := Option.some.inj hm; exact pw_ck_66
    | 67, _ => intro m hm; obtain rfl := Option.some.inj hm; exact pw_ck_67
    | 68, _ => intro m hm; obtain rfl := Option.some.inj hm; exact pw_ck_68
    | 69, _ => intro m hm; obtain rfl := Option.some.inj hm; exact pw_ck_69
    | 70, _ => intro m hm; obtain rfl := Option.some.inj hm; exact pw_ck_70
    | 71, _ => intro m hm; obtain rfl := Option.some.inj hm; exact pw_ck_71
    | 72, _ => intro m hm; obtain rfl := Option.some.inj hm; exact pw_ck_72
    | 73, _ => intro m hm; obtain rfl := Option.some.inj hm; exact pw_ck_73
    | 74, _ => intro m hm; obtain rfl := Option.some.inj hm; exact pw_ck_74
    | 75, _ => intro m hm; obtain rfl := Option.some.inj hm; exact pw_ck_75
    | 76, _ => intro m hm; obtain rfl := Option.some.inj hm; exact pw_ck_76
    | 77, _ => intro m hm; obtain rfl := Option.some.inj hm; exact pw_ck_77
    | 78, _ => intro m hm; obtain rfl := Option.some.inj hm; exact pw_ck_78
    | 79, _ => intro m hm; obtain rfl := Option.some.inj hm; exact pw_ck_79
    | 80, _ => intro m hm; obtain rfl := Option.some.inj hm; exact pw_ck_80
    | 81, _ => intro m hm; obtain rfl := Option.some.inj hm; exact pw_ck_81
    | 82, _ => intro m hm; obtain rfl := Option.some.inj hm; exact pw_ck_82
    | 83, _ => intro m hm; obtain rfl := Option.some.inj hm; exact pw_ck_83
    | 84, _ => intro m hm; obtain rfl := Option.some.inj hm; exact pw_ck_84
    | 85, _ => intro m hm; obtain rfl := Option.some.inj hm; exact pw_ck_85
    | 86, _ => intro m hm; obtain rfl := Option.some.inj hm; exact pw_ck_86
    | 87, _ => intro m hm; obtain rfl := Option.some.inj hm; exact pw_ck_87
    | 88, _ => intro m hm; obtain rfl := Option.some.inj hm; exact pw_ck_88
    | 89, _ => intro m hm; obtain rfl := Option.some.inj hm; exact pw_ck_89
    | 90, _ => intro m hm; obtain rfl := Option.some.inj hm; exact pw_ck_90
    | 91, _ => intro m hm; obtain rfl := Option.some.inj hm; exact pw_ck_91
    | 92, _ => intro m hm; obtain rfl := Option.some.inj hm; exact pw_ck_92
    | 93, _ => intro m hm; obtain rfl := Option.some.inj hm; exact pw_ck_93
    | 94, _ => intro m hm; obtain rfl := Option.some.inj hm; exact pw_ck_94
    | 95, _ => intro m hm; obtain rfl := Option.some.inj hm; exact pw_ck_95
    | 96, _ => intro m hm; obtain rfl := Option.some.inj hm; exact pw_ck_96
    | 97, _ => intro m hm; obtain rfl := Option.some.inj hm; exact pw_ck_97
    | 98, _ => intro m hm; obtain rfl := Option.some.inj hm; exact pw_ck_98
    | 99, _ => intro m hm; obtain rfl := Option.some.inj hm; exact pw_ck_99
    | 100, _ => intro m hm; obtain rfl := Option.some.inj hm; exact pw_ck_100
    | 101, _ => intro m hm; obtain rfl := Option.some.inj hm; exact pw_ck_101
    | 102, _ => intro m hm; obtain rfl := Option.some.inj hm; exact pw_ck_102
    | 103, _ => intro m hm; obtain rfl := Option.some.inj hm; exact pw_ck_103
    | 104, _ => intro m hm; obtain rfl := Option.some.inj hm; exact pw_ck_104
    | 105, _ => intro m hm; obtain rfl := Option.some.inj hm; exact pw_ck_105
    | 106, _ => intro m hm; obtain rfl := Option.some.inj hm; exact pw_ck_106
    | 107, _ => intro m hm; obtain rfl := Option.some.inj hm; exact pw_ck_107
    | 108, _ => intro m hm; obtain rfl := Option.some.inj hm; exact pw_ck_108
    | 109, _ => intro m hm; obtain rfl := Option.some.inj hm; exact pw_ck_109
    | 110, _ => intro m hm; obtain rfl := Option.some.inj hm; exact pw_ck_110
    | 111, _ => intro m hm; obtain rfl := Option.some.inj hm; exact pw_ck_111
    | 112, _ => intro m hm; obtain rfl := Option.some.inj hm; exact pw_ck_112
    | 113, _ => intro m hm; obtain rfl := Option.some.inj hm; exact pw_ck_113
    | 114, _ => intro m hm; obtain rfl := Option.some.inj hm; exact pw_ck_114
    | k + 115, hM => exact absurd hM (by omega)
  exact List.all_eq_true.mp (key M hlt m h)
theorem pw_cw {M : Nat} (h0 : 0 < M) (h : M < 115) : Cond.code (pw_inf M).1 (pw_inf M).2.1 (pw_inf M).2.2.1 (pw_inf M).2.2.2 ∈ lw_tbl := by
  match M, h0, h with
  | 1, _, _ => exact pw_cw_1
  | 2, _, _ => exact pw_cw_2
  | 3, _, _ => exact pw_cw_3
  | 4, _, _ => exact pw_cw_4
  | 5, _, _ => exact pw_cw_5
  | 6, _, _ => exact pw_cw_6
  | 7, _, _ => exact pw_cw_7
  | 8, _, _ => exact pw_cw_8
  | 9, _, _ => exact pw_cw_9
  | 10, _, _ => exact pw_cw_10
  | 11, _, _ => exact pw_cw_11
  | 12, _, _ => exact pw_cw_12
  | 13, _, _ => exact pw_cw_13
  | 14, _, _ => exact pw_cw_14
  | 15, _, _ => exact pw_cw_15
  | 16, _, _ => exact pw_cw_16
  | 17, _, _ => exact pw_cw_17
  | 18, _, _ => exact pw_cw_18
  | 19, _, _ => exact pw_cw_19
  | 20, _, _ => exact pw_cw_20
  | 21, _, _ => exact pw_cw_21
  | 22, _, _ => exact pw_cw_22
  | 23, _, _ => exact pw_cw_23
  | 24, _, _ => exact pw_cw_24
  | 25, _, _ => exact pw_cw_25
  | 26, _, _ => exact pw_cw_26
  | 27, _, _ => exact pw_cw_27
  | 28, _, _ => exact pw_cw_28
  | 29, _, _ => exact pw_cw_29
  | 30, _, _ => exact pw_cw_30
  | 31, _, _ => exact pw_cw_31
  | 32, _, _ => exact pw_cw_32
  | 33, _, _ => exact pw_cw_33
  | 34, _, _ => exact pw_cw_34
  | 35, _, _ => exact pw_cw_35
  | 36, _, _ => exact pw_cw_36
  | 37, _, _ => exact pw_cw_37
  | 38, _, _ => exact pw_cw_38
  | 39, _, _ => exact pw_cw_39
  | 40, _, _ => exact pw_cw_40
  | 41, _, _ => exact pw_cw_41
  | 42, _, _ => exact pw_cw_42
  | 43, _, _ => exact pw_cw_43
  | 44, _, _ => exact pw_cw_44
  | 45, _, _ => exact pw_cw_45
  | 46, _, _ => exact pw_cw_46
  | 47, _, _ => exact pw_cw_47
  | 48, _, _ => exact pw_cw_48
  | 49, _, _ => exact pw_cw_49
  | 50, _, _ => exact pw_cw_50
  | 51, _, _ => exact pw_cw_51
  | 52, _, _ => exact pw_cw_52
  | 53, _, _ => exact pw_cw_53
  | 54, _, _ => exact pw_cw_54
  | 55, _, _ => exact pw_cw_55
  | 56, _, _ => exact pw_cw_56
  | 57, _, _ => exact pw_cw_57
  | 58, _, _ => exact pw_cw_58
  | 59, _, _ => exact pw_cw_59
  | 60, _, _ => exact pw_cw_60
  | 61, _, _ => exact pw_cw_61
  | 62, _, _ => exact pw_cw_62
  | 63, _, _ => exact pw_cw_63
  | 64, _, _ => exact pw_cw_64
  | 65, _, _ => exact pw_cw_65
  | 66, _, _ => exact pw_cw_66
  | 67, _, _ => exact pw_cw_67
  | 68, _, _ => exact pw_cw_68
  | 69, _, _ => exact pw_cw_69
  | 70, _, _ => exact pw_cw_70
  | 71, _, _ => exact pw_cw_71
  | 72, _, _ => exact pw_cw_72
  | 73, _, _ => exact pw_cw_73
  | 74, _, _ => exact pw_cw_74
  | 75, _, _ => exact pw_cw_75
  | 76, _, _ => exact pw_cw_76
  | 77, _, _ => exact pw_cw_77
  | 78, _, _ => exact pw_cw_78
  | 79, _, _ => exact pw_cw_79
  | 80, _, _ => exact pw_cw_80
  | 81, _, _ => exact pw_cw_81
  | 82, _, _ => exact pw_cw_82
  | 83, _, _ => exact pw_cw_83
  | 84, _, _ => exact pw_cw_84
  | 85, _, _ => exact pw_cw_85
  | 86, _, _ => exact pw_cw_86
  | 87, _, _ => exact pw_cw_87
  | 88, _, _ => exact pw_cw_88
  | 89, _, _ => exact pw_cw_89
  | 90, _, _ => exact pw_cw_90
  | 91, _, _ => exact pw_cw_91
  | 92, _, _ => exact pw_cw_92
  | 93, _, _ => exact pw_cw_93
  | 94, _, _ => exact pw_cw_94
  | 95, _, _ => exact pw_cw_95
  | 96, _, _ => exact pw_cw_96
  | 97, _, _ => exact pw_cw_97
  | 98, _, _ => exact pw_cw_98
  | 99, _, _ => exact pw_cw_99
  | 100, _, _ => exact pw_cw_100
  | 101, _, _ => exact pw_cw_101
  | 102, _, _ => exact pw_cw_102
  | 103, _, _ => exact pw_cw_103
  | 104, _, _ => exact pw_cw_104
  | 105, _, _ => exact pw_cw_105
  | 106, _, _ => exact pw_cw_106
  | 107, _, _ => exact pw_cw_107
  | 108, _, _ => exact pw_cw_108
  | 109, _, _ => exact pw_cw_109
  | 110, _, _ => exact pw_cw_110
  | 111, _, _ => exact pw_cw_111
  | 112, _, _ => exact pw_cw_112
  | 113, _, _ => exact pw_cw_113
  | 114, _, _ => exact pw_cw_114
  | k + 115, _, h => exact absurd h (by omega)
theorem pw_look_mem : ∀ (l : List (Nat × pw_O)) (pc : Nat) (o : pw_O), pw_look l pc = some o → (pc, o) ∈ l
  | [], _, _, h => by cases h
  | e :: l, pc, o, h => by
    unfold pw_look at h
    cases hb : Nat.beq e.1 pc with
    | true =>
      rw [hb] at h
      have h1 : e.2 = o := Option.some.inj h
      have h2 : e.1 = pc := Nat.eq_of_beq_eq_true hb
      rw [← h1, ← h2]
      exact List.mem_cons_self
    | false =>
      rw [hb] at h
      exact List.mem_cons_of_mem _ (pw_look_mem l pc o h)
theorem pw_op_ok {M pc : Nat} {o : pw_O} (h : pw_op M pc = some o) : pw_ok (pw_inf M) (pc, o) = true := by
  unfold pw_op at h
  unfold pw_inf
  cases hm : pw_ms[M]? with
  | none => rw [hm] at h; cases h
  | some m =>
    rw [hm] at h
    exact pw_chk hm _ (pw_look_mem _ _ _ h)
end
section
def pw_ad (b B : Nat) (k : Nat) : Nat := match k with
  | 0 => b
  | k + 1 => B + k
def pw_v (ad : Nat → Nat) (v : pw_V) : Value := match v with
  | .inl x => .int x
  | .inr none => .null
  | .inr (some k) => .ref (ad k)
theorem pw_v_rf (ad : Nat → Nat) (r : Option Nat) : pw_v ad (.inr r) = va_rf (r.map ad) := by cases r <;> rfl
theorem pw_cat (ad : Nat → Nat) (v : pw_V) : (pw_v ad v).category = 1 := by
  obtain x | x := v
  · rfl
  · cases x <;> rfl
theorem pw_cats (ad : Nat → Nat) (st : List pw_V) : ((st.map (pw_v ad)).map fun v => v.category).sum = st.length := by
  induction st with
  | nil => rfl
  | cons a l ih => simp only [List.map_cons, List.sum_cons, List.length_cons, pw_cat, ih]; omega
def pw_e (ad : Nat → Nat) (ca : Nat → ClassId) (c : pw_C) : va_E := match c with
  | .inl (t, n, f) => .inl (ca t, n, .inl f)
  | .inr (.inl (t, n, g)) => .inl (ca (t + 2), n, .inr (.inr (.inr (.inr (fun j => (g j).map ad)))))
  | .inr (.inr (k, fs)) => .inr (k, fs.map (pw_v ad))
abbrev pw_tys (ca : Nat → ClassId) : List (ClassId × FieldType) := [(ca 0, .int), (ca 1, .boolean), (ca 2, .object "BoundWalks$House"), (ca 4, .object "BoundWalks$Walk")]
def pw_tbl : List Cond := lw_tbl.filter goodWord
def pw_isN (w : Cond) : Bool := match w with
  | .fieldLinkNest .. => true
  | .methodLinkNest .. => true
  | _ => false
def pw_wf (c : pw_C) : Prop := match c with
  | .inl (t, _, _) => t = 0 ∨ t = 1
  | .inr (.inl (t, _, _)) => t = 0 ∨ t = 2
  | .inr (.inr _) => True
def pw_rep (D : va_G) (ca : Nat → ClassId) (b B N : Nat) (xs : Nat → Int32) (h : pw_H) (H : Heap) : Prop :=
  h[0]? = some (.inl (2, N, xs)) ∧ H.size + 1 = B + h.length ∧ ∀ (k : Nat) (c : pw_C), h[k + 1]? = some c → pw_wf c ∧ va_at D pw_cl (B + k, pw_e (pw_ad b B) ca c) H
def pw_nw (U : State) : Prop := (∀ w ∈ lw_tbl, pw_isN w = true → va_Nw w U) ∧ va_AO "BoundWalks$House" U ∧ va_AO "BoundWalks$Walk" U
theorem pw_nw.warm {s U : State} (hW : s.WarmedH U.vm) (h : pw_nw s) : pw_nw U := by
  refine ⟨fun w hw hn => ?_, h.2.1.moved hW.alike, h.2.2.moved hW.alike⟩
  have h1 := h.1 w hw hn
  cases w <;> first | exact va_Nw.warmF hW h1 | exact va_Nw.warmM hW h1 | (exact absurd hn (by simp [pw_isN]))
theorem pw_nw.same {u U : State} (hv : u.vm = U.vm) (h : pw_nw u) : pw_nw U := by
  have ha : u.vm.Alike U.vm := by rw [hv]; exact Vm.Alike.refl _
  refine ⟨fun w hw hn => ?_, h.2.1.moved ha, h.2.2.moved ha⟩
  have h1 := h.1 w hw hn
  cases w <;> first | exact va_Nw.same rfl hv h1 | (exact absurd hn (by simp [pw_isN]))
theorem pw_size_set {h : pw_H} {k : Nat} {c c' : pw_C} (hk : h[k]? = some c) (hz : pw_sz c' = pw_sz c) : pw_size (h.set k c') = pw_size h := by
  induction h generalizing k with
  | nil => simp at hk
  | cons a l ih =>
    cases k with
    | zero =>
      simp at hk
      subst hk
      simp [pw_size, hz]
    | succ k =>
      have := ih (k := k) (by simpa using hk)
      simp only [pw_size, List.set_cons_succ, List.map_cons, List.sum_cons] at this ⊢
      omega
theorem pw_size_push (h : pw_H) (c : pw_C) : pw_size (h ++ [c]) = pw_size h + pw_sz c := by simp [pw_size]
section PWREP
variable {D : va_G} {ca : Nat → ClassId} {b B N : Nat} {xs : Nat → Int32} {h : pw_H} {H H1 : Heap}
theorem pw_rep.pos (hR : pw_rep D ca b B N xs h H) : 0 < h.length := (List.getElem?_eq_some_iff.mp hR.1).1
theorem pw_rep.set (hR : pw_rep D ca b B N xs h H) {k : Nat} {c c' : pw_C} (hk : h[k + 1]? = some c) (hw : pw_wf c') (he : va_at D pw_cl (B + k, pw_e (pw_ad b B) ca c') H1) (hz : H1.size = H.size) (oq : ∀ q : Nat, q ≠ B + k → H1[q]? = H[q]?) : pw_rep D ca b B N xs (h.set (k + 1) c') H1 := by
  obtain ⟨h0, h1, h2⟩ := hR
  have hl := (List.getElem?_eq_some_iff.mp hk).1
  refine ⟨by rw [List.getElem?_set_ne (by omega)]; exact h0, by rw [hz, List.length_set]; exact h1, fun j d hj => ?_⟩
  by_cases hjk : j = k
  · subst hjk
    rw [List.getElem?_set_self hl] at hj
    cases hj
    exact ⟨hw, he⟩
  · rw [List.getElem?_set_ne (by omega)] at hj
    obtain ⟨a1, a2⟩ := h2 j d hj
    exact ⟨a1, a2.kept (oq (B + j) (by omega))⟩
theorem pw_rep.push (hR : pw_rep D ca b B N xs h H) {c : pw_C} (hw : pw_wf c) (he : va_at D pw_cl (H.size, pw_e (pw_ad b B) ca c) H1) (hz : H1.size = H.size + 1) (oq : ∀ q : Nat, q < H.size → H1[q]? = H[q]?) : pw_rep D ca b B N xs (h ++ [c]) H1 := by
  have hp := hR.pos
  obtain ⟨h0, h1, h2⟩ := hR
  refine ⟨by rw [List.getElem?_append_left hp]; exact h0, by rw [hz, List.length_append, List.length_singleton]; omega, fun j d hj => ?_⟩
  by_cases hjl : j + 1 < h.length
  · rw [List.getElem?_append_left hjl] at hj
    obtain ⟨a1, a2⟩ := h2 j d hj
    exact ⟨a1, a2.kept (oq (B + j) a2.lt)⟩
  · rw [List.getElem?_append_right (by omega)] at hj
    have hz2 : j + 1 - h.length < 1 := (List.getElem?_eq_some_iff.mp hj).1
    rw [show j + 1 - h.length = 0 by omega] at hj
    cases hj
    rw [show B + j = H.size by omega]
    exact ⟨hw, he⟩
theorem pw_rep.adn (hR : pw_rep D ca b B N xs h H) : pw_ad b B h.length = H.size := by
  have hp := hR.pos
  obtain ⟨h0, h1, h2⟩ := hR
  obtain ⟨k, hk⟩ : ∃ k, h.length = k + 1 := ⟨h.length - 1, by omega⟩
  rw [hk]
  show B + k = H.size
  omega
theorem pw_rep.obj (hR : pw_rep D ca b B N xs h H) {a : Nat} {x : pw_C} (ha : h[a]? = some x) (hx : x ≠ .inl (2, N, xs)) : ∃ k, a = k + 1 ∧ pw_wf x ∧ va_at D pw_cl (B + k, pw_e (pw_ad b B) ca x) H := by
  cases a with
  | zero => exact absurd (Option.some.inj (ha.symm.trans hR.1)) hx
  | succ k => exact ⟨k, rfl, hR.2.2 k x ha⟩
end PWREP
def pw_lr (ad : Nat → Nat) (ls : Array Slot) (L : pw_L) : Prop := ls.size = L.length ∧ lv_wf ls ∧ ∀ (i : Nat) (v : pw_V), L[i]? = some (some v) → ls[i]? = some (.val (pw_v ad v))
def pw_lv (ad : Nat → Nat) (L : pw_L) : List (Nat × Value) := (List.range L.length).filterMap (fun i => match L[i]? with
  | some (some v) => some (i, pw_v ad v)
  | _ => none)
theorem pw_lv_mem {ad : Nat → Nat} {L : pw_L} {i : Nat} {v : pw_V} (h : L[i]? = some (some v)) : (i, pw_v ad v) ∈ pw_lv ad L := by
  have hl := (List.getElem?_eq_some_iff.mp h).1
  exact List.mem_filterMap.mpr ⟨i, List.mem_range.mpr hl, by rw [h]⟩
theorem pw_lv_of {ad : Nat → Nat} {L : pw_L} {q : Nat × Value} (h : q ∈ pw_lv ad L) : ∃ v, L[q.1]? = some (some v) ∧ q.2 = pw_v ad v := by
  obtain ⟨i, -, hi⟩ := List.mem_filterMap.mp h
  match hL : L[i]? with
  | none => rw [hL] at hi; cases hi
  | some none => rw [hL] at hi; cases hi
  | some (some v) =>
    rw [hL] at hi
    cases hi
    exact ⟨v, hL, rfl⟩
theorem pw_lr.has {ad : Nat → Nat} {ls : Array Slot} {L : pw_L} (h : pw_lr ad ls L) : lv_has ls L.length (pw_lv ad L) := by
  refine ⟨h.1, h.2.1, fun q hq => ?_⟩
  obtain ⟨v, h1, h2⟩ := pw_lv_of hq
  rw [h2]
  exact h.2.2 _ _ h1
theorem pw_lr.of {ad : Nat → Nat} {ls : Array Slot} {L : pw_L} {i : Nat} {v : pw_V} (hi : i < L.length) (h : lv_has ls L.length ((i, pw_v ad v) :: (pw_lv ad L).filter (fun q => !(q.1 == i) && !(q.1 + 1 == i && q.2.category == 2)))) : pw_lr ad ls (L.set i (some v)) := by
  refine ⟨by rw [List.length_set]; exact h.1, h.2.1, fun j w hj => ?_⟩
  by_cases hji : j = i
  · subst hji
    rw [List.getElem?_set_self hi] at hj
    cases hj
    exact h.2.2 (j, pw_v ad v) List.mem_cons_self
  · rw [List.getElem?_set_ne (Ne.symm hji)] at hj
    refine h.2.2 (j, pw_v ad w) (List.mem_cons_of_mem _ (List.mem_filter.mpr ⟨pw_lv_mem hj, ?_⟩))
    simp [hji, pw_cat]
theorem pw_inb_in {i : Int32} {n : Nat} (h : pw_inb i n = true) : vp_in i n := by
  simp only [pw_inb, Bool.and_eq_true, decide_eq_true_eq] at h
  exact vp_in_iff.mpr h
theorem pw_has_in {i : Nat} {w : Cond} (h : pw_has i w = true) : w ∈ pw_tbl := by
  simp only [pw_has, Bool.and_eq_true, decide_eq_true_eq] at h
  exact List.mem_filter.mpr ⟨List.mem_of_getElem? h.1, h.2⟩
theorem pw_u_in {ci : Nat} {r : vw_C} (h : pw_cl[ci]? = some r) : ∀ w ∈ u_ws r.1 r.2.1 r.2.2, w ∈ pw_tbl := by
  have key : ∀ (l : List Cond), (∀ w ∈ l, w ∈ lw_tbl) → l.all goodWord = true → ∀ w ∈ l, w ∈ pw_tbl := fun l h1 h2 w hw => List.mem_filter.mpr ⟨h1 w hw, List.all_eq_true.mp h2 w hw⟩
  match ci, h with
  | 0, h => obtain rfl := Option.some.inj h; exact key _ pw_in0 pw_gd0
  | 1, h => obtain rfl := Option.some.inj h; exact key _ pw_in1 pw_gd1
  | 2, h => obtain rfl := Option.some.inj h; exact key _ pw_in2 pw_gd2
  | 3, h => obtain rfl := Option.some.inj h; exact key _ pw_in3 pw_gd3
  | 4, h => obtain rfl := Option.some.inj h; exact key _ pw_in4 pw_gd4
  | k + 5, h => simp at h
theorem pw_u_ty {ci : Nat} {r : vw_C} (h : pw_cl[ci]? = some r) : ∀ k, k < r.2.2 → parseFieldDescriptor (r.2.1 k).2.2.1 = some (pw_tyf ci k) := by
  match ci, h with
  | 0, h => obtain rfl := Option.some.inj h; exact pw_ty0
  | 1, h => obtain rfl := Option.some.inj h; exact pw_ty1
  | 2, h => obtain rfl := Option.some.inj h; exact pw_ty2
  | 3, h => obtain rfl := Option.some.inj h; exact pw_ty3
  | 4, h => obtain rfl := Option.some.inj h; exact pw_ty4
  | k + 5, h => simp at h
theorem pw_u_nm {ci : Nat} {r : vw_C} (h : pw_cl[ci]? = some r) : ∀ a, a < r.2.2 → ∀ b, b < r.2.2 → a ≠ b → (r.2.1 a).2.1 ≠ (r.2.1 b).2.1 := by
  match ci, h with
  | 0, h => obtain rfl := Option.some.inj h; exact pw_nm0
  | 1, h => obtain rfl := Option.some.inj h; exact pw_nm1
  | 2, h => obtain rfl := Option.some.inj h; exact pw_nm2
  | 3, h => obtain rfl := Option.some.inj h; exact pw_nm3
  | 4, h => obtain rfl := Option.some.inj h; exact pw_nm4
  | k + 5, h => simp at h
theorem pw_df0 : ∀ ad : Nat → Nat, ∀ j, j < 6 → defaultValue (pw_tyf 0 j) = vp_V ((pw_def 0).map (pw_v ad)) j := by
  intro ad j hj
  match j, hj with
  | 0, _ => rfl
  | 1, _ => rfl
  | 2, _ => rfl
  | 3, _ => rfl
  | 4, _ => rfl
  | 5, _ => rfl
theorem pw_df1 : ∀ ad : Nat → Nat, ∀ j, j < 5 → defaultValue (pw_tyf 1 j) = vp_V ((pw_def 1).map (pw_v ad)) j := by
  intro ad j hj
  match j, hj with
  | 0, _ => rfl
  | 1, _ => rfl
  | 2, _ => rfl
  | 3, _ => rfl
  | 4, _ => rfl
theorem pw_df2 : ∀ ad : Nat → Nat, ∀ j, j < 10 → defaultValue (pw_tyf 2 j) = vp_V ((pw_def 2).map (pw_v ad)) j := by
  intro ad j hj
  match j, hj with
  | 0, _ => rfl
  | 1, _ => rfl
  | 2, _ => rfl
  | 3, _ => rfl
  | 4, _ => rfl
  | 5, _ => rfl
  | 6, _ => rfl
  | 7, _ => rfl
  | 8, _ => rfl
  | 9, _ => rfl
theorem pw_df3 : ∀ ad : Nat → Nat, ∀ j, j < 17 → defaultValue (pw_tyf 3 j) = vp_V ((pw_def 3).map (pw_v ad)) j := by
  intro ad j hj
  match j, hj with
  | 0, _ => rfl
  | 1, _ => rfl
  | 2, _ => rfl
  | 3, _ => rfl
  | 4, _ => rfl
  | 5, _ => rfl
  | 6, _ => rfl
  | 7, _ => rfl
  | 8, _ => rfl
  | 9, _ => rfl
  | 10, _ => rfl
  | 11, _ => rfl
  | 12, _ => rfl
  | 13, _ => rfl
  | 14, _ => rfl
  | 15, _ => rfl
  | 16, _ => rfl
  | k + 17, h => exact absurd h (by omega)
theorem pw_df4 : ∀ ad : Nat → Nat, ∀ j, j < 40 → defaultValue (pw_tyf 4 j) = vp_V ((pw_def 4).map (pw_v ad)) j := by
  intro ad j hj
  match j, hj with
  | 0, _ => rfl
  | 1, _ => rfl
  | 2, _ => rfl
  | 3, _ => rfl
  | 4, _ => rfl
  | 5, _ => rfl
  | 6, _ => rfl
  | 7, _ => rfl
  | 8, _ => rfl
  | 9, _ => rfl
  | 10, _ => rfl
  | 11, _ => rfl
  | 12, _ => rfl
  | 13, _ => rfl
  | 14, _ => rfl
  | 15, _ => rfl
  | 16, _ => rfl
  | 17, _ => rfl
  | 18, _ => rfl
  | 19, _ => rfl
  | 20, _ => rfl
  | 21, _ => rfl
  | 22, _ => rfl
  | 23, _ => rfl
  | 24, _ => rfl
  | 25, _ => rfl
  | 26, _ => rfl
  | 27, _ => rfl
  | 28, _ => rfl
  | 29, _ => rfl
  | 30, _ => rfl
  | 31, _ => rfl
  | 32, _ => rfl
  | 33, _ => rfl
  | 34, _ => rfl
  | 35, _ => rfl
  | 36, _ => rfl
  | 37, _ => rfl
  | 38, _ => rfl
  | 39, _ => rfl
  | k + 40, h => exact absurd h (by omega)
theorem pw_u_df {ci : Nat} {r : vw_C} (h : pw_cl[ci]? = some r) (ad : Nat → Nat) : (∀ j, j < r.2.2 → defaultValue (pw_tyf ci j) = vp_V ((pw_def ci).map (pw_v ad)) j) ∧ (pw_def ci).length = r.2.2 := by
  match ci, h with
  | 0, h => obtain rfl := Option.some.inj h; exact ⟨pw_df0 ad, rfl⟩
  | 1, h => obtain rfl := Option.some.inj h; exact ⟨pw_df1 ad, rfl⟩
  | 2, h => obtain rfl := Option.some.inj h; exact ⟨pw_df2 ad, rfl⟩
  | 3, h => obtain rfl := Option.some.inj h; exact ⟨pw_df3 ad, rfl⟩
  | 4, h => obtain rfl := Option.some.inj h; exact ⟨pw_df4 ad, rfl⟩
  | k + 5, h => simp at h
end
section
theorem pw_dec {M pc np t : Nat} {i : Instr} {q : List Nat} (ho : pw_op M pc = some (i, np, t, q)) : (∃ len, decode (pw_inf M).2.1 pc = .ok (i, len) ∧ np = pc + len ∧ ((∀ a b c d, i ≠ .tableswitch a b c d) → len = pw_ilen i)) ∧ pw_okI (pw_inf M) pc i t q = true := by
  have h := pw_op_ok ho
  simp only [pw_ok, Bool.and_eq_true] at h
  obtain ⟨h1, h2⟩ := h
  refine ⟨?_, h2⟩
  cases hd : decode (pw_inf M).2.1 pc with
  | error e => rw [hd] at h1; cases h1
  | ok x =>
    obtain ⟨j, len⟩ := x
    rw [hd] at h1
    simp only [Bool.and_eq_true, decide_eq_true_eq] at h1
    obtain ⟨⟨h3, h4⟩, h5⟩ := h1
    refine ⟨len, by rw [h3], h4, fun hn => ?_⟩
    cases i <;> first | exact absurd rfl (hn _ _ _ _) | exact of_decide_eq_true h5
theorem pw_dec1 {M pc np t : Nat} {i : Instr} {q : List Nat} (ho : pw_op M pc = some (i, np, t, q)) (hn : ∀ a b c d, i ≠ .tableswitch a b c d) : decode (pw_inf M).2.1 pc = .ok (i, pw_ilen i) ∧ np = pc + pw_ilen i ∧ pw_okI (pw_inf M) pc i t q = true := by
  obtain ⟨⟨len, h1, h2, h3⟩, h4⟩ := pw_dec ho
  obtain rfl := h3 hn
  exact ⟨h1, h2, h4⟩
/-- where a method stands -/
def pw_ctx (D : va_G) (ca : Nat → ClassId) (b B N : Nat) (xs : Nat → Int32) (M : Nat) (p : Program) (s : State) (m : MethodId) (args : Array Value) (meth : Method) (c : Code) : Prop :=
  p.tables.exec = Jvm.exec ∧ c.code = (pw_inf M).2.1 ∧ c.maxLocals = (pw_inf M).2.2.1 ∧ s.vm.findClass (pw_inf M).1.cls = some m.cls ∧ (∀ w ∈ pw_tbl, w.before args s = true) ∧ va_K D pw_cl (pw_tys ca) s ∧ va_X b N xs s s.heap ∧ (b < B ∧ B ≤ s.heap.size) ∧ meth.name = (pw_inf M).1.name ∧ pw_nw s
abbrev pw_A (B : Nat) : Nat → Prop := fun q => B ≤ q
section PWS
variable {p : Program} {l : Launch} {e : Env} {R : Room} {s : State} {m : MethodId} {args : Array Value} {below : List Frame} {meth : Method} {c : Code} {H : Heap} {locs : List Loc} {cells slots : Nat} {Q : State → Prop}
variable {D : va_G} {ca : Nat → ClassId} {b B N : Nat} {xs : Nat → Int32} {M pc np t : Nat} {q : List Nat} {ls : Array Slot} {L : pw_L} {st : List pw_V} {h : pw_H}
theorem pw_one (hR : pw_rep D ca b B N xs h H) {k : Nat} {x : pw_C} (ha : h[k + 1]? = some x) : va_P D pw_cl [(B + k, pw_e (pw_ad b B) ca x)] H := by
  intro j y hj
  match j, hj with
  | 0, hj => obtain rfl := Option.some.inj hj; exact (hR.2.2 k x ha).2
  | j + 1, hj => simp at hj
theorem pw_getf (C : pw_ctx D ca b B N xs M p s m args meth c) {idx : Nat} (ho : pw_op M pc = some (.getfield idx, np, t, q)) (hR : pw_rep D ca b B N xs h H) {a k : Nat} {q' : List Nat} (hq : q = k :: q') {fs : List pw_V} (ha : h[a]? = some (.inr (.inr (t, fs)))) {v : pw_V} (hv : fs[k]? = some v)
    (kk : W p l e R s m args below meth c H locs cells slots Q (F0 m np ls (pw_v (pw_ad b B) v :: st.map (pw_v (pw_ad b B))))) : W p l e R s m args below meth c H locs cells slots Q (F0 m pc ls (.ref (pw_ad b B a) :: st.map (pw_v (pw_ad b B)))) := by
  obtain ⟨hx, hb, hml, hown, hts, hK, hX, hbB, hnm, hnw⟩ := C
  obtain ⟨hd, hnp, hok⟩ := pw_dec1 ho (by intro _ _ _ _ h; cases h)
  obtain ⟨j, rfl, -, hat⟩ := hR.obj ha (by intro h; cases h)
  have hP := pw_one hR ha
  subst hq
  simp only [pw_okI] at hok
  split at hok
  · rename_i r k' w z hr hq
    cases hq
    simp only [Bool.and_eq_true, decide_eq_true_eq] at hok
    obtain ⟨⟨h1, h2⟩, h3⟩ := hok
    have hvv : (fs.map (pw_v (pw_ad b B)))[k]? = some (pw_v (pw_ad b B) v) := by rw [List.getElem?_map, hv]; rfl
    obtain ⟨C, T, Nn⟩ := r
    rw [hnp] at kk
    split at h3
    · exact va_get (D := D) (ref := (T k).1) (C := C) (T := T) (N := Nn) hx hb hts (pw_u_in hr) hown hK hP 0 rfl hr k h1 (by rw [h2]; exact hts _ (pw_has_in h3)) (fun _ h => h) hvv hd kk
    · have hw := va_Nw.use (A := args) rfl (hnw.1 _ (List.mem_of_getElem? (of_decide_eq_true h3)) rfl)
      exact va_getN (D := D) (ref := (T k).1) (C := C) (T := T) (N := Nn) hx hb hts (pw_u_in hr) hown hK hP 0 rfl hr k h1 (by rw [h2]; exact hw) (fun _ h => h) hvv hd kk
  · cases hok
theorem pw_kd {ty : FieldType} {kd : Nat} {v : pw_V} {ad : Nat → Nat} (h : (match kd, ty with
      | 0, .int => true
      | 1, .boolean => true
      | 2, .object _ => true
      | 2, .array _ => true
      | _, _ => false) = true) (hk : pw_kind kd v = true) : narrow ty (pw_v ad v) = pw_v ad v ∧ fits ty (pw_v ad v) = true := by
  split at h
  · obtain x | x := v
    · exact ⟨rfl, rfl⟩
    · simp [pw_kind] at hk
  · obtain x | x := v
    · simp only [pw_kind, pw_bit, Bool.or_eq_true, decide_eq_true_eq] at hk
      rcases hk with rfl | rfl <;> exact ⟨rfl, rfl⟩
    · simp [pw_kind] at hk
  · obtain x | x := v
    · simp [pw_kind] at hk
    · cases x <;> exact ⟨rfl, rfl⟩
  · obtain x | x := v
    · simp [pw_kind] at hk
    · cases x <;> exact ⟨rfl, rfl⟩
  · cases h
theorem pw_S1 {A : Nat → Prop} {H0 H1 : Heap} {a k : Nat} (hS : va_S A H0 H locs) (hz : H1.size = H.size) (oq : ∀ q : Nat, q ≠ a → H1[q]? = H[q]?) (ha : A a) : va_S A H0 H1 (locs ++ [⟨a, k⟩]) := hS.put hz oq ha
theorem pw_putf (C : pw_ctx D ca b B N xs M p s m args meth c) {idx : Nat} (ho : pw_op M pc = some (.putfield idx, np, t, q)) (hR : pw_rep D ca b B N xs h H) (hS : va_S (pw_A B) s.heap H locs) {a k kd : Nat} {q' : List Nat} (hq : q = k :: kd :: q') {fs : List pw_V} (ha : h[a]? = some (.inr (.inr (t, fs)))) (hk : k < fs.length) {v : pw_V} (hv : pw_kind kd v = true)
    (kk : ∀ (H1 : Heap) (locs1 : List Loc), pw_rep D ca b B N xs (h.set a (.inr (.inr (t, fs.set k v)))) H1 → va_S (pw_A B) s.heap H1 locs1 → W p l e R s m args below meth c H1 locs1 cells slots Q (F0 m np ls (st.map (pw_v (pw_ad b B))))) : W p l e R s m args below meth c H locs cells slots Q (F0 m pc ls (pw_v (pw_ad b B) v :: .ref (pw_ad b B a) :: st.map (pw_v (pw_ad b B)))) := by
  obtain ⟨hx, hb, hml, hown, hts, hK, hX, hbB, hnm, hnw⟩ := C
  obtain ⟨hd, hnp, hok⟩ := pw_dec1 ho (by intro _ _ _ _ h; cases h)
  obtain ⟨j, rfl, -, hat⟩ := hR.obj ha (by intro h; cases h)
  subst hq
  simp only [pw_okI] at hok
  split at hok
  · rename_i r k' kd' w z hr hq
    cases hq
    simp only [Bool.and_eq_true, decide_eq_true_eq] at hok
    obtain ⟨⟨⟨⟨h1, h2⟩, h3⟩, h4⟩, h5⟩ := hok
    obtain ⟨hn, hfit⟩ := pw_kd (ad := pw_ad b B) h5 hv
    obtain ⟨C, T, Nn⟩ := r
    rw [hnp] at kk
    have hlink := hts _ (pw_has_in h3)
    have hin := pw_u_in hr
    have hdd := pw_u_ty hr k h1
    have hap := va_apart (own := (pw_inf M).1.cls) hts hin (pw_tyf t) (pw_u_ty hr) (pw_u_nm hr) hK hr
    obtain ⟨r', g1, cell, q1, q2, q3, q4⟩ := hat
    have hr' : r' = (C, T, Nn) := Option.some.inj (g1.symm.trans hr)
    subst hr'
    obtain ⟨hSl, hfc, kC, hkC, hkind⟩ := hK.1 t _ hr
    obtain ⟨cf, kf, fi, f, hi, hsl⟩ := hSl k h1
    have hlay := hts _ (hin _ (u_in_lay h1))
    have hst := (u_facts hfc hkC (u_lays hts hin h1) hi).1
    have h2' : (T k).1 = C := h2
    have hi2 : s.fieldFound? (T k).1 (T k).2.1 (T k).2.2.1 = some (cf, kf, fi, f) := hi
    have hi' : s.fieldFound? C (T k).2.1 (T k).2.2.1 = some (cf, kf, fi, f) := by rw [h2'] at hi2; exact hi2
    have fin : ∀ H' : Heap, H'[B + j]? = some (cell.setSlot f.slot (pw_v (pw_ad b B) v)) → H'.size = H.size → (∀ q, q ≠ B + j → H'[q]? = H[q]?) → W p l e R s m args below meth c H' (locs ++ [⟨B + j, f.slot⟩]) cells slots Q (F0 m (pc + 3) ls (st.map (pw_v (pw_ad b B)))) := by
      intro H' e1 e2 e3
      rw [hsl] at e1
      refine kk H' _ (hR.set ha trivial ?_ e2 e3) (pw_S1 hS e2 e3 (Nat.le_add_right _ _))
      refine ⟨_, hr, ?_⟩
      refine t_OB.to (V := updV (vp_V (fs.map (pw_v (pw_ad b B)))) k (pw_v (pw_ad b B) v)) ⟨_, e1, q2, q3, t_set q4 hap h1 _⟩ (fun i _ => ?_)
      rw [vp_updV_set (by rw [List.length_map]; exact hk), List.map_set]
    split at h4
    · have hf0 : (T k).2.2.2 = false := by simpa using h4
      unfold u_lay at hlay
      rw [if_neg (by rw [hf0]; decide)] at hlay
      have h6 := u_store hfc hkC hkind hlay hi hdd hn hfit
      exact W.putK hx hb (f := f) ⟨hown, hlink, ⟨_, _, _, hi'⟩, hst⟩ (by rw [q2]; exact h6) q1 q3 (by rw [hsl]; exact k2_hasslot (q4 k h1)) rfl rfl hd fin
    · simp only [Bool.and_eq_true, decide_eq_true_eq] at h4
      obtain ⟨⟨hf1, hin2⟩, hoc⟩ := h4
      unfold u_lay at hlay
      rw [if_pos hf1] at hlay
      have hcf : m.cls = cf := by
        obtain ⟨_, _, c', _, _, _, -, -, hf', -, -, -, hown2, -⟩ := Cond.laysFinal_spec hlay
        have e1 : c' = cf := by have := hi.symm.trans hf'; simp at this; exact this.1.symm
        rw [h2, hoc] at hown2
        rw [← e1]; exact Option.some.inj (hown.symm.trans hown2)
      have h6 := u_fits hfc hkC hkind (Or.inr hlay) hi hdd hn hfit
      exact W.putFinK hx hb hown hlink hi' hst hcf (by rw [hnm]; exact hin2) (by rw [q2]; exact h6) q1 q3 (by rw [hsl]; exact k2_hasslot (q4 k h1)) rfl rfl hd fin
  · cases hok
theorem pw_iald (C : pw_ctx D ca b B N xs M p s m args meth c) (ho : pw_op M pc = some (.iaload, np, t, q)) (hR : pw_rep D ca b B N xs h H) (hS : va_S (pw_A B) s.heap H locs) {a g n : Nat} {f : Nat → Int32} (ha : h[a]? = some (.inl (g, n, f))) (hg : g ≠ 1) {i : Int32} (hi : pw_inb i n = true)
    (kk : W p l e R s m args below meth c H locs cells slots Q (F0 m np ls (.int (f i.toNatClampNeg) :: st.map (pw_v (pw_ad b B))))) : W p l e R s m args below meth c H locs cells slots Q (F0 m pc ls (.int i :: .ref (pw_ad b B a) :: st.map (pw_v (pw_ad b B)))) := by
  obtain ⟨hx, hb, hml, hown, hts, hK, hX, hbB, hnm, hnw⟩ := C
  obtain ⟨hd, hnp, hok⟩ := pw_dec1 ho (by intro _ _ _ _ h; cases h)
  rw [hnp] at kk
  cases a with
  | zero =>
    have e1 := Option.some.inj (ha.symm.trans hR.1)
    cases e1
    exact va_sld hx hb hX (Nat.lt_of_lt_of_le hbB.1 hbB.2) (Nat.not_le.mpr hbB.1) hS (pw_inb_in hi) hd kk
  | succ j =>
    obtain ⟨hw, -⟩ := hR.2.2 j _ ha
    have h0 : g = 0 := hw.resolve_right hg
    subst h0
    exact va_iald hx hb hK (pw_one hR ha) 0 0 rfl rfl (pw_inb_in hi) hd kk
theorem pw_zald (C : pw_ctx D ca b B N xs M p s m args meth c) (ho : pw_op M pc = some (.baload, np, t, q)) (hR : pw_rep D ca b B N xs h H) {a n : Nat} {f : Nat → Int32} (ha : h[a]? = some (.inl (1, n, f))) {i : Int32} (hi : pw_inb i n = true)
    (kk : W p l e R s m args below meth c H locs cells slots Q (F0 m np ls (.int (f i.toNatClampNeg) :: st.map (pw_v (pw_ad b B))))) : W p l e R s m args below meth c H locs cells slots Q (F0 m pc ls (.int i :: .ref (pw_ad b B a) :: st.map (pw_v (pw_ad b B)))) := by
  obtain ⟨hx, hb, hml, hown, hts, hK, hX, hbB, hnm, hnw⟩ := C
  obtain ⟨hd, hnp, hok⟩ := pw_dec1 ho (by intro _ _ _ _ h; cases h)
  rw [hnp] at kk
  obtain ⟨j, rfl, -, hat⟩ := hR.obj ha (by intro h; cases h)
  exact va_zald hx hb hK (pw_one hR ha) 0 1 rfl rfl (pw_inb_in hi) hd kk
theorem pw_aald (C : pw_ctx D ca b B N xs M p s m args meth c) (ho : pw_op M pc = some (.aaload, np, t, q)) (hR : pw_rep D ca b B N xs h H) {a g n : Nat} {f : Nat → Option Nat} (ha : h[a]? = some (.inr (.inl (g, n, f)))) {i : Int32} (hi : pw_inb i n = true)
    (kk : W p l e R s m args below meth c H locs cells slots Q (F0 m np ls (pw_v (pw_ad b B) (.inr (f i.toNatClampNeg)) :: st.map (pw_v (pw_ad b B))))) : W p l e R s m args below meth c H locs cells slots Q (F0 m pc ls (.int i :: .ref (pw_ad b B a) :: st.map (pw_v (pw_ad b B)))) := by
  obtain ⟨hx, hb, hml, hown, hts, hK, hX, hbB, hnm, hnw⟩ := C
  obtain ⟨hd, hnp, hok⟩ := pw_dec1 ho (by intro _ _ _ _ h; cases h)
  rw [hnp, pw_v_rf] at kk
  obtain ⟨j, rfl, hw, hat⟩ := hR.obj ha (by intro h; cases h)
  rcases hw with rfl | rfl
  · exact va_aldq hx hb hK (pw_one hR ha) 0 2 rfl rfl (pw_inb_in hi) hd kk
  · exact va_aldq hx hb hK (pw_one hR ha) 0 3 rfl rfl (pw_inb_in hi) hd kk
theorem pw_iast (C : pw_ctx D ca b B N xs M p s m args meth c) (ho : pw_op M pc = some (.iastore, np, t, q)) (hR : pw_rep D ca b B N xs h H) (hS : va_S (pw_A B) s.heap H locs) {a n : Nat} {f : Nat → Int32} (ha : h[a]? = some (.inl (0, n, f))) {i x : Int32} (hi : pw_inb i n = true)
    (kk : ∀ (H1 : Heap) (locs1 : List Loc), pw_rep D ca b B N xs (h.set a (.inl (0, n, upd f i.toNatClampNeg x))) H1 → va_S (pw_A B) s.heap H1 locs1 → W p l e R s m args below meth c H1 locs1 cells slots Q (F0 m np ls (st.map (pw_v (pw_ad b B))))) : W p l e R s m args below meth c H locs cells slots Q (F0 m pc ls (.int x :: .int i :: .ref (pw_ad b B a) :: st.map (pw_v (pw_ad b B)))) := by
  obtain ⟨hx, hb, hml, hown, hts, hK, hX, hbB, hnm, hnw⟩ := C
  obtain ⟨hd, hnp, hok⟩ := pw_dec1 ho (by intro _ _ _ _ h; cases h)
  rw [hnp] at kk
  obtain ⟨j, rfl, hw, hat⟩ := hR.obj ha (by intro h; cases h)
  have hin := pw_inb_in hi
  refine W.iast hx hb hat ((hK.2 0 _ rfl).1 n (fun j => .int (f j))) (fun q => by cases q) (by show ¬ (i < 0 ∨ (arrV _ _ _).slots.size ≤ _); rw [arrV_size]; exact hin) rfl rfl hd fun H1 e z oq => ?_
  refine kk H1 _ (hR.set ha (Or.inl rfl) ?_ z oq) (pw_S1 hS z oq (Nat.le_add_right _ _))
  show H1[B + j]? = some (vp_cell _ _)
  rw [e]
  show some ((vp_cell (ca 0) (n, .inl f)).setSlot _ _) = some (vp_cell (ca 0) (n, .inl _))
  rw [vp_cell_i, vp_cell_i, arrV_store]
  congr 2
  funext r
  by_cases hr : r = i.toNatClampNeg
  · subst hr
    simp [updV, upd]
  · simp [updV, upd, hr]
theorem pw_zast (C : pw_ctx D ca b B N xs M p s m args meth c) (ho : pw_op M pc = some (.bastore, np, t, q)) (hR : pw_rep D ca b B N xs h H) (hS : va_S (pw_A B) s.heap H locs) {a n : Nat} {f : Nat → Int32} (ha : h[a]? = some (.inl (1, n, f))) {i x : Int32} (hi : pw_inb i n = true) (hbt : pw_bit x = true)
    (kk : ∀ (H1 : Heap) (locs1 : List Loc), pw_rep D ca b B N xs (h.set a (.inl (1, n, upd f i.toNatClampNeg x))) H1 → va_S (pw_A B) s.heap H1 locs1 → W p l e R s m args below meth c H1 locs1 cells slots Q (F0 m np ls (st.map (pw_v (pw_ad b B))))) : W p l e R s m args below meth c H locs cells slots Q (F0 m pc ls (.int x :: .int i :: .ref (pw_ad b B a) :: st.map (pw_v (pw_ad b B)))) := by
  obtain ⟨hx, hb, hml, hown, hts, hK, hX, hbB, hnm, hnw⟩ := C
  obtain ⟨hd, hnp, hok⟩ := pw_dec1 ho (by intro _ _ _ _ h; cases h)
  rw [hnp] at kk
  obtain ⟨j, rfl, hw, hat⟩ := hR.obj ha (by intro h; cases h)
  have hin := pw_inb_in hi
  have hnr : narrow .boolean (.int x) = .int x := by
    simp only [pw_bit, Bool.or_eq_true, decide_eq_true_eq] at hbt
    rcases hbt with rfl | rfl <;> rfl
  refine W.zast hx hb hat ((hK.2 1 _ rfl).1 n (fun j => .int (f j))) (fun q => by cases q) (by show ¬ (i < 0 ∨ (arrV _ _ _).slots.size ≤ _); rw [arrV_size]; exact hin) rfl rfl hd fun H1 e z oq => ?_
  refine kk H1 _ (hR.set ha (Or.inr rfl) ?_ z oq) (pw_S1 hS z oq (Nat.le_add_right _ _))
  show H1[B + j]? = some (vp_cell _ _)
  rw [e]
  show some ((vp_cell (ca 1) (n, .inl f)).setSlot _ _) = some (vp_cell (ca 1) (n, .inl _))
  rw [vp_cell_i, vp_cell_i, arrV_store]
  congr 2
  funext r
  by_cases hr : r = i.toNatClampNeg
  · subst hr
    simp [updV, upd, hnr]
  · simp [updV, upd, hr]
theorem pw_aast (C : pw_ctx D ca b B N xs M p s m args meth c) (ho : pw_op M pc = some (.aastore, np, t, q)) (hR : pw_rep D ca b B N xs h H) (hS : va_S (pw_A B) s.heap H locs) {a g n v : Nat} {f : Nat → Option Nat} {vs : List pw_V} (ha : h[a]? = some (.inr (.inl (g, n, f)))) (hv : h[v]? = some (.inr (.inr (g, vs)))) {i : Int32} (hi : pw_inb i n = true)
    (kk : ∀ (H1 : Heap) (locs1 : List Loc), pw_rep D ca b B N xs (h.set a (.inr (.inl (g, n, va_up f i.toNatClampNeg (some v))))) H1 → va_S (pw_A B) s.heap H1 locs1 → W p l e R s m args below meth c H1 locs1 cells slots Q (F0 m np ls (st.map (pw_v (pw_ad b B))))) : W p l e R s m args below meth c H locs cells slots Q (F0 m pc ls (.ref (pw_ad b B v) :: .int i :: .ref (pw_ad b B a) :: st.map (pw_v (pw_ad b B)))) := by
  obtain ⟨hx, hb, hml, hown, hts, hK, hX, hbB, hnm, hnw⟩ := C
  obtain ⟨hd, hnp, hok⟩ := pw_dec1 ho (by intro _ _ _ _ h; cases h)
  rw [hnp] at kk
  obtain ⟨j, rfl, hw, hat⟩ := hR.obj ha (by intro h; cases h)
  obtain ⟨j2, rfl, -, hat2⟩ := hR.obj hv (by intro h; cases h)
  have hin := pw_inb_in hi
  have hlt : i.toNatClampNeg < n := Nat.not_le.mp fun q => hin (Or.inr q)
  have h0 : ¬ i < 0 := fun q => hin (Or.inl q)
  obtain ⟨r', hr', cellV, g1, g2, g3, -⟩ := hat2
  have hcls := (hK.1 g r' hr').2
  have hRA : ∃ (kA : Class) (comp : ClassId), s.vm.classes[ca (g + 2)]? = some kA ∧ kA.kind = .array comp (.object r'.1) ∧ s.vm.findClass r'.1 = some comp := by
    rcases hw with rfl | rfl
    · obtain rfl := Option.some.inj hr'
      obtain ⟨kA, comp, k1, k2, k3, -⟩ := (hK.2 2 _ rfl).2
      exact ⟨kA, comp, k1, k2, k3⟩
    · obtain rfl := Option.some.inj hr'
      obtain ⟨kA, comp, k1, k2, k3, -⟩ := (hK.2 3 _ rfl).2
      exact ⟨kA, comp, k1, k2, k3⟩
  obtain ⟨kA, comp, k1, k2, k3⟩ := hRA
  have hcomp : comp = D.1 g := Option.some.inj (k3.symm.trans hcls.1)
  subst hcomp
  obtain ⟨kC, hkC, -⟩ := hcls.2
  refine W.aast hx hb hat (fun q h => by cases h) (fun h => by cases h) k1 k2 rfl hkC ⟨h0, by show _ < (arrV _ _ _).slots.size; rw [arrV_size]; exact hlt⟩ g1 (fun q h => by rw [g3] at h; cases h) (by rw [g2]; exact hkC) (by rw [g2]; exact va_assign hcls) rfl rfl hd fun H1 e z oq => ?_
  refine kk H1 _ (hR.set ha hw ?_ z oq) (pw_S1 hS z oq (Nat.le_add_right _ _))
  show H1[B + j]? = some (vp_cell _ _)
  rw [e]
  show some ((vp_cell (ca (g + 2)) (n, .inr (.inr (.inr (.inr _))))).setSlot _ _) = some (vp_cell (ca (g + 2)) (n, .inr (.inr (.inr (.inr _)))))
  rw [vp_cell_q, vp_cell_q, arrV_store]
  congr 2
  funext r
  by_cases hr : r = i.toNatClampNeg
  · subst hr
    simp [updV, va_up, va_rf]
    rfl
  · simp [updV, va_up, hr]
theorem pw_alen (C : pw_ctx D ca b B N xs M p s m args meth c) (ho : pw_op M pc = some (.arraylength, np, t, q)) (hR : pw_rep D ca b B N xs h H) (hS : va_S (pw_A B) s.heap H locs) {a g n : Nat} {f : Nat → Int32} (ha : h[a]? = some (.inl (g, n, f)))
    (kk : W p l e R s m args below meth c H locs cells slots Q (F0 m np ls (.int (Int32.ofNat n) :: st.map (pw_v (pw_ad b B))))) : W p l e R s m args below meth c H locs cells slots Q (F0 m pc ls (.ref (pw_ad b B a) :: st.map (pw_v (pw_ad b B)))) := by
  obtain ⟨hx, hb, hml, hown, hts, hK, hX, hbB, hnm, hnw⟩ := C
  obtain ⟨hd, hnp, hok⟩ := pw_dec1 ho (by intro _ _ _ _ h; cases h)
  rw [hnp] at kk
  cases a with
  | zero =>
    have e1 := Option.some.inj (ha.symm.trans hR.1)
    cases e1
    exact va_slen hx hb hX (Nat.lt_of_lt_of_le hbB.1 hbB.2) (Nat.not_le.mpr hbB.1) hS hd kk
  | succ j =>
    obtain ⟨hw, -⟩ := hR.2.2 j _ ha
    rcases hw with rfl | rfl
    · exact va_alen (ty := .int) hx hb hK (pw_one hR ha) 0 0 rfl rfl rfl hd kk
    · exact va_alen (ty := .boolean) hx hb hK (pw_one hR ha) 0 1 rfl rfl rfl hd kk
end PWS
end
section
section PWT
variable {p : Program} {l : Launch} {e : Env} {R : Room} {s : State} {m : MethodId} {args : Array Value} {below : List Frame} {meth : Method} {c : Code} {H : Heap} {locs : List Loc} {cells slots : Nat} {Q : State → Prop}
variable {D : va_G} {ca : Nat → ClassId} {b B N : Nat} {xs : Nat → Int32} {M pc np t : Nat} {q : List Nat} {ls : Array Slot} {L : pw_L} {st : List pw_V} {h : pw_H}
theorem pw_SN {A : Nat → Prop} {H0 H1 : Heap} (hS : va_S A H0 H locs) (hz : H1.size = H.size + 1) (oq : ∀ q : Nat, q < H.size → H1[q]? = H[q]?) : va_S A H0 H1 locs :=
  ⟨Nat.le_trans hS.1 (by omega), fun x h1 h2 => (oq x (Nat.lt_of_lt_of_le h1 hS.1)).trans (hS.2.1 x h1 h2), hS.2.2⟩
theorem pw_newo (C : pw_ctx D ca b B N xs M p s m args meth c) {idx : Nat} (ho : pw_op M pc = some (.new idx, np, t, q)) (hR : pw_rep D ca b B N xs h H) (hS : va_S (pw_A B) s.heap H locs) (hc : cells + 1 ≤ R.cells) (hs : slots + (pw_def t).length ≤ R.slots)
    (kk : ∀ (H1 : Heap), pw_rep D ca b B N xs (h ++ [.inr (.inr (t, pw_def t))]) H1 → va_S (pw_A B) s.heap H1 locs → W p l e R s m args below meth c H1 locs (cells + 1) (slots + (pw_def t).length) Q (F0 m np ls (.ref (pw_ad b B h.length) :: st.map (pw_v (pw_ad b B))))) : W p l e R s m args below meth c H locs cells slots Q (F0 m pc ls (st.map (pw_v (pw_ad b B)))) := by
  obtain ⟨hx, hb, hml, hown, hts, hK, hX, hbB, hnm, hnw⟩ := C
  obtain ⟨hd, hnp, hok⟩ := pw_dec1 ho (by intro _ _ _ _ h; cases h)
  rw [hnp] at kk
  simp only [pw_okI] at hok
  split at hok
  · rename_i r w1 w2 w3 hr
    simp only [Bool.and_eq_true] at hok
    obtain ⟨⟨h1, h2⟩, h3⟩ := hok
    have hKn := hK.1 t _ hr
    obtain ⟨hdf, hdl⟩ := pw_u_df hr (pw_ad b B)
    rw [hdl] at hs kk
    refine W.newcK hx hb hown (hts _ (pw_has_in h1)) (hts _ (pw_has_in h2)) (hts _ (pw_has_in h3)) rfl hd hc hs hKn.2.1 rfl fun H1 kC hkC e1 z1 o1 => ?_
    have k1 := kk H1 (hR.push trivial ⟨_, hr, (u_born (pw_tyf t) hts (pw_u_in hr) hKn hkC e1 (pw_u_ty hr)).to hdf⟩ z1 o1) (pw_SN hS z1 o1)
    rw [hR.adn] at k1
    exact k1
  · cases hok
theorem pw_newi (C : pw_ctx D ca b B N xs M p s m args meth c) {ty : ArrayType} (ho : pw_op M pc = some (.newarray ty, np, t, q)) (hR : pw_rep D ca b B N xs h H) (hS : va_S (pw_A B) s.heap H locs) {n : Int32} (hn : 0 ≤ n.toInt ∧ n.toInt ≤ 100000) (hc : cells + 1 ≤ R.cells) (hs : slots + n.toNatClampNeg ≤ R.slots)
    (kk : ∀ (H1 : Heap), pw_rep D ca b B N xs (h ++ [.inl (t, n.toNatClampNeg, fun _ => 0)]) H1 → va_S (pw_A B) s.heap H1 locs → W p l e R s m args below meth c H1 locs (cells + 1) (slots + n.toNatClampNeg) Q (F0 m np ls (.ref (pw_ad b B h.length) :: st.map (pw_v (pw_ad b B))))) : W p l e R s m args below meth c H locs cells slots Q (F0 m pc ls (.int n :: st.map (pw_v (pw_ad b B)))) := by
  obtain ⟨hx, hb, hml, hown, hts, hK, hX, hbB, hnm, hnw⟩ := C
  obtain ⟨hd, hnp, hok⟩ := pw_dec1 ho (by intro _ _ _ _ h; cases h)
  rw [hnp] at kk
  simp only [pw_okI] at hok
  split at hok
  · rename_i w
    simp only [Bool.and_eq_true] at hok
    obtain ⟨h1, h2⟩ := hok
    have hn0 : ¬ n < 0 := by
      rw [Int32.lt_iff_toInt_lt]
      exact Int.not_lt.mpr hn.1
    have hcl : n.toNatClampNeg ≤ 100000 := by
      show n.toInt.toNat ≤ 100000
      omega
    split at h1
    · obtain rfl := of_decide_eq_true h1
      refine va_newaK hx hb (hts _ (pw_has_in h2)) rfl hd rfl hn0 rfl (by show n.toNatClampNeg * 4 ≤ _; omega) hc hs rfl fun H1 cA e1 z1 o1 hAr hNm => ?_
      have hca : cA = ca 0 := Option.some.inj (hNm.symm.trans (hK.2 0 _ rfl).2)
      subst hca
      have k1 := kk H1 (hR.push (Or.inl rfl) e1 z1 o1) (pw_SN hS z1 o1)
      rw [hR.adn] at k1
      exact k1
    · obtain rfl := of_decide_eq_true h1
      refine va_newaK hx hb (hts _ (pw_has_in h2)) rfl hd rfl hn0 rfl (by show n.toNatClampNeg * 1 ≤ _; omega) hc hs rfl fun H1 cA e1 z1 o1 hAr hNm => ?_
      have hca : cA = ca 1 := Option.some.inj (hNm.symm.trans (hK.2 1 _ rfl).2)
      subst hca
      have k1 := kk H1 (hR.push (Or.inr rfl) e1 z1 o1) (pw_SN hS z1 o1)
      rw [hR.adn] at k1
      exact k1
    · cases h1
  · cases hok
theorem pw_newr (C : pw_ctx D ca b B N xs M p s m args meth c) {idx : Nat} (ho : pw_op M pc = some (.anewarray idx, np, t, q)) (hR : pw_rep D ca b B N xs h H) (hS : va_S (pw_A B) s.heap H locs) {n : Int32} (hn : 0 ≤ n.toInt ∧ n.toInt ≤ 100000) (hc : cells + 1 ≤ R.cells) (hs : slots + n.toNatClampNeg ≤ R.slots)
    (kk : ∀ (H1 : Heap), pw_rep D ca b B N xs (h ++ [.inr (.inl (t, n.toNatClampNeg, fun _ => none))]) H1 → va_S (pw_A B) s.heap H1 locs → W p l e R s m args below meth c H1 locs (cells + 1) (slots + n.toNatClampNeg) Q (F0 m np ls (.ref (pw_ad b B h.length) :: st.map (pw_v (pw_ad b B))))) : W p l e R s m args below meth c H locs cells slots Q (F0 m pc ls (.int n :: st.map (pw_v (pw_ad b B)))) := by
  obtain ⟨hx, hb, hml, hown, hts, hK, hX, hbB, hnm, hnw⟩ := C
  obtain ⟨hd, hnp, hok⟩ := pw_dec1 ho (by intro _ _ _ _ h; cases h)
  rw [hnp] at kk
  simp only [pw_okI] at hok
  split at hok
  · rename_i r w hr
    simp only [Bool.and_eq_true, Bool.or_eq_true, decide_eq_true_eq] at hok
    obtain ⟨h1, h2⟩ := hok
    have hn0 : ¬ n < 0 := by
      rw [Int32.lt_iff_toInt_lt]
      exact Int.not_lt.mpr hn.1
    have hcl : n.toNatClampNeg ≤ 100000 := by
      show n.toInt.toNat ≤ 100000
      omega
    have fin : ∀ (C : String), (Cond.classLink (pw_inf M).1.cls idx C).before args s = true → va_AO C s → s.vm.findClass ("[" ++ (FieldType.object C).toString) = some (ca (t + 2)) → pw_wf (.inr (.inl (t, n.toNatClampNeg, fun _ => none))) → W p l e R s m args below meth c H locs cells slots Q (F0 m pc ls (.int n :: st.map (pw_v (pw_ad b B)))) := by
      intro C hl hao hfc hw
      refine W.anew hx hb hown hl (va_AO.use hao) rfl hd rfl hn0 (by omega) hc hs fun cA kA comp f1 f2 f3 f4 => ?_
      have hca : cA = ca (t + 2) := Option.some.inj (f1.symm.trans hfc)
      subst hca
      generalize hH1 : H.push ({ cls := ca (t + 2), slots := Array.replicate n.toNatClampNeg .null, vm := .none } : Cell) = H1
      have z1 : H1.size = H.size + 1 := by rw [← hH1, Array.size_push]
      have e1 : H1[H.size]? = some (arrV (ca (t + 2)) n.toNatClampNeg (fun _ => .null)) := by rw [← hH1, Array.getElem?_push_size, ← arrV_new]
      have o1 : ∀ q : Nat, q < H.size → H1[q]? = H[q]? := fun q hq => by rw [← hH1, Array.getElem?_push, if_neg (Nat.ne_of_lt hq)]
      have k1 := kk H1 (hR.push hw e1 z1 o1) (pw_SN hS z1 o1)
      rw [hR.adn] at k1
      exact k1
    rcases h1 with rfl | rfl
    · obtain rfl := Option.some.inj hr
      obtain ⟨kA, comp, k1, k2, k3, k4⟩ := (hK.2 2 _ rfl).2
      exact fin _ (hts _ (pw_has_in h2)) hnw.2.1 k4 (Or.inl rfl)
    · obtain rfl := Option.some.inj hr
      obtain ⟨kA, comp, k1, k2, k3, k4⟩ := (hK.2 3 _ rfl).2
      exact fin _ (hts _ (pw_has_in h2)) hnw.2.2 k4 (Or.inr rfl)
  · cases hok
theorem pw_ldv (hl : pw_lr (pw_ad b B) ls L) {k : Nat} {v : pw_V} (h : L[k]? = some (some v)) : ls[k]? = some (.val (pw_v (pw_ad b B) v)) := hl.2.2 k v h
/-- a simple instruction -/
theorem pw_step_sound (C : pw_ctx D ca b B N xs M p s m args meth c) {o : pw_O} (ho : pw_op M pc = some o) {pc' : Nat} {L' : pw_L} {st' : List pw_V} {h' : pw_H} (hs : pw_step o L st h = some (pc', L', st', h')) (hl : pw_lr (pw_ad b B) ls L) (hR : pw_rep D ca b B N xs h H) (hS : va_S (pw_A B) s.heap H locs) (hc : cells + h'.length ≤ R.cells + h.length) (hsl : slots + pw_size h' ≤ R.slots + pw_size h)
    (kk : ∀ (ls' : Array Slot) (H' : Heap) (locs' : List Loc) (cells' slots' : Nat), pw_lr (pw_ad b B) ls' L' → pw_rep D ca b B N xs h' H' → va_S (pw_A B) s.heap H' locs' → cells' + h.length = cells + h'.length → slots' + pw_size h = slots + pw_size h' → W p l e R s m args below meth c H' locs' cells' slots' Q (F0 m pc' ls' (st'.map (pw_v (pw_ad b B))))) : W p l e R s m args below meth c H locs cells slots Q (F0 m pc ls (st.map (pw_v (pw_ad b B)))) := by
  have hx := C.1
  have hb := C.2.1
  have hown := C.2.2.2.1
  have hts := C.2.2.2.2.1
  obtain ⟨i, np, t, q⟩ := o
  have same : pc' = np → L' = L → h' = h → W p l e R s m args below meth c H locs cells slots Q (F0 m np ls (st'.map (pw_v (pw_ad b B)))) := by
    rintro rfl rfl rfl
    exact kk ls H locs cells slots hl hR hS rfl rfl
  cases i with
  | iconst z =>
    obtain ⟨hd, hnp, -⟩ := pw_dec1 ho (by intro _ _ _ _ h; cases h)
    cases hs
    have k1 := same rfl rfl rfl
    rw [hnp] at k1
    exact lv_iconst hx hb hd rfl k1
  | bipush z =>
    obtain ⟨hd, hnp, -⟩ := pw_dec1 ho (by intro _ _ _ _ h; cases h)
    cases hs
    have k1 := same rfl rfl rfl
    rw [hnp] at k1
    exact lv_bipush hx hb hd rfl k1
  | sipush z =>
    obtain ⟨hd, hnp, -⟩ := pw_dec1 ho (by intro _ _ _ _ h; cases h)
    cases hs
    have k1 := same rfl rfl rfl
    rw [hnp] at k1
    exact lv_sipush hx hb hd rfl k1
  | ldc_w z =>
    obtain ⟨hd, hnp, hok⟩ := pw_dec1 ho (by intro _ _ _ _ h; cases h)
    cases hs
    have k1 := same rfl rfl rfl
    rw [hnp] at k1
    simp only [pw_okI] at hok
    split at hok
    · exact lv_ldcw hx hb hown (hts _ (pw_has_in hok)) hd k1
    · cases hok
  | aconst_null =>
    obtain ⟨hd, hnp, -⟩ := pw_dec1 ho (by intro _ _ _ _ h; cases h)
    cases hs
    have k1 := same rfl rfl rfl
    rw [hnp] at k1
    exact lv_null hx hb hd k1
  | iload k =>
    obtain ⟨hd, hnp, -⟩ := pw_dec1 ho (by intro _ _ _ _ h; cases h)
    simp only [pw_step] at hs
    split at hs
    · rename_i x hk
      cases hs
      have k1 := same rfl rfl rfl
      rw [hnp] at k1
      exact lv_iload hx hb hd (pw_ldv hl hk) k1
    · cases hs
  | iload_n k =>
    obtain ⟨hd, hnp, -⟩ := pw_dec1 ho (by intro _ _ _ _ h; cases h)
    simp only [pw_step] at hs
    split at hs
    · rename_i x hk
      cases hs
      have k1 := same rfl rfl rfl
      rw [hnp] at k1
      exact lv_iload_n hx hb hd rfl (pw_ldv hl hk) k1
    · cases hs
  | aload k =>
    obtain ⟨hd, hnp, -⟩ := pw_dec1 ho (by intro _ _ _ _ h; cases h)
    simp only [pw_step] at hs
    split at hs
    · rename_i x hk
      cases hs
      have k1 := same rfl rfl rfl
      rw [hnp] at k1
      cases x with
      | none => exact lv_aloadN hx hb hd (pw_ldv hl hk) k1
      | some x => exact lv_aload hx hb hd (pw_ldv hl hk) k1
    · cases hs
  | aload_n k =>
    obtain ⟨hd, hnp, -⟩ := pw_dec1 ho (by intro _ _ _ _ h; cases h)
    simp only [pw_step] at hs
    split at hs
    · rename_i x hk
      cases hs
      have k1 := same rfl rfl rfl
      rw [hnp] at k1
      cases x with
      | none => exact lv_aload_nN hx hb hd rfl (pw_ldv hl hk) k1
      | some x => exact lv_aload_n hx hb hd rfl (pw_ldv hl hk) k1
    · cases hs
  | istore k =>
    obtain ⟨hd, hnp, -⟩ := pw_dec1 ho (by intro _ _ _ _ h; cases h)
    simp only [pw_step] at hs
    split at hs
    · rename_i x st0
      split at hs
      · rename_i hk
        cases hs
        refine lv_istore hx hb hd hl.has hk rfl (fun ls' hl' => ?_)
        rw [← show _ = pc + 2 from hnp]
        exact kk ls' H locs cells slots (pw_lr.of (v := .inl x) hk hl') hR hS rfl rfl
      · cases hs
    · cases hs
  | istore_n k =>
    obtain ⟨hd, hnp, -⟩ := pw_dec1 ho (by intro _ _ _ _ h; cases h)
    simp only [pw_step] at hs
    split at hs
    · rename_i x st0
      split at hs
      · rename_i hk
        cases hs
        refine lv_istore_n hx hb hd rfl hl.has hk rfl (fun ls' hl' => ?_)
        rw [← show _ = pc + 1 from hnp]
        exact kk ls' H locs cells slots (pw_lr.of (v := .inl x) hk hl') hR hS rfl rfl
      · cases hs
    · cases hs
  | astore k =>
    obtain ⟨hd, hnp, -⟩ := pw_dec1 ho (by intro _ _ _ _ h; cases h)
    simp only [pw_step] at hs
    split at hs
    · rename_i x st0
      split at hs
      · rename_i hk
        cases hs
        cases x with
        | none =>
          refine lv_astoreN hx hb hd hl.has hk rfl (fun ls' hl' => ?_)
          rw [← show _ = pc + 2 from hnp]
          exact kk ls' H locs cells slots (pw_lr.of (v := .inr none) hk hl') hR hS rfl rfl
        | some x =>
          refine lv_astore hx hb hd hl.has hk rfl (fun ls' hl' => ?_)
          rw [← show _ = pc + 2 from hnp]
          exact kk ls' H locs cells slots (pw_lr.of (v := .inr (some x)) hk hl') hR hS rfl rfl
      · cases hs
    · cases hs
  | astore_n k =>
    obtain ⟨hd, hnp, -⟩ := pw_dec1 ho (by intro _ _ _ _ h; cases h)
    simp only [pw_step] at hs
    split at hs
    · rename_i x st0
      split at hs
      · rename_i hk
        cases hs
        cases x with
        | none =>
          refine lv_astore_nN hx hb hd rfl hl.has hk rfl (fun ls' hl' => ?_)
          rw [← show _ = pc + 1 from hnp]
          exact kk ls' H locs cells slots (pw_lr.of (v := .inr none) hk hl') hR hS rfl rfl
        | some x =>
          refine lv_astore_n hx hb hd rfl hl.has hk rfl (fun ls' hl' => ?_)
          rw [← show _ = pc + 1 from hnp]
          exact kk ls' H locs cells slots (pw_lr.of (v := .inr (some x)) hk hl') hR hS rfl rfl
      · cases hs
    · cases hs
  | iinc k z =>
    obtain ⟨hd, hnp, -⟩ := pw_dec1 ho (by intro _ _ _ _ h; cases h)
    simp only [pw_step] at hs
    split at hs
    · rename_i x hk
      cases hs
      obtain ⟨j, hj⟩ := List.getElem?_of_mem (pw_lv_mem (ad := pw_ad b B) hk)
      have hkl := (List.getElem?_eq_some_iff.mp hk).1
      refine lv_iinc hx hb hd hl.has hj rfl hkl rfl (fun ls' hl' => ?_)
      rw [← show _ = pc + 3 from hnp]
      exact kk ls' H locs cells slots (pw_lr.of (v := .inl (x + Int32.ofInt z)) hkl hl') hR hS rfl rfl
    · cases hs
  | iadd =>
    obtain ⟨hd, hnp, -⟩ := pw_dec1 ho (by intro _ _ _ _ h; cases h)
    simp only [pw_step] at hs
    split at hs
    · cases hs
      have k1 := same rfl rfl rfl
      rw [hnp] at k1
      exact lv_iadd hx hb hd  k1
    · cases hs
  | isub =>
    obtain ⟨hd, hnp, -⟩ := pw_dec1 ho (by intro _ _ _ _ h; cases h)
    simp only [pw_step] at hs
    split at hs
    · cases hs
      have k1 := same rfl rfl rfl
      rw [hnp] at k1
      exact lv_isub hx hb hd  k1
    · cases hs
  | imul =>
    obtain ⟨hd, hnp, -⟩ := pw_dec1 ho (by intro _ _ _ _ h; cases h)
    simp only [pw_step] at hs
    split at hs
    · cases hs
      have k1 := same rfl rfl rfl
      rw [hnp] at k1
      exact lv_imul hx hb hd  k1
    · cases hs
  | iand =>
    obtain ⟨hd, hnp, -⟩ := pw_dec1 ho (by intro _ _ _ _ h; cases h)
    simp only [pw_step] at hs
    split at hs
    · cases hs
      have k1 := same rfl rfl rfl
      rw [hnp] at k1
      exact lv_iand hx hb hd  k1
    · cases hs
  | ior =>
    obtain ⟨hd, hnp, -⟩ := pw_dec1 ho (by intro _ _ _ _ h; cases h)
    simp only [pw_step] at hs
    split at hs
    · cases hs
      have k1 := same rfl rfl rfl
      rw [hnp] at k1
      exact lv_ior hx hb hd  k1
    · cases hs
  | ixor =>
    obtain ⟨hd, hnp, -⟩ := pw_dec1 ho (by intro _ _ _ _ h; cases h)
    simp only [pw_step] at hs
    split at hs
    · cases hs
      have k1 := same rfl rfl rfl
      rw [hnp] at k1
      exact lv_ixor hx hb hd  k1
    · cases hs
  | ishl =>
    obtain ⟨hd, hnp, -⟩ := pw_dec1 ho (by intro _ _ _ _ h; cases h)
    simp only [pw_step] at hs
    split at hs
    · cases hs
      have k1 := same rfl rfl rfl
      rw [hnp] at k1
      exact lv_ishl hx hb hd  k1
    · cases hs
  | ishr =>
    obtain ⟨hd, hnp, -⟩ := pw_dec1 ho (by intro _ _ _ _ h; cases h)
    simp only [pw_step] at hs
    split at hs
    · cases hs
      have k1 := same rfl rfl rfl
      rw [hnp] at k1
      exact lv_ishr hx hb hd  k1
    · cases hs
  | iushr =>
    obtain ⟨hd, hnp, -⟩ := pw_dec1 ho (by intro _ _ _ _ h; cases h)
    simp only [pw_step] at hs
    split at hs
    · cases hs
      have k1 := same rfl rfl rfl
      rw [hnp] at k1
      exact lv_iushr hx hb hd rfl k1
    · cases hs
  | idiv =>
    obtain ⟨hd, hnp, -⟩ := pw_dec1 ho (by intro _ _ _ _ h; cases h)
    simp only [pw_step] at hs
    split at hs
    · split at hs
      · cases hs
      · rename_i hne
        cases hs
        have k1 := same rfl rfl rfl
        rw [hnp] at k1
        exact lv_idiv hx hb hd hne k1
    · cases hs
  | irem =>
    obtain ⟨hd, hnp, -⟩ := pw_dec1 ho (by intro _ _ _ _ h; cases h)
    simp only [pw_step] at hs
    split at hs
    · split at hs
      · cases hs
      · rename_i hne
        cases hs
        have k1 := same rfl rfl rfl
        rw [hnp] at k1
        exact lv_irem hx hb hd hne k1
    · cases hs
  | ineg =>
    obtain ⟨hd, hnp, -⟩ := pw_dec1 ho (by intro _ _ _ _ h; cases h)
    simp only [pw_step] at hs
    split at hs
    · cases hs
      have k1 := same rfl rfl rfl
      rw [hnp] at k1
      exact lv_ineg hx hb hd  k1
    · cases hs
  | dup =>
    obtain ⟨hd, hnp, -⟩ := pw_dec1 ho (by intro _ _ _ _ h; cases h)
    simp only [pw_step] at hs
    split at hs
    · cases hs
      have k1 := same rfl rfl rfl
      rw [hnp] at k1
      exact lv_dup hx hb hd (pw_cat _ _) k1
    · cases hs
  | dup_x1 =>
    obtain ⟨hd, hnp, -⟩ := pw_dec1 ho (by intro _ _ _ _ h; cases h)
    simp only [pw_step] at hs
    split at hs
    · cases hs
      have k1 := same rfl rfl rfl
      rw [hnp] at k1
      exact lv_dup_x1 hx hb hd (pw_cat _ _) (pw_cat _ _) k1
    · cases hs
  | dup2 =>
    obtain ⟨hd, hnp, -⟩ := pw_dec1 ho (by intro _ _ _ _ h; cases h)
    simp only [pw_step] at hs
    split at hs
    · cases hs
      have k1 := same rfl rfl rfl
      rw [hnp] at k1
      exact lv_dup2_11 hx hb hd (pw_cat _ _) (pw_cat _ _) k1
    · cases hs
  | pop =>
    obtain ⟨hd, hnp, -⟩ := pw_dec1 ho (by intro _ _ _ _ h; cases h)
    simp only [pw_step] at hs
    split at hs
    · cases hs
      have k1 := same rfl rfl rfl
      rw [hnp] at k1
      exact lv_pop hx hb hd (pw_cat _ _) k1
    · cases hs
  | ifCond cd off =>
    obtain ⟨hd, hnp, hok⟩ := pw_dec1 ho (by intro _ _ _ _ h; cases h)
    have htg := of_decide_eq_true hok
    simp only [pw_step] at hs
    split at hs
    · rename_i x st0
      cases hs
      have kt : pw_cond cd x 0 = true → W p l e R s m args below meth c H locs cells slots Q (F0 m t ls (st'.map (pw_v (pw_ad b B)))) := fun hcd => by
        have k1 := kk ls H locs cells slots hl hR hS rfl rfl
        rw [hcd] at k1
        exact k1
      have kf : pw_cond cd x 0 = false → W p l e R s m args below meth c H locs cells slots Q (F0 m (pc + 3) ls (st'.map (pw_v (pw_ad b B)))) := fun hcd => by
        have k1 := kk ls H locs cells slots hl hR hS rfl rfl
        rw [hcd] at k1
        rw [← show _ = pc + 3 from hnp]
        exact k1
      cases cd
      case eq => exact lv_if_eq hx hb hd htg (fun hq => kt (by simp [pw_cond, hq])) (fun hq => kf (by simp [pw_cond, hq]))
      case ne => exact lv_if_ne hx hb hd htg (fun hq => kt (by simp [pw_cond, hq])) (fun hq => kf (by simp [pw_cond, hq]))
      case lt => exact lv_if_lt hx hb hd htg (fun hq => kt (by simp [pw_cond, hq])) (fun hq => kf (by simp [pw_cond, hq]))
      case ge => exact lv_if_ge hx hb hd htg (fun hq => kt (by simp [pw_cond, hq])) (fun hq => kf (by simp [pw_cond, hq]))
      case gt => exact lv_if_gt hx hb hd htg (fun hq => kt (by simp [pw_cond, hq])) (fun hq => kf (by simp [pw_cond, hq]))
      case le => exact lv_if_le hx hb hd htg (fun hq => kt (by simp [pw_cond, hq])) (fun hq => kf (by simp [pw_cond, hq]))
    · cases hs
  | if_icmp cd off =>
    obtain ⟨hd, hnp, hok⟩ := pw_dec1 ho (by intro _ _ _ _ h; cases h)
    have htg := of_decide_eq_true hok
    simp only [pw_step] at hs
    split at hs
    · rename_i y x st0
      cases hs
      have kt : pw_cond cd x y = true → W p l e R s m args below meth c H locs cells slots Q (F0 m t ls (st'.map (pw_v (pw_ad b B)))) := fun hcd => by
        have k1 := kk ls H locs cells slots hl hR hS rfl rfl
        rw [hcd] at k1
        exact k1
      have kf : pw_cond cd x y = false → W p l e R s m args below meth c H locs cells slots Q (F0 m (pc + 3) ls (st'.map (pw_v (pw_ad b B)))) := fun hcd => by
        have k1 := kk ls H locs cells slots hl hR hS rfl rfl
        rw [hcd] at k1
        rw [← show _ = pc + 3 from hnp]
        exact k1
      cases cd
      case eq => exact lv_icmp_eq hx hb hd htg (fun hq => kt (by simp [pw_cond, hq])) (fun hq => kf (by simp [pw_cond, hq]))
      case ne => exact lv_icmp_ne hx hb hd htg (fun hq => kt (by simp [pw_cond, hq])) (fun hq => kf (by simp [pw_cond, hq]))
      case lt => exact lv_icmp_lt hx hb hd htg (fun hq => kt (by simp [pw_cond, hq])) (fun hq => kf (by simp [pw_cond, hq]))
      case ge => exact lv_icmp_ge hx hb hd htg (fun hq => kt (by simp [pw_cond, hq])) (fun hq => kf (by simp [pw_cond, hq]))
      case gt => exact lv_icmp_gt hx hb hd htg (fun hq => kt (by simp [pw_cond, hq])) (fun hq => kf (by simp [pw_cond, hq]))
      case le => exact lv_icmp_le hx hb hd htg (fun hq => kt (by simp [pw_cond, hq])) (fun hq => kf (by simp [pw_cond, hq]))
    · cases hs
  | ifnull off =>
    obtain ⟨hd, hnp, hok⟩ := pw_dec1 ho (by intro _ _ _ _ h; cases h)
    have htg := of_decide_eq_true hok
    simp only [pw_step] at hs
    split at hs
    · cases hs
      have k1 := kk ls H locs cells slots hl hR hS rfl rfl
      exact lv_ifnullN hx hb hd htg k1
    · cases hs
      have k1 := kk ls H locs cells slots hl hR hS rfl rfl
      rw [hnp] at k1; exact lv_ifnull hx hb hd k1
    · cases hs
  | ifnonnull off =>
    obtain ⟨hd, hnp, hok⟩ := pw_dec1 ho (by intro _ _ _ _ h; cases h)
    have htg := of_decide_eq_true hok
    simp only [pw_step] at hs
    split at hs
    · cases hs
      have k1 := kk ls H locs cells slots hl hR hS rfl rfl
      rw [hnp] at k1; exact lv_ifnonnullN hx hb hd k1
    · cases hs
      have k1 := kk ls H locs cells slots hl hR hS rfl rfl
      exact lv_ifnonnull hx hb hd htg k1
    · cases hs
  | goto off =>
    obtain ⟨hd, hnp, hok⟩ := pw_dec1 ho (by intro _ _ _ _ h; cases h)
    have htg := of_decide_eq_true hok
    cases hs
    exact lv_goto hx hb hd htg (kk ls H locs cells slots hl hR hS rfl rfl)
  | tableswitch df lo hi offs =>
    obtain ⟨⟨len, hd, hnp, -⟩, hok⟩ := pw_dec ho
    simp only [pw_okI, Bool.and_eq_true, decide_eq_true_eq] at hok
    obtain ⟨⟨htg, hql⟩, hqs⟩ := hok
    simp only [pw_step] at hs
    split at hs
    · rename_i x st0
      split at hs
      · rename_i hout
        cases hs
        exact lv_tableOut hx hb hd hout htg (kk ls H locs cells slots hl hR hS rfl rfl)
      · rename_i hin
        split at hs
        · rename_i u hu
          have hj := (List.getElem?_eq_some_iff.mp hu).1
          have e1 : (q.map (fun u : Nat => some ((u : Int) - (pc : Int))))[(x.toInt - lo).toNat]? = some (some ((u : Int) - (pc : Int))) := by rw [List.getElem?_map, hu]; rfl
          rw [hqs, List.getElem?_map, List.getElem?_range hj] at e1
          have e2 : offs[(x.toInt - lo).toNat]? = some ((u : Int) - (pc : Int)) := Option.some.inj e1
          cases hs
          exact lv_tableIn hx hb hd (fun h => hin (Or.inl h)) (fun h => hin (Or.inr h)) e2 (by omega) (kk ls H locs cells slots hl hR hS rfl rfl)
        · cases hs
    · cases hs
  | getfield idx =>
    simp only [pw_step] at hs
    split at hs
    · rename_i a st0 k q'
      split at hs
      · rename_i c0 fs ha
        split at hs
        · rename_i hct
          subst hct
          split at hs
          · rename_i v hv
            cases hs
            exact pw_getf C ho hR rfl ha hv (kk ls H locs cells slots hl hR hS rfl rfl)
          · cases hs
        · cases hs
      · cases hs
    · cases hs
  | putfield idx =>
    simp only [pw_step] at hs
    split at hs
    · rename_i v a st0 k kd q'
      split at hs
      · rename_i c0 fs ha
        split at hs
        · rename_i hct
          obtain ⟨rfl, hk, hkd⟩ := hct
          cases hs
          have hzz : pw_size (h.set a (.inr (.inr (c0, fs.set k v)))) = pw_size h := pw_size_set ha (by simp [pw_sz])
          exact pw_putf C ho hR hS rfl ha hk hkd (fun H1 locs1 hR1 hS1 => kk ls H1 locs1 cells slots hl hR1 hS1 (by rw [List.length_set]) (by rw [hzz]))
        · cases hs
      · cases hs
    · cases hs
  | iaload =>
    simp only [pw_step] at hs
    split at hs
    · split at hs
      · rename_i g n f ha
        split at hs
        · rename_i hg
          cases hs
          exact pw_iald C ho hR hS ha hg.1 hg.2 (kk ls H locs cells slots hl hR hS rfl rfl)
        · cases hs
      · cases hs
    · cases hs
  | baload =>
    simp only [pw_step] at hs
    split at hs
    · split at hs
      · rename_i g n f ha
        split at hs
        · rename_i hg
          obtain ⟨rfl, hg⟩ := hg
          cases hs
          exact pw_zald C ho hR ha hg (kk ls H locs cells slots hl hR hS rfl rfl)
        · cases hs
      · cases hs
    · cases hs
  | iastore =>
    simp only [pw_step] at hs
    split at hs
    · rename_i x i a st0
      split at hs
      · rename_i g n f ha
        split at hs
        · rename_i hg
          obtain ⟨rfl, hg⟩ := hg
          have hzz : pw_size (h.set a (.inl (0, n, upd f i.toNatClampNeg x))) = pw_size h := pw_size_set ha rfl
          cases hs
          exact pw_iast C ho hR hS ha hg (fun H1 locs1 hR1 hS1 => kk ls H1 locs1 cells slots hl hR1 hS1 (by rw [List.length_set]) (by rw [hzz]))
        · cases hs
      · cases hs
    · cases hs
  | bastore =>
    simp only [pw_step] at hs
    split at hs
    · rename_i x i a st0
      split at hs
      · rename_i g n f ha
        split at hs
        · rename_i hg
          obtain ⟨rfl, hg, hbt⟩ := hg
          have hzz : pw_size (h.set a (.inl (1, n, upd f i.toNatClampNeg x))) = pw_size h := pw_size_set ha rfl
          cases hs
          exact pw_zast C ho hR hS ha hg hbt (fun H1 locs1 hR1 hS1 => kk ls H1 locs1 cells slots hl hR1 hS1 (by rw [List.length_set]) (by rw [hzz]))
        · cases hs
      · cases hs
    · cases hs
  | aaload =>
    simp only [pw_step] at hs
    split at hs
    · split at hs
      · rename_i g n f ha
        split at hs
        · rename_i hg
          cases hs
          exact pw_aald C ho hR ha hg (kk ls H locs cells slots hl hR hS rfl rfl)
        · cases hs
      · cases hs
    · cases hs
  | aastore =>
    simp only [pw_step] at hs
    split at hs
    · rename_i v i a st0
      split at hs
      · rename_i g n f c0 fs ha hv
        split at hs
        · rename_i hg
          obtain ⟨rfl, hg⟩ := hg
          have hzz : pw_size (h.set a (.inr (.inl (c0, n, va_up f i.toNatClampNeg (some v))))) = pw_size h := pw_size_set ha rfl
          cases hs
          exact pw_aast C ho hR hS ha hv hg (fun H1 locs1 hR1 hS1 => kk ls H1 locs1 cells slots hl hR1 hS1 (by rw [List.length_set]) (by rw [hzz]))
        · cases hs
      · cases hs
    · cases hs
  | arraylength =>
    simp only [pw_step] at hs
    split at hs
    · split at hs
      · rename_i g n f ha
        cases hs
        exact pw_alen C ho hR hS ha (kk ls H locs cells slots hl hR hS rfl rfl)
      · cases hs
    · cases hs
  | newarray ty =>
    simp only [pw_step] at hs
    split at hs
    · split at hs
      · rename_i n st0 hn
        cases hs
        simp only [List.length_append, List.length_singleton, pw_size_push] at hc hsl
        exact pw_newi C ho hR hS hn (by omega) (by show slots + pw_sz (.inl (t, n.toNatClampNeg, fun _ => 0)) ≤ _; omega) (fun H1 hR1 hS1 => kk ls H1 locs _ _ hl hR1 hS1 (by simp only [List.length_append, List.length_singleton]; omega) (by rw [pw_size_push]; show slots + n.toNatClampNeg + _ = slots + (_ + n.toNatClampNeg); omega))
      · cases hs
    · cases hs
  | anewarray idx =>
    simp only [pw_step] at hs
    split at hs
    · split at hs
      · rename_i n st0 hn
        cases hs
        simp only [List.length_append, List.length_singleton, pw_size_push] at hc hsl
        exact pw_newr C ho hR hS hn (by omega) (by show slots + pw_sz (.inr (.inl (t, n.toNatClampNeg, fun _ => none))) ≤ _; omega) (fun H1 hR1 hS1 => kk ls H1 locs _ _ hl hR1 hS1 (by simp only [List.length_append, List.length_singleton]; omega) (by rw [pw_size_push]; show slots + n.toNatClampNeg + _ = slots + (_ + n.toNatClampNeg); omega))
      · cases hs
    · cases hs
  | new idx =>
    cases hs
    simp only [List.length_append, List.length_singleton, pw_size_push] at hc hsl
    exact pw_newo C ho hR hS (by omega) (by show slots + pw_sz (.inr (.inr (t, pw_def t))) ≤ _; omega) (fun H1 hR1 hS1 => kk ls H1 locs _ _ hl hR1 hS1 (by simp only [List.length_append, List.length_singleton]; omega) (by rw [pw_size_push]; show slots + (pw_def t).length + _ = slots + (_ + (pw_def t).length); omega))
  | _ => cases hs
end PWT
end
section
theorem pw_step_mono {o : pw_O} {L L' : pw_L} {st st' : List pw_V} {h h' : pw_H} {pc' : Nat} (hs : pw_step o L st h = some (pc', L', st', h')) : L'.length = L.length ∧ h.length ≤ h'.length ∧ pw_size h ≤ pw_size h' := by
  obtain ⟨i, np, t, q⟩ := o
  cases i <;> simp only [pw_step] at hs <;> (repeat' split at hs) <;> first
    | (cases hs; done)
    | (cases hs; exact ⟨rfl, Nat.le_refl _, Nat.le_refl _⟩)
    | (cases hs; exact ⟨List.length_set, Nat.le_refl _, Nat.le_refl _⟩)
    | (cases hs; refine ⟨rfl, ?_, ?_⟩ <;> first | (rw [List.length_set]; exact Nat.le_refl _) | (rw [List.length_append]; exact Nat.le_add_right _ _) | (rw [pw_size_push]; exact Nat.le_add_right _ _) | (rw [pw_size_set (by assumption) (by simp [pw_sz])]; exact Nat.le_refl _))
theorem pw_mono : ∀ (n d M pc : Nat) (L : pw_L) (st : List pw_V) (h : pw_H) (r : Option pw_V) (h' : pw_H), pw_run n d M pc L st h = some (r, h') → h.length ≤ h'.length ∧ pw_size h ≤ pw_size h' := by
  intro n
  induction n with
  | zero =>
    intro d M pc L st h r h' hr
    cases hr
  | succ n ih =>
    intro d M pc L st h r h' hr
    rw [pw_run] at hr
    cases ho : pw_op M pc with
    | none => rw [ho] at hr; cases hr
    | some o =>
      rw [ho] at hr
      dsimp only at hr
      cases hret : pw_isRet o.1 with
      | true =>
        rw [hret] at hr
        dsimp only [cond] at hr
        split at hr
        · cases hr
          exact ⟨Nat.le_refl _, Nat.le_refl _⟩
        · cases hr
      | false =>
        rw [hret] at hr
        dsimp only [cond] at hr
        cases hcall : pw_isCall o.1 with
        | true =>
          rw [hcall] at hr
          dsimp only at hr
          cases d with
          | zero => cases hr
          | succ d =>
            dsimp only at hr
            split at hr
            · split at hr
              · split at hr
                · exact ih _ _ _ _ _ _ _ _ hr
                · cases hr
              · cases hr
            · split at hr
              · split at hr
                · exact ih _ _ _ _ _ _ _ _ hr
                · cases hr
              · cases hr
            · split at hr
              · cases hr
              · split at hr
                · split at hr
                  · cases hr
                  · rename_i r1 h1 hr1
                    have a1 := ih _ _ _ _ _ _ _ _ hr1
                    have a2 := ih _ _ _ _ _ _ _ _ hr
                    exact ⟨Nat.le_trans a1.1 a2.1, Nat.le_trans a1.2 a2.2⟩
                · cases hr
        | false =>
          rw [hcall] at hr
          dsimp only at hr
          split at hr
          · cases hr
          · rename_i pc' L' st' h1 hs
            have a1 := (pw_step_mono hs).2
            have a2 := ih _ _ _ _ _ _ _ _ hr
            exact ⟨Nat.le_trans a1.1 a2.1, Nat.le_trans a1.2 a2.2⟩
def pw_Pc (D : va_G) (ca : Nat → ClassId) (b B N : Nat) (xs : Nat → Int32) (as : List pw_V) (h : pw_H) : Array Value → State → Prop :=
  va_Pc (as.map (pw_v (pw_ad b B))) (fun U => pw_rep D ca b B N xs h U.heap ∧ va_K D pw_cl (pw_tys ca) U ∧ va_X b N xs U U.heap ∧ (b < B ∧ B ≤ U.heap.size) ∧ pw_nw U)
def pw_Qc (D : va_G) (ca : Nat → ClassId) (b B N : Nat) (xs : Nat → Int32) (r : Option pw_V) (h' : pw_H) : Array Value → State → Outcome → State → Prop :=
  fun _ st oc t => oc = .returned (r.map (pw_v (pw_ad b B))) ∧ pw_rep D ca b B N xs h' t.heap ∧ va_F (pw_A B) st t
def pw_ws (M : Nat) : List Cond := Cond.code (pw_inf M).1 (pw_inf M).2.1 (pw_inf M).2.2.1 (pw_inf M).2.2.2 :: pw_tbl
theorem pw_good {M : Nat} (h0 : 0 < M) (h : M < 115) : GoodIn pw_tbl (pw_ws M) := by
  intro w hw
  rcases List.mem_cons.mp hw with rfl | hw
  · exact ⟨List.mem_filter.mpr ⟨pw_cw h0 h, rfl⟩, good_of_word rfl⟩
  · exact ⟨hw, good_of_word (List.mem_filter.mp hw).2⟩
theorem pw_blind (D : va_G) (ca : Nat → ClassId) (b B N : Nat) (xs : Nat → Int32) (as : List pw_V) (h : pw_H) : FrameBlind (pw_Pc D ca b B N xs as h) := by
  intro a U g mk q
  obtain ⟨q0, qR, qK, qX, qB, qN⟩ := q
  exact ⟨q0, qR, va_K.moved (u := U) (U := U.calling g mk a) (Vm.Alike.refl U.vm) qK, va_X.moved (u := U) (U := U.calling g mk a) (Vm.Alike.refl U.vm) qX, qB, pw_nw.same (u := U) (U := U.calling g mk a) rfl qN⟩
/-- the pure machine is the machine, for runs of fuel n -/
def pw_Snd (l : Launch) (D : va_G) (ca : Nat → ClassId) (b B N : Nat) (xs : Nat → Int32) (n : Nat) : Prop :=
  ∀ (d M pc : Nat) (L : pw_L) (st : List pw_V) (h : pw_H) (r : Option pw_V) (h' : pw_H), pw_run n d M pc L st h = some (r, h') →
  ∀ (p : Program) (e : Env) (R : Room) (s : State) (m : MethodId) (args : Array Value) (below : List Frame) (meth : Method) (c : Code) (H : Heap) (locs : List Loc) (cells slots : Nat) (Q : State → Prop) (ls : Array Slot),
  pw_ctx D ca b B N xs M p s m args meth c → d ≤ R.frames → 37 * d ≤ R.locals → L.length = (pw_inf M).2.2.1 → pw_lr (pw_ad b B) ls L → pw_rep D ca b B N xs h H → va_S (pw_A B) s.heap H locs → cells + h'.length ≤ R.cells + h.length → slots + pw_size h' ≤ R.slots + pw_size h →
  (∀ (pc : Nat) (ls : Array Slot) (H : Heap) (locs : List Loc) (cells slots : Nat) (i : Instr) (st : List pw_V), decode (pw_inf M).2.1 pc = .ok (i, 1) → pw_ret M i st = some r → pw_rep D ca b B N xs h' H → va_S (pw_A B) s.heap H locs → cells ≤ R.cells → slots ≤ R.slots → W p l e R s m args below meth c H locs cells slots Q (F0 m pc ls (st.map (pw_v (pw_ad b B))))) →
  W p l e R s m args below meth c H locs cells slots Q (F0 m pc ls (st.map (pw_v (pw_ad b B))))
theorem pw_sl (ad : Nat → Nat) (as : List pw_V) : lg_sl (as.map (pw_v ad)) = as.map (fun v => Slot.val (pw_v ad v)) := by
  induction as with
  | nil => rfl
  | cons a l ih =>
    show (if (pw_v ad a).category = 2 then _ else _) ++ lg_sl (l.map (pw_v ad)) = _
    rw [ih, if_neg (by rw [pw_cat]; decide)]
    rfl
theorem pw_entry {ad : Nat → Nat} {M : Nat} {as : List pw_V} (h : as.length ≤ (pw_inf M).2.2.1) : pw_lr ad ((lg_sl (as.map (pw_v ad)) ++ List.replicate ((pw_inf M).2.2.1 - (lg_sl (as.map (pw_v ad))).length) Slot.unset).toArray) (pw_ent M as) := by
  have h1 := lv_entry (as.map (pw_v ad)) (n := (pw_inf M).2.2.1) (by rw [pw_sl, List.length_map]; exact h)
  refine ⟨?_, h1.2.1, fun i v hi => ?_⟩
  · rw [h1.1]
    simp only [pw_ent, List.length_append, List.length_map, List.length_replicate]
    omega
  · simp only [pw_ent] at hi
    by_cases hl : i < as.length
    · rw [List.getElem?_append_left (by rw [List.length_map]; exact hl), List.getElem?_map] at hi
      cases ha : as[i]? with
      | none => rw [ha] at hi; cases hi
      | some w =>
        rw [ha] at hi
        cases hi
        rw [pw_sl, List.getElem?_toArray, List.getElem?_append_left (by rw [List.length_map]; exact hl), List.getElem?_map, ha]
        rfl
    · rw [List.getElem?_append_right (by rw [List.length_map]; omega), List.getElem?_replicate] at hi
      split at hi <;> cases hi
section PWM
variable {l : Launch} {D : va_G} {ca : Nat → ClassId} {b B N : Nat} {xs : Nat → Int32}
set_option maxHeartbeats 1000000 in
theorem pw_met {n : Nat} (S : pw_Snd l D ca b B N xs n) {d M : Nat} {as : List pw_V} {h : pw_H} {r : Option pw_V} {h' : pw_H} (hrun : pw_run n d M 0 (pw_ent M as) [] h = some (r, h')) (has : as.length ≤ (pw_inf M).2.2.1) (hpl : plainName (pw_inf M).1.cls = true) :
    Met l (pw_inf M).1 (pw_ws M) ({ frames := d, cells := h'.length - h.length, slots := pw_size h' - pw_size h, locals := 37 * d }) (pw_Pc D ca b B N xs as h) (pw_Qc D ca b B N xs r h') (h'.length - h.length) (pw_size h' - pw_size h) (pw_A B) := by
  have hmono := pw_mono _ _ _ _ _ _ _ _ _ hrun
  refine Met.ofW (cc := (pw_inf M).2.1) (maxL := (pw_inf M).2.2.1) (ret := (pw_inf M).2.2.2) hpl rfl ?_
  intro p e s m args below meth c s₁ Bd hml hv
  obtain ⟨rfl, hR, hK, hX, hbB, hnw⟩ := hv
  have hx := Bd.exec
  have hb := Bd.bytes
  have hr := Bd.returns
  have hts := atoms_spec (ws := pw_ws M) Bd.pre
  have hown := findClass_of_methodNamed Bd.named
  have hlocks := Bd.notSynchronized
  have hnm := (name_of_methodNamed Bd.named Bd.method).1
  rw [lg_entry_eq]
  have C : pw_ctx D ca b B N xs M p s m (as.map (pw_v (pw_ad b B))).toArray meth c := ⟨hx, hb, hml, hown, fun w hw => hts w (List.mem_cons_of_mem _ hw), hK, hX, hbB, hnm, hnw⟩
  refine S d M 0 (pw_ent M as) [] h r h' hrun p e _ s m _ below meth c s.heap [] 0 0 _ _ C (Nat.le_refl _) (Nat.le_refl _) ?_ (pw_entry has) hR va_S.rf ?_ ?_ ?_
  · simp only [pw_ent, List.length_append, List.length_map, List.length_replicate]
    omega
  · show 0 + h'.length ≤ (h'.length - h.length) + h.length
    omega
  · show 0 + pw_size h' ≤ (pw_size h' - pw_size h) + pw_size h
    omega
  · intro pc ls H locs cells slots i st hd hret hR' hS' hc hs
    refine W.widen (k := h'.length - h.length) (n := pw_size h' - pw_size h) hc hs ?_
    unfold pw_ret at hret
    split at hret
    · rename_i v
      split at hret
      · rename_i hok
        cases hret
        rcases hok with hi | ⟨hi, hbt⟩
        · exact W.iret (v := v) hx hb (hr.trans hi) (fun t ht hW => ⟨rfl, by rw [ht]; exact hR', hS'.F ht⟩) hS'.2.2 hd
        · refine W.zret (v := v) (ty := .boolean) hx hb (hr.trans hi) ?_ (fun t ht hW => ⟨rfl, by rw [ht]; exact hR', hS'.F ht⟩) hS'.2.2 hd
          simp only [pw_bit, Bool.or_eq_true, decide_eq_true_eq] at hbt
          rcases hbt with rfl | rfl <;> rfl
      · cases hret
    · rename_i v
      split at hret
      · rename_i nn hi
        cases hret
        refine W.aret (v := pw_v (pw_ad b B) (.inr v)) (rt := .object nn) hx hb (hr.trans hi) (Or.inl ⟨_, rfl⟩) ?_ (fun t ht hW => ⟨rfl, by rw [ht]; exact hR', hS'.F ht⟩) hS'.2.2 hd
        cases v with
        | none => exact Or.inl rfl
        | some a => exact Or.inr ⟨_, rfl⟩
      · cases hret
    · split at hret
      · rename_i hi
        cases hret
        exact W.vret hx hb (hr.trans hi) (fun t ht hW => ⟨rfl, by rw [ht]; exact hR', hS'.F ht⟩) hS'.2.2 hd
      · cases hret
    · cases hret
end PWM
end
section
section PWK
variable {p : Program} {l : Launch} {e : Env} {R : Room} {s : State} {m : MethodId} {args : Array Value} {below : List Frame} {meth : Method} {c : Code} {H : Heap} {locs : List Loc} {cells slots : Nat} {Q : State → Prop}
variable {D : va_G} {ca : Nat → ClassId} {b B N : Nat} {xs : Nat → Int32} {M pc np t : Nat} {q : List Nat} {ls : Array Slot} {L : pw_L} {st : List pw_V} {h : pw_H}
theorem pw_call {st0 rest : List Value} {a : Array Value} {r : Option pw_V} {h1 : pw_H} {mc ms : Nat} (hr : va_Run p l e R s m args below meth c H locs cells slots mc ms (F0 m pc ls st0) rest (pw_Qc D ca b B N xs r h1 a) (pw_A B)) (hS : va_S (pw_A B) s.heap H locs)
    (kk : ∀ (H1 : Heap) (locs1 : List Loc), pw_rep D ca b B N xs h1 H1 → va_S (pw_A B) s.heap H1 locs1 → W p l e R s m args below meth c H1 locs1 (cells + mc) (slots + ms) Q (F0 m (pc + 3) ls ((r.map (pw_v (pw_ad b B))).toList ++ rest))) : W p l e R s m args below meth c H locs cells slots Q (F0 m pc ls st0) := by
  intro T hT X
  obtain ⟨v, st₀, t, T', L, h0, X', hL, e1, e2, ⟨hv, hR1, hz, hk⟩, st⟩ := hr T hT X
  cases hv
  rw [h0] at hz hk
  rw [← e1] at hR1
  obtain ⟨t2, a1, b1⟩ := kk T'.heap (locs ++ L) hR1 ⟨Nat.le_trans hS.1 (by rw [e1]; exact hz), fun q h1 h2 => by rw [e1, hk q (Nat.lt_of_lt_of_le h1 hS.1) h2]; exact hS.2.1 q h1 h2, fun q hq => by
      rcases List.mem_append.mp hq with h | h
      · exact hS.2.2 q h
      · exact hL q h⟩ T' rfl X'
  exact ⟨t2, st t2 a1, b1⟩
theorem pw_pre (C : pw_ctx D ca b B N xs M p s m args meth c) (hR : pw_rep D ca b B N xs h H) (hS : va_S (pw_A B) s.heap H locs) (as : List pw_V) : ∀ U : State, U.heap = H → s.WarmedH U.vm → pw_Pc D ca b B N xs as h (as.map (pw_v (pw_ad b B))).toArray U := by
  obtain ⟨hx, hb, hml, hown, hts, hK, hX, hbB, hnm, hnw⟩ := C
  intro U hU hW
  refine ⟨rfl, by rw [hU]; exact hR, va_K.moved hW.alike hK, ?_, ⟨hbB.1, ?_⟩, hnw.warm hW⟩
  · refine va_X.moved hW.alike ?_
    rw [hU]
    exact hX.kept (hS.2.1 b (Nat.lt_of_lt_of_le hbB.1 hbB.2) (Nat.not_le.mpr hbB.1))
  · rw [hU]
    exact Nat.le_trans hbB.2 hS.1
theorem pw_tail (ad : Nat → Nat) (r : Option pw_V) (rest : List pw_V) : (r.map (pw_v ad)).toList ++ rest.map (pw_v ad) = (r.toList ++ rest).map (pw_v ad) := by cases r <;> rfl
section PWN
variable {y : MethodName} {bytes cc : ByteArray} {maxL nL mc ms n index : Nat} {ret : Option FieldType} {ws : List Cond} {rm : Room} {Pc : Array Value → State → Prop} {Qc : Array Value → State → Outcome → State → Prop} {free : Addr → Prop} {Ts : List Cond} {own host : String} {As rest : List Value} {g : JFrame}
/-- a static call that leaves up to nine words below it -/
theorem pw_runS9 (S : CallFix p m c cc nL s args Ts own) (hM : Met l y ws rm Pc Qc mc ms free) (cw : CallB R s args own index y bytes maxL ret ws rm mc ms n ∧ (Cond.static y).before args s = true) (h9 : 9 + (maxL + 11) + rm.locals ≤ R.locals) (hp : PreS s H Pc As)
    (hg : g.method = m) (hn : As.length = n) (hsize : g.locals.size = nL) (hstack : g.stack = As.reverse ++ rest) (hW : 2 * g.monitorRoom + (rest.map fun v => v.category).sum ≤ 9) (hdg : decode cc g.pc = .ok (.invokestatic index, 3)) (hf : cells + mc ≤ R.cells ∧ slots + ms ≤ R.slots) :
    va_Run p l e R s m args below meth c H locs cells slots mc ms g rest (Qc As.toArray) free := by
  obtain ⟨⟨u1, u2, u3, -, u5, u6, u7, u8, u9, u10, u11⟩, u12⟩ := cw
  obtain ⟨v1, v2, v3, v4, -⟩ := S
  have hK : Back l R p e below s args y 3 9 (PreOf R mc ms Pc) (PostOf Qc mc ms free) := back_of (bytes := bytes) (maxL := maxL) (ret := ret) hM hp.1 u1 u2 u3 h9 u5 u6 (fun _ _ hU => word_at hU (Or.inl (by first | rfl | simp [Cond.onTables, Cond.keeps, Cond.steady])) u8)
  intro T hT X
  obtain ⟨v, vm2, ⟨U2, l2, c2, s2⟩, hw2, X2, ⟨g2, mk, t2, L2, e1, e2, hq, f1, hL, f2, f3⟩, go⟩ := callS X v1 (bytes := bytes) (maxL := maxL) (ret := ret) v4 u11 u12 u8 u7 u9 hK hg (hsize.trans v3.symm) (argsL := As) (rest := rest) (fun sig hs => hn.trans (u10 sig hs)) hstack hW (by rw [v2]; exact hdg) (fun vm3 hw3 => ⟨hf.1, hf.2, hp.2 (T.setVm vm3) hT hw3⟩)
  dsimp only [Pt.U, Pt.locs, Pt.cells, Pt.slots] at X2 e1 e2 f1 f2 f3 go
  subst f1; subst f2; subst f3
  exact ⟨v, (T.setVm vm2).calling g2 mk As.toArray, t2, U2, L2, hT, X2, hL, e1, e2, hq, go⟩
theorem pw_runSN9 (S : CallFix p m c cc nL s args Ts own) (hM : Met l y ws rm Pc Qc mc ms free) (cw : va_CN R s args own index y host bytes maxL ret ws rm mc ms n ∧ (Cond.static y).before args s = true ∧ True) (h9 : 9 + (maxL + 11) + rm.locals ≤ R.locals) (hp : PreS s H Pc As)
    (hg : g.method = m) (hn : As.length = n) (hsize : g.locals.size = nL) (hstack : g.stack = As.reverse ++ rest) (hW : 2 * g.monitorRoom + (rest.map fun v => v.category).sum ≤ 9) (hdg : decode cc g.pc = .ok (.invokestatic index, 3)) (hf : cells + mc ≤ R.cells ∧ slots + ms ≤ R.slots) :
    va_Run p l e R s m args below meth c H locs cells slots mc ms g rest (Qc As.toArray) free := by
  obtain ⟨⟨⟨u1, u2, u3, -, u5, u6⟩, u7, u8, u9, u10, u11⟩, u12, -⟩ := cw
  obtain ⟨v1, v2, v3, v4, -⟩ := S
  have hK : Back l R p e below s args y 3 9 (PreOf R mc ms Pc) (PostOf Qc mc ms free) := back_of (bytes := bytes) (maxL := maxL) (ret := ret) hM hp.1 u1 u2 u3 h9 u5 u6 (fun _ _ hU => word_at hU (Or.inl (by first | rfl | simp [Cond.onTables, Cond.keeps, Cond.steady])) u8)
  have hP2 := hp.2
  intro T hT X
  obtain ⟨v, vm2, ⟨U2, l2, c2, s2⟩, hw2, X2, ⟨g2, mk, t2, L2, e1, e2, hq, f1, hL, f2, f3⟩, go⟩ := va_callSN X v1 (bytes := bytes) (maxL := maxL) (ret := ret) v4 u11 u12 u8 u7 u9 hK hg (hsize.trans v3.symm) (argsL := As) (rest := rest) (fun sig hs => hn.trans (u10 sig hs)) hstack hW (by rw [v2]; exact hdg) (fun vm3 hw3 => ⟨hf.1, hf.2, hP2 (T.setVm vm3) hT hw3⟩)
  dsimp only [Pt.U, Pt.locs, Pt.cells, Pt.slots] at X2 e1 e2 f1 f2 f3 go
  subst f1; subst f2; subst f3
  exact ⟨v, (T.setVm vm2).calling g2 mk As.toArray, t2, U2, L2, hT, X2, hL, e1, e2, hq, go⟩
end PWN
set_option maxHeartbeats 1000000 in
/-- a call of a method of the table -/
theorem pw_calls {n d : Nat} (S : pw_Snd l D ca b B N xs n) (C : pw_ctx D ca b B N xs M p s m args meth c) {i : Instr} (ho : pw_op M pc = some (i, np, t, q)) (hic : pw_isCall i = true) (hq1 : ∀ w, q ≠ [w]) (hq2 : ∀ w k, q ≠ [w, k]) (hLl : L.length = (pw_inf M).2.2.1) (hl : pw_lr (pw_ad b B) ls L) (hR : pw_rep D ca b B N xs h H) (hS : va_S (pw_A B) s.heap H locs) (hfr : d + 1 ≤ R.frames) (hlo : 37 * (d + 1) ≤ R.locals) (ht : 0 < t ∧ t < 115)
    {as rest : List pw_V} (ha : pw_args i q st h = some (as, rest)) (has : as.length ≤ (pw_inf t).2.2.1) {r1 : Option pw_V} {h1 : pw_H} (hrun : pw_run n d t 0 (pw_ent t as) [] h = some (r1, h1)) (hc : cells + h1.length ≤ R.cells + h.length) (hs : slots + pw_size h1 ≤ R.slots + pw_size h)
    (kk : ∀ (H1 : Heap) (locs1 : List Loc), pw_rep D ca b B N xs h1 H1 → va_S (pw_A B) s.heap H1 locs1 → W p l e R s m args below meth c H1 locs1 (cells + (h1.length - h.length)) (slots + (pw_size h1 - pw_size h)) Q (F0 m np ls ((r1.toList ++ rest).map (pw_v (pw_ad b B))))) : W p l e R s m args below meth c H locs cells slots Q (F0 m pc ls (st.map (pw_v (pw_ad b B)))) := by
  have C0 := C
  obtain ⟨hx, hb, hml, hown, hts, hK, hX, hbB, hnm, hnw⟩ := C
  have hmono := pw_mono _ _ _ _ _ _ _ _ _ hrun
  obtain ⟨hd, hnp, hok⟩ := pw_dec1 ho (by intro _ _ _ _ h; rw [h] at hic; cases hic)
  have hsz : ls.size = (pw_inf M).2.2.1 := hl.1.trans hLl
  have hf : cells + (h1.length - h.length) ≤ R.cells ∧ slots + (pw_size h1 - pw_size h) ≤ R.slots := ⟨by omega, by omega⟩
  have hG := pw_good ht.1 ht.2
  have hpre := pw_pre C0 hR hS
  have hCF : CallFix p m c (pw_inf M).2.1 (pw_inf M).2.2.1 s args pw_tbl (pw_inf M).1.cls := ⟨hx, hb, hml, hown, hts⟩
  have fin : ∀ {a : Array Value}, va_Run p l e R s m args below meth c H locs cells slots (h1.length - h.length) (pw_size h1 - pw_size h) (F0 m pc ls (st.map (pw_v (pw_ad b B)))) (rest.map (pw_v (pw_ad b B))) (pw_Qc D ca b B N xs r1 h1 a) (pw_A B) → pw_ilen i = 3 → W p l e R s m args below meth c H locs cells slots Q (F0 m pc ls (st.map (pw_v (pw_ad b B)))) := by
    intro a hr hi3
    rw [hi3] at hnp
    rw [hnp] at kk
    refine pw_call hr hS (fun H1 locs1 hR1 hS1 => ?_)
    rw [pw_tail]
    exact kk H1 locs1 hR1 hS1
  cases i with
  | invokestatic idx =>
    simp only [pw_okI] at hok
    split at hok
    · exact absurd rfl (hq2 _ _)
    · rename_i n0 z w1 w2 w3 w4 w5
      simp only [Bool.and_eq_true] at hok
      obtain ⟨hW, hst⟩ := hok
      simp only [pw_okW, Bool.and_eq_true, decide_eq_true_eq] at hW
      obtain ⟨⟨⟨⟨⟨⟨hlk, hini⟩, hn1⟩, hn2⟩, hpar⟩, hmax⟩, hpl⟩ := hW
      simp only [pw_args] at ha
      split at ha
      · rename_i hnl
        cases ha
        have hM := pw_met S hrun has hpl
        have hstk : st.map (pw_v (pw_ad b B)) = (((st.take n0).reverse).map (pw_v (pw_ad b B))).reverse ++ (st.drop n0).map (pw_v (pw_ad b B)) := by
          rw [List.map_reverse, List.reverse_reverse, ← List.map_append, List.take_append_drop]
        have hln : ((((st.take n0).reverse).map (pw_v (pw_ad b B)))).length = n0 := by
          rw [List.length_map, List.length_reverse, List.length_take]; omega
        have hrm : 2 * (F0 m pc ls (st.map (pw_v (pw_ad b B)))).monitorRoom + (((st.drop n0).map (pw_v (pw_ad b B))).map fun v => v.category).sum ≤ 9 := by
          show 2 * 0 + _ ≤ 9
          rw [pw_cats, List.length_drop]
          omega
        have hroom : d + 1 ≤ R.frames ∧ 8 + ((pw_inf t).2.2.1 + 11) + 37 * d ≤ R.locals := ⟨hfr, by omega⟩
        have h9 : 9 + ((pw_inf t).2.2.1 + 11) + 37 * d ≤ R.locals := by omega
        cases z with
        | zero =>
          refine fin (pw_runS9 hCF hM ⟨callB_of n0 hts hG rfl rfl rfl (hts _ (pw_has_in hini)) (hts _ (pw_has_in hlk)) ⟨hn1, hn2, hpar⟩ hroom, hts _ (pw_has_in hst)⟩ h9 ⟨pw_blind _ _ _ _ _ _ _ _, hpre _⟩ rfl hln hsz hstk hrm hd hf) rfl
        | succ z =>
          have hlk2 : va_Nw (.methodLinkNest (pw_inf M).1.cls idx (pw_inf t).1 "BoundWalks") s := hnw.1 _ (List.mem_of_getElem? (of_decide_eq_true hlk)) rfl
          refine fin (pw_runSN9 hCF hM ⟨va_cnB n0 hts hG rfl rfl rfl hlk2 (hts _ (pw_has_in hini)) ⟨hn1, hn2, hpar⟩ hroom, hts _ (pw_has_in hst), trivial⟩ h9 ⟨pw_blind _ _ _ _ _ _ _ _, hpre _⟩ rfl hln hsz hstk hrm hd hf) rfl
      · cases ha
    · cases hok
  | invokevirtual idx =>
    simp only [pw_okI] at hok
    split at hok
    · rename_i n0 k w1 w2 w3 w4 w5
      simp only [Bool.and_eq_true, decide_eq_true_eq] at hok
      obtain ⟨⟨⟨hW, him⟩, hsel⟩, hkc⟩ := hok
      simp only [pw_okW, Bool.and_eq_true, decide_eq_true_eq] at hW
      obtain ⟨⟨⟨⟨⟨⟨hlk, hini⟩, hn1⟩, hn2⟩, hpar⟩, hmax⟩, hpl⟩ := hW
      simp only [pw_args] at ha
      split at ha
      · rename_i hnl
        split at ha
        · rename_i a rest0 hdrop
          split at ha
          · rename_i c0 fs hao
            split at ha
            · rename_i hck
              subst hck
              cases ha
              have hM := pw_met S hrun has hpl
              have hstk : st.map (pw_v (pw_ad b B)) = (((st.take n0).reverse).map (pw_v (pw_ad b B))).reverse ++ .ref (pw_ad b B a) :: rest.map (pw_v (pw_ad b B)) := by
                rw [List.map_reverse, List.reverse_reverse]
                have e1 : (.ref (pw_ad b B a) :: rest.map (pw_v (pw_ad b B)) : List Value) = (st.drop n0).map (pw_v (pw_ad b B)) := by rw [hdrop]; rfl
                rw [e1, ← List.map_append, List.take_append_drop]
              have hln : ((((st.take n0).reverse).map (pw_v (pw_ad b B)))).length = n0 := by
                rw [List.length_map, List.length_reverse, List.length_take]; omega
              have hdl : (st.drop n0).length = rest.length + 1 := by rw [hdrop]; rfl
              rw [List.length_drop] at hdl
              have hrm : 2 * (F0 m pc ls (st.map (pw_v (pw_ad b B)))).monitorRoom + ((rest.map (pw_v (pw_ad b B))).map fun v => v.category).sum ≤ 8 := lv_room (by rw [pw_cats]; omega)
              have hroom : d + 1 ≤ R.frames ∧ 8 + ((pw_inf t).2.2.1 + 11) + 37 * d ≤ R.locals := ⟨hfr, by omega⟩
              obtain ⟨j, rfl, -, hat⟩ := hR.obj hao (by intro h; cases h)
              have hrecv : ∃ cellB : Cell, H[pw_ad b B (j + 1)]? = some cellB ∧ cellB.vm.isStatics = false ∧ s.vm.findClass (pw_inf t).1.cls = some cellB.cls := by
                cases hcc : pw_cl[c0]? with
                | none => rw [hcc] at hkc; cases hkc
                | some cc =>
                  rw [hcc] at hkc
                  have e3 : cc.1 = (pw_inf t).1.cls := Option.some.inj hkc
                  rw [← e3]
                  exact va_recv hK (pw_one hR hao) (ci := c0) (q0 := 0) hcc rfl
              exact fin (va_runV (C := (pw_inf t).1.cls) hCF hM ⟨callB_of n0 hts hG rfl rfl rfl (hts _ (pw_has_in hini)) (hts _ (pw_has_in hlk)) ⟨hn1, hn2, hpar⟩ hroom, hts _ (pw_has_in him), hts _ (pw_has_in hsel)⟩ ⟨pw_blind _ _ _ _ _ _ _ _, hrecv, hpre (.inr (some (j + 1)) :: (st.take n0).reverse)⟩ rfl hln hsz hstk hrm hd hf) rfl
            · cases ha
          · cases ha
        · cases ha
      · cases ha
    · cases hok
  | invokespecial idx =>
    simp only [pw_okI] at hok
    split at hok
    · exact absurd rfl (hq1 _)
    · rename_i n0 k w1 w2 w3 w4 w5
      simp only [Bool.and_eq_true, decide_eq_true_eq] at hok
      obtain ⟨⟨⟨hW, him⟩, hnin⟩, hrno⟩ := hok
      simp only [pw_okW, Bool.and_eq_true, decide_eq_true_eq] at hW
      obtain ⟨⟨⟨⟨⟨⟨hlk, hini⟩, hn1⟩, hn2⟩, hpar⟩, hmax⟩, hpl⟩ := hW
      simp only [pw_args] at ha
      split at ha
      · rename_i hnl
        split at ha
        · rename_i a rest0 hdrop
          split at ha
          · rename_i c0 fs hao
            split at ha
            · rename_i hck
              subst hck
              cases ha
              have hM := pw_met S hrun has hpl
              have hstk : st.map (pw_v (pw_ad b B)) = (((st.take n0).reverse).map (pw_v (pw_ad b B))).reverse ++ .ref (pw_ad b B a) :: rest.map (pw_v (pw_ad b B)) := by
                rw [List.map_reverse, List.reverse_reverse]
                have e1 : (.ref (pw_ad b B a) :: rest.map (pw_v (pw_ad b B)) : List Value) = (st.drop n0).map (pw_v (pw_ad b B)) := by rw [hdrop]; rfl
                rw [e1, ← List.map_append, List.take_append_drop]
              have hln : ((((st.take n0).reverse).map (pw_v (pw_ad b B)))).length = n0 := by
                rw [List.length_map, List.length_reverse, List.length_take]; omega
              have hdl : (st.drop n0).length = rest.length + 1 := by rw [hdrop]; rfl
              rw [List.length_drop] at hdl
              have hrm : 2 * (F0 m pc ls (st.map (pw_v (pw_ad b B)))).monitorRoom + ((rest.map (pw_v (pw_ad b B))).map fun v => v.category).sum ≤ 8 := lv_room (by rw [pw_cats]; omega)
              have hroom : d + 1 ≤ R.frames ∧ 8 + ((pw_inf t).2.2.1 + 11) + 37 * d ≤ R.locals := ⟨hfr, by omega⟩
              exact fin (va_runI hCF hM ⟨callB_of n0 hts hG (by rw [← hrno]; rfl) rfl rfl (hts _ (pw_has_in hini)) (hts _ (pw_has_in hlk)) ⟨hn1, hn2, hpar⟩ hroom, hnin, hts _ (pw_has_in him)⟩ ⟨pw_blind _ _ _ _ _ _ _ _, hpre (.inr (some a) :: (st.take n0).reverse)⟩ rfl hln hsz hstk hrm hd hf) rfl
            · cases ha
          · cases ha
        · cases ha
      · cases ha
    · cases hok
  | _ => cases hic
end PWK
end
