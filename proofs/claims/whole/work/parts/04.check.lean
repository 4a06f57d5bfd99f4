def pw_has (i : Nat) (w : Cond) : Bool := decide (lw_tbl[i]? = some w) && goodWord w
def pw_ilen (i : Instr) : Nat := match i with
  | .bipush _ => 2
  | .sipush _ => 3
  | .ldc_w _ => 3
  | .iload _ => 2
  | .aload _ => 2
  | .istore _ => 2
  | .astore _ => 2
  | .iinc _ _ => 3
  | .ifCond _ _ => 3
  | .if_icmp _ _ => 3
  | .ifnull _ => 3
  | .ifnonnull _ => 3
  | .goto _ => 3
  | .getfield _ => 3
  | .putfield _ => 3
  | .new _ => 3
  | .newarray _ => 2
  | .anewarray _ => 3
  | .invokevirtual _ => 3
  | .invokespecial _ => 3
  | .invokestatic _ => 3
  | _ => 1
def pw_okW (own : String) (idx : Nat) (t : Nat) (n : Nat) (w1 w4 w5 : Nat) (nest : Bool) : Bool :=
  let y := (pw_inf t).1
  (bif nest then decide (lw_tbl[w1]? = some (.methodLinkNest own idx y "BoundWalks")) else pw_has w1 (.methodLink own idx y)) &&
  pw_has w4 (.initialized y.cls) &&
  decide (y.cls ≠ "java/lang/invoke/MethodHandle") && decide (y.cls ≠ "java/lang/invoke/VarHandle") &&
  decide ((parseMethodDescriptor y.desc).map (fun d => d.parameters.length) = some n) && decide ((pw_inf t).2.2.1 ≤ 17) && plainName y.cls
def pw_okI (inf : pw_I) (pc : Nat) (i : Instr) (t : Nat) (q : List Nat) : Bool := match i with
  | .ifCond _ off => decide ((pc : Int) + off = (t : Int))
  | .if_icmp _ off => decide ((pc : Int) + off = (t : Int))
  | .ifnull off => decide ((pc : Int) + off = (t : Int))
  | .ifnonnull off => decide ((pc : Int) + off = (t : Int))
  | .goto off => decide ((pc : Int) + off = (t : Int))
  | .tableswitch dflt _ _ offs => decide ((pc : Int) + dflt = (t : Int)) && decide (q.length = offs.size) && decide (q.map (fun u : Nat => some ((u : Int) - (pc : Int))) = (List.range q.length).map (fun j => offs[j]?))
  | .getfield idx => match pw_cl[t]?, q with
    | some c, [k, w, z] => decide (k < c.2.2) && decide ((c.2.1 k).1 = c.1) && (match z with
      | 0 => pw_has w (.fieldLink inf.1.cls idx c.1 (c.2.1 k).2.1 (c.2.1 k).2.2.1)
      | _ => decide (lw_tbl[w]? = some (.fieldLinkNest inf.1.cls idx c.1 (c.2.1 k).2.1 (c.2.1 k).2.2.1 "BoundWalks")))
    | _, _ => false
  | .putfield idx => match pw_cl[t]?, q with
    | some c, [k, kd, w, z] => decide (k < c.2.2) && decide ((c.2.1 k).1 = c.1) && pw_has w (.fieldLink inf.1.cls idx c.1 (c.2.1 k).2.1 (c.2.1 k).2.2.1) && (match z with
      | 0 => !(c.2.1 k).2.2.2
      | _ => (c.2.1 k).2.2.2 && decide (inf.1.name = "<init>") && decide (c.1 = inf.1.cls)) && (match kd, pw_tyf t k with
      | 0, .int => true
      | 1, .boolean => true
      | 2, .object _ => true
      | 2, .array _ => true
      | _, _ => false)
    | _, _ => false
  | .new idx => match pw_cl[t]?, q with
    | some c, [w1, w2, w3] => pw_has w1 (.classLink inf.1.cls idx c.1) && pw_has w2 (.instantiable c.1 c.2.2) && pw_has w3 (.initialized c.1)
    | _, _ => false
  | .newarray ty => match q with
    | [w] => (match t with
      | 0 => decide (ty = .int)
      | 1 => decide (ty = .boolean)
      | _ => false) && pw_has w (.arrayClass (newarray.typeOf ty))
    | _ => false
  | .anewarray idx => match pw_cl[t]?, q with
    | some c, [w] => (decide (t = 0) || decide (t = 2)) && pw_has w (.classLink inf.1.cls idx c.1)
    | _, _ => false
  | .ldc_w idx => match q with
    | [w] => pw_has w (.constant inf.1.cls idx (Int32.ofNat t))
    | _ => false
  | .invokevirtual idx => match q with
    | [n, k, w1, w2, w3, w4, w5] => pw_okW inf.1.cls idx t n w1 w4 w5 false && pw_has w2 (.instanceMethod (pw_inf t).1) && pw_has w3 (.selects (pw_inf t).1.cls (pw_inf t).1 (pw_inf t).1) && decide (pw_cl[k]?.map (fun c => c.1) = some (pw_inf t).1.cls)
    | _ => false
  | .invokespecial idx => match q with
    | [w] => pw_has w (.methodLink inf.1.cls idx Lib.objectInit)
    | [n, k, w1, w2, _, w4, w5] => pw_okW inf.1.cls idx t n w1 w4 w5 false && pw_has w2 (.instanceMethod (pw_inf t).1) && decide ((pw_inf t).1.name = "<init>") && decide ((pw_inf t).2.2.2 = none)
    | _ => false
  | .invokestatic idx => match q with
    | [w, k] => (match k with
      | 0 => pw_has w (.methodLink inf.1.cls idx Lib.Math.max.name)
      | 1 => pw_has w (.methodLink inf.1.cls idx Lib.Math.min.name)
      | _ => false)
    | [n, z, w1, w2, _, w4, w5] => pw_okW inf.1.cls idx t n w1 w4 w5 (match z with
      | 0 => false
      | _ => true) && pw_has w2 (.static (pw_inf t).1)
    | _ => false
  | _ => true
def pw_ok (inf : pw_I) (e : Nat × pw_O) : Bool := (match decode inf.2.1 e.1 with
  | .ok (j, len) => decide (j = e.2.1) && decide (e.2.2.1 = e.1 + len) && (match e.2.1 with
    | .tableswitch _ _ _ _ => true
    | i => decide (len = pw_ilen i))
  | _ => false) && pw_okI inf e.1 e.2.1 e.2.2.2.1 e.2.2.2.2
def pw_okm (m : pw_I × List (Nat × pw_O)) : Bool := m.2.all (pw_ok m.1)
theorem pw_all2 {α : Type} {p : α → Bool} {a b : List α} (ha : a.all p = true) (hb : b.all p = true) : (a ++ b).all p = true := by rw [List.all_append, ha, hb]; rfl
theorem pw_ck_0_0 : pw_o0_0.all (pw_ok (pw_inf 0)) = true := by decide +kernel
theorem pw_ck_0_1 : pw_o0_1.all (pw_ok (pw_inf 0)) = true := by decide +kernel
theorem pw_ck_0_2 : pw_o0_2.all (pw_ok (pw_inf 0)) = true := by decide +kernel
theorem pw_ck_0_3 : pw_o0_3.all (pw_ok (pw_inf 0)) = true := by decide +kernel
theorem pw_ck_0_4 : pw_o0_4.all (pw_ok (pw_inf 0)) = true := by decide +kernel
theorem pw_ck_0_5 : pw_o0_5.all (pw_ok (pw_inf 0)) = true := by decide +kernel
theorem pw_ck_0_6 : pw_o0_6.all (pw_ok (pw_inf 0)) = true := by decide +kernel
theorem pw_ck_0_7 : pw_o0_7.all (pw_ok (pw_inf 0)) = true := by decide +kernel
theorem pw_ck_0_8 : pw_o0_8.all (pw_ok (pw_inf 0)) = true := by decide +kernel
theorem pw_ck_0_9 : pw_o0_9.all (pw_ok (pw_inf 0)) = true := by decide +kernel
theorem pw_ck_0_10 : pw_o0_10.all (pw_ok (pw_inf 0)) = true := by decide +kernel
theorem pw_ck_0_11 : pw_o0_11.all (pw_ok (pw_inf 0)) = true := by decide +kernel
theorem pw_ck_0_12 : pw_o0_12.all (pw_ok (pw_inf 0)) = true := by decide +kernel
theorem pw_ck_0_13 : pw_o0_13.all (pw_ok (pw_inf 0)) = true := by decide +kernel
theorem pw_ck_0_14 : pw_o0_14.all (pw_ok (pw_inf 0)) = true := by decide +kernel
theorem pw_ck_0_15 : pw_o0_15.all (pw_ok (pw_inf 0)) = true := by decide +kernel
theorem pw_ck_0 : pw_o0.all (pw_ok (pw_inf 0)) = true := (pw_all2 pw_ck_0_0 (pw_all2 pw_ck_0_1 (pw_all2 pw_ck_0_2 (pw_all2 pw_ck_0_3 (pw_all2 pw_ck_0_4 (pw_all2 pw_ck_0_5 (pw_all2 pw_ck_0_6 (pw_all2 pw_ck_0_7 (pw_all2 pw_ck_0_8 (pw_all2 pw_ck_0_9 (pw_all2 pw_ck_0_10 (pw_all2 pw_ck_0_11 (pw_all2 pw_ck_0_12 (pw_all2 pw_ck_0_13 (pw_all2 pw_ck_0_14 pw_ck_0_15)))))))))))))))
theorem pw_ck_1 : pw_o1.all (pw_ok (pw_inf 1)) = true := by decide +kernel
theorem pw_ck_2 : pw_o2.all (pw_ok (pw_inf 2)) = true := by decide +kernel
theorem pw_ck_3 : pw_o3.all (pw_ok (pw_inf 3)) = true := by decide +kernel
theorem pw_ck_4 : pw_o4.all (pw_ok (pw_inf 4)) = true := by decide +kernel
theorem pw_ck_5 : pw_o5.all (pw_ok (pw_inf 5)) = true := by decide +kernel
theorem pw_ck_6 : pw_o6.all (pw_ok (pw_inf 6)) = true := by decide +kernel
theorem pw_ck_7 : pw_o7.all (pw_ok (pw_inf 7)) = true := by decide +kernel
theorem pw_ck_8 : pw_o8.all (pw_ok (pw_inf 8)) = true := by decide +kernel
theorem pw_ck_9 : pw_o9.all (pw_ok (pw_inf 9)) = true := by decide +kernel
theorem pw_ck_10 : pw_o10.all (pw_ok (pw_inf 10)) = true := by decide +kernel
theorem pw_ck_11 : pw_o11.all (pw_ok (pw_inf 11)) = true := by decide +kernel
theorem pw_ck_12 : pw_o12.all (pw_ok (pw_inf 12)) = true := by decide +kernel
theorem pw_ck_13 : pw_o13.all (pw_ok (pw_inf 13)) = true := by decide +kernel
theorem pw_ck_14 : pw_o14.all (pw_ok (pw_inf 14)) = true := by decide +kernel
theorem pw_ck_15 : pw_o15.all (pw_ok (pw_inf 15)) = true := by decide +kernel
theorem pw_ck_16_0 : pw_o16_0.all (pw_ok (pw_inf 16)) = true := by decide +kernel
theorem pw_ck_16_1 : pw_o16_1.all (pw_ok (pw_inf 16)) = true := by decide +kernel
theorem pw_ck_16 : pw_o16.all (pw_ok (pw_inf 16)) = true := (pw_all2 pw_ck_16_0 pw_ck_16_1)
theorem pw_ck_17 : pw_o17.all (pw_ok (pw_inf 17)) = true := by decide +kernel
theorem pw_ck_18 : pw_o18.all (pw_ok (pw_inf 18)) = true := by decide +kernel
theorem pw_ck_19 : pw_o19.all (pw_ok (pw_inf 19)) = true := by decide +kernel
theorem pw_ck_20 : pw_o20.all (pw_ok (pw_inf 20)) = true := by decide +kernel
theorem pw_ck_21 : pw_o21.all (pw_ok (pw_inf 21)) = true := by decide +kernel
theorem pw_ck_22 : pw_o22.all (pw_ok (pw_inf 22)) = true := by decide +kernel
theorem pw_ck_23 : pw_o23.all (pw_ok (pw_inf 23)) = true := by decide +kernel
theorem pw_ck_24 : pw_o24.all (pw_ok (pw_inf 24)) = true := by decide +kernel
theorem pw_ck_25 : pw_o25.all (pw_ok (pw_inf 25)) = true := by decide +kernel
theorem pw_ck_26 : pw_o26.all (pw_ok (pw_inf 26)) = true := by decide +kernel
theorem pw_ck_27 : pw_o27.all (pw_ok (pw_inf 27)) = true := by decide +kernel
theorem pw_ck_28 : pw_o28.all (pw_ok (pw_inf 28)) = true := by decide +kernel
theorem pw_ck_29 : pw_o29.all (pw_ok (pw_inf 29)) = true := by decide +kernel
theorem pw_ck_30 : pw_o30.all (pw_ok (pw_inf 30)) = true := by decide +kernel
theorem pw_ck_31 : pw_o31.all (pw_ok (pw_inf 31)) = true := by decide +kernel
theorem pw_ck_32 : pw_o32.all (pw_ok (pw_inf 32)) = true := by decide +kernel
theorem pw_ck_33 : pw_o33.all (pw_ok (pw_inf 33)) = true := by decide +kernel
theorem pw_ck_34 : pw_o34.all (pw_ok (pw_inf 34)) = true := by decide +kernel
theorem pw_ck_35 : pw_o35.all (pw_ok (pw_inf 35)) = true := by decide +kernel
theorem pw_ck_36 : pw_o36.all (pw_ok (pw_inf 36)) = true := by decide +kernel
theorem pw_ck_37 : pw_o37.all (pw_ok (pw_inf 37)) = true := by decide +kernel
theorem pw_ck_38 : pw_o38.all (pw_ok (pw_inf 38)) = true := by decide +kernel
theorem pw_ck_39 : pw_o39.all (pw_ok (pw_inf 39)) = true := by decide +kernel
theorem pw_ck_40_0 : pw_o40_0.all (pw_ok (pw_inf 40)) = true := by decide +kernel
theorem pw_ck_40_1 : pw_o40_1.all (pw_ok (pw_inf 40)) = true := by decide +kernel
theorem pw_ck_40_2 : pw_o40_2.all (pw_ok (pw_inf 40)) = true := by decide +kernel
theorem pw_ck_40 : pw_o40.all (pw_ok (pw_inf 40)) = true := (pw_all2 pw_ck_40_0 (pw_all2 pw_ck_40_1 pw_ck_40_2))
theorem pw_ck_41 : pw_o41.all (pw_ok (pw_inf 41)) = true := by decide +kernel
theorem pw_ck_42 : pw_o42.all (pw_ok (pw_inf 42)) = true := by decide +kernel
theorem pw_ck_43 : pw_o43.all (pw_ok (pw_inf 43)) = true := by decide +kernel
theorem pw_ck_44 : pw_o44.all (pw_ok (pw_inf 44)) = true := by decide +kernel
theorem pw_ck_45 : pw_o45.all (pw_ok (pw_inf 45)) = true := by decide +kernel
theorem pw_ck_46 : pw_o46.all (pw_ok (pw_inf 46)) = true := by decide +kernel
theorem pw_ck_47 : pw_o47.all (pw_ok (pw_inf 47)) = true := by decide +kernel
theorem pw_ck_48 : pw_o48.all (pw_ok (pw_inf 48)) = true := by decide +kernel
theorem pw_ck_49 : pw_o49.all (pw_ok (pw_inf 49)) = true := by decide +kernel
theorem pw_ck_50 : pw_o50.all (pw_ok (pw_inf 50)) = true := by decide +kernel
theorem pw_ck_51 : pw_o51.all (pw_ok (pw_inf 51)) = true := by decide +kernel
theorem pw_ck_52 : pw_o52.all (pw_ok (pw_inf 52)) = true := by decide +kernel
theorem pw_ck_53 : pw_o53.all (pw_ok (pw_inf 53)) = true := by decide +kernel
theorem pw_ck_54 : pw_o54.all (pw_ok (pw_inf 54)) = true := by decide +kernel
theorem pw_ck_55 : pw_o55.all (pw_ok (pw_inf 55)) = true := by decide +kernel
theorem pw_ck_56 : pw_o56.all (pw_ok (pw_inf 56)) = true := by decide +kernel
theorem pw_ck_57 : pw_o57.all (pw_ok (pw_inf 57)) = true := by decide +kernel
theorem pw_ck_58 : pw_o58.all (pw_ok (pw_inf 58)) = true := by decide +kernel
theorem pw_ck_59 : pw_o59.all (pw_ok (pw_inf 59)) = true := by decide +kernel
theorem pw_ck_60 : pw_o60.all (pw_ok (pw_inf 60)) = true := by decide +kernel
