/-! THE CLAIM OUT OF ONE WALK OF THE LAW'S BODY. Your part is whole_start (and what it stands on); all else here is the same for every law, but numbers. -/
def R_law : String := "BoundWalksLaw"
def lw_P (b : Addr) (xs : List Int32) (args : Array Value) (s : State) : Prop := args = #[.ref b] ∧ s.IntsAt b xs ∧ xs.length ≤ 4608 ∧ (Jvm.Cond.and given_1 narrow_1).before args s = true
def lw_Q (_ : Array Value) (s : State) (o : Outcome) (t : State) : Prop := o = .returned (some (.int 1)) ∧ Framed s o t [] 600000 7302250
def lw_Z (below : List Frame) (a : Array Value) (s : State) : State → Prop := fun t => ∃ o, t.status = .running ∧ Ended t below o ∧ lw_Q a s o t
/-- the law's own end, with 1 on the stack, nothing written that was there before, its room as the claim has it -/
theorem lw_ret {p : Program} {l : Launch} {e : Env} {s : State} {m : MethodId} {below : List Frame} {meth : Method} {c : Code} {b : Nat} (hx : p.tables.exec = Jvm.exec) (hb : c.code = code) (hr : meth.sig.returnType = ret) (hlocks : meth.locks = false) {pc : Nat} {H : Heap} {ls : Array Slot} (hdg : decode code pc = .ok (.ireturn, 1)) : W p l e room_1 s m #[Value.ref b] below meth c H [] 600000 7302250 (lw_Z below #[Value.ref b] s) (F0 m pc ls [.int 1]) := by
  intro T hT X
  obtain ⟨fs, hret, hrun, hended, hW, hframe⟩ := X.leave (v := some (.int 1)) (hlocks := hlocks) (fun h => by rw [hr] at h; cases h)
  have hmeth' : T.vm.method? m = some meth := X.method'
  refine ⟨T.setFrames fs, ?_, .returned (some (.int 1)), hrun, hended, rfl, ⟨_, rfl⟩, hW, hframe⟩
  jvm_step X.here [X.here.top, hx, hb, hdg, hmeth', hr, ret, narrow_b1]
  (try refine ⟨rfl, ?_⟩); (try refine ⟨rfl, ?_⟩)
  first | (intro acts; rw [hret _ acts rfl rfl rfl]) | rw [hret _ _ rfl rfl rfl]
  exact Steps.refl _
/-- what holds at the law's entry: the machine, the code, the tables' words (any of lw_tbl by 'hts w (by decide +kernel)'), the script of L ints xs at the cell b, what the Statement gives of the start (any of its parts by flat_of_before) -/
def lw_At (p : Program) (s : State) (m : MethodId) (meth : Method) (c : Code) (b L : Nat) (xs : Nat → Int32) : Prop :=
  p.tables.exec = Jvm.exec ∧ c.code = code ∧ meth.sig.returnType = ret ∧ c.maxLocals = 4 ∧ s.vm.findClass R_law = some m.cls ∧ (∀ w ∈ lw_tbl, w.before #[Value.ref b] s = true) ∧ va_X b L xs s s.heap ∧ b < s.heap.size ∧ meth.locks = false ∧ (Jvm.Cond.and given_1 narrow_1).before #[Value.ref b] s = true

theorem pw_hts {s : State} {args : Array Value} (h : ∀ w ∈ lw_tbl, w.before args s = true) : ∀ w ∈ pw_tbl, w.before args s = true := fun w hw => h w (List.mem_filter.mp hw).1
set_option maxHeartbeats 4000000 in
theorem pw_whole_of {p : Program} {e : Env} {s : State} {m : MethodId} {below : List Frame} {meth : Method} {c : Code} (l : Launch) {b N : Nat} {xs : Nat → Int32} (C0 : lw_At p s m meth c b N xs) (hnm : meth.name = "law") {n : Nat} {h' : pw_H} (hrun : pw_run n 8 0 0 (pw_ent 0 [.inr (some 0)]) [] [.inl (2, N, xs)] = some (some (.inl 1), h')) (hlen : h'.length ≤ 600001) (hsize : pw_size h' ≤ 7302250 + N) :
    W p l e room_1 s m #[Value.ref b] below meth c s.heap [] 0 0 (lw_Z below #[Value.ref b] s) (entryFrame m ([Value.ref b] : List Value).toArray 4) := by
  obtain ⟨hx, hb, hr, hml, hown, hts, hX, hbl, hlocks, hgv⟩ := C0
  have hw : ∀ (w : Cond) (i : Nat), lw_tbl[i]? = some w → w.before #[Value.ref b] s = true := fun w i h => hts w (List.mem_of_getElem? h)
  obtain ⟨c0, i0, k0⟩ := u_known (n := 6) hts pw_in0 (hw (.instantiable "BoundWalks$House" 6) 376 (by decide +kernel))
  obtain ⟨c1, i1, k1⟩ := u_known (n := 5) hts pw_in1 (hw (.instantiable "BoundWalks$Ledger" 5) 57 (by decide +kernel))
  obtain ⟨c2, i2, k2⟩ := u_known (n := 10) hts pw_in2 (hw (.instantiable "BoundWalks$Walk" 10) 146 (by decide +kernel))
  obtain ⟨c3, i3, k3⟩ := u_known (n := 17) hts pw_in3 (hw (.instantiable "BoundWalks" 17) 47 (by decide +kernel))
  obtain ⟨c4, i4, k4⟩ := u_known (n := 40) hts pw_in4 (hw (.instantiable "BoundWalksModel" 40) 463 (by decide +kernel))
  obtain ⟨aI, kI, cmI, fI, eI, dI⟩ := Cond.arrayClass_spec (hw (.arrayClass .int) 81 (by decide +kernel))
  obtain ⟨aZ, kZ, cmZ, fZ, eZ, dZ⟩ := Cond.arrayClass_spec (hw (.arrayClass .boolean) 589 (by decide +kernel))
  have aoH : va_AO "BoundWalks$House" s := va_AO.of (hw (.arrayOver (.object "BoundWalks$House")) 83 (by decide +kernel))
  have aoW : va_AO "BoundWalks$Walk" s := va_AO.of (hw (.arrayOver (.object "BoundWalks$Walk")) 55 (by decide +kernel))
  obtain ⟨cmH, aH, kH, h1, h2, h3, h4, h5⟩ := Cond.arrayOver_spec aoH
  obtain ⟨cmW, aW, kW, w1, w2, w3, w4, w5⟩ := Cond.arrayOver_spec aoW
  have hK : va_K ((fun k => match k with | 0 => c0 | 1 => c1 | 2 => c2 | 3 => c3 | _ => c4), (fun k => match k with | 0 => i0 | 1 => i1 | 2 => i2 | 3 => i3 | _ => i4)) pw_cl (pw_tys (fun k => match k with | 0 => aI | 1 => aZ | 2 => aH | _ => aW)) s := by
    refine ⟨fun k r hk => ?_, fun k r hk => ?_⟩
    · match k, hk with
      | 0, hk => obtain rfl := Option.some.inj hk; exact k0
      | 1, hk => obtain rfl := Option.some.inj hk; exact k1
      | 2, hk => obtain rfl := Option.some.inj hk; exact k2
      | 3, hk => obtain rfl := Option.some.inj hk; exact k3
      | 4, hk => obtain rfl := Option.some.inj hk; exact k4
      | k + 5, hk => simp at hk
    · match k, hk with
      | 0, hk => obtain rfl := Option.some.inj hk; exact ⟨fun n z => ⟨fun k h => (by cases h), kI, eI, cmI, dI⟩, fI⟩
      | 1, hk => obtain rfl := Option.some.inj hk; exact ⟨fun n z => ⟨fun k h => (by cases h), kZ, eZ, cmZ, dZ⟩, fZ⟩
      | 2, hk => obtain rfl := Option.some.inj hk; exact ⟨fun n z => ⟨fun k h => (by cases h), kH, h3, cmH, h4⟩, kH, cmH, h3, h4, h1, h5⟩
      | 3, hk => obtain rfl := Option.some.inj hk; exact ⟨fun n z => ⟨fun k h => (by cases h), kW, w3, cmW, w4⟩, kW, cmW, w3, w4, w1, w5⟩
      | k + 4, hk => simp at hk
  have hnw : pw_nw s := by
    refine ⟨fun w hw2 hn => ?_, aoH, aoW⟩
    have hq := hts w hw2
    cases w <;> first | exact va_Nw.of rfl hq | (exact absurd hn (by simp [pw_isN]))
  rw [lg_entry_eq]
  refine pw_sound l _ _ b s.heap.size N xs n 8 0 0 (pw_ent 0 [.inr (some 0)]) [] [.inl (2, N, xs)] (some (.inl 1)) h' hrun p e room_1 s m #[Value.ref b] below meth c s.heap [] 0 0 _ _ ⟨hx, hb, hml, hown, pw_hts hts, hK, hX, ⟨hbl, Nat.le_refl _⟩, hnm, hnw⟩ (by decide) (by decide) rfl (pw_entry (M := 0) (as := [.inr (some 0)]) (by decide)) ⟨rfl, rfl, fun k c hk => by simp at hk⟩ va_S.rf ?_ ?_ ?_
  · show 0 + h'.length ≤ 600000 + 1
    omega
  · show 0 + pw_size h' ≤ 7302250 + (N + 0)
    omega
  · intro pc ls H locs cells slots i st hd hret hR' hS' hc hs
    unfold pw_ret at hret
    split at hret
    · rename_i v
      split at hret
      · cases hret
        refine va_forget (fun q hq => hS'.2.2 q hq) ?_
        refine W.widen (k := 600000) (n := 7302250) hc hs ?_
        exact lw_ret hx hb hr hlocks hd
      · cases hret
    · split at hret <;> cases hret
    · split at hret <;> cases hret
    · cases hret
