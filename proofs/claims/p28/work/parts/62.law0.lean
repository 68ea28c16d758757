def R_law : String := "FoldedMonthsLaw"
def lw_P (b : Addr) (xs : List Int32) (args : Array Value) (s : State) : Prop := args = #[.ref b] ∧ s.IntsAt b xs ∧ xs.length ≤ 260 ∧ (Jvm.Cond.and given_1 narrow_1).before args s = true
def lw_Q (_ : Array Value) (s : State) (o : Outcome) (t : State) : Prop := o = .returned (some (.int 1)) ∧ Framed s o t [] 600000 7302250
def lw_Z (below : List Frame) (a : Array Value) (s : State) : State → Prop := fun t => ∃ o, t.status = .running ∧ Ended t below o ∧ lw_Q a s o t
/-- the law's own end, with 1 on the stack, nothing written that was there before, its room as the claim has it -/
theorem lw_ret {p : Program} {l : Launch} {e : Env} {s : State} {m : MethodId} {below : List Frame} {meth : Method} {c : Code} {b : Nat} (hx : p.tables.exec = Jvm.exec) (hb : c.code = code) (hr : meth.sig.returnType = ret) (hlocks : meth.locks = false) {pc : Nat} {H : Heap} {ls : Array Slot} (hdg : decode code pc = .ok (.ireturn, 1)) : W p l e room_1 s m #[Value.ref b] below meth c H [] 600000 7302250 (lw_Z below #[Value.ref b] s) (F0 m pc ls [.int 1]) := by
  intro T hT X
  obtain ⟨fs, hret, hrun, hended, hW, hframe⟩ := X.leave (v := some (.int 1)) (hlocks := hlocks) (fun h => by rw [hr] at h; cases h)
  have hmeth' : T.vm.method? m = some meth := X.method'
  refine ⟨T.setFrames fs, ?_, .returned (some (.int 1)), hrun, hended, rfl, ⟨_, rfl⟩, hW, hframe⟩
  jvm_step X.here [X.here.top, hx, hb, hdg, hmeth', hr, ret, narrow_b1]
  (try refine ⟨rfl, ?_⟩); (try refine ⟨rfl, ?_⟩)
  first | (intro acts; rw [hret _ acts rfl rfl rfl]) | rw [hret _ _ rfl rfl rfl]
  exact Steps.refl _
/-- what holds at the law's entry: the machine, the code, the tables' words (any of lw_tbl by 'hts w (by decide +kernel)'), the script of L ints xs at the cell b, what the Statement gives of the start (any of its parts by flat_of_before) -/
def lw_At (p : Program) (s : State) (m : MethodId) (meth : Method) (c : Code) (b L : Nat) (xs : Nat → Int32) : Prop :=
  p.tables.exec = Jvm.exec ∧ c.code = code ∧ meth.sig.returnType = ret ∧ c.maxLocals = 9 ∧ s.vm.findClass R_law = some m.cls ∧ (∀ w ∈ lw_tbl, w.before #[Value.ref b] s = true) ∧ va_X b L xs s s.heap ∧ b < s.heap.size ∧ meth.locks = false ∧ (Jvm.Cond.and given_1 narrow_1).before #[Value.ref b] s = true
theorem lwd1 {w : Cond} {i : Nat} (h : tables_1_1[i]? = some w) : w ∈ lw_tbl := List.mem_append_right _ (List.mem_append_left _ (List.mem_of_getElem? h))
theorem lwd2 {w : Cond} {i : Nat} (h : tables_1_2[i]? = some w) : w ∈ lw_tbl := List.mem_append_right _ (List.mem_append_right _ (List.mem_append_left _ (List.mem_of_getElem? h)))
theorem lwd3 {w : Cond} {i : Nat} (h : tables_1_3[i]? = some w) : w ∈ lw_tbl := List.mem_append_right _ (List.mem_append_right _ (List.mem_append_right _ (List.mem_of_getElem? h)))
set_option maxRecDepth 100000 in
set_option maxHeartbeats 4000000 in
theorem law_K {b : Nat} {s : State} (hts : ∀ w ∈ lw_tbl, w.before #[Value.ref b] s = true) : ∃ G : gT, Ky G s := by
  have htg : ∀ w ∈ GW, w.before #[Value.ref b] s = true := fun w h => hts w (gw_tbl w h)
  obtain ⟨c0, i0, k0⟩ := u_known (C := RX0) (T := TX0) (N := 11) htg inGX0 (htg _ mw_1_17)
  obtain ⟨c1, i1, k1⟩ := u_known (C := RX1) (T := TX1) (N := 6) htg inGX1 (htg _ mw_1_70)
  obtain ⟨c2, i2, k2⟩ := u_known (C := RX2) (T := TX2) (N := 5) htg inGX2 (htg _ mw_1_77)
  obtain ⟨c3, i3, k3⟩ := u_known (C := RX3) (T := TX3) (N := 7) htg inGX3 (htg _ mw_1_9)
  obtain ⟨aI, kI, pI0, x1, x2, x3⟩ := Cond.arrayClass_spec (htg _ mw_1_67)
  obtain ⟨aC, kC, pC0, y1, y2, y3⟩ := Cond.arrayClass_spec (htg _ mw_1_103)
  have o0 : (Cond.arrayOver (.object RX0)).before #[Value.ref b] s = true := hts _ (lwd1 (i := 68) rfl)
  have o2 : (Cond.arrayOver (.object RX2)).before #[Value.ref b] s = true := hts _ (lwd1 (i := 76) rfl)
  obtain ⟨pD, aD, kD, d1, d2, d3, d4, d5⟩ := Cond.arrayOver_spec o0
  obtain ⟨pS, aS, kS, e1, e2, e3, e4, e5⟩ := Cond.arrayOver_spec o2
  refine ⟨((fun k => match k with | 0 => c0 | 1 => c1 | 2 => c2 | _ => c3, fun k => match k with | 0 => i0 | 1 => i1 | 2 => i2 | _ => i3), aI, aC, aI, aD, aS), ⟨⟨⟨fun k q hk => ?_, fun k q hk => ?_⟩, va_Nw.of rfl (hts _ (lwd1 (i := 78) rfl)), va_Nw.of rfl (hts _ (lwd1 (i := 188) rfl)), va_Nw.of rfl (hts _ (lwd1 (i := 172) rfl)), va_Nw.of rfl (hts _ (lwd2 (i := 77) rfl)), va_Nw.of rfl (hts _ (lwd2 (i := 153) rfl)), va_Nw.of rfl (hts _ (lwd2 (i := 170) rfl)), va_Nw.of rfl (hts _ (lwd3 (i := 34) rfl))⟩, va_AO.of o0, va_AO.of o2⟩⟩
  · rcases k with _ | _ | _ | _ | k
    · cases hk; exact k0
    · cases hk; exact k1
    · cases hk; exact k2
    · cases hk; exact k3
    · exact absurd hk (by intro h; cases h)
  · rcases k with _ | _ | _ | _ | _ | k
    · cases hk; exact ⟨fun n z => ⟨fun k h => (by cases h), kI, x2, pI0, x3⟩, x1⟩
    · cases hk; exact ⟨fun n z => ⟨fun k h => (by cases h), kC, y2, pC0, y3⟩, y1⟩
    · cases hk; exact ⟨fun n z => ⟨fun k h => (by cases h), kI, x2, pI0, x3⟩, x1⟩
    · cases hk; exact ⟨fun n z => ⟨fun k h => (by cases h), kD, d3, pD, d4⟩, kD, pD, d3, d4, d1, d5⟩
    · cases hk; exact ⟨fun n z => ⟨fun k h => (by cases h), kS, e3, pS, e4⟩, kS, pS, e3, e4, e1, e5⟩
    · exact absurd hk (by intro h; cases h)
set_option maxRecDepth 100000 in
set_option maxHeartbeats 4000000 in
theorem law_Z {b : Nat} {s : State} {A : Nat → Prop} (hts : ∀ w ∈ lw_tbl, w.before #[Value.ref b] s = true) (hg : (Jvm.Cond.and given_1 narrow_1).before #[Value.ref b] s = true) (hA : ∀ a : Nat, a < s.heap.size → ¬ A a) : Zs A s := by
  have hs := flat_of_before _ hg
  have harr : (Cond.arrayOf (.static "FoldedMonths" "MONTH_STARTS" "[I") .int).before #[Value.ref b] s = true := hs _ (by decide +kernel)
  have hlen := va_eqt (hs (Cond.eq (.length (.static "FoldedMonths" "MONTH_STARTS" "[I")) (.int 13)) (by decide +kernel))
  have q0 := va_eqt (hs (Cond.eq (.elem (.static "FoldedMonths" "MONTH_STARTS" "[I") (.int 0)) (.int 0)) (by decide +kernel))
  have q1 := va_eqt (hs (Cond.eq (.elem (.static "FoldedMonths" "MONTH_STARTS" "[I") (.int 1)) (.int 31)) (by decide +kernel))
  have q2 := va_eqt (hs (Cond.eq (.elem (.static "FoldedMonths" "MONTH_STARTS" "[I") (.int 2)) (.int 59)) (by decide +kernel))
  have q3 := va_eqt (hs (Cond.eq (.elem (.static "FoldedMonths" "MONTH_STARTS" "[I") (.int 3)) (.int 90)) (by decide +kernel))
  have q4 := va_eqt (hs (Cond.eq (.elem (.static "FoldedMonths" "MONTH_STARTS" "[I") (.int 4)) (.int 120)) (by decide +kernel))
  have q5 := va_eqt (hs (Cond.eq (.elem (.static "FoldedMonths" "MONTH_STARTS" "[I") (.int 5)) (.int 151)) (by decide +kernel))
  have q6 := va_eqt (hs (Cond.eq (.elem (.static "FoldedMonths" "MONTH_STARTS" "[I") (.int 6)) (.int 181)) (by decide +kernel))
  have q7 := va_eqt (hs (Cond.eq (.elem (.static "FoldedMonths" "MONTH_STARTS" "[I") (.int 7)) (.int 212)) (by decide +kernel))
  have q8 := va_eqt (hs (Cond.eq (.elem (.static "FoldedMonths" "MONTH_STARTS" "[I") (.int 8)) (.int 243)) (by decide +kernel))
  have q9 := va_eqt (hs (Cond.eq (.elem (.static "FoldedMonths" "MONTH_STARTS" "[I") (.int 9)) (.int 273)) (by decide +kernel))
  have q10 := va_eqt (hs (Cond.eq (.elem (.static "FoldedMonths" "MONTH_STARTS" "[I") (.int 10)) (.int 304)) (by decide +kernel))
  have q11 := va_eqt (hs (Cond.eq (.elem (.static "FoldedMonths" "MONTH_STARTS" "[I") (.int 11)) (.int 334)) (by decide +kernel))
  have q12 := va_eqt (hs (Cond.eq (.elem (.static "FoldedMonths" "MONTH_STARTS" "[I") (.int 12)) (.int 365)) (by decide +kernel))
  obtain ⟨t, ht, hT⟩ := va_Tof (N := 13) (f := fun j => .int (nI (mst j))) (by decide) harr hlen (fun j hj => by
    rcases (show j = 0 ∨ j = 1 ∨ j = 2 ∨ j = 3 ∨ j = 4 ∨ j = 5 ∨ j = 6 ∨ j = 7 ∨ j = 8 ∨ j = 9 ∨ j = 10 ∨ j = 11 ∨ j = 12 by omega) with rfl | rfl | rfl | rfl | rfl | rfl | rfl | rfl | rfl | rfl | rfl | rfl | rfl
    · exact q0
    · exact q1
    · exact q2
    · exact q3
    · exact q4
    · exact q5
    · exact q6
    · exact q7
    · exact q8
    · exact q9
    · exact q10
    · exact q11
    · exact q12) hA
  exact ⟨t, va_Zof (hts _ (lwd1 (i := 167) rfl)) (hts _ (gw_tbl _ mw_1_1)) ht hA, hT⟩
