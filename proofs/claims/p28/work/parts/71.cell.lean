theorem msk (x : Int32) : ∃ v, v < 2147483648 ∧ x &&& 2147483647 = nI v := by
  have h1 : (x &&& 2147483647).toBitVec.toNat ≤ 2147483647 := by
    rw [Int32.toBitVec_and, BitVec.toNat_and]
    exact Nat.and_le_right
  have h2 : (x &&& 2147483647).toInt = ((x &&& 2147483647).toBitVec.toNat : Int) := BitVec.toInt_eq_toNat_of_lt (by omega)
  exact ⟨(x &&& 2147483647).toInt.toNat, by omega, nI_iN (by omega)⟩
section CEL
variable {p : Program} {l : Launch} {e : Env} {R : Room} {s : State} {m : MethodId} {args : Array Value} {below : List Frame} {meth : Method} {c : Code} {H H0 : Heap} {locs : List Loc} {cells slots : Nat} {Q : State → Prop} {ls : Array Slot} {b L : Nat} {xs : Nat → Int32} {A : Nat → Prop}
theorem n_sld {rest : List Value} {pc k : Nat} {cc : ByteArray} (hx : p.tables.exec = Jvm.exec) (hb : c.code = cc) (hX : va_X b L xs s H0) (hbl : b < H0.size) (hbA : ¬ A b) (hS : va_S A H0 H locs) (hk : k < L) (hL : L ≤ 260) (hdg : decode cc pc = .ok (.iaload, 1))
    (kk : W p l e R s m args below meth c H locs cells slots Q (F0 m (pc + 1) ls (.int (xs k) :: rest))) : W p l e R s m args below meth c H locs cells slots Q (F0 m pc ls (.int (nI k) :: .ref b :: rest)) :=
  va_sld hx hb hX hbl hbA hS (vp_in_nI hk (by omega)) hdg (by rw [nI_clamp (by omega)]; exact kk)
end CEL
set_option maxHeartbeats 4000000 in
set_option maxRecDepth 100000 in
theorem cell_in (l : Launch) {b L k : Nat} {xs : Nat → Int32} (hL : L ≤ 260) (hk : k < 100) (h : k < L) : ∃ v, v < 2147483648 ∧ Rcl l b L xs [Value.ref b, Value.int (nI k)] (nI v) := by
  obtain ⟨v, hv, ev⟩ := msk (xs k)
  refine ⟨v, hv, Met.mk0 (by decide) (Nat.le_of_ble_eq_true rfl) (fun pq eq sq mq bq tq cq ls hr hlk hF hpc hl => ?_)⟩
  have hx := hF.1
  have hb := hF.2.1
  have hml := hF.2.2.1
  have hown : sq.vm.findClass "FoldedMonthsLaw" = some mq.cls := hF.2.2.2.1
  have hts : ∀ w ∈ GW, w.before _ sq = true := hF.2.2.2.2
  have hl : lv_has ls 2 [(0, .ref b), (1, .int (nI k))] := hl
  have hS : va_S (fun _ => False) sq.heap sq.heap [] := va_S.rf
  have hX := hpc.1
  have hbl := hpc.2
  refine lv_iload_n hx hb dL_cell_0 rfl (lv_at hl 1 rfl) ?_
  refine lv_aload_n hx hb dL_cell_1 rfl (lv_at hl 0 rfl) ?_
  refine va_slen hx hb hX hbl (fun h => h) hS dL_cell_2 ?_
  refine z_ge hx hb (tgt := 12) ((k : Nat) : Int) ((L : Nat) : Int) dL_cell_3 (by decide) (toI (by omega)) (toI (by omega)) (fun c_3 => absurd c_3 (by omega)) (fun c_3 => ?_)
  refine lv_aload_n hx hb dL_cell_6 rfl (lv_at hl 0 rfl) ?_
  refine lv_iload_n hx hb dL_cell_7 rfl (lv_at hl 1 rfl) ?_
  refine n_sld hx hb hX hbl (fun h => h) hS (k := k) (by omega) hL dL_cell_8 ?_
  refine lv_goto (tgt := 22) hx hb dL_cell_9 (by decide) ?_
  refine lv_ldc (v := 2147483647) hx hb hown (hts _ mw_1_152) dL_cell_22 ?_
  refine lv_iand hx hb dL_cell_24 ?_
  exact e_ri hx hb hr hlk ev dL_cell_25
set_option maxHeartbeats 4000000 in
set_option maxRecDepth 100000 in
theorem cell_out (l : Launch) {b L k : Nat} {xs : Nat → Int32} (hL : L ≤ 260) (hk : k < 100) (h : ¬ k < L) : ∃ v, v < 2147483648 ∧ Rcl l b L xs [Value.ref b, Value.int (nI k)] (nI v) := by
  obtain ⟨v, hv, ev⟩ := msk ((15518219 * nI (k + 3)) + nI 10513)
  refine ⟨v, hv, Met.mk0 (by decide) (Nat.le_of_ble_eq_true rfl) (fun pq eq sq mq bq tq cq ls hr hlk hF hpc hl => ?_)⟩
  have hx := hF.1
  have hb := hF.2.1
  have hml := hF.2.2.1
  have hown : sq.vm.findClass "FoldedMonthsLaw" = some mq.cls := hF.2.2.2.1
  have hts : ∀ w ∈ GW, w.before _ sq = true := hF.2.2.2.2
  have hl : lv_has ls 2 [(0, .ref b), (1, .int (nI k))] := hl
  have hS : va_S (fun _ => False) sq.heap sq.heap [] := va_S.rf
  have hX := hpc.1
  have hbl := hpc.2
  refine lv_iload_n hx hb dL_cell_0 rfl (lv_at hl 1 rfl) ?_
  refine lv_aload_n hx hb dL_cell_1 rfl (lv_at hl 0 rfl) ?_
  refine va_slen hx hb hX hbl (fun h => h) hS dL_cell_2 ?_
  refine z_ge hx hb (tgt := 12) ((k : Nat) : Int) ((L : Nat) : Int) dL_cell_3 (by decide) (toI (by omega)) (toI (by omega)) (fun c_3 => ?_) (fun c_3 => absurd c_3 (by omega))
  refine lv_ldc (v := 15518219) hx hb hown (hts _ mw_1_151) dL_cell_12 ?_
  refine lv_iload_n hx hb dL_cell_14 rfl (lv_at hl 1 rfl) ?_
  refine lv_iconst (v := nI 3) hx hb dL_cell_15 (by decide) ?_
  refine n_iadd hx hb dL_cell_16 ?_
  refine lv_imul hx hb dL_cell_17 ?_
  refine lv_sipush (v := nI 10513) hx hb dL_cell_18 (by decide) ?_
  refine lv_iadd hx hb dL_cell_21 ?_
  refine lv_ldc (v := 2147483647) hx hb hown (hts _ mw_1_152) dL_cell_22 ?_
  refine lv_iand hx hb dL_cell_24 ?_
  exact e_ri hx hb hr hlk ev dL_cell_25
theorem c_cell (l : Launch) {b L k : Nat} {xs : Nat → Int32} (hL : L ≤ 260) (hk : k < 100) : ∃ v, v < 2147483648 ∧ Rcl l b L xs [Value.ref b, Value.int (nI k)] (nI v) := by
  by_cases h : k < L
  · exact cell_in l hL hk h
  · exact cell_out l hL hk h
