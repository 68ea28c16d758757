theorem hd_J6_bitCount_0f7a4 : hdY yJ6_bitCount_0f7a4 1 := ⟨by decide +kernel, by decide +kernel, by decide +kernel⟩
theorem hd_X3_startInYear : hdY yX3_startInYear 1 := ⟨by decide +kernel, by decide +kernel, by decide +kernel⟩
theorem hd_X3_monthOf : hdY yX3_monthOf 1 := ⟨by decide +kernel, by decide +kernel, by decide +kernel⟩
theorem hd_X3_firstDayOf : hdY yX3_firstDayOf 1 := ⟨by decide +kernel, by decide +kernel, by decide +kernel⟩
theorem hd_X3_daysOf : hdY yX3_daysOf 1 := ⟨by decide +kernel, by decide +kernel, by decide +kernel⟩
theorem hd_X3_lowestBits : hdY yX3_lowestBits 1 := ⟨by decide +kernel, by decide +kernel, by decide +kernel⟩
theorem hd_X3_daysMeant : hdY yX3_daysMeant 3 := ⟨by decide +kernel, by decide +kernel, by decide +kernel⟩
theorem hd_X3_allDays : hdY yX3_allDays 1 := ⟨by decide +kernel, by decide +kernel, by decide +kernel⟩
theorem hd_X3_isBitSet : hdY yX3_isBitSet 2 := ⟨by decide +kernel, by decide +kernel, by decide +kernel⟩
theorem hd_X3_isDay : hdY yX3_isDay 1 := ⟨by decide +kernel, by decide +kernel, by decide +kernel⟩
theorem hd_X3_isMonth : hdY yX3_isMonth 1 := ⟨by decide +kernel, by decide +kernel, by decide +kernel⟩
theorem hd_X3_isSubject : hdY yX3_isSubject 1 := ⟨by decide +kernel, by decide +kernel, by decide +kernel⟩
theorem hd_X3_spanError : hdY yX3_spanError 2 := ⟨by decide +kernel, by decide +kernel, by decide +kernel⟩
theorem hd_X3_subjectSpanError : hdY yX3_subjectSpanError 3 := ⟨by decide +kernel, by decide +kernel, by decide +kernel⟩
theorem hd_X0_bitsOf : hdY yX0_bitsOf 2 := ⟨by decide +kernel, by decide +kernel, by decide +kernel⟩
theorem hd_X0_isMarkedOn : hdY yX0_isMarkedOn 2 := ⟨by decide +kernel, by decide +kernel, by decide +kernel⟩
theorem hd_X0_marksIn : hdY yX0_marksIn 1 := ⟨by decide +kernel, by decide +kernel, by decide +kernel⟩
theorem hd_X0_runsIn : hdY yX0_runsIn 1 := ⟨by decide +kernel, by decide +kernel, by decide +kernel⟩
theorem hd_X0_subjectsIn : hdY yX0_subjectsIn 1 := ⟨by decide +kernel, by decide +kernel, by decide +kernel⟩
theorem hd_X0_subjectsOn : hdY yX0_subjectsOn 2 := ⟨by decide +kernel, by decide +kernel, by decide +kernel⟩
theorem hd_X0_crowdedDays : hdY yX0_crowdedDays 3 := ⟨by decide +kernel, by decide +kernel, by decide +kernel⟩
theorem hd_X0_allMarks : hdY yX0_allMarks 0 := ⟨by decide +kernel, by decide +kernel, by decide +kernel⟩
theorem hd_X0_oldMonths : hdY yX0_oldMonths 0 := ⟨by decide +kernel, by decide +kernel, by decide +kernel⟩
theorem hd_X0_isOld : hdY yX0_isOld 1 := ⟨by decide +kernel, by decide +kernel, by decide +kernel⟩
theorem hd_X0_formOf : hdY yX0_formOf 1 := ⟨by decide +kernel, by decide +kernel, by decide +kernel⟩
theorem hd_X0_namedBy : hdY yX0_namedBy 1 := ⟨by decide +kernel, by decide +kernel, by decide +kernel⟩
theorem hd_X0_sizeIn : hdY yX0_sizeIn 3 := ⟨by decide +kernel, by decide +kernel, by decide +kernel⟩
theorem hd_X0_sizeOf : hdY yX0_sizeOf 1 := ⟨by decide +kernel, by decide +kernel, by decide +kernel⟩
theorem hd_X0_allSizes : hdY yX0_allSizes 0 := ⟨by decide +kernel, by decide +kernel, by decide +kernel⟩
theorem hd_X0_hasSameMarks : hdY yX0_hasSameMarks 2 := ⟨by decide +kernel, by decide +kernel, by decide +kernel⟩
theorem hd_X0_twinOf : hdY yX0_twinOf 2 := ⟨by decide +kernel, by decide +kernel, by decide +kernel⟩
set_option maxHeartbeats 4000000 in
set_option maxRecDepth 100000 in
theorem c_J6_bitCount_0f7a4 (l : Launch) (G : gT) (x : Int32)  : Ro l G yJ6_bitCount_0f7a4 cJ6_bitCount_0f7a4 1 (some .int) 0 [] [.int x] (nI (pcn x 32)) := by
  refine Ro.mk (by decide) (Nat.le_of_ble_eq_true rfl) (fun pq eq sq mq bq tq cq ls hr hlk hF hKx hZ hP hl => ?_)
  have hx := hF.1
  have hb := hF.2.1
  have hml := hF.2.2.1
  have hown : sq.vm.findClass RJ6 = some mq.cls := hF.2.2.2.1
  have hts : ∀ w ∈ GW, w.before _ sq = true := hF.2.2.2.2
  have hK := hKx.1
  have hl : lv_has ls 1 [(0, .int x)] := hl
  have hS : va_S (fun _ => False) sq.heap sq.heap [] := va_S.rf
  have hP : va_P G.1 vwCl [] sq.heap := hP
  obtain ⟨n, hn, rfl⟩ := wb_of32' x
  refine lv_iload_n hx hb dJ6_bitCount_0f7a4_0 rfl (lv_at hl 0 rfl) ?_
  refine lv_iload_n hx hb dJ6_bitCount_0f7a4_1 rfl (lv_at hl 0 rfl) ?_
  refine lv_iconst (v := nI 1) hx hb dJ6_bitCount_0f7a4_2 (by decide) ?_
  refine lv_iushr (v := ((nI n).toUInt32 >>> ((nI 1).toUInt32 &&& Int32.toUInt32 31)).toInt32) hx hb dJ6_bitCount_0f7a4_3 rfl ?_
  refine lv_cv (y := nI (n / 2)) (pk_ushrN (by omega) (nI 1) 1 rfl) ?_
  refine lv_ldcw (v := nI 1431655765) hx hb hown (hts _ mw_1_210) dJ6_bitCount_0f7a4_4 ?_
  refine lv_iand hx hb dJ6_bitCount_0f7a4_7 ?_
  refine lv_cv (y := nI ((n / 2) &&& 1431655765)) (nx_and _ _) ?_
  refine n_isub hx hb (Nat.le_trans Nat.and_le_left (Nat.div_le_self _ _)) dJ6_bitCount_0f7a4_8 ?_
  refine lv_cv (y := nI (hd1 n)) (rfl) ?_
  refine lv_istore_n (lv' := [(0, .int (nI (hd1 n)))]) hx hb dJ6_bitCount_0f7a4_9 rfl hl (by decide) rfl (fun ls hl => ?_)
  refine lv_iload_n hx hb dJ6_bitCount_0f7a4_10 rfl (lv_at hl 0 rfl) ?_
  refine lv_ldcw (v := nI 858993459) hx hb hown (hts _ mw_1_211) dJ6_bitCount_0f7a4_11 ?_
  refine lv_iand hx hb dJ6_bitCount_0f7a4_14 ?_
  refine lv_cv (y := nI (hd1 n &&& 858993459)) (nx_and _ _) ?_
  refine lv_iload_n hx hb dJ6_bitCount_0f7a4_15 rfl (lv_at hl 0 rfl) ?_
  refine lv_iconst (v := nI 2) hx hb dJ6_bitCount_0f7a4_16 (by decide) ?_
  refine lv_iushr (v := ((nI (hd1 n)).toUInt32 >>> ((nI 2).toUInt32 &&& Int32.toUInt32 31)).toInt32) hx hb dJ6_bitCount_0f7a4_17 rfl ?_
  refine lv_cv (y := nI (hd1 n / 4)) (pk_ushrN (by unfold hd1; omega) (nI 2) 2 rfl) ?_
  refine lv_ldcw (v := nI 858993459) hx hb hown (hts _ mw_1_211) dJ6_bitCount_0f7a4_18 ?_
  refine lv_iand hx hb dJ6_bitCount_0f7a4_21 ?_
  refine lv_cv (y := nI ((hd1 n / 4) &&& 858993459)) (nx_and _ _) ?_
  refine n_iadd hx hb dJ6_bitCount_0f7a4_22 ?_
  refine lv_cv (y := nI (hd2 n)) (rfl) ?_
  refine lv_istore_n (lv' := [(0, .int (nI (hd2 n)))]) hx hb dJ6_bitCount_0f7a4_23 rfl hl (by decide) rfl (fun ls hl => ?_)
  refine lv_iload_n hx hb dJ6_bitCount_0f7a4_24 rfl (lv_at hl 0 rfl) ?_
  refine lv_iload_n hx hb dJ6_bitCount_0f7a4_25 rfl (lv_at hl 0 rfl) ?_
  refine lv_iconst (v := nI 4) hx hb dJ6_bitCount_0f7a4_26 (by decide) ?_
  refine lv_iushr (v := ((nI (hd2 n)).toUInt32 >>> ((nI 4).toUInt32 &&& Int32.toUInt32 31)).toInt32) hx hb dJ6_bitCount_0f7a4_27 rfl ?_
  refine lv_cv (y := nI (hd2 n / 16)) (pk_ushrN (hd2_lt n) (nI 4) 4 rfl) ?_
  refine n_iadd hx hb dJ6_bitCount_0f7a4_28 ?_
  refine lv_ldcw (v := nI 252645135) hx hb hown (hts _ mw_1_212) dJ6_bitCount_0f7a4_29 ?_
  refine lv_iand hx hb dJ6_bitCount_0f7a4_32 ?_
  refine lv_cv (y := nI (hd3 n)) (nx_and _ _) ?_
  refine lv_istore_n (lv' := [(0, .int (nI (hd3 n)))]) hx hb dJ6_bitCount_0f7a4_33 rfl hl (by decide) rfl (fun ls hl => ?_)
  refine lv_iload_n hx hb dJ6_bitCount_0f7a4_34 rfl (lv_at hl 0 rfl) ?_
  refine lv_iload_n hx hb dJ6_bitCount_0f7a4_35 rfl (lv_at hl 0 rfl) ?_
  refine lv_bipush (v := nI 8) hx hb dJ6_bitCount_0f7a4_36 (by decide) ?_
  refine lv_iushr (v := ((nI (hd3 n)).toUInt32 >>> ((nI 8).toUInt32 &&& Int32.toUInt32 31)).toInt32) hx hb dJ6_bitCount_0f7a4_38 rfl ?_
  refine lv_cv (y := nI (hd3 n / 256)) (pk_ushrN (hd3_lt n) (nI 8) 8 rfl) ?_
  refine n_iadd hx hb dJ6_bitCount_0f7a4_39 ?_
  refine lv_cv (y := nI (hd4 n)) (rfl) ?_
  refine lv_istore_n (lv' := [(0, .int (nI (hd4 n)))]) hx hb dJ6_bitCount_0f7a4_40 rfl hl (by decide) rfl (fun ls hl => ?_)
  refine lv_iload_n hx hb dJ6_bitCount_0f7a4_41 rfl (lv_at hl 0 rfl) ?_
  refine lv_iload_n hx hb dJ6_bitCount_0f7a4_42 rfl (lv_at hl 0 rfl) ?_
  refine lv_bipush (v := nI 16) hx hb dJ6_bitCount_0f7a4_43 (by decide) ?_
  refine lv_iushr (v := ((nI (hd4 n)).toUInt32 >>> ((nI 16).toUInt32 &&& Int32.toUInt32 31)).toInt32) hx hb dJ6_bitCount_0f7a4_45 rfl ?_
  refine lv_cv (y := nI (hd4 n / 65536)) (pk_ushrN (hd4_lt n) (nI 16) 16 rfl) ?_
  refine n_iadd hx hb dJ6_bitCount_0f7a4_46 ?_
  refine lv_cv (y := nI (hd5 n)) (rfl) ?_
  refine lv_istore_n (lv' := [(0, .int (nI (hd5 n)))]) hx hb dJ6_bitCount_0f7a4_47 rfl hl (by decide) rfl (fun ls hl => ?_)
  refine lv_iload_n hx hb dJ6_bitCount_0f7a4_48 rfl (lv_at hl 0 rfl) ?_
  refine lv_bipush (v := nI 63) hx hb dJ6_bitCount_0f7a4_49 (by decide) ?_
  refine lv_iand hx hb dJ6_bitCount_0f7a4_51 ?_
  refine lv_cv (y := nI (hd5 n % 64)) ((nx_and _ _).trans (congrArg nI (h_63 _))) ?_
  exact e_ri hx hb hr hlk (congrArg nI (pcn_32 hn).symm) dJ6_bitCount_0f7a4_52
set_option maxHeartbeats 4000000 in
set_option maxRecDepth 100000 in
theorem c_X3_startInYear (l : Launch) (G : gT) (k : Nat) (hk : k ≤ 12) : Ro l G yX3_startInYear cX3_startInYear 1 (some .int) 0 [] [.int (nI k)] (nI (mst k)) := by
  refine Ro.mk (by decide) (Nat.le_of_ble_eq_true rfl) (fun pq eq sq mq bq tq cq ls hr hlk hF hKx hZ hP hl => ?_)
  have hx := hF.1
  have hb := hF.2.1
  have hml := hF.2.2.1
  have hown : sq.vm.findClass RX3 = some mq.cls := hF.2.2.2.1
  have hts : ∀ w ∈ GW, w.before _ sq = true := hF.2.2.2.2
  have hK := hKx.1
  have hl : lv_has ls 1 [(0, .int (nI k))] := hl
  have hS : va_S (fun _ => False) sq.heap sq.heap [] := va_S.rf
  have hP : va_P G.1 vwCl [] sq.heap := hP
  obtain ⟨ts, hz1, hz2⟩ := hZ
  refine lv_iload_n hx hb dX3_startInYear_0 rfl (lv_at hl 0 rfl) ?_
  refine z0_lt hx hb (tgt := 20) ((k : Nat) : Int) dX3_startInYear_1 (by decide) (toI (by omega)) (fun c_1 => ?_) (fun c_1 => ?_)
  · skip
    exact absurd c_1 (by omega)
  · skip
    refine lv_iload_n hx hb dX3_startInYear_4 rfl (lv_at hl 0 rfl) ?_
    refine va_gets hx hb hz1 hS hown (hts _ mw_1_166) (fun _ h9 => h9) dX3_startInYear_5 ?_
    refine va_tlen (v := nI 13) hx hb hz2 hS rfl dX3_startInYear_8 ?_
    refine z_ge hx hb (tgt := 20) ((k : Nat) : Int) 13 dX3_startInYear_9 (by decide) (toI (by omega)) (by decide) (fun c_9 => ?_) (fun c_9 => ?_)
    · skip
      exact absurd c_9 (by omega)
    · skip
      refine va_gets hx hb hz1 hS hown (hts _ mw_1_166) (fun _ h9 => h9) dX3_startInYear_12 ?_
      refine lv_iload_n hx hb dX3_startInYear_15 rfl (lv_at hl 0 rfl) ?_
      refine va_ti (v := .int (nI (mst k))) hx hb hz2 hS (vp_in_nI (by omega) (by omega)) (by rw [nI_clamp (by omega)]) dX3_startInYear_16 ?_
      refine lv_goto (tgt := 21) hx hb dX3_startInYear_17 (by decide) ?_
      exact e_ri hx hb hr hlk (rfl) dX3_startInYear_21
set_option maxHeartbeats 4000000 in
set_option maxRecDepth 100000 in
theorem c_X3_monthOf (l : Launch) (G : gT) (d : Nat) (hd : d < 3650) : Ro l G yX3_monthOf cX3_monthOf 4 (some .int) 1 [] [.int (nI d)] (nI (mot d)) := by
  refine Ro.mk (by decide) (Nat.le_of_ble_eq_true rfl) (fun pq eq sq mq bq tq cq ls hr hlk hF hKx hZ hP hl => ?_)
  have hx := hF.1
  have hb := hF.2.1
  have hml := hF.2.2.1
  have hown : sq.vm.findClass RX3 = some mq.cls := hF.2.2.2.1
  have hts : ∀ w ∈ GW, w.before _ sq = true := hF.2.2.2.2
  have hK := hKx.1
  have hl : lv_has ls 4 [(0, .int (nI d))] := hl
  have hS : va_S (fun _ => False) sq.heap sq.heap [] := va_S.rf
  have hP : va_P G.1 vwCl [] sq.heap := hP
  have hm := moy_row (d % 365) (Nat.mod_lt _ (by decide))
  refine lv_iload_n hx hb dX3_monthOf_0 rfl (lv_at hl 0 rfl) ?_
  refine lv_sipush (v := nI 365) hx hb dX3_monthOf_1 (by decide) ?_
  refine n_idiv hx hb (by omega) (by omega) (by omega) dX3_monthOf_4 ?_
  refine lv_istore_n (lv' := [(1, .int (nI (d / 365))), (0, .int (nI d))]) hx hb dX3_monthOf_5 rfl hl (by decide) rfl (fun ls hl => ?_)
  refine lv_iload_n hx hb dX3_monthOf_6 rfl (lv_at hl 1 rfl) ?_
  refine lv_sipush (v := nI 365) hx hb dX3_monthOf_7 (by decide) ?_
  refine n_irem hx hb (by omega) (by omega) (by omega) dX3_monthOf_10 ?_
  refine lv_istore_n (lv' := [(2, .int (nI (d % 365))), (1, .int (nI (d / 365))), (0, .int (nI d))]) hx hb dX3_monthOf_11 rfl hl (by decide) rfl (fun ls hl => ?_)
  refine lv_iconst (v := nI 0) hx hb dX3_monthOf_12 (by decide) ?_
  refine lv_istore_n (lv' := [(3, .int (nI 0)), (2, .int (nI (d % 365))), (1, .int (nI (d / 365))), (0, .int (nI d))]) hx hb dX3_monthOf_13 rfl hl (by decide) rfl (fun ls hl => ?_)
  refine wloop (n := 0) [] (fun k ls => (k ≤ moy (d % 365)) ∧ lv_has ls 4 [(3, .int (nI k)), (1, .int (nI (d / 365))), (2, .int (nI (d % 365))), (0, .int (nI d))]) (fun k => moy (d % 365) - k) ?_ 0 ⟨(by omega), lv_sub hl [0, 2, 1, 3] rfl⟩
  intro k ih
  intro ls ⟨hk, hl⟩
  have hks := (mst_row k (by omega)).2.2.2
  refine lv_iload_n hx hb dX3_monthOf_14 rfl (lv_at hl 0 rfl) ?_
  refine lv_bipush (v := nI 11) hx hb dX3_monthOf_15 (by decide) ?_
  refine z_ge hx hb (tgt := 36) ((k : Nat) : Int) 11 dX3_monthOf_17 (by decide) (toI (by omega)) (by decide) (fun c_17 => ?_) (fun c_17 => ?_)
  · skip
    have hk2 : moy (d % 365) = k := by omega
    refine lv_iload_n hx hb dX3_monthOf_36 rfl (lv_at hl 1 rfl) ?_
    refine lv_bipush (v := nI 12) hx hb dX3_monthOf_37 (by decide) ?_
    refine n_imul hx hb dX3_monthOf_39 ?_
    refine lv_iload_n hx hb dX3_monthOf_40 rfl (lv_at hl 0 rfl) ?_
    refine n_iadd hx hb dX3_monthOf_41 ?_
    exact e_ri hx hb hr hlk (by unfold mot; rw [hk2]) dX3_monthOf_42
  · skip
    refine lv_iload_n hx hb dX3_monthOf_20 rfl (lv_at hl 0 rfl) ?_
    refine lv_iconst (v := nI 1) hx hb dX3_monthOf_21 (by decide) ?_
    refine n_iadd hx hb dX3_monthOf_22 ?_
    refine k_roS (As := [.int (nI (k + 1))]) (rest := []) hF (c_X3_startInYear l G (k + 1) (by omega)) mw_1_163 mw_1_164 mw_1_1 mw_1_165 hd_X3_startInYear ⟨Nat.le_of_ble_eq_true rfl, Nat.le_of_ble_eq_true rfl⟩ (Rd.of hKx hZ hS) (hP.sub (ws' := []) [] rfl) rfl hl.1 rfl (Nat.le_of_ble_eq_true rfl) dX3_monthOf_23 ⟨Nat.zero_le _, Nat.zero_le _⟩ ?_
    refine lv_iload_n hx hb dX3_monthOf_26 rfl (lv_at hl 2 rfl) ?_
    refine z_gt hx hb (tgt := 36) ((mst (k + 1) : Nat) : Int) ((d % 365 : Nat) : Int) dX3_monthOf_27 (by decide) (toI (by omega)) (toI (by omega)) (fun c_27 => ?_) (fun c_27 => ?_)
    · skip
      have hk2 : moy (d % 365) = k := moy_ge hk hm (by omega)
      refine lv_iload_n hx hb dX3_monthOf_36 rfl (lv_at hl 1 rfl) ?_
      refine lv_bipush (v := nI 12) hx hb dX3_monthOf_37 (by decide) ?_
      refine n_imul hx hb dX3_monthOf_39 ?_
      refine lv_iload_n hx hb dX3_monthOf_40 rfl (lv_at hl 0 rfl) ?_
      refine n_iadd hx hb dX3_monthOf_41 ?_
      exact e_ri hx hb hr hlk (by unfold mot; rw [hk2]) dX3_monthOf_42
    · skip
      have hk3 : k < moy (d % 365) := moy_lt hk hm.2.2 (by omega)
      refine lv_iinc (v := nI (k + 1)) (lv' := [(3, .int (nI (k + 1))), (1, .int (nI (d / 365))), (2, .int (nI (d % 365))), (0, .int (nI d))]) hx hb dX3_monthOf_30 hl (k := 0) rfl (nI_add _ _) (by decide) rfl (fun ls hl => ?_)
      refine lv_goto (tgt := 14) hx hb dX3_monthOf_33 (by decide) ?_
      exact ih (k + 1) ls (by omega) ⟨(by omega), lv_sub hl [0, 1, 2, 3] rfl⟩
set_option maxHeartbeats 4000000 in
set_option maxRecDepth 100000 in
theorem c_X3_firstDayOf (l : Launch) (G : gT) (m : Nat) (hm : m ≤ 120) : Ro l G yX3_firstDayOf cX3_firstDayOf 1 (some .int) 1 [] [.int (nI m)] (nI (fdy m)) := by
  refine Ro.mk (by decide) (Nat.le_of_ble_eq_true rfl) (fun pq eq sq mq bq tq cq ls hr hlk hF hKx hZ hP hl => ?_)
  have hx := hF.1
  have hb := hF.2.1
  have hml := hF.2.2.1
  have hown : sq.vm.findClass RX3 = some mq.cls := hF.2.2.2.1
  have hts : ∀ w ∈ GW, w.before _ sq = true := hF.2.2.2.2
  have hK := hKx.1
  have hl : lv_has ls 1 [(0, .int (nI m))] := hl
  have hS : va_S (fun _ => False) sq.heap sq.heap [] := va_S.rf
  have hP : va_P G.1 vwCl [] sq.heap := hP
  refine lv_iload_n hx hb dX3_firstDayOf_0 rfl (lv_at hl 0 rfl) ?_
  refine lv_bipush (v := nI 12) hx hb dX3_firstDayOf_1 (by decide) ?_
  refine n_idiv hx hb (by omega) (by omega) (by omega) dX3_firstDayOf_3 ?_
  refine lv_sipush (v := nI 365) hx hb dX3_firstDayOf_4 (by decide) ?_
  refine n_imul hx hb dX3_firstDayOf_7 ?_
  refine lv_iload_n hx hb dX3_firstDayOf_8 rfl (lv_at hl 0 rfl) ?_
  refine lv_bipush (v := nI 12) hx hb dX3_firstDayOf_9 (by decide) ?_
  refine n_irem hx hb (by omega) (by omega) (by omega) dX3_firstDayOf_11 ?_
  refine k_roS (As := [.int (nI (m % 12))]) (rest := [.int (nI ((m / 12) * 365))]) hF (c_X3_startInYear l G (m % 12) (by omega)) mw_1_163 mw_1_164 mw_1_1 mw_1_165 hd_X3_startInYear ⟨Nat.le_of_ble_eq_true rfl, Nat.le_of_ble_eq_true rfl⟩ (Rd.of hKx hZ hS) (hP.sub (ws' := []) [] rfl) rfl hl.1 rfl (Nat.le_of_ble_eq_true rfl) dX3_firstDayOf_12 ⟨Nat.zero_le _, Nat.zero_le _⟩ ?_
  refine n_iadd hx hb dX3_firstDayOf_15 ?_
  exact e_ri hx hb hr hlk (rfl) dX3_firstDayOf_16
set_option maxHeartbeats 4000000 in
set_option maxRecDepth 100000 in
theorem c_X3_daysOf (l : Launch) (G : gT) (m : Nat) (hm : m < 120) : Ro l G yX3_daysOf cX3_daysOf 2 (some .int) 1 [] [.int (nI m)] (nI (dys m)) := by
  refine Ro.mk (by decide) (Nat.le_of_ble_eq_true rfl) (fun pq eq sq mq bq tq cq ls hr hlk hF hKx hZ hP hl => ?_)
  have hx := hF.1
  have hb := hF.2.1
  have hml := hF.2.2.1
  have hown : sq.vm.findClass RX3 = some mq.cls := hF.2.2.2.1
  have hts : ∀ w ∈ GW, w.before _ sq = true := hF.2.2.2.2
  have hK := hKx.1
  have hl : lv_has ls 2 [(0, .int (nI m))] := hl
  have hS : va_S (fun _ => False) sq.heap sq.heap [] := va_S.rf
  have hP : va_P G.1 vwCl [] sq.heap := hP
  have hr0 := mst_row (m % 12) (Nat.mod_lt _ (by decide))
  refine lv_iload_n hx hb dX3_daysOf_0 rfl (lv_at hl 0 rfl) ?_
  refine lv_bipush (v := nI 12) hx hb dX3_daysOf_1 (by decide) ?_
  refine n_irem hx hb (by omega) (by omega) (by omega) dX3_daysOf_3 ?_
  refine lv_istore_n (lv' := [(1, .int (nI (m % 12))), (0, .int (nI m))]) hx hb dX3_daysOf_4 rfl hl (by decide) rfl (fun ls hl => ?_)
  refine lv_iload_n hx hb dX3_daysOf_5 rfl (lv_at hl 0 rfl) ?_
  refine lv_iconst (v := nI 1) hx hb dX3_daysOf_6 (by decide) ?_
  refine n_iadd hx hb dX3_daysOf_7 ?_
  refine k_roS (As := [.int (nI (m % 12 + 1))]) (rest := []) hF (c_X3_startInYear l G (m % 12 + 1) (by omega)) mw_1_163 mw_1_164 mw_1_1 mw_1_165 hd_X3_startInYear ⟨Nat.le_of_ble_eq_true rfl, Nat.le_of_ble_eq_true rfl⟩ (Rd.of hKx hZ hS) (hP.sub (ws' := []) [] rfl) rfl hl.1 rfl (Nat.le_of_ble_eq_true rfl) dX3_daysOf_8 ⟨Nat.zero_le _, Nat.zero_le _⟩ ?_
  refine lv_iload_n hx hb dX3_daysOf_11 rfl (lv_at hl 0 rfl) ?_
  refine k_roS (As := [.int (nI (m % 12))]) (rest := [.int (nI (mst (m % 12 + 1)))]) hF (c_X3_startInYear l G (m % 12) (by omega)) mw_1_163 mw_1_164 mw_1_1 mw_1_165 hd_X3_startInYear ⟨Nat.le_of_ble_eq_true rfl, Nat.le_of_ble_eq_true rfl⟩ (Rd.of hKx hZ hS) (hP.sub (ws' := []) [] rfl) rfl hl.1 rfl (Nat.le_of_ble_eq_true rfl) dX3_daysOf_12 ⟨Nat.zero_le _, Nat.zero_le _⟩ ?_
  refine n_isub hx hb (by omega) dX3_daysOf_15 ?_
  exact e_ri hx hb hr hlk (rfl) dX3_daysOf_16
set_option maxHeartbeats 4000000 in
set_option maxRecDepth 100000 in
theorem c_X3_lowestBits (l : Launch) (G : gT) (k : Nat)  : Ro l G yX3_lowestBits cX3_lowestBits 1 (some .int) 0 [] [.int (nI k)] ((nI 1 <<< (nI k &&& 31)) - nI 1) := by
  refine Ro.mk (by decide) (Nat.le_of_ble_eq_true rfl) (fun pq eq sq mq bq tq cq ls hr hlk hF hKx hZ hP hl => ?_)
  have hx := hF.1
  have hb := hF.2.1
  have hml := hF.2.2.1
  have hown : sq.vm.findClass RX3 = some mq.cls := hF.2.2.2.1
  have hts : ∀ w ∈ GW, w.before _ sq = true := hF.2.2.2.2
  have hK := hKx.1
  have hl : lv_has ls 1 [(0, .int (nI k))] := hl
  have hS : va_S (fun _ => False) sq.heap sq.heap [] := va_S.rf
  have hP : va_P G.1 vwCl [] sq.heap := hP
  refine lv_iconst (v := nI 1) hx hb dX3_lowestBits_0 (by decide) ?_
  refine lv_iload_n hx hb dX3_lowestBits_1 rfl (lv_at hl 0 rfl) ?_
  refine lv_ishl hx hb dX3_lowestBits_2 ?_
  refine lv_iconst (v := nI 1) hx hb dX3_lowestBits_3 (by decide) ?_
  refine lv_isub hx hb dX3_lowestBits_4 ?_
  exact e_ri hx hb hr hlk (rfl) dX3_lowestBits_5
set_option maxHeartbeats 4000000 in
set_option maxRecDepth 100000 in
theorem c_X3_daysMeant (l : Launch) (G : gT) (m : Nat) (f : Nat) (t : Nat) (hm : m < 120) (hf : f < fdy (m + 1)) (ht : fdy m ≤ t) (hft : f ≤ t) (ht2 : t < 3650) : Ro l G yX3_daysMeant cX3_daysMeant 6 (some .int) 2 [] [.int (nI m), .int (nI f), .int (nI t)] (mnt m f t) := by
  refine Ro.mk (by decide) (Nat.le_of_ble_eq_true rfl) (fun pq eq sq mq bq tq cq ls hr hlk hF hKx hZ hP hl => ?_)
  have hx := hF.1
  have hb := hF.2.1
  have hml := hF.2.2.1
  have hown : sq.vm.findClass RX3 = some mq.cls := hF.2.2.2.1
  have hts : ∀ w ∈ GW, w.before _ sq = true := hF.2.2.2.2
  have hK := hKx.1
  have hl : lv_has ls 6 [(0, .int (nI m)), (1, .int (nI f)), (2, .int (nI t))] := hl
  have hS : va_S (fun _ => False) sq.heap sq.heap [] := va_S.rf
  have hP : va_P G.1 vwCl [] sq.heap := hP
  have hd := dys_in m
  have hs := fdy_succ m
  have hfl := fdy_lt' hm
  refine lv_iload_n hx hb dX3_daysMeant_0 rfl (lv_at hl 0 rfl) ?_
  refine k_roS (As := [.int (nI m)]) (rest := []) hF (c_X3_firstDayOf l G m (by omega)) mw_2_80 mw_2_81 mw_1_1 mw_2_82 hd_X3_firstDayOf ⟨Nat.le_of_ble_eq_true rfl, Nat.le_of_ble_eq_true rfl⟩ (Rd.of hKx hZ hS) (hP.sub (ws' := []) [] rfl) rfl hl.1 rfl (Nat.le_of_ble_eq_true rfl) dX3_daysMeant_1 ⟨Nat.zero_le _, Nat.zero_le _⟩ ?_
  refine lv_istore_n (lv' := [(3, .int (nI (fdy m))), (0, .int (nI m)), (1, .int (nI f)), (2, .int (nI t))]) hx hb dX3_daysMeant_4 rfl hl (by decide) rfl (fun ls hl => ?_)
  refine lv_iload_n hx hb dX3_daysMeant_5 rfl (lv_at hl 2 rfl) ?_
  refine lv_iload_n hx hb dX3_daysMeant_6 rfl (lv_at hl 0 rfl) ?_
  refine lv_isub hx hb dX3_daysMeant_7 ?_
  refine lv_iconst (v := nI 0) hx hb dX3_daysMeant_8 (by decide) ?_
  refine va_mmax hx hb (hml.trans hl.1.symm) hown (hts _ mw_2_83) (hts _ mw_1_174) (hts _ mw_1_5) (hts _ mw_1_175) (Nat.le_of_ble_eq_true rfl) (Nat.le_of_ble_eq_true rfl) (Nat.zero_le _) (Nat.zero_le _) dX3_daysMeant_9 ?_
  refine lv_cv (y := nI (f - fdy m)) (max0 (by omega) (by omega)) ?_
  refine lv_istore (lv' := [(4, .int (nI (f - fdy m))), (3, .int (nI (fdy m))), (0, .int (nI m)), (1, .int (nI f)), (2, .int (nI t))]) hx hb dX3_daysMeant_12 hl (by decide) rfl (fun ls hl => ?_)
  refine lv_iload_n hx hb dX3_daysMeant_14 rfl (lv_at hl 4 rfl) ?_
  refine lv_iload_n hx hb dX3_daysMeant_15 rfl (lv_at hl 1 rfl) ?_
  refine n_isub hx hb (by omega) dX3_daysMeant_16 ?_
  refine lv_iload_n hx hb dX3_daysMeant_17 rfl (lv_at hl 2 rfl) ?_
  refine k_roS (As := [.int (nI m)]) (rest := [.int (nI (t - (fdy m)))]) hF (c_X3_daysOf l G m (by omega)) mw_2_84 mw_2_85 mw_1_1 mw_2_86 hd_X3_daysOf ⟨Nat.le_of_ble_eq_true rfl, Nat.le_of_ble_eq_true rfl⟩ (Rd.of hKx hZ hS) (hP.sub (ws' := []) [] rfl) rfl hl.1 rfl (Nat.le_of_ble_eq_true rfl) dX3_daysMeant_18 ⟨Nat.zero_le _, Nat.zero_le _⟩ ?_
  refine lv_iconst (v := nI 1) hx hb dX3_daysMeant_21 (by decide) ?_
  refine n_isub hx hb (by omega) dX3_daysMeant_22 ?_
  refine va_mmin hx hb (hml.trans hl.1.symm) hown (hts _ mw_2_6) (hts _ mw_2_7) (hts _ mw_1_5) (hts _ mw_2_8) (Nat.le_of_ble_eq_true rfl) (Nat.le_of_ble_eq_true rfl) (Nat.zero_le _) (Nat.zero_le _) dX3_daysMeant_23 ?_
  refine lv_cv (y := nI (min (t - fdy m) (dys m - 1))) (min_n (by omega) (by omega)) ?_
  refine lv_istore (lv' := [(5, .int (nI (min (t - fdy m) (dys m - 1)))), (4, .int (nI (f - fdy m))), (3, .int (nI (fdy m))), (0, .int (nI m)), (1, .int (nI f)), (2, .int (nI t))]) hx hb dX3_daysMeant_26 hl (by decide) rfl (fun ls hl => ?_)
  refine lv_iload hx hb dX3_daysMeant_28 (lv_at hl 1 rfl) ?_
  refine lv_iload hx hb dX3_daysMeant_30 (lv_at hl 0 rfl) ?_
  refine z_le hx hb (tgt := 39) ((f - fdy m : Nat) : Int) ((min (t - fdy m) (dys m - 1) : Nat) : Int) dX3_daysMeant_32 (by decide) (toI (by omega)) (toI (by omega)) (fun c_32 => ?_) (fun c_32 => ?_)
  · skip
    refine lv_iload hx hb dX3_daysMeant_39 (lv_at hl 0 rfl) ?_
    refine lv_iload hx hb dX3_daysMeant_41 (lv_at hl 1 rfl) ?_
    refine n_isub hx hb (by omega) dX3_daysMeant_43 ?_
    refine lv_iconst (v := nI 1) hx hb dX3_daysMeant_44 (by decide) ?_
    refine n_iadd hx hb dX3_daysMeant_45 ?_
    refine k_roS (As := [.int (nI ((min (t - fdy m) (dys m - 1)) - (f - fdy m) + 1))]) (rest := []) hF (c_X3_lowestBits l G ((min (t - fdy m) (dys m - 1)) - (f - fdy m) + 1)) mw_2_87 mw_2_88 mw_1_1 mw_2_89 hd_X3_lowestBits ⟨Nat.le_of_ble_eq_true rfl, Nat.le_of_ble_eq_true rfl⟩ (Rd.of hKx hZ hS) (hP.sub (ws' := []) [] rfl) rfl hl.1 rfl (Nat.le_of_ble_eq_true rfl) dX3_daysMeant_46 ⟨Nat.zero_le _, Nat.zero_le _⟩ ?_
    refine lv_iload hx hb dX3_daysMeant_49 (lv_at hl 1 rfl) ?_
    refine lv_ishl hx hb dX3_daysMeant_51 ?_
    exact e_ri hx hb hr hlk (low_mnt hm hf ht hft) dX3_daysMeant_52
  · skip
    exact absurd c_32 (by omega)
set_option maxHeartbeats 4000000 in
set_option maxRecDepth 100000 in
theorem c_X3_allDays (l : Launch) (G : gT) (m : Nat) (hm : m < 120) : Ro l G yX3_allDays cX3_allDays 1 (some .int) 2 [] [.int (nI m)] (mnt m 0 3649) := by
  refine Ro.mk (by decide) (Nat.le_of_ble_eq_true rfl) (fun pq eq sq mq bq tq cq ls hr hlk hF hKx hZ hP hl => ?_)
  have hx := hF.1
  have hb := hF.2.1
  have hml := hF.2.2.1
  have hown : sq.vm.findClass RX3 = some mq.cls := hF.2.2.2.1
  have hts : ∀ w ∈ GW, w.before _ sq = true := hF.2.2.2.2
  have hK := hKx.1
  have hl : lv_has ls 1 [(0, .int (nI m))] := hl
  have hS : va_S (fun _ => False) sq.heap sq.heap [] := va_S.rf
  have hP : va_P G.1 vwCl [] sq.heap := hP
  refine lv_iload_n hx hb dX3_allDays_0 rfl (lv_at hl 0 rfl) ?_
  refine k_roS (As := [.int (nI m)]) (rest := []) hF (c_X3_daysOf l G m (by omega)) mw_2_84 mw_2_85 mw_1_1 mw_2_86 hd_X3_daysOf ⟨Nat.le_of_ble_eq_true rfl, Nat.le_of_ble_eq_true rfl⟩ (Rd.of hKx hZ hS) (hP.sub (ws' := []) [] rfl) rfl hl.1 rfl (Nat.le_of_ble_eq_true rfl) dX3_allDays_1 ⟨Nat.zero_le _, Nat.zero_le _⟩ ?_
  refine k_roS (As := [.int (nI (dys m))]) (rest := []) hF (c_X3_lowestBits l G (dys m)) mw_2_87 mw_2_88 mw_1_1 mw_2_89 hd_X3_lowestBits ⟨Nat.le_of_ble_eq_true rfl, Nat.le_of_ble_eq_true rfl⟩ (Rd.of hKx hZ hS) (hP.sub (ws' := []) [] rfl) rfl hl.1 rfl (Nat.le_of_ble_eq_true rfl) dX3_allDays_4 ⟨Nat.zero_le _, Nat.zero_le _⟩ ?_
  exact e_ri hx hb hr hlk (low_all hm) dX3_allDays_7
set_option maxHeartbeats 4000000 in
set_option maxRecDepth 100000 in
theorem c_X3_isBitSet (l : Launch) (G : gT) (x : Int32) (k : Nat) (hk : k < 32) : Ro l G yX3_isBitSet cX3_isBitSet 2 (some .boolean) 0 [] [.int x, .int (nI k)] (pI (bt x k = true)) := by
  refine Ro.mk (by decide) (Nat.le_of_ble_eq_true rfl) (fun pq eq sq mq bq tq cq ls hr hlk hF hKx hZ hP hl => ?_)
  have hx := hF.1
  have hb := hF.2.1
  have hml := hF.2.2.1
  have hown : sq.vm.findClass RX3 = some mq.cls := hF.2.2.2.1
  have hts : ∀ w ∈ GW, w.before _ sq = true := hF.2.2.2.2
  have hK := hKx.1
  have hl : lv_has ls 2 [(0, .int x), (1, .int (nI k))] := hl
  have hS : va_S (fun _ => False) sq.heap sq.heap [] := va_S.rf
  have hP : va_P G.1 vwCl [] sq.heap := hP
  have hb1 := bn_le x k
  refine lv_iload_n hx hb dX3_isBitSet_0 rfl (lv_at hl 0 rfl) ?_
  refine lv_iload_n hx hb dX3_isBitSet_1 rfl (lv_at hl 1 rfl) ?_
  refine lv_iushr (v := (x.toUInt32 >>> ((nI k).toUInt32 &&& Int32.toUInt32 31)).toInt32) hx hb dX3_isBitSet_2 rfl ?_
  refine lv_iconst (v := nI 1) hx hb dX3_isBitSet_3 (by decide) ?_
  refine lv_iand hx hb dX3_isBitSet_4 ?_
  refine lv_cv (y := nI (bn x k)) (b_srl hk) ?_
  refine lv_iconst (v := nI 1) hx hb dX3_isBitSet_5 (by decide) ?_
  refine z_ne hx hb (tgt := 13) ((bn x k : Nat) : Int) 1 dX3_isBitSet_6 (by decide) (toI (by omega)) (by decide) (fun c_6 => ?_) (fun c_6 => ?_)
  · skip
    refine lv_iconst (v := nI 0) hx hb dX3_isBitSet_13 (by decide) ?_
    exact e_rz hx hb hr hlk (nz_0) (by first | exact pI_t' (bn_1.mp (by omega)) | exact pI_f' (fun z => absurd (bn_1.mpr z) (by omega))) dX3_isBitSet_14
  · skip
    refine lv_iconst (v := nI 1) hx hb dX3_isBitSet_9 (by decide) ?_
    refine lv_goto (tgt := 14) hx hb dX3_isBitSet_10 (by decide) ?_
    exact e_rz hx hb hr hlk (nz_1) (by first | exact pI_t' (bn_1.mp (by omega)) | exact pI_f' (fun z => absurd (bn_1.mpr z) (by omega))) dX3_isBitSet_14
set_option maxHeartbeats 4000000 in
set_option maxRecDepth 100000 in
theorem c_X3_isDay (l : Launch) (G : gT) (x : Int32) (X : Int) (hX : x.toInt = X) : Ro l G yX3_isDay cX3_isDay 1 (some .boolean) 0 [] [.int x] (pI (0 ≤ X ∧ X < 3650)) := by
  refine Ro.mk (by decide) (Nat.le_of_ble_eq_true rfl) (fun pq eq sq mq bq tq cq ls hr hlk hF hKx hZ hP hl => ?_)
  have hx := hF.1
  have hb := hF.2.1
  have hml := hF.2.2.1
  have hown : sq.vm.findClass RX3 = some mq.cls := hF.2.2.2.1
  have hts : ∀ w ∈ GW, w.before _ sq = true := hF.2.2.2.2
  have hK := hKx.1
  have hl : lv_has ls 1 [(0, .int x)] := hl
  have hS : va_S (fun _ => False) sq.heap sq.heap [] := va_S.rf
  have hP : va_P G.1 vwCl [] sq.heap := hP
  refine lv_iload_n hx hb dX3_isDay_0 rfl (lv_at hl 0 rfl) ?_
  refine z0_lt hx hb (tgt := 15) X dX3_isDay_1 (by decide) hX (fun c_1 => ?_) (fun c_1 => ?_)
  · skip
    refine lv_iconst (v := nI 0) hx hb dX3_isDay_15 (by decide) ?_
    exact e_rz hx hb hr hlk (nz_0) (pI_f' (by omega)) dX3_isDay_16
  · skip
    refine lv_iload_n hx hb dX3_isDay_4 rfl (lv_at hl 0 rfl) ?_
    refine lv_sipush (v := nI 3650) hx hb dX3_isDay_5 (by decide) ?_
    refine z_ge hx hb (tgt := 15) X 3650 dX3_isDay_8 (by decide) hX (by decide) (fun c_8 => ?_) (fun c_8 => ?_)
    · skip
      refine lv_iconst (v := nI 0) hx hb dX3_isDay_15 (by decide) ?_
      exact e_rz hx hb hr hlk (nz_0) (pI_f' (by omega)) dX3_isDay_16
    · skip
      refine lv_iconst (v := nI 1) hx hb dX3_isDay_11 (by decide) ?_
      refine lv_goto (tgt := 16) hx hb dX3_isDay_12 (by decide) ?_
      exact e_rz hx hb hr hlk (nz_1) (pI_t' (by omega)) dX3_isDay_16
set_option maxHeartbeats 4000000 in
set_option maxRecDepth 100000 in
theorem c_X3_isMonth (l : Launch) (G : gT) (x : Int32) (X : Int) (hX : x.toInt = X) : Ro l G yX3_isMonth cX3_isMonth 1 (some .boolean) 0 [] [.int x] (pI (0 ≤ X ∧ X < 120)) := by
  refine Ro.mk (by decide) (Nat.le_of_ble_eq_true rfl) (fun pq eq sq mq bq tq cq ls hr hlk hF hKx hZ hP hl => ?_)
  have hx := hF.1
  have hb := hF.2.1
  have hml := hF.2.2.1
  have hown : sq.vm.findClass RX3 = some mq.cls := hF.2.2.2.1
  have hts : ∀ w ∈ GW, w.before _ sq = true := hF.2.2.2.2
  have hK := hKx.1
  have hl : lv_has ls 1 [(0, .int x)] := hl
  have hS : va_S (fun _ => False) sq.heap sq.heap [] := va_S.rf
  have hP : va_P G.1 vwCl [] sq.heap := hP
  refine lv_iload_n hx hb dX3_isMonth_0 rfl (lv_at hl 0 rfl) ?_
  refine z0_lt hx hb (tgt := 14) X dX3_isMonth_1 (by decide) hX (fun c_1 => ?_) (fun c_1 => ?_)
  · skip
    refine lv_iconst (v := nI 0) hx hb dX3_isMonth_14 (by decide) ?_
    exact e_rz hx hb hr hlk (nz_0) (pI_f' (by omega)) dX3_isMonth_15
  · skip
    refine lv_iload_n hx hb dX3_isMonth_4 rfl (lv_at hl 0 rfl) ?_
    refine lv_bipush (v := nI 120) hx hb dX3_isMonth_5 (by decide) ?_
    refine z_ge hx hb (tgt := 14) X 120 dX3_isMonth_7 (by decide) hX (by decide) (fun c_7 => ?_) (fun c_7 => ?_)
    · skip
      refine lv_iconst (v := nI 0) hx hb dX3_isMonth_14 (by decide) ?_
      exact e_rz hx hb hr hlk (nz_0) (pI_f' (by omega)) dX3_isMonth_15
    · skip
      refine lv_iconst (v := nI 1) hx hb dX3_isMonth_10 (by decide) ?_
      refine lv_goto (tgt := 15) hx hb dX3_isMonth_11 (by decide) ?_
      exact e_rz hx hb hr hlk (nz_1) (pI_t' (by omega)) dX3_isMonth_15
set_option maxHeartbeats 4000000 in
set_option maxRecDepth 100000 in
theorem c_X3_isSubject (l : Launch) (G : gT) (x : Int32) (X : Int) (hX : x.toInt = X) : Ro l G yX3_isSubject cX3_isSubject 1 (some .boolean) 0 [] [.int x] (pI (0 ≤ X ∧ X < 16)) := by
  refine Ro.mk (by decide) (Nat.le_of_ble_eq_true rfl) (fun pq eq sq mq bq tq cq ls hr hlk hF hKx hZ hP hl => ?_)
  have hx := hF.1
  have hb := hF.2.1
  have hml := hF.2.2.1
  have hown : sq.vm.findClass RX3 = some mq.cls := hF.2.2.2.1
  have hts : ∀ w ∈ GW, w.before _ sq = true := hF.2.2.2.2
  have hK := hKx.1
  have hl : lv_has ls 1 [(0, .int x)] := hl
  have hS : va_S (fun _ => False) sq.heap sq.heap [] := va_S.rf
  have hP : va_P G.1 vwCl [] sq.heap := hP
  refine lv_iload_n hx hb dX3_isSubject_0 rfl (lv_at hl 0 rfl) ?_
  refine z0_lt hx hb (tgt := 14) X dX3_isSubject_1 (by decide) hX (fun c_1 => ?_) (fun c_1 => ?_)
  · skip
    refine lv_iconst (v := nI 0) hx hb dX3_isSubject_14 (by decide) ?_
    exact e_rz hx hb hr hlk (nz_0) (pI_f' (by omega)) dX3_isSubject_15
  · skip
    refine lv_iload_n hx hb dX3_isSubject_4 rfl (lv_at hl 0 rfl) ?_
    refine lv_bipush (v := nI 16) hx hb dX3_isSubject_5 (by decide) ?_
    refine z_ge hx hb (tgt := 14) X 16 dX3_isSubject_7 (by decide) hX (by decide) (fun c_7 => ?_) (fun c_7 => ?_)
    · skip
      refine lv_iconst (v := nI 0) hx hb dX3_isSubject_14 (by decide) ?_
      exact e_rz hx hb hr hlk (nz_0) (pI_f' (by omega)) dX3_isSubject_15
    · skip
      refine lv_iconst (v := nI 1) hx hb dX3_isSubject_10 (by decide) ?_
      refine lv_goto (tgt := 15) hx hb dX3_isSubject_11 (by decide) ?_
      exact e_rz hx hb hr hlk (nz_1) (pI_t' (by omega)) dX3_isSubject_15
set_option maxHeartbeats 4000000 in
set_option maxRecDepth 100000 in
theorem c_X3_spanError (l : Launch) (G : gT) (x : Int32) (F : Int) (y : Int32) (T : Int) (hF1 : x.toInt = F) (hT1 : y.toInt = T) : Ro l G yX3_spanError cX3_spanError 2 (some .int) 1 [] [.int x, .int y] (eDy True F T) := by
  refine Ro.mk (by decide) (Nat.le_of_ble_eq_true rfl) (fun pq eq sq mq bq tq cq ls hr hlk hF hKx hZ hP hl => ?_)
  have hx := hF.1
  have hb := hF.2.1
  have hml := hF.2.2.1
  have hown : sq.vm.findClass RX3 = some mq.cls := hF.2.2.2.1
  have hts : ∀ w ∈ GW, w.before _ sq = true := hF.2.2.2.2
  have hK := hKx.1
  have hl : lv_has ls 2 [(0, .int x), (1, .int y)] := hl
  have hS : va_S (fun _ => False) sq.heap sq.heap [] := va_S.rf
  have hP : va_P G.1 vwCl [] sq.heap := hP
  refine lv_iload_n hx hb dX3_spanError_0 rfl (lv_at hl 0 rfl) ?_
  refine k_roS (As := [.int x]) (rest := []) hF (c_X3_isDay l G x F hF1) mw_2_70 mw_2_71 mw_1_1 mw_2_72 hd_X3_isDay ⟨Nat.le_of_ble_eq_true rfl, Nat.le_of_ble_eq_true rfl⟩ (Rd.of hKx hZ hS) (hP.sub (ws' := []) [] rfl) rfl hl.1 rfl (Nat.le_of_ble_eq_true rfl) dX3_spanError_1 ⟨Nat.zero_le _, Nat.zero_le _⟩ ?_
  refine p0_eq hx hb (tgt := 14) dX3_spanError_4 (by decide) (fun c_4 => ?_) (fun c_4 => ?_)
  · skip
    refine lv_iconst (v := (-1)) hx hb dX3_spanError_14 (by decide) ?_
    exact e_ri hx hb hr hlk (by unfold eDy; first | exact (cI_t (Or.inr (by omega))).symm | exact ((cI_f (fun z => z.elim (fun q => q trivial) (by omega))).trans (cI_t (by omega))).symm | exact ((cI_f (fun z => z.elim (fun q => q trivial) (by omega))).trans (cI_f (by omega))).symm) dX3_spanError_15
  · skip
    refine lv_iload_n hx hb dX3_spanError_7 rfl (lv_at hl 1 rfl) ?_
    refine k_roS (As := [.int y]) (rest := []) hF (c_X3_isDay l G y T hT1) mw_2_70 mw_2_71 mw_1_1 mw_2_72 hd_X3_isDay ⟨Nat.le_of_ble_eq_true rfl, Nat.le_of_ble_eq_true rfl⟩ (Rd.of hKx hZ hS) (hP.sub (ws' := []) [] rfl) rfl hl.1 rfl (Nat.le_of_ble_eq_true rfl) dX3_spanError_8 ⟨Nat.zero_le _, Nat.zero_le _⟩ ?_
    refine p0_ne hx hb (tgt := 16) dX3_spanError_11 (by decide) (fun c_11 => ?_) (fun c_11 => ?_)
    · skip
      refine lv_iload_n hx hb dX3_spanError_16 rfl (lv_at hl 1 rfl) ?_
      refine lv_iload_n hx hb dX3_spanError_17 rfl (lv_at hl 0 rfl) ?_
      refine z_ge hx hb (tgt := 26) T F dX3_spanError_18 (by decide) hT1 hF1 (fun c_18 => ?_) (fun c_18 => ?_)
      · skip
        refine lv_iconst (v := nI 0) hx hb dX3_spanError_26 (by decide) ?_
        exact e_ri hx hb hr hlk (by unfold eDy; first | exact (cI_t (Or.inr (by omega))).symm | exact ((cI_f (fun z => z.elim (fun q => q trivial) (by omega))).trans (cI_t (by omega))).symm | exact ((cI_f (fun z => z.elim (fun q => q trivial) (by omega))).trans (cI_f (by omega))).symm) dX3_spanError_27
      · skip
        refine lv_bipush (v := (-2)) hx hb dX3_spanError_21 (by decide) ?_
        refine lv_goto (tgt := 27) hx hb dX3_spanError_23 (by decide) ?_
        exact e_ri hx hb hr hlk (by unfold eDy; first | exact (cI_t (Or.inr (by omega))).symm | exact ((cI_f (fun z => z.elim (fun q => q trivial) (by omega))).trans (cI_t (by omega))).symm | exact ((cI_f (fun z => z.elim (fun q => q trivial) (by omega))).trans (cI_f (by omega))).symm) dX3_spanError_27
    · skip
      refine lv_iconst (v := (-1)) hx hb dX3_spanError_14 (by decide) ?_
      exact e_ri hx hb hr hlk (by unfold eDy; first | exact (cI_t (Or.inr (by omega))).symm | exact ((cI_f (fun z => z.elim (fun q => q trivial) (by omega))).trans (cI_t (by omega))).symm | exact ((cI_f (fun z => z.elim (fun q => q trivial) (by omega))).trans (cI_f (by omega))).symm) dX3_spanError_15
set_option maxHeartbeats 4000000 in
set_option maxRecDepth 100000 in
theorem c_X3_subjectSpanError (l : Launch) (G : gT) (w : Int32) (S0 : Int) (x : Int32) (F : Int) (y : Int32) (T : Int) (hw1 : w.toInt = S0) (hF1 : x.toInt = F) (hT1 : y.toInt = T) : Ro l G yX3_subjectSpanError cX3_subjectSpanError 3 (some .int) 2 [] [.int w, .int x, .int y] (eDy (0 ≤ S0 ∧ S0 ≤ 15) F T) := by
  refine Ro.mk (by decide) (Nat.le_of_ble_eq_true rfl) (fun pq eq sq mq bq tq cq ls hr hlk hF hKx hZ hP hl => ?_)
  have hx := hF.1
  have hb := hF.2.1
  have hml := hF.2.2.1
  have hown : sq.vm.findClass RX3 = some mq.cls := hF.2.2.2.1
  have hts : ∀ w ∈ GW, w.before _ sq = true := hF.2.2.2.2
  have hK := hKx.1
  have hl : lv_has ls 3 [(0, .int w), (1, .int x), (2, .int y)] := hl
  have hS : va_S (fun _ => False) sq.heap sq.heap [] := va_S.rf
  have hP : va_P G.1 vwCl [] sq.heap := hP
  refine lv_iload_n hx hb dX3_subjectSpanError_0 rfl (lv_at hl 0 rfl) ?_
  refine k_roS (As := [.int w]) (rest := []) hF (c_X3_isSubject l G w S0 hw1) mw_2_64 mw_2_65 mw_1_1 mw_2_66 hd_X3_isSubject ⟨Nat.le_of_ble_eq_true rfl, Nat.le_of_ble_eq_true rfl⟩ (Rd.of hKx hZ hS) (hP.sub (ws' := []) [] rfl) rfl hl.1 rfl (Nat.le_of_ble_eq_true rfl) dX3_subjectSpanError_1 ⟨Nat.zero_le _, Nat.zero_le _⟩ ?_
  refine p0_eq hx hb (tgt := 15) dX3_subjectSpanError_4 (by decide) (fun c_4 => ?_) (fun c_4 => ?_)
  · skip
    refine lv_iconst (v := (-1)) hx hb dX3_subjectSpanError_15 (by decide) ?_
    exact e_ri hx hb hr hlk (by first | exact (eDy_P (P := True) (Q := 0 ≤ S0 ∧ S0 ≤ 15) trivial (by omega)) | exact (cI_t (Or.inl (by omega))).symm) dX3_subjectSpanError_16
  · skip
    refine lv_iload_n hx hb dX3_subjectSpanError_7 rfl (lv_at hl 1 rfl) ?_
    refine lv_iload_n hx hb dX3_subjectSpanError_8 rfl (lv_at hl 2 rfl) ?_
    refine k_roS (As := [.int x, .int y]) (rest := []) hF (c_X3_spanError l G x F y T hF1 hT1) mw_2_67 mw_2_68 mw_1_1 mw_2_69 hd_X3_spanError ⟨Nat.le_of_ble_eq_true rfl, Nat.le_of_ble_eq_true rfl⟩ (Rd.of hKx hZ hS) (hP.sub (ws' := []) [] rfl) rfl hl.1 rfl (Nat.le_of_ble_eq_true rfl) dX3_subjectSpanError_9 ⟨Nat.zero_le _, Nat.zero_le _⟩ ?_
    refine lv_goto (tgt := 16) hx hb dX3_subjectSpanError_12 (by decide) ?_
    exact e_ri hx hb hr hlk (by first | exact (eDy_P (P := True) (Q := 0 ≤ S0 ∧ S0 ≤ 15) trivial (by omega)) | exact (cI_t (Or.inl (by omega))).symm) dX3_subjectSpanError_16
set_option maxHeartbeats 4000000 in
set_option maxRecDepth 100000 in
theorem c_X0_bitsOf (l : Launch) (G : gT) (o : Nat) (ab : Nat) (af : Nat) (an : Nat) (aw : Nat) (r : Nat → Int32) (s : Nat) (m : Nat) (hs : s < 16) (hm : m < 120) : Ro l G yX0_bitsOf cX0_bitsOf 4 (some .int) 0 [(o, dO r ab af an aw), (ab, .inl (gI G, 1920, .inl (dB r))), (af, .inl (gI G, 120, .inl (dF r))), (an, .inl (gI G, 120, .inl (dN r))), (aw, .inl (gI G, 7, .inl (dW r)))] [.ref o, .int (nI s), .int (nI m)] (r (255 + 16 * m + s)) := by
  refine Ro.mk (by decide) (Nat.le_of_ble_eq_true rfl) (fun pq eq sq mq bq tq cq ls hr hlk hF hKx hZ hP hl => ?_)
  have hx := hF.1
  have hb := hF.2.1
  have hml := hF.2.2.1
  have hown : sq.vm.findClass RX0 = some mq.cls := hF.2.2.2.1
  have hts : ∀ w ∈ GW, w.before _ sq = true := hF.2.2.2.2
  have hK := hKx.1
  have hl : lv_has ls 4 [(0, .ref o), (1, .int (nI s)), (2, .int (nI m))] := hl
  have hS : va_S (fun _ => False) sq.heap sq.heap [] := va_S.rf
  have hP : va_P G.1 vwCl [(o, dO r ab af an aw), (ab, .inl (gI G, 1920, .inl (dB r))), (af, .inl (gI G, 120, .inl (dF r))), (an, .inl (gI G, 120, .inl (dN r))), (aw, .inl (gI G, 7, .inl (dW r)))] sq.heap := hP
  refine lv_iload_n hx hb dX0_bitsOf_0 rfl (lv_at hl 2 rfl) ?_
  refine lv_bipush (v := nI 16) hx hb dX0_bitsOf_1 (by decide) ?_
  refine n_imul hx hb dX0_bitsOf_3 ?_
  refine lv_iload_n hx hb dX0_bitsOf_4 rfl (lv_at hl 1 rfl) ?_
  refine n_iadd hx hb dX0_bitsOf_5 ?_
  refine lv_istore_n (lv' := [(3, .int (nI (m * 16 + s))), (0, .ref o), (1, .int (nI s)), (2, .int (nI m))]) hx hb dX0_bitsOf_6 rfl hl (by decide) rfl (fun ls hl => ?_)
  refine lv_iload_n hx hb dX0_bitsOf_7 rfl (lv_at hl 0 rfl) ?_
  refine z0_lt hx hb (tgt := 29) ((m * 16 + s : Nat) : Int) dX0_bitsOf_8 (by decide) (toI (by omega)) (fun c_8 => ?_) (fun c_8 => ?_)
  · skip
    exact absurd c_8 (by omega)
  · skip
    refine lv_iload_n hx hb dX0_bitsOf_11 rfl (lv_at hl 0 rfl) ?_
    refine lv_aload_n hx hb dX0_bitsOf_12 rfl (lv_at hl 1 rfl) ?_
    refine va_get (ci := 0) (v := .ref ab) (C := RX0) (T := TX0) (N := 11) hx hb hts inGX0 hown hK hP 0 rfl rfl 7 (by decide) (hts _ mw_1_36) (fun _ h9 => h9) rfl dX0_bitsOf_13 ?_
    refine va_alen (v := nI 1920) hx hb hK hP 1 0 rfl rfl rfl dX0_bitsOf_16 ?_
    refine z_ge hx hb (tgt := 29) ((m * 16 + s : Nat) : Int) 1920 dX0_bitsOf_17 (by decide) (toI (by omega)) (by decide) (fun c_17 => ?_) (fun c_17 => ?_)
    · skip
      exact absurd c_17 (by omega)
    · skip
      refine lv_aload_n hx hb dX0_bitsOf_20 rfl (lv_at hl 1 rfl) ?_
      refine va_get (ci := 0) (v := .ref ab) (C := RX0) (T := TX0) (N := 11) hx hb hts inGX0 hown hK hP 0 rfl rfl 7 (by decide) (hts _ mw_1_36) (fun _ h9 => h9) rfl dX0_bitsOf_21 ?_
      refine lv_iload_n hx hb dX0_bitsOf_24 rfl (lv_at hl 0 rfl) ?_
      refine n_iald hx hb hK hP 1 0 rfl rfl (by omega) (by omega) dX0_bitsOf_25 ?_
      refine lv_cv (y := r (255 + 16 * m + s)) ((if_pos (by omega)).trans (congrArg r (by omega))) ?_
      refine lv_goto (tgt := 30) hx hb dX0_bitsOf_26 (by decide) ?_
      exact e_ri hx hb hr hlk (rfl) dX0_bitsOf_30
set_option maxHeartbeats 4000000 in
set_option maxRecDepth 100000 in
theorem c_X0_isMarkedOn (l : Launch) (G : gT) (o : Nat) (ab : Nat) (af : Nat) (an : Nat) (aw : Nat) (r : Nat → Int32) (s : Nat) (d : Nat) (hs : s < 16) (hd : d < 3650) : Ro l G yX0_isMarkedOn cX0_isMarkedOn 4 (some .boolean) 2 [(o, dO r ab af an aw), (ab, .inl (gI G, 1920, .inl (dB r))), (af, .inl (gI G, 120, .inl (dF r))), (an, .inl (gI G, 120, .inl (dN r))), (aw, .inl (gI G, 7, .inl (dW r)))] [.ref o, .int (nI s), .int (nI d)] (pI (bt (r (255 + 16 * mot d + s)) (d - fdy (mot d)) = true)) := by
  refine Ro.mk (by decide) (Nat.le_of_ble_eq_true rfl) (fun pq eq sq mq bq tq cq ls hr hlk hF hKx hZ hP hl => ?_)
  have hx := hF.1
  have hb := hF.2.1
  have hml := hF.2.2.1
  have hown : sq.vm.findClass RX0 = some mq.cls := hF.2.2.2.1
  have hts : ∀ w ∈ GW, w.before _ sq = true := hF.2.2.2.2
  have hK := hKx.1
  have hl : lv_has ls 4 [(0, .ref o), (1, .int (nI s)), (2, .int (nI d))] := hl
  have hS : va_S (fun _ => False) sq.heap sq.heap [] := va_S.rf
  have hP : va_P G.1 vwCl [(o, dO r ab af an aw), (ab, .inl (gI G, 1920, .inl (dB r))), (af, .inl (gI G, 120, .inl (dF r))), (an, .inl (gI G, 120, .inl (dN r))), (aw, .inl (gI G, 7, .inl (dW r)))] sq.heap := hP
  have hm := mot_row hd
  have hs1 := fdy_succ (mot d)
  have hd1 := dys_in (mot d)
  refine lv_iload_n hx hb dX0_isMarkedOn_0 rfl (lv_at hl 2 rfl) ?_
  refine k_roN (As := [.int (nI d)]) (rest := []) hF (c_X3_monthOf l G d (by omega)) hKx.2.2.2.1 mw_1_161 mw_1_1 mw_1_162 hd_X3_monthOf ⟨Nat.le_of_ble_eq_true rfl, Nat.le_of_ble_eq_true rfl⟩ (Rd.of hKx hZ hS) (hP.sub (ws' := []) [] rfl) rfl hl.1 rfl (Nat.le_of_ble_eq_true rfl) dX0_isMarkedOn_1 ⟨Nat.zero_le _, Nat.zero_le _⟩ ?_
  refine lv_istore_n (lv' := [(3, .int (nI (mot d))), (0, .ref o), (1, .int (nI s)), (2, .int (nI d))]) hx hb dX0_isMarkedOn_4 rfl hl (by decide) rfl (fun ls hl => ?_)
  refine lv_aload_n hx hb dX0_isMarkedOn_5 rfl (lv_at hl 1 rfl) ?_
  refine lv_iload_n hx hb dX0_isMarkedOn_6 rfl (lv_at hl 2 rfl) ?_
  refine lv_iload_n hx hb dX0_isMarkedOn_7 rfl (lv_at hl 0 rfl) ?_
  refine k_roV (ci := 0) (q0 := 0) (As := [.int (nI s), .int (nI (mot d))]) (rest := []) hF (c_X0_bitsOf l G o ab af an aw r s (mot d) (by omega) (by omega)) hKx hP ⟨_, rfl, rfl⟩ rfl rfl mw_1_203 mw_1_204 mw_1_205 mw_1_2 mw_1_206 hd_X0_bitsOf ⟨Nat.le_of_ble_eq_true rfl, Nat.le_of_ble_eq_true rfl⟩ (Rd.of hKx hZ hS) (hP.sub (ws' := [(o, dO r ab af an aw), (ab, .inl (gI G, 1920, .inl (dB r))), (af, .inl (gI G, 120, .inl (dF r))), (an, .inl (gI G, 120, .inl (dN r))), (aw, .inl (gI G, 7, .inl (dW r)))]) [0, 1, 2, 3, 4] rfl) rfl hl.1 rfl (Nat.le_of_ble_eq_true rfl) dX0_isMarkedOn_8 ⟨Nat.zero_le _, Nat.zero_le _⟩ ?_
  refine lv_iload_n hx hb dX0_isMarkedOn_11 rfl (lv_at hl 3 rfl) ?_
  refine lv_iload_n hx hb dX0_isMarkedOn_12 rfl (lv_at hl 0 rfl) ?_
  refine k_roN (As := [.int (nI (mot d))]) (rest := [.int (nI d), .int (r (255 + 16 * (mot d) + s))]) hF (c_X3_firstDayOf l G (mot d) (by omega)) hKx.2.2.2.2.2.2.1 mw_2_81 mw_1_1 mw_2_82 hd_X3_firstDayOf ⟨Nat.le_of_ble_eq_true rfl, Nat.le_of_ble_eq_true rfl⟩ (Rd.of hKx hZ hS) (hP.sub (ws' := []) [] rfl) rfl hl.1 rfl (Nat.le_of_ble_eq_true rfl) dX0_isMarkedOn_13 ⟨Nat.zero_le _, Nat.zero_le _⟩ ?_
  refine n_isub hx hb (by omega) dX0_isMarkedOn_16 ?_
  refine k_roN (As := [.int (r (255 + 16 * (mot d) + s)), .int (nI (d - (fdy (mot d))))]) (rest := []) hF (c_X3_isBitSet l G (r (255 + 16 * (mot d) + s)) (d - (fdy (mot d))) (by omega)) hKx.2.2.2.2.2.1 mw_2_134 mw_1_1 mw_2_135 hd_X3_isBitSet ⟨Nat.le_of_ble_eq_true rfl, Nat.le_of_ble_eq_true rfl⟩ (Rd.of hKx hZ hS) (hP.sub (ws' := []) [] rfl) rfl hl.1 rfl (Nat.le_of_ble_eq_true rfl) dX0_isMarkedOn_17 ⟨Nat.zero_le _, Nat.zero_le _⟩ ?_
  exact e_rz hx hb hr hlk (nz_p _) (rfl) dX0_isMarkedOn_20
set_option maxHeartbeats 4000000 in
set_option maxRecDepth 100000 in
theorem c_X0_marksIn (l : Launch) (G : gT) (o : Nat) (ab : Nat) (af : Nat) (an : Nat) (aw : Nat) (r : Nat → Int32) (m : Nat) (hm : m < 120) (hBd : Bd r) : Ro l G yX0_marksIn cX0_marksIn 4 (some .int) 1 [(o, dO r ab af an aw), (ab, .inl (gI G, 1920, .inl (dB r))), (af, .inl (gI G, 120, .inl (dF r))), (an, .inl (gI G, 120, .inl (dN r))), (aw, .inl (gI G, 7, .inl (dW r)))] [.ref o, .int (nI m)] (nI (mIn r m)) := by
  refine Ro.mk (by decide) (Nat.le_of_ble_eq_true rfl) (fun pq eq sq mq bq tq cq ls hr hlk hF hKx hZ hP hl => ?_)
  have hx := hF.1
  have hb := hF.2.1
  have hml := hF.2.2.1
  have hown : sq.vm.findClass RX0 = some mq.cls := hF.2.2.2.1
  have hts : ∀ w ∈ GW, w.before _ sq = true := hF.2.2.2.2
  have hK := hKx.1
  have hl : lv_has ls 4 [(0, .ref o), (1, .int (nI m))] := hl
  have hS : va_S (fun _ => False) sq.heap sq.heap [] := va_S.rf
  have hP : va_P G.1 vwCl [(o, dO r ab af an aw), (ab, .inl (gI G, 1920, .inl (dB r))), (af, .inl (gI G, 120, .inl (dF r))), (an, .inl (gI G, 120, .inl (dN r))), (aw, .inl (gI G, 7, .inl (dW r)))] sq.heap := hP
  refine lv_iconst (v := nI 0) hx hb dX0_marksIn_0 (by decide) ?_
  refine lv_istore_n (lv' := [(2, .int (nI 0)), (0, .ref o), (1, .int (nI m))]) hx hb dX0_marksIn_1 rfl hl (by decide) rfl (fun ls hl => ?_)
  refine lv_iconst (v := nI 0) hx hb dX0_marksIn_2 (by decide) ?_
  refine lv_istore_n (lv' := [(3, .int (nI 0)), (2, .int (nI 0)), (0, .ref o), (1, .int (nI m))]) hx hb dX0_marksIn_3 rfl hl (by decide) rfl (fun ls hl => ?_)
  refine wloop (n := 0) [] (fun k ls => (k ≤ 16) ∧ lv_has ls 4 [(3, .int (nI k)), (2, .int (nI (mIk r m k))), (0, .ref o), (1, .int (nI m))]) (fun k => 16 - k) ?_ 0 ⟨(by omega), lv_sub hl [0, 1, 2, 3] (lvr (lvc (by first | rfl | exact congrArg nI (by omega)) (lvr (lvr rfl))))⟩
  intro k ih
  intro ls ⟨hk, hl⟩
  refine lv_iload_n hx hb dX0_marksIn_4 rfl (lv_at hl 0 rfl) ?_
  refine lv_bipush (v := nI 16) hx hb dX0_marksIn_5 (by decide) ?_
  refine z_ge hx hb (tgt := 28) ((k : Nat) : Int) 16 dX0_marksIn_7 (by decide) (toI (by omega)) (by decide) (fun c_7 => ?_) (fun c_7 => ?_)
  · skip
    have hk2 : k = 16 := by omega
    subst hk2
    refine lv_iload_n hx hb dX0_marksIn_28 rfl (lv_at hl 1 rfl) ?_
    exact e_ri hx hb hr hlk (rfl) dX0_marksIn_29
  · skip
    refine lv_iload_n hx hb dX0_marksIn_10 rfl (lv_at hl 1 rfl) ?_
    refine lv_aload_n hx hb dX0_marksIn_11 rfl (lv_at hl 2 rfl) ?_
    refine lv_iload_n hx hb dX0_marksIn_12 rfl (lv_at hl 0 rfl) ?_
    refine lv_iload_n hx hb dX0_marksIn_13 rfl (lv_at hl 3 rfl) ?_
    refine k_roV (ci := 0) (q0 := 0) (As := [.int (nI k), .int (nI m)]) (rest := [.int (nI (mIk r m k))]) hF (c_X0_bitsOf l G o ab af an aw r k m (by omega) (by omega)) hKx hP ⟨_, rfl, rfl⟩ rfl rfl mw_1_203 mw_1_204 mw_1_205 mw_1_2 mw_1_206 hd_X0_bitsOf ⟨Nat.le_of_ble_eq_true rfl, Nat.le_of_ble_eq_true rfl⟩ (Rd.of hKx hZ hS) (hP.sub (ws' := [(o, dO r ab af an aw), (ab, .inl (gI G, 1920, .inl (dB r))), (af, .inl (gI G, 120, .inl (dF r))), (an, .inl (gI G, 120, .inl (dN r))), (aw, .inl (gI G, 7, .inl (dW r)))]) [0, 1, 2, 3, 4] rfl) rfl hl.1 rfl (Nat.le_of_ble_eq_true rfl) dX0_marksIn_14 ⟨Nat.zero_le _, Nat.zero_le _⟩ ?_
    refine k_roS (As := [.int (r (255 + 16 * m + k))]) (rest := [.int (nI (mIk r m k))]) hF (c_J6_bitCount_0f7a4 l G (r (255 + 16 * m + k))) mw_1_207 mw_1_208 mw_1_6 mw_1_209 hd_J6_bitCount_0f7a4 ⟨Nat.le_of_ble_eq_true rfl, Nat.le_of_ble_eq_true rfl⟩ (Rd.of hKx hZ hS) (hP.sub (ws' := []) [] rfl) rfl hl.1 rfl (Nat.le_of_ble_eq_true rfl) dX0_marksIn_17 ⟨Nat.zero_le _, Nat.zero_le _⟩ ?_
    refine lv_cv (y := nI (ons (r (255 + 16 * m + k)))) (congrArg nI (pcn_31 (by rw [Nat.add_assoc]; exact hBd _ (by omega)))) ?_
    refine n_iadd hx hb dX0_marksIn_20 ?_
    refine lv_istore_n (lv' := [(2, .int (nI (mIk r m k + ons (r (255 + 16 * m + k))))), (3, .int (nI k)), (0, .ref o), (1, .int (nI m))]) hx hb dX0_marksIn_21 rfl hl (by decide) rfl (fun ls hl => ?_)
    refine lv_iinc (v := nI (k + 1)) (lv' := [(3, .int (nI (k + 1))), (2, .int (nI (mIk r m k + ons (r (255 + 16 * m + k))))), (0, .ref o), (1, .int (nI m))]) hx hb dX0_marksIn_22 hl (k := 1) rfl (nI_add _ _) (by decide) rfl (fun ls hl => ?_)
    refine lv_goto (tgt := 4) hx hb dX0_marksIn_25 (by decide) ?_
    exact ih (k + 1) ls (by omega) ⟨(by omega), lv_sub hl [0, 1, 2, 3] (lvr (lvc (by first | rfl | exact congrArg nI (by omega)) (lvr (lvr rfl))))⟩
set_option maxHeartbeats 4000000 in
set_option maxRecDepth 100000 in
theorem c_X0_runsIn (l : Launch) (G : gT) (o : Nat) (ab : Nat) (af : Nat) (an : Nat) (aw : Nat) (r : Nat → Int32) (m : Nat) (hm : m < 120) (hBd : Bd r) : Ro l G yX0_runsIn cX0_runsIn 5 (some .int) 1 [(o, dO r ab af an aw), (ab, .inl (gI G, 1920, .inl (dB r))), (af, .inl (gI G, 120, .inl (dF r))), (an, .inl (gI G, 120, .inl (dN r))), (aw, .inl (gI G, 7, .inl (dW r)))] [.ref o, .int (nI m)] (nI (rns r m)) := by
  refine Ro.mk (by decide) (Nat.le_of_ble_eq_true rfl) (fun pq eq sq mq bq tq cq ls hr hlk hF hKx hZ hP hl => ?_)
  have hx := hF.1
  have hb := hF.2.1
  have hml := hF.2.2.1
  have hown : sq.vm.findClass RX0 = some mq.cls := hF.2.2.2.1
  have hts : ∀ w ∈ GW, w.before _ sq = true := hF.2.2.2.2
  have hK := hKx.1
  have hl : lv_has ls 5 [(0, .ref o), (1, .int (nI m))] := hl
  have hS : va_S (fun _ => False) sq.heap sq.heap [] := va_S.rf
  have hP : va_P G.1 vwCl [(o, dO r ab af an aw), (ab, .inl (gI G, 1920, .inl (dB r))), (af, .inl (gI G, 120, .inl (dF r))), (an, .inl (gI G, 120, .inl (dN r))), (aw, .inl (gI G, 7, .inl (dW r)))] sq.heap := hP
  refine lv_iconst (v := nI 0) hx hb dX0_runsIn_0 (by decide) ?_
  refine lv_istore_n (lv' := [(2, .int (nI 0)), (0, .ref o), (1, .int (nI m))]) hx hb dX0_runsIn_1 rfl hl (by decide) rfl (fun ls hl => ?_)
  refine lv_iconst (v := nI 0) hx hb dX0_runsIn_2 (by decide) ?_
  refine lv_istore_n (lv' := [(3, .int (nI 0)), (2, .int (nI 0)), (0, .ref o), (1, .int (nI m))]) hx hb dX0_runsIn_3 rfl hl (by decide) rfl (fun ls hl => ?_)
  refine wloop (n := 0) [] (fun k ls => (k ≤ 16) ∧ lv_has ls 5 [(3, .int (nI k)), (2, .int (nI (rnk r m k))), (0, .ref o), (1, .int (nI m))]) (fun k => 16 - k) ?_ 0 ⟨(by omega), lv_sub hl [0, 1, 2, 3] (lvr (lvc (by first | rfl | exact congrArg nI (by omega)) (lvr (lvr rfl))))⟩
  intro k ih
  intro ls ⟨hk, hl⟩
  refine lv_iload_n hx hb dX0_runsIn_4 rfl (lv_at hl 0 rfl) ?_
  refine lv_bipush (v := nI 16) hx hb dX0_runsIn_5 (by decide) ?_
  refine z_ge hx hb (tgt := 39) ((k : Nat) : Int) 16 dX0_runsIn_7 (by decide) (toI (by omega)) (by decide) (fun c_7 => ?_) (fun c_7 => ?_)
  · skip
    have hk2 : k = 16 := by omega
    subst hk2
    refine lv_iload_n hx hb dX0_runsIn_39 rfl (lv_at hl 1 rfl) ?_
    exact e_ri hx hb hr hlk (rfl) dX0_runsIn_40
  · skip
    refine lv_aload_n hx hb dX0_runsIn_10 rfl (lv_at hl 2 rfl) ?_
    refine lv_iload_n hx hb dX0_runsIn_11 rfl (lv_at hl 0 rfl) ?_
    refine lv_iload_n hx hb dX0_runsIn_12 rfl (lv_at hl 3 rfl) ?_
    refine k_roV (ci := 0) (q0 := 0) (As := [.int (nI k), .int (nI m)]) (rest := []) hF (c_X0_bitsOf l G o ab af an aw r k m (by omega) (by omega)) hKx hP ⟨_, rfl, rfl⟩ rfl rfl mw_1_203 mw_1_204 mw_1_205 mw_1_2 mw_1_206 hd_X0_bitsOf ⟨Nat.le_of_ble_eq_true rfl, Nat.le_of_ble_eq_true rfl⟩ (Rd.of hKx hZ hS) (hP.sub (ws' := [(o, dO r ab af an aw), (ab, .inl (gI G, 1920, .inl (dB r))), (af, .inl (gI G, 120, .inl (dF r))), (an, .inl (gI G, 120, .inl (dN r))), (aw, .inl (gI G, 7, .inl (dW r)))]) [0, 1, 2, 3, 4] rfl) rfl hl.1 rfl (Nat.le_of_ble_eq_true rfl) dX0_runsIn_13 ⟨Nat.zero_le _, Nat.zero_le _⟩ ?_
    refine lv_istore (lv' := [(4, .int (r (255 + 16 * m + k))), (3, .int (nI k)), (2, .int (nI (rnk r m k))), (0, .ref o), (1, .int (nI m))]) hx hb dX0_runsIn_16 hl (by decide) rfl (fun ls hl => ?_)
    refine lv_iload_n hx hb dX0_runsIn_18 rfl (lv_at hl 2 rfl) ?_
    refine lv_iload hx hb dX0_runsIn_19 (lv_at hl 0 rfl) ?_
    refine lv_iload hx hb dX0_runsIn_21 (lv_at hl 0 rfl) ?_
    refine lv_iconst (v := nI 1) hx hb dX0_runsIn_23 (by decide) ?_
    refine lv_ishl hx hb dX0_runsIn_24 ?_
    refine lv_iconst (v := (-1)) hx hb dX0_runsIn_25 (by decide) ?_
    refine lv_ixor hx hb dX0_runsIn_26 ?_
    refine lv_iand hx hb dX0_runsIn_27 ?_
    refine k_roS (As := [.int ((r (255 + 16 * m + k)) &&& (((r (255 + 16 * m + k)) <<< ((nI 1) &&& 31)) ^^^ (-1)))]) (rest := [.int (nI (rnk r m k))]) hF (c_J6_bitCount_0f7a4 l G ((r (255 + 16 * m + k)) &&& (((r (255 + 16 * m + k)) <<< ((nI 1) &&& 31)) ^^^ (-1)))) mw_1_207 mw_1_208 mw_1_6 mw_1_209 hd_J6_bitCount_0f7a4 ⟨Nat.le_of_ble_eq_true rfl, Nat.le_of_ble_eq_true rfl⟩ (Rd.of hKx hZ hS) (hP.sub (ws' := []) [] rfl) rfl hl.1 rfl (Nat.le_of_ble_eq_true rfl) dX0_runsIn_28 ⟨Nat.zero_le _, Nat.zero_le _⟩ ?_
    refine lv_cv (y := nI (ons (r (255 + 16 * m + k) &&& (((r (255 + 16 * m + k)) <<< (nI 1 &&& 31)) ^^^ (-1))))) (congrArg nI (pcn_31 (by rw [b_and, show bt (r (255 + 16 * m + k)) 31 = false from by rw [Nat.add_assoc]; exact hBd _ (by omega)]; exact Bool.false_and _))) ?_
    refine n_iadd hx hb dX0_runsIn_31 ?_
    refine lv_istore_n (lv' := [(2, .int (nI (rnk r m k + ons (r (255 + 16 * m + k) &&& (((r (255 + 16 * m + k)) <<< (nI 1 &&& 31)) ^^^ (-1)))))), (4, .int (r (255 + 16 * m + k))), (3, .int (nI k)), (0, .ref o), (1, .int (nI m))]) hx hb dX0_runsIn_32 rfl hl (by decide) rfl (fun ls hl => ?_)
    refine lv_iinc (v := nI (k + 1)) (lv' := [(3, .int (nI (k + 1))), (2, .int (nI (rnk r m k + ons (r (255 + 16 * m + k) &&& (((r (255 + 16 * m + k)) <<< (nI 1 &&& 31)) ^^^ (-1)))))), (4, .int (r (255 + 16 * m + k))), (0, .ref o), (1, .int (nI m))]) hx hb dX0_runsIn_33 hl (k := 2) rfl (nI_add _ _) (by decide) rfl (fun ls hl => ?_)
    refine lv_goto (tgt := 4) hx hb dX0_runsIn_36 (by decide) ?_
    exact ih (k + 1) ls (by omega) ⟨(by omega), lv_sub hl [0, 1, 3, 4] (lvr (lvc (by first | rfl | exact congrArg nI (by omega)) (lvr (lvr rfl))))⟩
set_option maxHeartbeats 4000000 in
set_option maxRecDepth 100000 in
theorem c_X0_subjectsIn (l : Launch) (G : gT) (o : Nat) (ab : Nat) (af : Nat) (an : Nat) (aw : Nat) (r : Nat → Int32) (m : Nat) (hm : m < 120) : Ro l G yX0_subjectsIn cX0_subjectsIn 4 (some .int) 1 [(o, dO r ab af an aw), (ab, .inl (gI G, 1920, .inl (dB r))), (af, .inl (gI G, 120, .inl (dF r))), (an, .inl (gI G, 120, .inl (dN r))), (aw, .inl (gI G, 7, .inl (dW r)))] [.ref o, .int (nI m)] (subk r m 16) := by
  refine Ro.mk (by decide) (Nat.le_of_ble_eq_true rfl) (fun pq eq sq mq bq tq cq ls hr hlk hF hKx hZ hP hl => ?_)
  have hx := hF.1
  have hb := hF.2.1
  have hml := hF.2.2.1
  have hown : sq.vm.findClass RX0 = some mq.cls := hF.2.2.2.1
  have hts : ∀ w ∈ GW, w.before _ sq = true := hF.2.2.2.2
  have hK := hKx.1
  have hl : lv_has ls 4 [(0, .ref o), (1, .int (nI m))] := hl
  have hS : va_S (fun _ => False) sq.heap sq.heap [] := va_S.rf
  have hP : va_P G.1 vwCl [(o, dO r ab af an aw), (ab, .inl (gI G, 1920, .inl (dB r))), (af, .inl (gI G, 120, .inl (dF r))), (an, .inl (gI G, 120, .inl (dN r))), (aw, .inl (gI G, 7, .inl (dW r)))] sq.heap := hP
  refine lv_iconst (v := nI 0) hx hb dX0_subjectsIn_0 (by decide) ?_
  refine lv_istore_n (lv' := [(2, .int (nI 0)), (0, .ref o), (1, .int (nI m))]) hx hb dX0_subjectsIn_1 rfl hl (by decide) rfl (fun ls hl => ?_)
  refine lv_iconst (v := nI 0) hx hb dX0_subjectsIn_2 (by decide) ?_
  refine lv_istore_n (lv' := [(3, .int (nI 0)), (2, .int (nI 0)), (0, .ref o), (1, .int (nI m))]) hx hb dX0_subjectsIn_3 rfl hl (by decide) rfl (fun ls hl => ?_)
  refine wloop (n := 0) [] (fun k ls => (k ≤ 16) ∧ lv_has ls 4 [(3, .int (nI k)), (2, .int (subk r m k)), (0, .ref o), (1, .int (nI m))]) (fun k => 16 - k) ?_ 0 ⟨(by omega), lv_sub hl [0, 1, 2, 3] rfl⟩
  intro k ih
  intro ls ⟨hk, hl⟩
  refine lv_iload_n hx hb dX0_subjectsIn_4 rfl (lv_at hl 0 rfl) ?_
  refine lv_bipush (v := nI 16) hx hb dX0_subjectsIn_5 (by decide) ?_
  refine z_ge hx hb (tgt := 31) ((k : Nat) : Int) 16 dX0_subjectsIn_7 (by decide) (toI (by omega)) (by decide) (fun c_7 => ?_) (fun c_7 => ?_)
  · skip
    have hk2 : k = 16 := by omega
    subst hk2
    refine lv_iload_n hx hb dX0_subjectsIn_31 rfl (lv_at hl 1 rfl) ?_
    exact e_ri hx hb hr hlk (rfl) dX0_subjectsIn_32
  · skip
    refine lv_aload_n hx hb dX0_subjectsIn_10 rfl (lv_at hl 2 rfl) ?_
    refine lv_iload_n hx hb dX0_subjectsIn_11 rfl (lv_at hl 0 rfl) ?_
    refine lv_iload_n hx hb dX0_subjectsIn_12 rfl (lv_at hl 3 rfl) ?_
    refine k_roV (ci := 0) (q0 := 0) (As := [.int (nI k), .int (nI m)]) (rest := []) hF (c_X0_bitsOf l G o ab af an aw r k m (by omega) (by omega)) hKx hP ⟨_, rfl, rfl⟩ rfl rfl mw_1_203 mw_1_204 mw_1_205 mw_1_2 mw_1_206 hd_X0_bitsOf ⟨Nat.le_of_ble_eq_true rfl, Nat.le_of_ble_eq_true rfl⟩ (Rd.of hKx hZ hS) (hP.sub (ws' := [(o, dO r ab af an aw), (ab, .inl (gI G, 1920, .inl (dB r))), (af, .inl (gI G, 120, .inl (dF r))), (an, .inl (gI G, 120, .inl (dN r))), (aw, .inl (gI G, 7, .inl (dW r)))]) [0, 1, 2, 3, 4] rfl) rfl hl.1 rfl (Nat.le_of_ble_eq_true rfl) dX0_subjectsIn_13 ⟨Nat.zero_le _, Nat.zero_le _⟩ ?_
    refine z0_eq hx hb (tgt := 25) ((r (255 + 16 * m + k)).toInt) dX0_subjectsIn_16 (by decide) rfl (fun c_16 => ?_) (fun c_16 => ?_)
    · skip
      refine lv_iinc (v := nI (k + 1)) (lv' := [(3, .int (nI (k + 1))), (2, .int (subk r m k)), (0, .ref o), (1, .int (nI m))]) hx hb dX0_subjectsIn_25 hl (k := 0) rfl (nI_add _ _) (by decide) rfl (fun ls hl => ?_)
      refine lv_goto (tgt := 4) hx hb dX0_subjectsIn_28 (by decide) ?_
      exact ih (k + 1) ls (by omega) ⟨(by omega), lv_sub hl [0, 1, 2, 3] (lvr (lvc (by first | exact subk_t c_16 | exact (subk_g c_16)) (lvr (lvr rfl))))⟩
    · skip
      refine lv_iload_n hx hb dX0_subjectsIn_19 rfl (lv_at hl 1 rfl) ?_
      refine lv_iconst (v := nI 1) hx hb dX0_subjectsIn_20 (by decide) ?_
      refine lv_iload_n hx hb dX0_subjectsIn_21 rfl (lv_at hl 0 rfl) ?_
      refine lv_ishl hx hb dX0_subjectsIn_22 ?_
      refine lv_ior hx hb dX0_subjectsIn_23 ?_
      refine lv_istore_n (lv' := [(2, .int ((subk r m k) ||| ((nI 1) <<< ((nI k) &&& 31)))), (3, .int (nI k)), (0, .ref o), (1, .int (nI m))]) hx hb dX0_subjectsIn_24 rfl hl (by decide) rfl (fun ls hl => ?_)
      refine lv_iinc (v := nI (k + 1)) (lv' := [(3, .int (nI (k + 1))), (2, .int ((subk r m k) ||| ((nI 1) <<< ((nI k) &&& 31)))), (0, .ref o), (1, .int (nI m))]) hx hb dX0_subjectsIn_25 hl (k := 1) rfl (nI_add _ _) (by decide) rfl (fun ls hl => ?_)
      refine lv_goto (tgt := 4) hx hb dX0_subjectsIn_28 (by decide) ?_
      exact ih (k + 1) ls (by omega) ⟨(by omega), lv_sub hl [0, 1, 2, 3] (lvr (lvc (by first | exact subk_t c_16 | exact (subk_g c_16)) (lvr (lvr rfl))))⟩
set_option maxHeartbeats 4000000 in
set_option maxRecDepth 100000 in
theorem c_X0_subjectsOn (l : Launch) (G : gT) (o : Nat) (ab : Nat) (af : Nat) (an : Nat) (aw : Nat) (r : Nat → Int32) (m : Nat) (q : Nat) (hm : m < 120) (hq : q < 32) : Ro l G yX0_subjectsOn cX0_subjectsOn 5 (some .int) 1 [(o, dO r ab af an aw), (ab, .inl (gI G, 1920, .inl (dB r))), (af, .inl (gI G, 120, .inl (dF r))), (an, .inl (gI G, 120, .inl (dN r))), (aw, .inl (gI G, 7, .inl (dW r)))] [.ref o, .int (nI m), .int (nI q)] (nI (sbo r m q 16)) := by
  refine Ro.mk (by decide) (Nat.le_of_ble_eq_true rfl) (fun pq eq sq mq bq tq cq ls hr hlk hF hKx hZ hP hl => ?_)
  have hx := hF.1
  have hb := hF.2.1
  have hml := hF.2.2.1
  have hown : sq.vm.findClass RX0 = some mq.cls := hF.2.2.2.1
  have hts : ∀ w ∈ GW, w.before _ sq = true := hF.2.2.2.2
  have hK := hKx.1
  have hl : lv_has ls 5 [(0, .ref o), (1, .int (nI m)), (2, .int (nI q))] := hl
  have hS : va_S (fun _ => False) sq.heap sq.heap [] := va_S.rf
  have hP : va_P G.1 vwCl [(o, dO r ab af an aw), (ab, .inl (gI G, 1920, .inl (dB r))), (af, .inl (gI G, 120, .inl (dF r))), (an, .inl (gI G, 120, .inl (dN r))), (aw, .inl (gI G, 7, .inl (dW r)))] sq.heap := hP
  refine lv_iconst (v := nI 0) hx hb dX0_subjectsOn_0 (by decide) ?_
  refine lv_istore_n (lv' := [(3, .int (nI 0)), (0, .ref o), (1, .int (nI m)), (2, .int (nI q))]) hx hb dX0_subjectsOn_1 rfl hl (by decide) rfl (fun ls hl => ?_)
  refine lv_iconst (v := nI 0) hx hb dX0_subjectsOn_2 (by decide) ?_
  refine lv_istore (lv' := [(4, .int (nI 0)), (3, .int (nI 0)), (0, .ref o), (1, .int (nI m)), (2, .int (nI q))]) hx hb dX0_subjectsOn_3 hl (by decide) rfl (fun ls hl => ?_)
  refine wloop (n := 0) [] (fun k ls => (k ≤ 16) ∧ lv_has ls 5 [(4, .int (nI k)), (3, .int (nI (sbo r m q k))), (0, .ref o), (1, .int (nI m)), (2, .int (nI q))]) (fun k => 16 - k) ?_ 0 ⟨(by omega), lv_sub hl [0, 1, 2, 3, 4] (lvr (lvc (by first | rfl | exact congrArg nI (by omega)) (lvr (lvr (lvr rfl)))))⟩
  intro k ih
  intro ls ⟨hk, hl⟩
  refine lv_iload hx hb dX0_subjectsOn_5 (lv_at hl 0 rfl) ?_
  refine lv_bipush (v := nI 16) hx hb dX0_subjectsOn_7 (by decide) ?_
  refine z_ge hx hb (tgt := 35) ((k : Nat) : Int) 16 dX0_subjectsOn_9 (by decide) (toI (by omega)) (by decide) (fun c_9 => ?_) (fun c_9 => ?_)
  · skip
    have hk2 : k = 16 := by omega
    subst hk2
    refine lv_iload_n hx hb dX0_subjectsOn_35 rfl (lv_at hl 1 rfl) ?_
    exact e_ri hx hb hr hlk (rfl) dX0_subjectsOn_36
  · skip
    refine lv_aload_n hx hb dX0_subjectsOn_12 rfl (lv_at hl 2 rfl) ?_
    refine lv_iload hx hb dX0_subjectsOn_13 (lv_at hl 0 rfl) ?_
    refine lv_iload_n hx hb dX0_subjectsOn_15 rfl (lv_at hl 3 rfl) ?_
    refine k_roV (ci := 0) (q0 := 0) (As := [.int (nI k), .int (nI m)]) (rest := []) hF (c_X0_bitsOf l G o ab af an aw r k m (by omega) (by omega)) hKx hP ⟨_, rfl, rfl⟩ rfl rfl mw_1_203 mw_1_204 mw_1_205 mw_1_2 mw_1_206 hd_X0_bitsOf ⟨Nat.le_of_ble_eq_true rfl, Nat.le_of_ble_eq_true rfl⟩ (Rd.of hKx hZ hS) (hP.sub (ws' := [(o, dO r ab af an aw), (ab, .inl (gI G, 1920, .inl (dB r))), (af, .inl (gI G, 120, .inl (dF r))), (an, .inl (gI G, 120, .inl (dN r))), (aw, .inl (gI G, 7, .inl (dW r)))]) [0, 1, 2, 3, 4] rfl) rfl hl.1 rfl (Nat.le_of_ble_eq_true rfl) dX0_subjectsOn_16 ⟨Nat.zero_le _, Nat.zero_le _⟩ ?_
    refine lv_iload_n hx hb dX0_subjectsOn_19 rfl (lv_at hl 4 rfl) ?_
    refine k_roN (As := [.int (r (255 + 16 * m + k)), .int (nI q)]) (rest := []) hF (c_X3_isBitSet l G (r (255 + 16 * m + k)) q (by omega)) hKx.2.2.2.2.2.1 mw_2_134 mw_1_1 mw_2_135 hd_X3_isBitSet ⟨Nat.le_of_ble_eq_true rfl, Nat.le_of_ble_eq_true rfl⟩ (Rd.of hKx hZ hS) (hP.sub (ws' := []) [] rfl) rfl hl.1 rfl (Nat.le_of_ble_eq_true rfl) dX0_subjectsOn_20 ⟨Nat.zero_le _, Nat.zero_le _⟩ ?_
    refine p0_eq hx hb (tgt := 29) dX0_subjectsOn_23 (by decide) (fun c_23 => ?_) (fun c_23 => ?_)
    · skip
      refine lv_iinc (v := nI (k + 1)) (lv' := [(4, .int (nI (k + 1))), (3, .int (nI (sbo r m q k))), (0, .ref o), (1, .int (nI m)), (2, .int (nI q))]) hx hb dX0_subjectsOn_29 hl (k := 0) rfl (nI_add _ _) (by decide) rfl (fun ls hl => ?_)
      refine lv_goto (tgt := 5) hx hb dX0_subjectsOn_32 (by decide) ?_
      exact ih (k + 1) ls (by omega) ⟨(by omega), lv_sub hl [0, 1, 2, 3, 4] (lvr (lvc (congrArg nI (by show _ = _ + bn _ _; first | rw [bn_1.mpr c_23] | rw [bn_0 c_23]; rfl)) (lvr (lvr (lvr rfl)))))⟩
    · skip
      refine lv_iinc (v := nI (sbo r m q k + 1)) (lv' := [(3, .int (nI (sbo r m q k + 1))), (4, .int (nI k)), (0, .ref o), (1, .int (nI m)), (2, .int (nI q))]) hx hb dX0_subjectsOn_26 hl (k := 1) rfl (nI_add _ _) (by decide) rfl (fun ls hl => ?_)
      refine lv_iinc (v := nI (k + 1)) (lv' := [(4, .int (nI (k + 1))), (3, .int (nI (sbo r m q k + 1))), (0, .ref o), (1, .int (nI m)), (2, .int (nI q))]) hx hb dX0_subjectsOn_29 hl (k := 1) rfl (nI_add _ _) (by decide) rfl (fun ls hl => ?_)
      refine lv_goto (tgt := 5) hx hb dX0_subjectsOn_32 (by decide) ?_
      exact ih (k + 1) ls (by omega) ⟨(by omega), lv_sub hl [0, 1, 2, 3, 4] (lvr (lvc (congrArg nI (by show _ = _ + bn _ _; first | rw [bn_1.mpr c_23] | rw [bn_0 c_23]; rfl)) (lvr (lvr (lvr rfl)))))⟩
set_option maxHeartbeats 4000000 in
set_option maxRecDepth 100000 in
theorem c_X0_crowdedDays (l : Launch) (G : gT) (o : Nat) (ab : Nat) (af : Nat) (an : Nat) (aw : Nat) (r : Nat → Int32) (L0 : Nat) (m : Nat) (x : Int32) (hm : m < 120) (hL : L0 ≤ 16) : Ro l G yX0_crowdedDays cX0_crowdedDays 6 (some .int) 2 [(o, dO r ab af an aw), (ab, .inl (gI G, 1920, .inl (dB r))), (af, .inl (gI G, 120, .inl (dF r))), (an, .inl (gI G, 120, .inl (dN r))), (aw, .inl (gI G, 7, .inl (dW r)))] [.ref o, .int (nI L0), .int (nI m), .int x] (nI (cdx r ((L0 : Nat) : Int) x m 31)) := by
  refine Ro.mk (by decide) (Nat.le_of_ble_eq_true rfl) (fun pq eq sq mq bq tq cq ls hr hlk hF hKx hZ hP hl => ?_)
  have hx := hF.1
  have hb := hF.2.1
  have hml := hF.2.2.1
  have hown : sq.vm.findClass RX0 = some mq.cls := hF.2.2.2.1
  have hts : ∀ w ∈ GW, w.before _ sq = true := hF.2.2.2.2
  have hK := hKx.1
  have hl : lv_has ls 6 [(0, .ref o), (1, .int (nI L0)), (2, .int (nI m)), (3, .int x)] := hl
  have hS : va_S (fun _ => False) sq.heap sq.heap [] := va_S.rf
  have hP : va_P G.1 vwCl [(o, dO r ab af an aw), (ab, .inl (gI G, 1920, .inl (dB r))), (af, .inl (gI G, 120, .inl (dF r))), (an, .inl (gI G, 120, .inl (dN r))), (aw, .inl (gI G, 7, .inl (dW r)))] sq.heap := hP
  refine lv_iconst (v := nI 0) hx hb dX0_crowdedDays_0 (by decide) ?_
  refine lv_istore (lv' := [(4, .int (nI 0)), (0, .ref o), (1, .int (nI L0)), (2, .int (nI m)), (3, .int x)]) hx hb dX0_crowdedDays_1 hl (by decide) rfl (fun ls hl => ?_)
  refine lv_iconst (v := nI 0) hx hb dX0_crowdedDays_3 (by decide) ?_
  refine lv_istore (lv' := [(5, .int (nI 0)), (4, .int (nI 0)), (0, .ref o), (1, .int (nI L0)), (2, .int (nI m)), (3, .int x)]) hx hb dX0_crowdedDays_4 hl (by decide) rfl (fun ls hl => ?_)
  refine wloop (n := 0) [] (fun k ls => (k ≤ 31) ∧ lv_has ls 6 [(5, .int (nI k)), (4, .int (nI (cdx r ((L0 : Nat) : Int) x m k))), (0, .ref o), (1, .int (nI L0)), (2, .int (nI m)), (3, .int x)]) (fun k => 31 - k) ?_ 0 ⟨(by omega), lv_sub hl [0, 1, 2, 3, 4, 5] (lvr (lvc (by first | rfl | exact congrArg nI (by omega)) (lvr (lvr (lvr (lvr rfl))))))⟩
  intro k ih
  intro ls ⟨hk, hl⟩
  have hsb := sbo_le r m k 16
  refine lv_iload hx hb dX0_crowdedDays_6 (lv_at hl 0 rfl) ?_
  refine lv_bipush (v := nI 31) hx hb dX0_crowdedDays_8 (by decide) ?_
  refine z_ge hx hb (tgt := 42) ((k : Nat) : Int) 31 dX0_crowdedDays_10 (by decide) (toI (by omega)) (by decide) (fun c_10 => ?_) (fun c_10 => ?_)
  · skip
    have hk2 : k = 31 := by omega
    subst hk2
    refine lv_iload hx hb dX0_crowdedDays_42 (lv_at hl 1 rfl) ?_
    exact e_ri hx hb hr hlk (rfl) dX0_crowdedDays_44
  · skip
    refine lv_iload_n hx hb dX0_crowdedDays_13 rfl (lv_at hl 5 rfl) ?_
    refine lv_iload hx hb dX0_crowdedDays_14 (lv_at hl 0 rfl) ?_
    refine k_roN (As := [.int x, .int (nI k)]) (rest := []) hF (c_X3_isBitSet l G x k (by omega)) hKx.2.2.2.2.2.1 mw_2_134 mw_1_1 mw_2_135 hd_X3_isBitSet ⟨Nat.le_of_ble_eq_true rfl, Nat.le_of_ble_eq_true rfl⟩ (Rd.of hKx hZ hS) (hP.sub (ws' := []) [] rfl) rfl hl.1 rfl (Nat.le_of_ble_eq_true rfl) dX0_crowdedDays_16 ⟨Nat.zero_le _, Nat.zero_le _⟩ ?_
    refine p0_eq hx hb (tgt := 36) dX0_crowdedDays_19 (by decide) (fun c_19 => ?_) (fun c_19 => ?_)
    · skip
      refine lv_iinc (v := nI (k + 1)) (lv' := [(5, .int (nI (k + 1))), (4, .int (nI (cdx r ((L0 : Nat) : Int) x m k))), (0, .ref o), (1, .int (nI L0)), (2, .int (nI m)), (3, .int x)]) hx hb dX0_crowdedDays_36 hl (k := 0) rfl (nI_add _ _) (by decide) rfl (fun ls hl => ?_)
      refine lv_goto (tgt := 6) hx hb dX0_crowdedDays_39 (by decide) ?_
      exact ih (k + 1) ls (by omega) ⟨(by omega), lv_sub hl [0, 1, 2, 3, 4, 5] (lvr (lvc (congrArg nI (by first | exact cdx_t ⟨c_19, by omega⟩ | exact cdx_f (fun z => c_19 z.1) | exact cdx_f (fun z => absurd z.2 (by omega)))) (lvr (lvr (lvr (lvr rfl))))))⟩
    · skip
      refine lv_aload_n hx hb dX0_crowdedDays_22 rfl (lv_at hl 2 rfl) ?_
      refine lv_iload_n hx hb dX0_crowdedDays_23 rfl (lv_at hl 4 rfl) ?_
      refine lv_iload hx hb dX0_crowdedDays_24 (lv_at hl 0 rfl) ?_
      refine k_roV (ci := 0) (q0 := 0) (As := [.int (nI m), .int (nI k)]) (rest := []) hF (c_X0_subjectsOn l G o ab af an aw r m k (by omega) (by omega)) hKx hP ⟨_, rfl, rfl⟩ rfl rfl mw_2_154 mw_2_155 mw_2_156 mw_1_2 mw_2_157 hd_X0_subjectsOn ⟨Nat.le_of_ble_eq_true rfl, Nat.le_of_ble_eq_true rfl⟩ (Rd.of hKx hZ hS) (hP.sub (ws' := [(o, dO r ab af an aw), (ab, .inl (gI G, 1920, .inl (dB r))), (af, .inl (gI G, 120, .inl (dF r))), (an, .inl (gI G, 120, .inl (dN r))), (aw, .inl (gI G, 7, .inl (dW r)))]) [0, 1, 2, 3, 4] rfl) rfl hl.1 rfl (Nat.le_of_ble_eq_true rfl) dX0_crowdedDays_26 ⟨Nat.zero_le _, Nat.zero_le _⟩ ?_
      refine lv_iload_n hx hb dX0_crowdedDays_29 rfl (lv_at hl 3 rfl) ?_
      refine z_lt hx hb (tgt := 36) ((sbo r m k 16 : Nat) : Int) ((L0 : Nat) : Int) dX0_crowdedDays_30 (by decide) (toI (by omega)) (toI (by omega)) (fun c_30 => ?_) (fun c_30 => ?_)
      · skip
        refine lv_iinc (v := nI (k + 1)) (lv' := [(5, .int (nI (k + 1))), (4, .int (nI (cdx r ((L0 : Nat) : Int) x m k))), (0, .ref o), (1, .int (nI L0)), (2, .int (nI m)), (3, .int x)]) hx hb dX0_crowdedDays_36 hl (k := 0) rfl (nI_add _ _) (by decide) rfl (fun ls hl => ?_)
        refine lv_goto (tgt := 6) hx hb dX0_crowdedDays_39 (by decide) ?_
        exact ih (k + 1) ls (by omega) ⟨(by omega), lv_sub hl [0, 1, 2, 3, 4, 5] (lvr (lvc (congrArg nI (by first | exact cdx_t ⟨c_19, by omega⟩ | exact cdx_f (fun z => c_19 z.1) | exact cdx_f (fun z => absurd z.2 (by omega)))) (lvr (lvr (lvr (lvr rfl))))))⟩
      · skip
        refine lv_iinc (v := nI (cdx r ((L0 : Nat) : Int) x m k + 1)) (lv' := [(4, .int (nI (cdx r ((L0 : Nat) : Int) x m k + 1))), (5, .int (nI k)), (0, .ref o), (1, .int (nI L0)), (2, .int (nI m)), (3, .int x)]) hx hb dX0_crowdedDays_33 hl (k := 1) rfl (nI_add _ _) (by decide) rfl (fun ls hl => ?_)
        refine lv_iinc (v := nI (k + 1)) (lv' := [(5, .int (nI (k + 1))), (4, .int (nI (cdx r ((L0 : Nat) : Int) x m k + 1))), (0, .ref o), (1, .int (nI L0)), (2, .int (nI m)), (3, .int x)]) hx hb dX0_crowdedDays_36 hl (k := 1) rfl (nI_add _ _) (by decide) rfl (fun ls hl => ?_)
        refine lv_goto (tgt := 6) hx hb dX0_crowdedDays_39 (by decide) ?_
        exact ih (k + 1) ls (by omega) ⟨(by omega), lv_sub hl [0, 1, 2, 3, 4, 5] (lvr (lvc (congrArg nI (by first | exact cdx_t ⟨c_19, by omega⟩ | exact cdx_f (fun z => c_19 z.1) | exact cdx_f (fun z => absurd z.2 (by omega)))) (lvr (lvr (lvr (lvr rfl))))))⟩
set_option maxHeartbeats 4000000 in
set_option maxRecDepth 100000 in
theorem c_X0_allMarks (l : Launch) (G : gT) (o : Nat) (ab : Nat) (af : Nat) (an : Nat) (aw : Nat) (r : Nat → Int32) (hBd : Bd r) : Ro l G yX0_allMarks cX0_allMarks 3 (some .int) 2 [(o, dO r ab af an aw), (ab, .inl (gI G, 1920, .inl (dB r))), (af, .inl (gI G, 120, .inl (dF r))), (an, .inl (gI G, 120, .inl (dN r))), (aw, .inl (gI G, 7, .inl (dW r)))] [.ref o] (nI (amk r 120)) := by
  refine Ro.mk (by decide) (Nat.le_of_ble_eq_true rfl) (fun pq eq sq mq bq tq cq ls hr hlk hF hKx hZ hP hl => ?_)
  have hx := hF.1
  have hb := hF.2.1
  have hml := hF.2.2.1
  have hown : sq.vm.findClass RX0 = some mq.cls := hF.2.2.2.1
  have hts : ∀ w ∈ GW, w.before _ sq = true := hF.2.2.2.2
  have hK := hKx.1
  have hl : lv_has ls 3 [(0, .ref o)] := hl
  have hS : va_S (fun _ => False) sq.heap sq.heap [] := va_S.rf
  have hP : va_P G.1 vwCl [(o, dO r ab af an aw), (ab, .inl (gI G, 1920, .inl (dB r))), (af, .inl (gI G, 120, .inl (dF r))), (an, .inl (gI G, 120, .inl (dN r))), (aw, .inl (gI G, 7, .inl (dW r)))] sq.heap := hP
  refine lv_iconst (v := nI 0) hx hb dX0_allMarks_0 (by decide) ?_
  refine lv_istore_n (lv' := [(1, .int (nI 0)), (0, .ref o)]) hx hb dX0_allMarks_1 rfl hl (by decide) rfl (fun ls hl => ?_)
  refine lv_iconst (v := nI 0) hx hb dX0_allMarks_2 (by decide) ?_
  refine lv_istore_n (lv' := [(2, .int (nI 0)), (1, .int (nI 0)), (0, .ref o)]) hx hb dX0_allMarks_3 rfl hl (by decide) rfl (fun ls hl => ?_)
  refine wloop (n := 0) [] (fun k ls => (k ≤ 120) ∧ lv_has ls 3 [(2, .int (nI k)), (1, .int (nI (amk r k))), (0, .ref o)]) (fun k => 120 - k) ?_ 0 ⟨(by omega), lv_sub hl [0, 1, 2] (lvr (lvc (by first | rfl | exact congrArg nI (by omega)) (lvr rfl)))⟩
  intro k ih
  intro ls ⟨hk, hl⟩
  refine lv_iload_n hx hb dX0_allMarks_4 rfl (lv_at hl 0 rfl) ?_
  refine lv_bipush (v := nI 120) hx hb dX0_allMarks_5 (by decide) ?_
  refine z_ge hx hb (tgt := 24) ((k : Nat) : Int) 120 dX0_allMarks_7 (by decide) (toI (by omega)) (by decide) (fun c_7 => ?_) (fun c_7 => ?_)
  · skip
    have hk2 : k = 120 := by omega
    subst hk2
    refine lv_iload_n hx hb dX0_allMarks_24 rfl (lv_at hl 1 rfl) ?_
    exact e_ri hx hb hr hlk (rfl) dX0_allMarks_25
  · skip
    refine lv_iload_n hx hb dX0_allMarks_10 rfl (lv_at hl 1 rfl) ?_
    refine lv_aload_n hx hb dX0_allMarks_11 rfl (lv_at hl 2 rfl) ?_
    refine lv_iload_n hx hb dX0_allMarks_12 rfl (lv_at hl 0 rfl) ?_
    refine k_roV (ci := 0) (q0 := 0) (As := [.int (nI k)]) (rest := [.int (nI (amk r k))]) hF (c_X0_marksIn l G o ab af an aw r k (by omega) (hBd)) hKx hP ⟨_, rfl, rfl⟩ rfl rfl mw_1_199 mw_1_200 mw_1_201 mw_1_2 mw_1_202 hd_X0_marksIn ⟨Nat.le_of_ble_eq_true rfl, Nat.le_of_ble_eq_true rfl⟩ (Rd.of hKx hZ hS) (hP.sub (ws' := [(o, dO r ab af an aw), (ab, .inl (gI G, 1920, .inl (dB r))), (af, .inl (gI G, 120, .inl (dF r))), (an, .inl (gI G, 120, .inl (dN r))), (aw, .inl (gI G, 7, .inl (dW r)))]) [0, 1, 2, 3, 4] rfl) rfl hl.1 rfl (Nat.le_of_ble_eq_true rfl) dX0_allMarks_13 ⟨Nat.zero_le _, Nat.zero_le _⟩ ?_
    refine n_iadd hx hb dX0_allMarks_16 ?_
    refine lv_istore_n (lv' := [(1, .int (nI (amk r k + mIn r k))), (2, .int (nI k)), (0, .ref o)]) hx hb dX0_allMarks_17 rfl hl (by decide) rfl (fun ls hl => ?_)
    refine lv_iinc (v := nI (k + 1)) (lv' := [(2, .int (nI (k + 1))), (1, .int (nI (amk r k + mIn r k))), (0, .ref o)]) hx hb dX0_allMarks_18 hl (k := 1) rfl (nI_add _ _) (by decide) rfl (fun ls hl => ?_)
    refine lv_goto (tgt := 4) hx hb dX0_allMarks_21 (by decide) ?_
    exact ih (k + 1) ls (by omega) ⟨(by omega), lv_sub hl [0, 1, 2] (lvr (lvc (by first | rfl | exact congrArg nI (by omega)) (lvr rfl)))⟩
set_option maxHeartbeats 4000000 in
set_option maxRecDepth 100000 in
theorem c_X0_oldMonths (l : Launch) (G : gT) (o : Nat) (ab : Nat) (af : Nat) (an : Nat) (aw : Nat) (r : Nat → Int32) (hB : Bs r 8) : Ro l G yX0_oldMonths cX0_oldMonths 1 (some .int) 2 [(o, dO r ab af an aw), (ab, .inl (gI G, 1920, .inl (dB r))), (af, .inl (gI G, 120, .inl (dF r))), (an, .inl (gI G, 120, .inl (dN r))), (aw, .inl (gI G, 7, .inl (dW r)))] [.ref o] (nI (mot (td r) + 1 - kpn r)) := by
  refine Ro.mk (by decide) (Nat.le_of_ble_eq_true rfl) (fun pq eq sq mq bq tq cq ls hr hlk hF hKx hZ hP hl => ?_)
  have hx := hF.1
  have hb := hF.2.1
  have hml := hF.2.2.1
  have hown : sq.vm.findClass RX0 = some mq.cls := hF.2.2.2.1
  have hts : ∀ w ∈ GW, w.before _ sq = true := hF.2.2.2.2
  have hK := hKx.1
  have hl : lv_has ls 1 [(0, .ref o)] := hl
  have hS : va_S (fun _ => False) sq.heap sq.heap [] := va_S.rf
  have hP : va_P G.1 vwCl [(o, dO r ab af an aw), (ab, .inl (gI G, 1920, .inl (dB r))), (af, .inl (gI G, 120, .inl (dF r))), (an, .inl (gI G, 120, .inl (dN r))), (aw, .inl (gI G, 7, .inl (dW r)))] sq.heap := hP
  obtain ⟨h0, ht, h1, hkp, -⟩ := id hB
  have hm0 := mot_row ht
  refine lv_iconst (v := nI 0) hx hb dX0_oldMonths_0 (by decide) ?_
  refine lv_aload_n hx hb dX0_oldMonths_1 rfl (lv_at hl 0 rfl) ?_
  refine va_get (ci := 0) (v := .int (r 0)) (C := RX0) (T := TX0) (N := 11) hx hb hts inGX0 hown hK hP 0 rfl rfl 0 (by decide) (hts _ mw_1_23) (fun _ h9 => h9) rfl dX0_oldMonths_2 ?_
  refine lv_cv (y := nI (td r)) (h0) ?_
  refine k_roN (As := [.int (nI (td r))]) (rest := [.int (nI 0)]) hF (c_X3_monthOf l G (td r) (by omega)) hKx.2.2.2.1 mw_1_161 mw_1_1 mw_1_162 hd_X3_monthOf ⟨Nat.le_of_ble_eq_true rfl, Nat.le_of_ble_eq_true rfl⟩ (Rd.of hKx hZ hS) (hP.sub (ws' := []) [] rfl) rfl hl.1 rfl (Nat.le_of_ble_eq_true rfl) dX0_oldMonths_5 ⟨Nat.zero_le _, Nat.zero_le _⟩ ?_
  refine lv_aload_n hx hb dX0_oldMonths_8 rfl (lv_at hl 0 rfl) ?_
  refine va_get (ci := 0) (v := .int (r 1)) (C := RX0) (T := TX0) (N := 11) hx hb hts inGX0 hown hK hP 0 rfl rfl 1 (by decide) (hts _ mw_1_24) (fun _ h9 => h9) rfl dX0_oldMonths_9 ?_
  refine lv_cv (y := nI (kpn r)) (h1) ?_
  refine lv_isub hx hb dX0_oldMonths_12 ?_
  refine lv_iconst (v := nI 1) hx hb dX0_oldMonths_13 (by decide) ?_
  refine lv_iadd hx hb dX0_oldMonths_14 ?_
  refine va_mmax hx hb (hml.trans hl.1.symm) hown (hts _ mw_1_173) (hts _ mw_1_174) (hts _ mw_1_5) (hts _ mw_1_175) (Nat.le_of_ble_eq_true rfl) (Nat.le_of_ble_eq_true rfl) (Nat.zero_le _) (Nat.zero_le _) dX0_oldMonths_15 ?_
  refine lv_cv (y := nI (mot (td r) + 1 - kpn r)) (max0' (by omega) (by omega)) ?_
  exact e_ri hx hb hr hlk (rfl) dX0_oldMonths_18
set_option maxHeartbeats 4000000 in
set_option maxRecDepth 100000 in
theorem c_X0_isOld (l : Launch) (G : gT) (o : Nat) (ab : Nat) (af : Nat) (an : Nat) (aw : Nat) (r : Nat → Int32) (m : Nat) (hm : m < 120) (hB : Bs r 8) : Ro l G yX0_isOld cX0_isOld 2 (some .boolean) 3 [(o, dO r ab af an aw), (ab, .inl (gI G, 1920, .inl (dB r))), (af, .inl (gI G, 120, .inl (dF r))), (an, .inl (gI G, 120, .inl (dN r))), (aw, .inl (gI G, 7, .inl (dW r)))] [.ref o, .int (nI m)] (pI (m + kpn r ≤ mot (td r))) := by
  refine Ro.mk (by decide) (Nat.le_of_ble_eq_true rfl) (fun pq eq sq mq bq tq cq ls hr hlk hF hKx hZ hP hl => ?_)
  have hx := hF.1
  have hb := hF.2.1
  have hml := hF.2.2.1
  have hown : sq.vm.findClass RX0 = some mq.cls := hF.2.2.2.1
  have hts : ∀ w ∈ GW, w.before _ sq = true := hF.2.2.2.2
  have hK := hKx.1
  have hl : lv_has ls 2 [(0, .ref o), (1, .int (nI m))] := hl
  have hS : va_S (fun _ => False) sq.heap sq.heap [] := va_S.rf
  have hP : va_P G.1 vwCl [(o, dO r ab af an aw), (ab, .inl (gI G, 1920, .inl (dB r))), (af, .inl (gI G, 120, .inl (dF r))), (an, .inl (gI G, 120, .inl (dN r))), (aw, .inl (gI G, 7, .inl (dW r)))] sq.heap := hP
  obtain ⟨h0, ht, h1, hkp, -⟩ := id hB
  have hm0 := mot_row ht
  refine lv_iload_n hx hb dX0_isOld_0 rfl (lv_at hl 1 rfl) ?_
  refine lv_aload_n hx hb dX0_isOld_1 rfl (lv_at hl 0 rfl) ?_
  refine k_roV (ci := 0) (q0 := 0) (As := []) (rest := [.int (nI m)]) hF (c_X0_oldMonths l G o ab af an aw r (hB)) hKx hP ⟨_, rfl, rfl⟩ rfl rfl mw_2_48 mw_1_169 mw_1_170 mw_1_2 mw_1_171 hd_X0_oldMonths ⟨Nat.le_of_ble_eq_true rfl, Nat.le_of_ble_eq_true rfl⟩ (Rd.of hKx hZ hS) (hP.sub (ws' := [(o, dO r ab af an aw), (ab, .inl (gI G, 1920, .inl (dB r))), (af, .inl (gI G, 120, .inl (dF r))), (an, .inl (gI G, 120, .inl (dN r))), (aw, .inl (gI G, 7, .inl (dW r)))]) [0, 1, 2, 3, 4] rfl) rfl hl.1 rfl (Nat.le_of_ble_eq_true rfl) dX0_isOld_2 ⟨Nat.zero_le _, Nat.zero_le _⟩ ?_
  refine z_ge hx hb (tgt := 12) ((m : Nat) : Int) ((mot (td r) + 1 - kpn r : Nat) : Int) dX0_isOld_5 (by decide) (toI (by omega)) (toI (by omega)) (fun c_5 => ?_) (fun c_5 => ?_)
  · skip
    refine lv_iconst (v := nI 0) hx hb dX0_isOld_12 (by decide) ?_
    exact e_rz hx hb hr hlk (nz_0) (pI_f' (by omega)) dX0_isOld_13
  · skip
    refine lv_iconst (v := nI 1) hx hb dX0_isOld_8 (by decide) ?_
    refine lv_goto (tgt := 13) hx hb dX0_isOld_9 (by decide) ?_
    exact e_rz hx hb hr hlk (nz_1) (pI_t' (by omega)) dX0_isOld_13
set_option maxHeartbeats 4000000 in
set_option maxRecDepth 100000 in
theorem c_X0_formOf (l : Launch) (G : gT) (o : Nat) (ab : Nat) (af : Nat) (an : Nat) (aw : Nat) (r : Nat → Int32) (m : Nat) (hm : m < 120) : Ro l G yX0_formOf cX0_formOf 2 (some .int) 1 [(o, dO r ab af an aw), (ab, .inl (gI G, 1920, .inl (dB r))), (af, .inl (gI G, 120, .inl (dF r))), (an, .inl (gI G, 120, .inl (dN r))), (aw, .inl (gI G, 7, .inl (dW r)))] [.ref o, .int (nI m)] (cfm (r (15 + m))) := by
  refine Ro.mk (by decide) (Nat.le_of_ble_eq_true rfl) (fun pq eq sq mq bq tq cq ls hr hlk hF hKx hZ hP hl => ?_)
  have hx := hF.1
  have hb := hF.2.1
  have hml := hF.2.2.1
  have hown : sq.vm.findClass RX0 = some mq.cls := hF.2.2.2.1
  have hts : ∀ w ∈ GW, w.before _ sq = true := hF.2.2.2.2
  have hK := hKx.1
  have hl : lv_has ls 2 [(0, .ref o), (1, .int (nI m))] := hl
  have hS : va_S (fun _ => False) sq.heap sq.heap [] := va_S.rf
  have hP : va_P G.1 vwCl [(o, dO r ab af an aw), (ab, .inl (gI G, 1920, .inl (dB r))), (af, .inl (gI G, 120, .inl (dF r))), (an, .inl (gI G, 120, .inl (dN r))), (aw, .inl (gI G, 7, .inl (dW r)))] sq.heap := hP
  refine lv_iload_n hx hb dX0_formOf_0 rfl (lv_at hl 1 rfl) ?_
  refine k_roN (As := [.int (nI m)]) (rest := []) hF (c_X3_isMonth l G (nI m) ((m : Nat) : Int) (toI (by omega))) hKx.2.2.1 mw_1_189 mw_1_1 mw_1_190 hd_X3_isMonth ⟨Nat.le_of_ble_eq_true rfl, Nat.le_of_ble_eq_true rfl⟩ (Rd.of hKx hZ hS) (hP.sub (ws' := []) [] rfl) rfl hl.1 rfl (Nat.le_of_ble_eq_true rfl) dX0_formOf_1 ⟨Nat.zero_le _, Nat.zero_le _⟩ ?_
  refine p0_eq hx hb (tgt := 16) dX0_formOf_4 (by decide) (fun c_4 => ?_) (fun c_4 => ?_)
  · skip
    exact absurd c_4 (by omega)
  · skip
    refine lv_aload_n hx hb dX0_formOf_7 rfl (lv_at hl 0 rfl) ?_
    refine va_get (ci := 0) (v := .ref af) (C := RX0) (T := TX0) (N := 11) hx hb hts inGX0 hown hK hP 0 rfl rfl 8 (by decide) (hts _ mw_1_38) (fun _ h9 => h9) rfl dX0_formOf_8 ?_
    refine lv_iload_n hx hb dX0_formOf_11 rfl (lv_at hl 1 rfl) ?_
    refine n_iald hx hb hK hP 2 0 rfl rfl (by omega) (by omega) dX0_formOf_12 ?_
    refine lv_cv (y := cfm (r (15 + m))) (if_pos hm) ?_
    refine lv_goto (tgt := 17) hx hb dX0_formOf_13 (by decide) ?_
    exact e_ri hx hb hr hlk (rfl) dX0_formOf_17
set_option maxHeartbeats 4000000 in
set_option maxRecDepth 100000 in
theorem c_X0_namedBy (l : Launch) (G : gT) (o : Nat) (ab : Nat) (af : Nat) (an : Nat) (aw : Nat) (r : Nat → Int32) (m : Nat) (hm : m < 120) : Ro l G yX0_namedBy cX0_namedBy 2 (some .int) 1 [(o, dO r ab af an aw), (ab, .inl (gI G, 1920, .inl (dB r))), (af, .inl (gI G, 120, .inl (dF r))), (an, .inl (gI G, 120, .inl (dN r))), (aw, .inl (gI G, 7, .inl (dW r)))] [.ref o, .int (nI m)] (cnm (r (15 + m)) (r (135 + m))) := by
  refine Ro.mk (by decide) (Nat.le_of_ble_eq_true rfl) (fun pq eq sq mq bq tq cq ls hr hlk hF hKx hZ hP hl => ?_)
  have hx := hF.1
  have hb := hF.2.1
  have hml := hF.2.2.1
  have hown : sq.vm.findClass RX0 = some mq.cls := hF.2.2.2.1
  have hts : ∀ w ∈ GW, w.before _ sq = true := hF.2.2.2.2
  have hK := hKx.1
  have hl : lv_has ls 2 [(0, .ref o), (1, .int (nI m))] := hl
  have hS : va_S (fun _ => False) sq.heap sq.heap [] := va_S.rf
  have hP : va_P G.1 vwCl [(o, dO r ab af an aw), (ab, .inl (gI G, 1920, .inl (dB r))), (af, .inl (gI G, 120, .inl (dF r))), (an, .inl (gI G, 120, .inl (dN r))), (aw, .inl (gI G, 7, .inl (dW r)))] sq.heap := hP
  refine lv_iload_n hx hb dX0_namedBy_0 rfl (lv_at hl 1 rfl) ?_
  refine k_roN (As := [.int (nI m)]) (rest := []) hF (c_X3_isMonth l G (nI m) ((m : Nat) : Int) (toI (by omega))) hKx.2.2.1 mw_1_189 mw_1_1 mw_1_190 hd_X3_isMonth ⟨Nat.le_of_ble_eq_true rfl, Nat.le_of_ble_eq_true rfl⟩ (Rd.of hKx hZ hS) (hP.sub (ws' := []) [] rfl) rfl hl.1 rfl (Nat.le_of_ble_eq_true rfl) dX0_namedBy_1 ⟨Nat.zero_le _, Nat.zero_le _⟩ ?_
  refine p0_eq hx hb (tgt := 16) dX0_namedBy_4 (by decide) (fun c_4 => ?_) (fun c_4 => ?_)
  · skip
    exact absurd c_4 (by omega)
  · skip
    refine lv_aload_n hx hb dX0_namedBy_7 rfl (lv_at hl 0 rfl) ?_
    refine va_get (ci := 0) (v := .ref an) (C := RX0) (T := TX0) (N := 11) hx hb hts inGX0 hown hK hP 0 rfl rfl 9 (by decide) (hts _ mw_1_40) (fun _ h9 => h9) rfl dX0_namedBy_8 ?_
    refine lv_iload_n hx hb dX0_namedBy_11 rfl (lv_at hl 1 rfl) ?_
    refine n_iald hx hb hK hP 3 0 rfl rfl (by omega) (by omega) dX0_namedBy_12 ?_
    refine lv_cv (y := cnm (r (15 + m)) (r (135 + m))) (if_pos hm) ?_
    refine lv_goto (tgt := 18) hx hb dX0_namedBy_13 (by decide) ?_
    exact e_ri hx hb hr hlk (rfl) dX0_namedBy_18
set_option maxHeartbeats 4000000 in
set_option maxRecDepth 100000 in
theorem c_X0_sizeIn (l : Launch) (G : gT) (o : Nat) (ab : Nat) (af : Nat) (an : Nat) (aw : Nat) (r : Nat → Int32) (m : Nat) (fo : Int32) (F : Int) (tv : Int32) (T : Int) (hm : m < 120) (hBd : Bd r) (hF0 : fo.toInt = F) (hT0 : tv.toInt = T) : Ro l G yX0_sizeIn cX0_sizeIn 4 (some .int) 2 [(o, dO r ab af an aw), (ab, .inl (gI G, 1920, .inl (dB r))), (af, .inl (gI G, 120, .inl (dF r))), (an, .inl (gI G, 120, .inl (dN r))), (aw, .inl (gI G, 7, .inl (dW r)))] [.ref o, .int (nI m), .int fo, .int tv] (szc r m F T) := by
  refine Ro.mk (by decide) (Nat.le_of_ble_eq_true rfl) (fun pq eq sq mq bq tq cq ls hr hlk hF hKx hZ hP hl => ?_)
  have hx := hF.1
  have hb := hF.2.1
  have hml := hF.2.2.1
  have hown : sq.vm.findClass RX0 = some mq.cls := hF.2.2.2.1
  have hts : ∀ w ∈ GW, w.before _ sq = true := hF.2.2.2.2
  have hK := hKx.1
  have hl : lv_has ls 4 [(0, .ref o), (1, .int (nI m)), (2, .int fo), (3, .int tv)] := hl
  have hS : va_S (fun _ => False) sq.heap sq.heap [] := va_S.rf
  have hP : va_P G.1 vwCl [(o, dO r ab af an aw), (ab, .inl (gI G, 1920, .inl (dB r))), (af, .inl (gI G, 120, .inl (dF r))), (an, .inl (gI G, 120, .inl (dN r))), (aw, .inl (gI G, 7, .inl (dW r)))] sq.heap := hP
  have hmi : mIn r m ≤ 496 := mIk_le r m 16
  have hri : rns r m ≤ 496 := rnk_le r m 16
  refine lv_iload_n hx hb dX0_sizeIn_0 rfl (lv_at hl 2 rfl) ?_
  have sw_1 : fo.toInt = F := hF0
  rcases (show (F < 0 ∨ 3 < F) ∨ F = 0 ∨ F = 1 ∨ F = 2 ∨ F = 3 by omega) with c_1 | c_1 | c_1 | c_1 | c_1
  · skip
    refine lv_tableOut (tgt := 82) hx hb dX0_sizeIn_1 (by rw [sw_1]; exact c_1) (by decide) ?_
    refine lv_bipush (v := nI 16) hx hb dX0_sizeIn_82 (by decide) ?_
    exact e_ri hx hb hr hlk (by unfold szc; rw [if_neg (by omega), if_neg (by omega), if_neg (by omega), if_neg (by omega)]) dX0_sizeIn_84
  · skip
    refine lv_tableIn (tgt := 32) hx hb dX0_sizeIn_1 (by rw [sw_1, c_1]; decide) (by rw [sw_1, c_1]; decide) (by rw [sw_1, c_1]; rfl) (by decide) ?_
    refine lv_aload_n hx hb dX0_sizeIn_32 rfl (lv_at hl 0 rfl) ?_
    refine lv_iload_n hx hb dX0_sizeIn_33 rfl (lv_at hl 1 rfl) ?_
    refine k_roV (ci := 0) (q0 := 0) (As := [.int (nI m)]) (rest := []) hF (c_X0_marksIn l G o ab af an aw r m (by omega) (hBd)) hKx hP ⟨_, rfl, rfl⟩ rfl rfl mw_1_199 mw_1_200 mw_1_201 mw_1_2 mw_1_202 hd_X0_marksIn ⟨Nat.le_of_ble_eq_true rfl, Nat.le_of_ble_eq_true rfl⟩ (Rd.of hKx hZ hS) (hP.sub (ws' := [(o, dO r ab af an aw), (ab, .inl (gI G, 1920, .inl (dB r))), (af, .inl (gI G, 120, .inl (dF r))), (an, .inl (gI G, 120, .inl (dN r))), (aw, .inl (gI G, 7, .inl (dW r)))]) [0, 1, 2, 3, 4] rfl) rfl hl.1 rfl (Nat.le_of_ble_eq_true rfl) dX0_sizeIn_34 ⟨Nat.zero_le _, Nat.zero_le _⟩ ?_
    refine z0_ne hx hb (tgt := 44) ((mIn r m : Nat) : Int) dX0_sizeIn_37 (by decide) (toI (by omega)) (fun c_37 => ?_) (fun c_37 => ?_)
    · skip
      refine lv_bipush (v := (-6)) hx hb dX0_sizeIn_44 (by decide) ?_
      exact e_ri hx hb hr hlk (by unfold szc; rw [if_pos c_1]; first | rw [if_pos (by omega)] | rw [if_neg (by omega)]) dX0_sizeIn_46
    · skip
      refine lv_iconst (v := nI 0) hx hb dX0_sizeIn_40 (by decide) ?_
      refine lv_goto (tgt := 46) hx hb dX0_sizeIn_41 (by decide) ?_
      exact e_ri hx hb hr hlk (by unfold szc; rw [if_pos c_1]; first | rw [if_pos (by omega)] | rw [if_neg (by omega)]) dX0_sizeIn_46
  · skip
    refine lv_tableIn (tgt := 47) hx hb dX0_sizeIn_1 (by rw [sw_1, c_1]; decide) (by rw [sw_1, c_1]; decide) (by rw [sw_1, c_1]; rfl) (by decide) ?_
    refine lv_iload_n hx hb dX0_sizeIn_47 rfl (lv_at hl 3 rfl) ?_
    refine lv_bipush (v := (-6)) hx hb dX0_sizeIn_48 (by decide) ?_
    refine z_ne hx hb (tgt := 58) T (-6) dX0_sizeIn_50 (by decide) hT0 (by decide) (fun c_50 => ?_) (fun c_50 => ?_)
    · skip
      refine lv_iconst (v := nI 1) hx hb dX0_sizeIn_58 (by decide) ?_
      exact e_ri hx hb hr hlk (by unfold szc; rw [if_neg (by omega), if_pos c_1]; first | rw [if_pos c_50] | rw [if_neg c_50]) dX0_sizeIn_59
    · skip
      refine lv_bipush (v := (-6)) hx hb dX0_sizeIn_53 (by decide) ?_
      refine lv_goto (tgt := 59) hx hb dX0_sizeIn_55 (by decide) ?_
      exact e_ri hx hb hr hlk (by unfold szc; rw [if_neg (by omega), if_pos c_1]; first | rw [if_pos c_50] | rw [if_neg c_50]) dX0_sizeIn_59
  · skip
    refine lv_tableIn (tgt := 60) hx hb dX0_sizeIn_1 (by rw [sw_1, c_1]; decide) (by rw [sw_1, c_1]; decide) (by rw [sw_1, c_1]; rfl) (by decide) ?_
    refine lv_iconst (v := nI 1) hx hb dX0_sizeIn_60 (by decide) ?_
    refine lv_aload_n hx hb dX0_sizeIn_61 rfl (lv_at hl 0 rfl) ?_
    refine lv_iload_n hx hb dX0_sizeIn_62 rfl (lv_at hl 1 rfl) ?_
    refine k_roV (ci := 0) (q0 := 0) (As := [.int (nI m)]) (rest := [.int (nI 1)]) hF (c_X0_runsIn l G o ab af an aw r m (by omega) (hBd)) hKx hP ⟨_, rfl, rfl⟩ rfl rfl mw_1_213 mw_1_214 mw_1_215 mw_1_2 mw_1_216 hd_X0_runsIn ⟨Nat.le_of_ble_eq_true rfl, Nat.le_of_ble_eq_true rfl⟩ (Rd.of hKx hZ hS) (hP.sub (ws' := [(o, dO r ab af an aw), (ab, .inl (gI G, 1920, .inl (dB r))), (af, .inl (gI G, 120, .inl (dF r))), (an, .inl (gI G, 120, .inl (dN r))), (aw, .inl (gI G, 7, .inl (dW r)))]) [0, 1, 2, 3, 4] rfl) rfl hl.1 rfl (Nat.le_of_ble_eq_true rfl) dX0_sizeIn_63 ⟨Nat.zero_le _, Nat.zero_le _⟩ ?_
    refine n_iadd hx hb dX0_sizeIn_66 ?_
    exact e_ri hx hb hr hlk (by unfold szc; rw [if_neg (by omega), if_neg (by omega), if_pos c_1]) dX0_sizeIn_67
  · skip
    refine lv_tableIn (tgt := 68) hx hb dX0_sizeIn_1 (by rw [sw_1, c_1]; decide) (by rw [sw_1, c_1]; decide) (by rw [sw_1, c_1]; rfl) (by decide) ?_
    refine lv_iconst (v := nI 1) hx hb dX0_sizeIn_68 (by decide) ?_
    refine lv_aload_n hx hb dX0_sizeIn_69 rfl (lv_at hl 0 rfl) ?_
    refine lv_iload_n hx hb dX0_sizeIn_70 rfl (lv_at hl 1 rfl) ?_
    refine k_roV (ci := 0) (q0 := 0) (As := [.int (nI m)]) (rest := [.int (nI 1)]) hF (c_X0_marksIn l G o ab af an aw r m (by omega) (hBd)) hKx hP ⟨_, rfl, rfl⟩ rfl rfl mw_1_199 mw_1_200 mw_1_201 mw_1_2 mw_1_202 hd_X0_marksIn ⟨Nat.le_of_ble_eq_true rfl, Nat.le_of_ble_eq_true rfl⟩ (Rd.of hKx hZ hS) (hP.sub (ws' := [(o, dO r ab af an aw), (ab, .inl (gI G, 1920, .inl (dB r))), (af, .inl (gI G, 120, .inl (dF r))), (an, .inl (gI G, 120, .inl (dN r))), (aw, .inl (gI G, 7, .inl (dW r)))]) [0, 1, 2, 3, 4] rfl) rfl hl.1 rfl (Nat.le_of_ble_eq_true rfl) dX0_sizeIn_71 ⟨Nat.zero_le _, Nat.zero_le _⟩ ?_
    refine lv_iconst (v := nI 3) hx hb dX0_sizeIn_74 (by decide) ?_
    refine n_iadd hx hb dX0_sizeIn_75 ?_
    refine lv_iconst (v := nI 1) hx hb dX0_sizeIn_76 (by decide) ?_
    refine n_isub hx hb (by omega) dX0_sizeIn_77 ?_
    refine lv_iconst (v := nI 3) hx hb dX0_sizeIn_78 (by decide) ?_
    refine n_idiv hx hb (by omega) (by omega) (by omega) dX0_sizeIn_79 ?_
    refine n_iadd hx hb dX0_sizeIn_80 ?_
    exact e_ri hx hb hr hlk (by unfold szc; rw [if_neg (by omega), if_neg (by omega), if_neg (by omega), if_pos c_1]; exact congrArg nI (by omega)) dX0_sizeIn_81
set_option maxHeartbeats 4000000 in
set_option maxRecDepth 100000 in
theorem c_X0_sizeOf (l : Launch) (G : gT) (o : Nat) (ab : Nat) (af : Nat) (an : Nat) (aw : Nat) (r : Nat → Int32) (m : Nat) (hm : m < 120) (hFm : Fm r) (hN : Nm r) (hBd : Bd r) : Ro l G yX0_sizeOf cX0_sizeOf 2 (some .int) 3 [(o, dO r ab af an aw), (ab, .inl (gI G, 1920, .inl (dB r))), (af, .inl (gI G, 120, .inl (dF r))), (an, .inl (gI G, 120, .inl (dN r))), (aw, .inl (gI G, 7, .inl (dW r)))] [.ref o, .int (nI m)] (szo r m) := by
  refine Ro.mk (by decide) (Nat.le_of_ble_eq_true rfl) (fun pq eq sq mq bq tq cq ls hr hlk hF hKx hZ hP hl => ?_)
  have hx := hF.1
  have hb := hF.2.1
  have hml := hF.2.2.1
  have hown : sq.vm.findClass RX0 = some mq.cls := hF.2.2.2.1
  have hts : ∀ w ∈ GW, w.before _ sq = true := hF.2.2.2.2
  have hK := hKx.1
  have hl : lv_has ls 2 [(0, .ref o), (1, .int (nI m))] := hl
  have hS : va_S (fun _ => False) sq.heap sq.heap [] := va_S.rf
  have hP : va_P G.1 vwCl [(o, dO r ab af an aw), (ab, .inl (gI G, 1920, .inl (dB r))), (af, .inl (gI G, 120, .inl (dF r))), (an, .inl (gI G, 120, .inl (dN r))), (aw, .inl (gI G, 7, .inl (dW r)))] sq.heap := hP
  refine lv_aload_n hx hb dX0_sizeOf_0 rfl (lv_at hl 0 rfl) ?_
  refine lv_iload_n hx hb dX0_sizeOf_1 rfl (lv_at hl 1 rfl) ?_
  refine lv_aload_n hx hb dX0_sizeOf_2 rfl (lv_at hl 0 rfl) ?_
  refine lv_iload_n hx hb dX0_sizeOf_3 rfl (lv_at hl 1 rfl) ?_
  refine k_roV (ci := 0) (q0 := 0) (As := [.int (nI m)]) (rest := [.int (nI m), .ref o]) hF (c_X0_formOf l G o ab af an aw r m (by omega)) hKx hP ⟨_, rfl, rfl⟩ rfl rfl mw_1_184 mw_1_185 mw_1_186 mw_1_2 mw_1_187 hd_X0_formOf ⟨Nat.le_of_ble_eq_true rfl, Nat.le_of_ble_eq_true rfl⟩ (Rd.of hKx hZ hS) (hP.sub (ws' := [(o, dO r ab af an aw), (ab, .inl (gI G, 1920, .inl (dB r))), (af, .inl (gI G, 120, .inl (dF r))), (an, .inl (gI G, 120, .inl (dN r))), (aw, .inl (gI G, 7, .inl (dW r)))]) [0, 1, 2, 3, 4] rfl) rfl hl.1 rfl (Nat.le_of_ble_eq_true rfl) dX0_sizeOf_4 ⟨Nat.zero_le _, Nat.zero_le _⟩ ?_
  refine lv_aload_n hx hb dX0_sizeOf_7 rfl (lv_at hl 0 rfl) ?_
  refine lv_iload_n hx hb dX0_sizeOf_8 rfl (lv_at hl 1 rfl) ?_
  refine k_roV (ci := 0) (q0 := 0) (As := [.int (nI m)]) (rest := [.int (cfm (r (15 + m))), .int (nI m), .ref o]) hF (c_X0_namedBy l G o ab af an aw r m (by omega)) hKx hP ⟨_, rfl, rfl⟩ rfl rfl mw_1_191 mw_1_192 mw_1_193 mw_1_2 mw_1_194 hd_X0_namedBy ⟨Nat.le_of_ble_eq_true rfl, Nat.le_of_ble_eq_true rfl⟩ (Rd.of hKx hZ hS) (hP.sub (ws' := [(o, dO r ab af an aw), (ab, .inl (gI G, 1920, .inl (dB r))), (af, .inl (gI G, 120, .inl (dF r))), (an, .inl (gI G, 120, .inl (dN r))), (aw, .inl (gI G, 7, .inl (dW r)))]) [0, 1, 2, 3, 4] rfl) rfl hl.1 rfl (Nat.le_of_ble_eq_true rfl) dX0_sizeOf_9 ⟨Nat.zero_le _, Nat.zero_le _⟩ ?_
  refine k_roV (ci := 0) (q0 := 0) (As := [.int (nI m), .int (cfm (r (15 + m))), .int (cnm (r (15 + m)) (r (135 + m)))]) (rest := []) hF (c_X0_sizeIn l G o ab af an aw r m (cfm (r (15 + m))) ((cfm (r (15 + m))).toInt) (cnm (r (15 + m)) (r (135 + m))) ((cnm (r (15 + m)) (r (135 + m))).toInt) (by omega) (hBd) rfl rfl) hKx hP ⟨_, rfl, rfl⟩ rfl rfl mw_1_195 mw_1_196 mw_1_197 mw_1_2 mw_1_198 hd_X0_sizeIn ⟨Nat.le_of_ble_eq_true rfl, Nat.le_of_ble_eq_true rfl⟩ (Rd.of hKx hZ hS) (hP.sub (ws' := [(o, dO r ab af an aw), (ab, .inl (gI G, 1920, .inl (dB r))), (af, .inl (gI G, 120, .inl (dF r))), (an, .inl (gI G, 120, .inl (dN r))), (aw, .inl (gI G, 7, .inl (dW r)))]) [0, 1, 2, 3, 4] rfl) rfl hl.1 rfl (Nat.le_of_ble_eq_true rfl) dX0_sizeOf_12 ⟨Nat.zero_le _, Nat.zero_le _⟩ ?_
  exact e_ri hx hb hr hlk (szc_o hFm hN hm) dX0_sizeOf_15
set_option maxHeartbeats 4000000 in
set_option maxRecDepth 100000 in
theorem c_X0_allSizes (l : Launch) (G : gT) (o : Nat) (ab : Nat) (af : Nat) (an : Nat) (aw : Nat) (r : Nat → Int32) (hFm : Fm r) (hN : Nm r) (hBd : Bd r) (hB : Bs r 8) : Ro l G yX0_allSizes cX0_allSizes 4 (some .int) 4 [(o, dO r ab af an aw), (ab, .inl (gI G, 1920, .inl (dB r))), (af, .inl (gI G, 120, .inl (dF r))), (an, .inl (gI G, 120, .inl (dN r))), (aw, .inl (gI G, 7, .inl (dW r)))] [.ref o] (ask r (mot (td r) + 1)) := by
  refine Ro.mk (by decide) (Nat.le_of_ble_eq_true rfl) (fun pq eq sq mq bq tq cq ls hr hlk hF hKx hZ hP hl => ?_)
  have hx := hF.1
  have hb := hF.2.1
  have hml := hF.2.2.1
  have hown : sq.vm.findClass RX0 = some mq.cls := hF.2.2.2.1
  have hts : ∀ w ∈ GW, w.before _ sq = true := hF.2.2.2.2
  have hK := hKx.1
  have hl : lv_has ls 4 [(0, .ref o)] := hl
  have hS : va_S (fun _ => False) sq.heap sq.heap [] := va_S.rf
  have hP : va_P G.1 vwCl [(o, dO r ab af an aw), (ab, .inl (gI G, 1920, .inl (dB r))), (af, .inl (gI G, 120, .inl (dF r))), (an, .inl (gI G, 120, .inl (dN r))), (aw, .inl (gI G, 7, .inl (dW r)))] sq.heap := hP
  obtain ⟨h0, ht, h1, hkp, -⟩ := id hB
  have hm0 := mot_row ht
  refine lv_iconst (v := nI 0) hx hb dX0_allSizes_0 (by decide) ?_
  refine lv_istore_n (lv' := [(1, .int (nI 0)), (0, .ref o)]) hx hb dX0_allSizes_1 rfl hl (by decide) rfl (fun ls hl => ?_)
  refine lv_aload_n hx hb dX0_allSizes_2 rfl (lv_at hl 1 rfl) ?_
  refine va_get (ci := 0) (v := .int (r 0)) (C := RX0) (T := TX0) (N := 11) hx hb hts inGX0 hown hK hP 0 rfl rfl 0 (by decide) (hts _ mw_1_23) (fun _ h9 => h9) rfl dX0_allSizes_3 ?_
  refine lv_cv (y := nI (td r)) (h0) ?_
  refine k_roN (As := [.int (nI (td r))]) (rest := []) hF (c_X3_monthOf l G (td r) (by omega)) hKx.2.2.2.1 mw_1_161 mw_1_1 mw_1_162 hd_X3_monthOf ⟨Nat.le_of_ble_eq_true rfl, Nat.le_of_ble_eq_true rfl⟩ (Rd.of hKx hZ hS) (hP.sub (ws' := []) [] rfl) rfl hl.1 rfl (Nat.le_of_ble_eq_true rfl) dX0_allSizes_6 ⟨Nat.zero_le _, Nat.zero_le _⟩ ?_
  refine lv_istore_n (lv' := [(2, .int (nI (mot (td r)))), (1, .int (nI 0)), (0, .ref o)]) hx hb dX0_allSizes_9 rfl hl (by decide) rfl (fun ls hl => ?_)
  refine lv_iconst (v := nI 0) hx hb dX0_allSizes_10 (by decide) ?_
  refine lv_istore_n (lv' := [(3, .int (nI 0)), (2, .int (nI (mot (td r)))), (1, .int (nI 0)), (0, .ref o)]) hx hb dX0_allSizes_11 rfl hl (by decide) rfl (fun ls hl => ?_)
  refine wloop (n := 0) [] (fun k ls => (k ≤ mot (td r) + 1) ∧ lv_has ls 4 [(3, .int (nI k)), (1, .int (ask r k)), (2, .int (nI (mot (td r)))), (0, .ref o)]) (fun k => mot (td r) + 1 - k) ?_ 0 ⟨(by omega), lv_sub hl [0, 2, 1, 3] rfl⟩
  intro k ih
  intro ls ⟨hk, hl⟩
  refine lv_iload_n hx hb dX0_allSizes_12 rfl (lv_at hl 0 rfl) ?_
  refine lv_iload_n hx hb dX0_allSizes_13 rfl (lv_at hl 2 rfl) ?_
  refine z_gt hx hb (tgt := 31) ((k : Nat) : Int) ((mot (td r) : Nat) : Int) dX0_allSizes_14 (by decide) (toI (by omega)) (toI (by omega)) (fun c_14 => ?_) (fun c_14 => ?_)
  · skip
    have hk2 : k = mot (td r) + 1 := by omega
    subst hk2
    refine lv_iload_n hx hb dX0_allSizes_31 rfl (lv_at hl 1 rfl) ?_
    exact e_ri hx hb hr hlk (rfl) dX0_allSizes_32
  · skip
    refine lv_iload_n hx hb dX0_allSizes_17 rfl (lv_at hl 1 rfl) ?_
    refine lv_aload_n hx hb dX0_allSizes_18 rfl (lv_at hl 3 rfl) ?_
    refine lv_iload_n hx hb dX0_allSizes_19 rfl (lv_at hl 0 rfl) ?_
    refine k_roV (ci := 0) (q0 := 0) (As := [.int (nI k)]) (rest := [.int (ask r k)]) hF (c_X0_sizeOf l G o ab af an aw r k (by omega) (hFm) (hN) (hBd)) hKx hP ⟨_, rfl, rfl⟩ rfl rfl mw_1_180 mw_1_181 mw_1_182 mw_1_2 mw_1_183 hd_X0_sizeOf ⟨Nat.le_of_ble_eq_true rfl, Nat.le_of_ble_eq_true rfl⟩ (Rd.of hKx hZ hS) (hP.sub (ws' := [(o, dO r ab af an aw), (ab, .inl (gI G, 1920, .inl (dB r))), (af, .inl (gI G, 120, .inl (dF r))), (an, .inl (gI G, 120, .inl (dN r))), (aw, .inl (gI G, 7, .inl (dW r)))]) [0, 1, 2, 3, 4] rfl) rfl hl.1 rfl (Nat.le_of_ble_eq_true rfl) dX0_allSizes_20 ⟨Nat.zero_le _, Nat.zero_le _⟩ ?_
    refine lv_iadd hx hb dX0_allSizes_23 ?_
    refine lv_istore_n (lv' := [(1, .int ((ask r k) + (szo r k))), (3, .int (nI k)), (2, .int (nI (mot (td r)))), (0, .ref o)]) hx hb dX0_allSizes_24 rfl hl (by decide) rfl (fun ls hl => ?_)
    refine lv_iinc (v := nI (k + 1)) (lv' := [(3, .int (nI (k + 1))), (1, .int ((ask r k) + (szo r k))), (2, .int (nI (mot (td r)))), (0, .ref o)]) hx hb dX0_allSizes_25 hl (k := 1) rfl (nI_add _ _) (by decide) rfl (fun ls hl => ?_)
    refine lv_goto (tgt := 12) hx hb dX0_allSizes_28 (by decide) ?_
    exact ih (k + 1) ls (by omega) ⟨(by omega), lv_sub hl [0, 1, 2, 3] rfl⟩
set_option maxHeartbeats 4000000 in
set_option maxRecDepth 100000 in
theorem c_X0_hasSameMarks (l : Launch) (G : gT) (o : Nat) (ab : Nat) (af : Nat) (an : Nat) (aw : Nat) (r : Nat → Int32) (m : Nat) (q : Nat) (hm : m < 120) (hq : q < 120) : Ro l G yX0_hasSameMarks cX0_hasSameMarks 4 (some .boolean) 1 [(o, dO r ab af an aw), (ab, .inl (gI G, 1920, .inl (dB r))), (af, .inl (gI G, 120, .inl (dF r))), (an, .inl (gI G, 120, .inl (dN r))), (aw, .inl (gI G, 7, .inl (dW r)))] [.ref o, .int (nI m), .int (nI q)] (pI (alk r m q 16)) := by
  refine Ro.mk (by decide) (Nat.le_of_ble_eq_true rfl) (fun pq eq sq mq bq tq cq ls hr hlk hF hKx hZ hP hl => ?_)
  have hx := hF.1
  have hb := hF.2.1
  have hml := hF.2.2.1
  have hown : sq.vm.findClass RX0 = some mq.cls := hF.2.2.2.1
  have hts : ∀ w ∈ GW, w.before _ sq = true := hF.2.2.2.2
  have hK := hKx.1
  have hl : lv_has ls 4 [(0, .ref o), (1, .int (nI m)), (2, .int (nI q))] := hl
  have hS : va_S (fun _ => False) sq.heap sq.heap [] := va_S.rf
  have hP : va_P G.1 vwCl [(o, dO r ab af an aw), (ab, .inl (gI G, 1920, .inl (dB r))), (af, .inl (gI G, 120, .inl (dF r))), (an, .inl (gI G, 120, .inl (dN r))), (aw, .inl (gI G, 7, .inl (dW r)))] sq.heap := hP
  refine lv_iconst (v := nI 0) hx hb dX0_hasSameMarks_0 (by decide) ?_
  refine lv_istore_n (lv' := [(3, .int (nI 0)), (0, .ref o), (1, .int (nI m)), (2, .int (nI q))]) hx hb dX0_hasSameMarks_1 rfl hl (by decide) rfl (fun ls hl => ?_)
  refine wloop (n := 0) [] (fun k ls => (k ≤ 16) ∧ (alk r m q k) ∧ lv_has ls 4 [(3, .int (nI k)), (0, .ref o), (1, .int (nI m)), (2, .int (nI q))]) (fun k => 16 - k) ?_ 0 ⟨(by omega), (alk_0 r m q), lv_sub hl [0, 1, 2, 3] rfl⟩
  intro k ih
  intro ls ⟨hk, hal, hl⟩
  refine lv_iload_n hx hb dX0_hasSameMarks_2 rfl (lv_at hl 0 rfl) ?_
  refine lv_bipush (v := nI 16) hx hb dX0_hasSameMarks_3 (by decide) ?_
  refine z_ge hx hb (tgt := 31) ((k : Nat) : Int) 16 dX0_hasSameMarks_5 (by decide) (toI (by omega)) (by decide) (fun c_5 => ?_) (fun c_5 => ?_)
  · skip
    have hk2 : k = 16 := by omega
    subst hk2
    refine lv_iconst (v := nI 1) hx hb dX0_hasSameMarks_31 (by decide) ?_
    exact e_rz hx hb hr hlk (nz_1) (pI_t' hal) dX0_hasSameMarks_32
  · skip
    refine lv_aload_n hx hb dX0_hasSameMarks_8 rfl (lv_at hl 1 rfl) ?_
    refine lv_iload_n hx hb dX0_hasSameMarks_9 rfl (lv_at hl 0 rfl) ?_
    refine lv_iload_n hx hb dX0_hasSameMarks_10 rfl (lv_at hl 2 rfl) ?_
    refine k_roV (ci := 0) (q0 := 0) (As := [.int (nI k), .int (nI m)]) (rest := []) hF (c_X0_bitsOf l G o ab af an aw r k m (by omega) (by omega)) hKx hP ⟨_, rfl, rfl⟩ rfl rfl mw_1_203 mw_1_204 mw_1_205 mw_1_2 mw_1_206 hd_X0_bitsOf ⟨Nat.le_of_ble_eq_true rfl, Nat.le_of_ble_eq_true rfl⟩ (Rd.of hKx hZ hS) (hP.sub (ws' := [(o, dO r ab af an aw), (ab, .inl (gI G, 1920, .inl (dB r))), (af, .inl (gI G, 120, .inl (dF r))), (an, .inl (gI G, 120, .inl (dN r))), (aw, .inl (gI G, 7, .inl (dW r)))]) [0, 1, 2, 3, 4] rfl) rfl hl.1 rfl (Nat.le_of_ble_eq_true rfl) dX0_hasSameMarks_11 ⟨Nat.zero_le _, Nat.zero_le _⟩ ?_
    refine lv_aload_n hx hb dX0_hasSameMarks_14 rfl (lv_at hl 1 rfl) ?_
    refine lv_iload_n hx hb dX0_hasSameMarks_15 rfl (lv_at hl 0 rfl) ?_
    refine lv_iload_n hx hb dX0_hasSameMarks_16 rfl (lv_at hl 3 rfl) ?_
    refine k_roV (ci := 0) (q0 := 0) (As := [.int (nI k), .int (nI q)]) (rest := [.int (r (255 + 16 * m + k))]) hF (c_X0_bitsOf l G o ab af an aw r k q (by omega) (by omega)) hKx hP ⟨_, rfl, rfl⟩ rfl rfl mw_1_203 mw_1_204 mw_1_205 mw_1_2 mw_1_206 hd_X0_bitsOf ⟨Nat.le_of_ble_eq_true rfl, Nat.le_of_ble_eq_true rfl⟩ (Rd.of hKx hZ hS) (hP.sub (ws' := [(o, dO r ab af an aw), (ab, .inl (gI G, 1920, .inl (dB r))), (af, .inl (gI G, 120, .inl (dF r))), (an, .inl (gI G, 120, .inl (dN r))), (aw, .inl (gI G, 7, .inl (dW r)))]) [0, 1, 2, 3, 4] rfl) rfl hl.1 rfl (Nat.le_of_ble_eq_true rfl) dX0_hasSameMarks_17 ⟨Nat.zero_le _, Nat.zero_le _⟩ ?_
    refine z_eq hx hb (tgt := 25) ((r (255 + 16 * m + k)).toInt) ((r (255 + 16 * q + k)).toInt) dX0_hasSameMarks_20 (by decide) rfl rfl (fun c_20 => ?_) (fun c_20 => ?_)
    · skip
      refine lv_iinc (v := nI (k + 1)) (lv' := [(3, .int (nI (k + 1))), (0, .ref o), (1, .int (nI m)), (2, .int (nI q))]) hx hb dX0_hasSameMarks_25 hl (k := 0) rfl (nI_add _ _) (by decide) rfl (fun ls hl => ?_)
      refine lv_goto (tgt := 2) hx hb dX0_hasSameMarks_28 (by decide) ?_
      exact ih (k + 1) ls (by omega) ⟨(by omega), (alk_s hal (Int32.toInt_inj.mp c_20)), lv_sub hl [0, 1, 2, 3] rfl⟩
    · skip
      refine lv_iconst (v := nI 0) hx hb dX0_hasSameMarks_23 (by decide) ?_
      exact e_rz hx hb hr hlk (nz_0) (pI_f' (fun z => c_20 (by rw [z k (by omega)]))) dX0_hasSameMarks_24
set_option maxHeartbeats 4000000 in
set_option maxRecDepth 100000 in
theorem c_X0_twinOf (l : Launch) (G : gT) (o : Nat) (ab : Nat) (af : Nat) (an : Nat) (aw : Nat) (r : Nat → Int32) (m : Nat) (but : Int32) (B : Int) (hm : m < 120) (hFm : Fm r) (hB1 : but.toInt = B) : Ro l G yX0_twinOf cX0_twinOf 6 (some .int) 2 [(o, dO r ab af an aw), (ab, .inl (gI G, 1920, .inl (dB r))), (af, .inl (gI G, 120, .inl (dF r))), (an, .inl (gI G, 120, .inl (dN r))), (aw, .inl (gI G, 7, .inl (dW r)))] [.ref o, .int (nI m), .int but] (tw r m B) := by
  refine Ro.mk (by decide) (Nat.le_of_ble_eq_true rfl) (fun pq eq sq mq bq tq cq ls hr hlk hF hKx hZ hP hl => ?_)
  have hx := hF.1
  have hb := hF.2.1
  have hml := hF.2.2.1
  have hown : sq.vm.findClass RX0 = some mq.cls := hF.2.2.2.1
  have hts : ∀ w ∈ GW, w.before _ sq = true := hF.2.2.2.2
  have hK := hKx.1
  have hl : lv_has ls 6 [(0, .ref o), (1, .int (nI m)), (2, .int but)] := hl
  have hS : va_S (fun _ => False) sq.heap sq.heap [] := va_S.rf
  have hP : va_P G.1 vwCl [(o, dO r ab af an aw), (ab, .inl (gI G, 1920, .inl (dB r))), (af, .inl (gI G, 120, .inl (dF r))), (an, .inl (gI G, 120, .inl (dN r))), (aw, .inl (gI G, 7, .inl (dW r)))] sq.heap := hP
  refine lv_iconst (v := nI 0) hx hb dX0_twinOf_0 (by decide) ?_
  refine lv_istore_n (lv' := [(3, .int (nI 0)), (0, .ref o), (1, .int (nI m)), (2, .int but)]) hx hb dX0_twinOf_1 rfl hl (by decide) rfl (fun ls hl => ?_)
  refine wloop (n := 0) [] (fun k ls => (k ≤ m) ∧ (tw r m B = twf r m B (m - k) k) ∧ lv_has ls 6 [(3, .int (nI k)), (0, .ref o), (1, .int (nI m)), (2, .int but)]) (fun k => m - k) ?_ 0 ⟨(by omega), (rfl), lv_sub hl [0, 1, 2, 3] rfl⟩
  intro k ih
  intro ls ⟨hk, ht, hl⟩
  refine lv_iload_n hx hb dX0_twinOf_2 rfl (lv_at hl 0 rfl) ?_
  refine lv_iload_n hx hb dX0_twinOf_3 rfl (lv_at hl 2 rfl) ?_
  refine z_ge hx hb (tgt := 70) ((k : Nat) : Int) ((m : Nat) : Int) dX0_twinOf_4 (by decide) (toI (by omega)) (toI (by omega)) (fun c_4 => ?_) (fun c_4 => ?_)
  · skip
    refine lv_bipush (v := (-6)) hx hb dX0_twinOf_70 (by decide) ?_
    exact e_ri hx hb hr hlk ((ht.trans (twf_e (by omega))).symm) dX0_twinOf_72
  · skip
    refine lv_iload_n hx hb dX0_twinOf_7 rfl (lv_at hl 0 rfl) ?_
    refine lv_aload_n hx hb dX0_twinOf_8 rfl (lv_at hl 1 rfl) ?_
    refine va_get (ci := 0) (v := .ref af) (C := RX0) (T := TX0) (N := 11) hx hb hts inGX0 hown hK hP 0 rfl rfl 8 (by decide) (hts _ mw_1_38) (fun _ h9 => h9) rfl dX0_twinOf_9 ?_
    refine va_alen (v := nI 120) hx hb hK hP 2 0 rfl rfl rfl dX0_twinOf_12 ?_
    refine z_ge hx hb (tgt := 70) ((k : Nat) : Int) 120 dX0_twinOf_13 (by decide) (toI (by omega)) (by decide) (fun c_13 => ?_) (fun c_13 => ?_)
    · skip
      exact absurd c_13 (by omega)
    · skip
      refine lv_aload_n hx hb dX0_twinOf_16 rfl (lv_at hl 1 rfl) ?_
      refine va_get (ci := 0) (v := .ref af) (C := RX0) (T := TX0) (N := 11) hx hb hts inGX0 hown hK hP 0 rfl rfl 8 (by decide) (hts _ mw_1_38) (fun _ h9 => h9) rfl dX0_twinOf_17 ?_
      refine lv_iload_n hx hb dX0_twinOf_20 rfl (lv_at hl 0 rfl) ?_
      refine n_iald hx hb hK hP 2 0 rfl rfl (by omega) (by omega) dX0_twinOf_21 ?_
      refine lv_cv (y := cfm (r (15 + k))) (if_pos (by omega)) ?_
      refine lv_istore (lv' := [(4, .int (cfm (r (15 + k)))), (3, .int (nI k)), (0, .ref o), (1, .int (nI m)), (2, .int but)]) hx hb dX0_twinOf_22 hl (by decide) rfl (fun ls hl => ?_)
      refine lv_iload hx hb dX0_twinOf_24 (lv_at hl 0 rfl) ?_
      refine lv_iconst (v := nI 5) hx hb dX0_twinOf_26 (by decide) ?_
      refine z_eq hx hb (tgt := 45) ((cfm (r (15 + k))).toInt) 5 dX0_twinOf_27 (by decide) rfl (by decide) (fun c_27 => ?_) (fun c_27 => ?_)
      · skip
        refine lv_iconst (v := nI 0) hx hb dX0_twinOf_45 (by decide) ?_
        refine lv_istore (lv' := [(5, .int (nI 0)), (4, .int (cfm (r (15 + k)))), (3, .int (nI k)), (0, .ref o), (1, .int (nI m)), (2, .int but)]) hx hb dX0_twinOf_46 hl (by decide) rfl (fun ls hl => ?_)
        refine lv_iload hx hb dX0_twinOf_48 (lv_at hl 0 rfl) ?_
        refine z0_eq hx hb (tgt := 64) 0 dX0_twinOf_50 (by decide) (by decide) (fun c_50 => ?_) (fun c_50 => ?_)
        · skip
          refine lv_iinc (v := nI (k + 1)) (lv' := [(3, .int (nI (k + 1))), (5, .int (nI 0)), (4, .int (cfm (r (15 + k)))), (0, .ref o), (1, .int (nI m)), (2, .int but)]) hx hb dX0_twinOf_64 hl (k := 2) rfl (nI_add _ _) (by decide) rfl (fun ls hl => ?_)
          refine lv_goto (tgt := 2) hx hb dX0_twinOf_67 (by decide) ?_
          exact ih (k + 1) ls (by omega) ⟨(by omega), (ht.trans (twf_f (by omega) (fun z => by have z2 := (tOk_c hFm (by omega)).mp z; first | exact z2.1.1 c_27 | exact z2.1.2.1 c_33 | exact z2.1.2.2 c_38 | exact c_59 z2.2))), lv_sub hl [0, 3, 4, 5] rfl⟩
        · skip
          exact absurd c_50 (by decide)
      · skip
        refine lv_iload hx hb dX0_twinOf_30 (lv_at hl 0 rfl) ?_
        refine lv_iconst (v := nI 1) hx hb dX0_twinOf_32 (by decide) ?_
        refine z_eq hx hb (tgt := 45) ((cfm (r (15 + k))).toInt) 1 dX0_twinOf_33 (by decide) rfl (by decide) (fun c_33 => ?_) (fun c_33 => ?_)
        · skip
          refine lv_iconst (v := nI 0) hx hb dX0_twinOf_45 (by decide) ?_
          refine lv_istore (lv' := [(5, .int (nI 0)), (4, .int (cfm (r (15 + k)))), (3, .int (nI k)), (0, .ref o), (1, .int (nI m)), (2, .int but)]) hx hb dX0_twinOf_46 hl (by decide) rfl (fun ls hl => ?_)
          refine lv_iload hx hb dX0_twinOf_48 (lv_at hl 0 rfl) ?_
          refine z0_eq hx hb (tgt := 64) 0 dX0_twinOf_50 (by decide) (by decide) (fun c_50 => ?_) (fun c_50 => ?_)
          · skip
            refine lv_iinc (v := nI (k + 1)) (lv' := [(3, .int (nI (k + 1))), (5, .int (nI 0)), (4, .int (cfm (r (15 + k)))), (0, .ref o), (1, .int (nI m)), (2, .int but)]) hx hb dX0_twinOf_64 hl (k := 2) rfl (nI_add _ _) (by decide) rfl (fun ls hl => ?_)
            refine lv_goto (tgt := 2) hx hb dX0_twinOf_67 (by decide) ?_
            exact ih (k + 1) ls (by omega) ⟨(by omega), (ht.trans (twf_f (by omega) (fun z => by have z2 := (tOk_c hFm (by omega)).mp z; first | exact z2.1.1 c_27 | exact z2.1.2.1 c_33 | exact z2.1.2.2 c_38 | exact c_59 z2.2))), lv_sub hl [0, 3, 4, 5] rfl⟩
          · skip
            exact absurd c_50 (by decide)
        · skip
          refine lv_iload_n hx hb dX0_twinOf_36 rfl (lv_at hl 1 rfl) ?_
          refine lv_iload_n hx hb dX0_twinOf_37 rfl (lv_at hl 4 rfl) ?_
          refine z_eq hx hb (tgt := 45) ((k : Nat) : Int) B dX0_twinOf_38 (by decide) (toI (by omega)) hB1 (fun c_38 => ?_) (fun c_38 => ?_)
          · skip
            refine lv_iconst (v := nI 0) hx hb dX0_twinOf_45 (by decide) ?_
            refine lv_istore (lv' := [(5, .int (nI 0)), (4, .int (cfm (r (15 + k)))), (3, .int (nI k)), (0, .ref o), (1, .int (nI m)), (2, .int but)]) hx hb dX0_twinOf_46 hl (by decide) rfl (fun ls hl => ?_)
            refine lv_iload hx hb dX0_twinOf_48 (lv_at hl 0 rfl) ?_
            refine z0_eq hx hb (tgt := 64) 0 dX0_twinOf_50 (by decide) (by decide) (fun c_50 => ?_) (fun c_50 => ?_)
            · skip
              refine lv_iinc (v := nI (k + 1)) (lv' := [(3, .int (nI (k + 1))), (5, .int (nI 0)), (4, .int (cfm (r (15 + k)))), (0, .ref o), (1, .int (nI m)), (2, .int but)]) hx hb dX0_twinOf_64 hl (k := 2) rfl (nI_add _ _) (by decide) rfl (fun ls hl => ?_)
              refine lv_goto (tgt := 2) hx hb dX0_twinOf_67 (by decide) ?_
              exact ih (k + 1) ls (by omega) ⟨(by omega), (ht.trans (twf_f (by omega) (fun z => by have z2 := (tOk_c hFm (by omega)).mp z; first | exact z2.1.1 c_27 | exact z2.1.2.1 c_33 | exact z2.1.2.2 c_38 | exact c_59 z2.2))), lv_sub hl [0, 3, 4, 5] rfl⟩
            · skip
              exact absurd c_50 (by decide)
          · skip
            refine lv_iconst (v := nI 1) hx hb dX0_twinOf_41 (by decide) ?_
            refine lv_goto (tgt := 46) hx hb dX0_twinOf_42 (by decide) ?_
            refine lv_istore (lv' := [(5, .int (nI 1)), (4, .int (cfm (r (15 + k)))), (3, .int (nI k)), (0, .ref o), (1, .int (nI m)), (2, .int but)]) hx hb dX0_twinOf_46 hl (by decide) rfl (fun ls hl => ?_)
            refine lv_iload hx hb dX0_twinOf_48 (lv_at hl 0 rfl) ?_
            refine z0_eq hx hb (tgt := 64) 1 dX0_twinOf_50 (by decide) (by decide) (fun c_50 => ?_) (fun c_50 => ?_)
            · skip
              exact absurd c_50 (by decide)
            · skip
              refine lv_aload_n hx hb dX0_twinOf_53 rfl (lv_at hl 3 rfl) ?_
              refine lv_iload_n hx hb dX0_twinOf_54 rfl (lv_at hl 2 rfl) ?_
              refine lv_iload_n hx hb dX0_twinOf_55 rfl (lv_at hl 4 rfl) ?_
              refine k_roV (ci := 0) (q0 := 0) (As := [.int (nI k), .int (nI m)]) (rest := []) hF (c_X0_hasSameMarks l G o ab af an aw r k m (by omega) (by omega)) hKx hP ⟨_, rfl, rfl⟩ rfl rfl mw_2_28 mw_2_29 mw_2_30 mw_1_2 mw_2_31 hd_X0_hasSameMarks ⟨Nat.le_of_ble_eq_true rfl, Nat.le_of_ble_eq_true rfl⟩ (Rd.of hKx hZ hS) (hP.sub (ws' := [(o, dO r ab af an aw), (ab, .inl (gI G, 1920, .inl (dB r))), (af, .inl (gI G, 120, .inl (dF r))), (an, .inl (gI G, 120, .inl (dN r))), (aw, .inl (gI G, 7, .inl (dW r)))]) [0, 1, 2, 3, 4] rfl) rfl hl.1 rfl (Nat.le_of_ble_eq_true rfl) dX0_twinOf_56 ⟨Nat.zero_le _, Nat.zero_le _⟩ ?_
              refine p0_eq hx hb (tgt := 64) dX0_twinOf_59 (by decide) (fun c_59 => ?_) (fun c_59 => ?_)
              · skip
                refine lv_iinc (v := nI (k + 1)) (lv' := [(3, .int (nI (k + 1))), (5, .int (nI 1)), (4, .int (cfm (r (15 + k)))), (0, .ref o), (1, .int (nI m)), (2, .int but)]) hx hb dX0_twinOf_64 hl (k := 2) rfl (nI_add _ _) (by decide) rfl (fun ls hl => ?_)
                refine lv_goto (tgt := 2) hx hb dX0_twinOf_67 (by decide) ?_
                exact ih (k + 1) ls (by omega) ⟨(by omega), (ht.trans (twf_f (by omega) (fun z => by have z2 := (tOk_c hFm (by omega)).mp z; first | exact z2.1.1 c_27 | exact z2.1.2.1 c_33 | exact z2.1.2.2 c_38 | exact c_59 z2.2))), lv_sub hl [0, 3, 4, 5] rfl⟩
              · skip
                refine lv_iload_n hx hb dX0_twinOf_62 rfl (lv_at hl 2 rfl) ?_
                exact e_ri hx hb hr hlk ((ht.trans (twf_t (by omega) ((tOk_c hFm (by omega)).mpr ⟨⟨c_27, c_33, c_38⟩, c_59⟩))).symm) dX0_twinOf_63
