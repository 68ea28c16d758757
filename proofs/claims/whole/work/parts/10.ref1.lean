theorem hd_X4_in : hdY yX4_in 3 := ⟨by decide +kernel, by decide +kernel, by decide +kernel⟩
theorem hd_X4_isDay : hdY yX4_isDay 1 := ⟨by decide +kernel, by decide +kernel, by decide +kernel⟩
theorem hd_X4_isSubject : hdY yX4_isSubject 1 := ⟨by decide +kernel, by decide +kernel, by decide +kernel⟩
theorem hd_X4_isMonth : hdY yX4_isMonth 1 := ⟨by decide +kernel, by decide +kernel, by decide +kernel⟩
theorem hd_X4_monthOf : hdY yX4_monthOf 1 := ⟨by decide +kernel, by decide +kernel, by decide +kernel⟩
theorem hd_X4_daysOf : hdY yX4_daysOf 1 := ⟨by decide +kernel, by decide +kernel, by decide +kernel⟩
theorem hd_X4_at : hdY yX4_at 2 := ⟨by decide +kernel, by decide +kernel, by decide +kernel⟩
theorem hd_X4_ones : hdY yX4_ones 1 := ⟨by decide +kernel, by decide +kernel, by decide +kernel⟩
theorem hd_X4_meant : hdY yX4_meant 3 := ⟨by decide +kernel, by decide +kernel, by decide +kernel⟩
theorem hd_X4_whole : hdY yX4_whole 1 := ⟨by decide +kernel, by decide +kernel, by decide +kernel⟩
theorem hd_X4_isOld : hdY yX4_isOld 2 := ⟨by decide +kernel, by decide +kernel, by decide +kernel⟩
theorem hd_X4_marksIn : hdY yX4_marksIn 2 := ⟨by decide +kernel, by decide +kernel, by decide +kernel⟩
theorem hd_X4_runsIn : hdY yX4_runsIn 2 := ⟨by decide +kernel, by decide +kernel, by decide +kernel⟩
theorem hd_X4_areAlike : hdY yX4_areAlike 3 := ⟨by decide +kernel, by decide +kernel, by decide +kernel⟩
theorem hd_X4_twin : hdY yX4_twin 3 := ⟨by decide +kernel, by decide +kernel, by decide +kernel⟩
theorem hd_X4_sizeIn : hdY yX4_sizeIn 4 := ⟨by decide +kernel, by decide +kernel, by decide +kernel⟩
theorem hd_X4_sizeOf : hdY yX4_sizeOf 2 := ⟨by decide +kernel, by decide +kernel, by decide +kernel⟩
set_option maxHeartbeats 4000000 in
set_option maxRecDepth 100000 in
theorem c_X4_in (l : Launch) (G : gT) (v : Int64) (w : Int64) (z : Int64) (V : Int) (W0 : Int) (Z : Int) (hv : v.toInt = V) (hw : w.toInt = W0) (hz : z.toInt = Z) : Ro l G yX4_in cX4_in 6 (some .boolean) 0 [] [.long v, .long w, .long z] (pI (W0 ≤ V ∧ V ≤ Z)) := by
  refine Ro.mk (by decide) (Nat.le_of_ble_eq_true rfl) (fun pq eq sq mq bq tq cq ls hr hlk hF hKx hZ hP hl => ?_)
  have hx := hF.1
  have hb := hF.2.1
  have hml := hF.2.2.1
  have hown : sq.vm.findClass RX4 = some mq.cls := hF.2.2.2.1
  have hts : ∀ w ∈ GW, w.before _ sq = true := hF.2.2.2.2
  have hK := hKx.1
  have hl : lv_has ls 6 [(0, .long v), (2, .long w), (4, .long z)] := hl
  have hS : va_S (fun _ => False) sq.heap sq.heap [] := va_S.rf
  have hP : va_P G.1 vwCl [] sq.heap := hP
  refine lv_lload_n hx hb dX4_in_0 rfl (lv_at hl 0 rfl) ?_
  refine lv_lload_n hx hb dX4_in_1 rfl (lv_at hl 1 rfl) ?_
  refine W.lcmp hx hb dX4_in_2 ?_
  refine zc_lt hx hb (tgt := 17) dX4_in_3 (by decide) hv hw (fun c_3 => ?_) (fun c_3 => ?_)
  · skip
    refine lv_iconst (v := nI 0) hx hb dX4_in_17 (by decide) ?_
    exact e_rz hx hb hr hlk (nz_0) (pI_f' (by omega)) dX4_in_18
  · skip
    refine lv_lload_n hx hb dX4_in_6 rfl (lv_at hl 0 rfl) ?_
    refine lv_lload hx hb dX4_in_7 (lv_at hl 2 rfl) ?_
    refine W.lcmp hx hb dX4_in_9 ?_
    refine zc_gt hx hb (tgt := 17) dX4_in_10 (by decide) hv hz (fun c_10 => ?_) (fun c_10 => ?_)
    · skip
      refine lv_iconst (v := nI 0) hx hb dX4_in_17 (by decide) ?_
      exact e_rz hx hb hr hlk (nz_0) (pI_f' (by omega)) dX4_in_18
    · skip
      refine lv_iconst (v := nI 1) hx hb dX4_in_13 (by decide) ?_
      refine lv_goto (tgt := 18) hx hb dX4_in_14 (by decide) ?_
      exact e_rz hx hb hr hlk (nz_1) (pI_t' (by omega)) dX4_in_18
set_option maxHeartbeats 4000000 in
set_option maxRecDepth 100000 in
theorem c_X4_isDay (l : Launch) (G : gT) (x : Int32) (X : Int) (hX : x.toInt = X) : Ro l G yX4_isDay cX4_isDay 1 (some .boolean) 1 [] [.int x] (pI (0 ≤ X ∧ X ≤ 3649)) := by
  refine Ro.mk (by decide) (Nat.le_of_ble_eq_true rfl) (fun pq eq sq mq bq tq cq ls hr hlk hF hKx hZ hP hl => ?_)
  have hx := hF.1
  have hb := hF.2.1
  have hml := hF.2.2.1
  have hown : sq.vm.findClass RX4 = some mq.cls := hF.2.2.2.1
  have hts : ∀ w ∈ GW, w.before _ sq = true := hF.2.2.2.2
  have hK := hKx.1
  have hl : lv_has ls 1 [(0, .int x)] := hl
  have hS : va_S (fun _ => False) sq.heap sq.heap [] := va_S.rf
  have hP : va_P G.1 vwCl [] sq.heap := hP
  refine lv_iload_n hx hb dX4_isDay_0 rfl (lv_at hl 0 rfl) ?_
  refine lv_i2l (v := x.toInt64) hx hb dX4_isDay_1 rfl ?_
  refine lv_lconst (v := 0) hx hb dX4_isDay_2 (by decide) ?_
  refine lv_ldc2 (v := 3649) hx hb hown (hts _ mw_3_174) dX4_isDay_3 ?_
  refine k_roS (As := [.long x.toInt64, .long 0, .long 3649]) (rest := []) hF (c_X4_in l G x.toInt64 0 3649 X 0 3649 (l64 hX) (by decide) (by decide)) mw_3_91 mw_3_92 mw_1_5 mw_3_93 hd_X4_in ⟨Nat.le_of_ble_eq_true rfl, Nat.le_of_ble_eq_true rfl⟩ (Rd.of hKx hZ hS) (hP.sub (ws' := []) [] rfl) rfl hl.1 rfl (Nat.le_of_ble_eq_true rfl) dX4_isDay_6 ⟨Nat.zero_le _, Nat.zero_le _⟩ ?_
  exact e_rz hx hb hr hlk (nz_p _) (rfl) dX4_isDay_9
set_option maxHeartbeats 4000000 in
set_option maxRecDepth 100000 in
theorem c_X4_isSubject (l : Launch) (G : gT) (x : Int32) (X : Int) (hX : x.toInt = X) : Ro l G yX4_isSubject cX4_isSubject 1 (some .boolean) 1 [] [.int x] (pI (0 ≤ X ∧ X ≤ 15)) := by
  refine Ro.mk (by decide) (Nat.le_of_ble_eq_true rfl) (fun pq eq sq mq bq tq cq ls hr hlk hF hKx hZ hP hl => ?_)
  have hx := hF.1
  have hb := hF.2.1
  have hml := hF.2.2.1
  have hown : sq.vm.findClass RX4 = some mq.cls := hF.2.2.2.1
  have hts : ∀ w ∈ GW, w.before _ sq = true := hF.2.2.2.2
  have hK := hKx.1
  have hl : lv_has ls 1 [(0, .int x)] := hl
  have hS : va_S (fun _ => False) sq.heap sq.heap [] := va_S.rf
  have hP : va_P G.1 vwCl [] sq.heap := hP
  refine lv_iload_n hx hb dX4_isSubject_0 rfl (lv_at hl 0 rfl) ?_
  refine lv_i2l (v := x.toInt64) hx hb dX4_isSubject_1 rfl ?_
  refine lv_lconst (v := 0) hx hb dX4_isSubject_2 (by decide) ?_
  refine lv_ldc2 (v := 15) hx hb hown (hts _ mw_3_167) dX4_isSubject_3 ?_
  refine k_roS (As := [.long x.toInt64, .long 0, .long 15]) (rest := []) hF (c_X4_in l G x.toInt64 0 15 X 0 15 (l64 hX) (by decide) (by decide)) mw_3_91 mw_3_92 mw_1_5 mw_3_93 hd_X4_in ⟨Nat.le_of_ble_eq_true rfl, Nat.le_of_ble_eq_true rfl⟩ (Rd.of hKx hZ hS) (hP.sub (ws' := []) [] rfl) rfl hl.1 rfl (Nat.le_of_ble_eq_true rfl) dX4_isSubject_6 ⟨Nat.zero_le _, Nat.zero_le _⟩ ?_
  exact e_rz hx hb hr hlk (nz_p _) (rfl) dX4_isSubject_9
set_option maxHeartbeats 4000000 in
set_option maxRecDepth 100000 in
theorem c_X4_isMonth (l : Launch) (G : gT) (x : Int32) (X : Int) (hX : x.toInt = X) : Ro l G yX4_isMonth cX4_isMonth 1 (some .boolean) 1 [] [.int x] (pI (0 ≤ X ∧ X ≤ 119)) := by
  refine Ro.mk (by decide) (Nat.le_of_ble_eq_true rfl) (fun pq eq sq mq bq tq cq ls hr hlk hF hKx hZ hP hl => ?_)
  have hx := hF.1
  have hb := hF.2.1
  have hml := hF.2.2.1
  have hown : sq.vm.findClass RX4 = some mq.cls := hF.2.2.2.1
  have hts : ∀ w ∈ GW, w.before _ sq = true := hF.2.2.2.2
  have hK := hKx.1
  have hl : lv_has ls 1 [(0, .int x)] := hl
  have hS : va_S (fun _ => False) sq.heap sq.heap [] := va_S.rf
  have hP : va_P G.1 vwCl [] sq.heap := hP
  refine lv_iload_n hx hb dX4_isMonth_0 rfl (lv_at hl 0 rfl) ?_
  refine lv_i2l (v := x.toInt64) hx hb dX4_isMonth_1 rfl ?_
  refine lv_lconst (v := 0) hx hb dX4_isMonth_2 (by decide) ?_
  refine lv_ldc2 (v := 119) hx hb hown (hts _ mw_4_4) dX4_isMonth_3 ?_
  refine k_roS (As := [.long x.toInt64, .long 0, .long 119]) (rest := []) hF (c_X4_in l G x.toInt64 0 119 X 0 119 (l64 hX) (by decide) (by decide)) mw_3_91 mw_3_92 mw_1_5 mw_3_93 hd_X4_in ⟨Nat.le_of_ble_eq_true rfl, Nat.le_of_ble_eq_true rfl⟩ (Rd.of hKx hZ hS) (hP.sub (ws' := []) [] rfl) rfl hl.1 rfl (Nat.le_of_ble_eq_true rfl) dX4_isMonth_6 ⟨Nat.zero_le _, Nat.zero_le _⟩ ?_
  exact e_rz hx hb hr hlk (nz_p _) (rfl) dX4_isMonth_9
set_option maxHeartbeats 4000000 in
set_option maxRecDepth 100000 in
theorem c_X4_monthOf (l : Launch) (G : gT) (h : Nat) (an : Nat) (tr : Nat) (ah : Nat) (ch : Int32) (ak : Nat) (ai : Nat) (ap : Nat) (sy : Int32) (af : Nat) (sp : Int32) (d : Nat) (hd : d < 3650) : Ro l G yX4_monthOf cX4_monthOf 3 (some .int) 0 [(h, .inr (4, [.ref an, .ref tr, .ref ah, .int ch, .ref ak, .ref ai, .ref ap, .int sy, .ref af, .int sp])), (af, .inl (gI G, 121, .inl (fun q9 => nI (fdy q9))))] [.ref h, .int (nI d)] (nI (mot d)) := by
  refine Ro.mk (by decide) (Nat.le_of_ble_eq_true rfl) (fun pq eq sq mq bq tq cq ls hr hlk hF hKx hZ hP hl => ?_)
  have hx := hF.1
  have hb := hF.2.1
  have hml := hF.2.2.1
  have hown : sq.vm.findClass RX4 = some mq.cls := hF.2.2.2.1
  have hts : ∀ w ∈ GW, w.before _ sq = true := hF.2.2.2.2
  have hK := hKx.1
  have hl : lv_has ls 3 [(0, .ref h), (1, .int (nI d))] := hl
  have hS : va_S (fun _ => False) sq.heap sq.heap [] := va_S.rf
  have hP : va_P G.1 vwCl [(h, .inr (4, [.ref an, .ref tr, .ref ah, .int ch, .ref ak, .ref ai, .ref ap, .int sy, .ref af, .int sp])), (af, .inl (gI G, 121, .inl (fun q9 => nI (fdy q9))))] sq.heap := hP
  have hm := mot_row hd
  have hm2 := mot_12 hd
  refine lv_iload_n hx hb dX4_monthOf_0 rfl (lv_at hl 1 rfl) ?_
  refine lv_sipush (v := nI 365) hx hb dX4_monthOf_1 (by decide) ?_
  refine n_idiv hx hb (by omega) (by omega) (by omega) dX4_monthOf_4 ?_
  refine lv_bipush (v := nI 12) hx hb dX4_monthOf_5 (by decide) ?_
  refine n_imul hx hb dX4_monthOf_7 ?_
  refine lv_istore_n (lv' := [(2, .int (nI ((d / 365) * 12))), (0, .ref h), (1, .int (nI d))]) hx hb dX4_monthOf_8 rfl hl (by decide) rfl (fun ls hl => ?_)
  refine wloop (n := 0) [] (fun k ls => (k ≤ mot d) ∧ lv_has ls 3 [(2, .int (nI k)), (0, .ref h), (1, .int (nI d))]) (fun k => mot d - k) ?_ (d / 365 * 12) ⟨(by omega), lv_sub hl [0, 1, 2] (lvc (by first | rfl | exact congrArg nI (by omega)) (lvr (lvr rfl)))⟩
  intro k ih
  intro ls ⟨hk, hl⟩
  have hb1 := fdy_lt (show k + 1 ≤ 120 by omega)
  refine lv_aload_n hx hb dX4_monthOf_9 rfl (lv_at hl 1 rfl) ?_
  refine va_get (ci := 4) (v := .ref af) (C := RX4) (T := TX4) (N := 10) hx hb hts inGX4 hown hK hP 0 rfl rfl 8 (by decide) (hts _ mw_3_62) (fun _ h9 => h9) rfl dX4_monthOf_10 ?_
  refine lv_iload_n hx hb dX4_monthOf_13 rfl (lv_at hl 0 rfl) ?_
  refine lv_iconst (v := nI 1) hx hb dX4_monthOf_14 (by decide) ?_
  refine n_iadd hx hb dX4_monthOf_15 ?_
  refine n_iald hx hb hK hP 1 0 rfl rfl (by omega) (by omega) dX4_monthOf_16 ?_
  refine lv_iload_n hx hb dX4_monthOf_17 rfl (lv_at hl 2 rfl) ?_
  refine z_gt hx hb (tgt := 27) ((fdy (k + 1) : Nat) : Int) ((d : Nat) : Int) dX4_monthOf_18 (by decide) (toI (by omega)) (toI (by omega)) (fun c_18 => ?_) (fun c_18 => ?_)
  · skip
    have hge : mot d = k := by have := mot_ge hd (show d < fdy (k + 1) by omega); omega
    refine lv_iload_n hx hb dX4_monthOf_27 rfl (lv_at hl 0 rfl) ?_
    exact e_ri hx hb hr hlk (by rw [hge]) dX4_monthOf_28
  · skip
    have hlt : k < mot d := Nat.lt_of_not_le (fun z => absurd (mot_hi hd (show mot d < k + 1 by omega)) (by omega))
    refine lv_iinc (v := nI (k + 1)) (lv' := [(2, .int (nI (k + 1))), (0, .ref h), (1, .int (nI d))]) hx hb dX4_monthOf_21 hl (k := 0) rfl (nI_add _ _) (by decide) rfl (fun ls hl => ?_)
    refine lv_goto (tgt := 9) hx hb dX4_monthOf_24 (by decide) ?_
    exact ih (k + 1) ls (by omega) ⟨(by omega), lv_sub hl [0, 1, 2] rfl⟩
set_option maxHeartbeats 4000000 in
set_option maxRecDepth 100000 in
theorem c_X4_daysOf (l : Launch) (G : gT) (h : Nat) (an : Nat) (tr : Nat) (ah : Nat) (ch : Int32) (ak : Nat) (ai : Nat) (ap : Nat) (sy : Int32) (af : Nat) (sp : Int32) (m : Nat) (hm : m < 120) : Ro l G yX4_daysOf cX4_daysOf 2 (some .int) 0 [(h, .inr (4, [.ref an, .ref tr, .ref ah, .int ch, .ref ak, .ref ai, .ref ap, .int sy, .ref af, .int sp])), (af, .inl (gI G, 121, .inl (fun q9 => nI (fdy q9))))] [.ref h, .int (nI m)] (nI (dys m)) := by
  refine Ro.mk (by decide) (Nat.le_of_ble_eq_true rfl) (fun pq eq sq mq bq tq cq ls hr hlk hF hKx hZ hP hl => ?_)
  have hx := hF.1
  have hb := hF.2.1
  have hml := hF.2.2.1
  have hown : sq.vm.findClass RX4 = some mq.cls := hF.2.2.2.1
  have hts : ∀ w ∈ GW, w.before _ sq = true := hF.2.2.2.2
  have hK := hKx.1
  have hl : lv_has ls 2 [(0, .ref h), (1, .int (nI m))] := hl
  have hS : va_S (fun _ => False) sq.heap sq.heap [] := va_S.rf
  have hP : va_P G.1 vwCl [(h, .inr (4, [.ref an, .ref tr, .ref ah, .int ch, .ref ak, .ref ai, .ref ap, .int sy, .ref af, .int sp])), (af, .inl (gI G, 121, .inl (fun q9 => nI (fdy q9))))] sq.heap := hP
  have hm2 := fdy_succ m
  refine lv_aload_n hx hb dX4_daysOf_0 rfl (lv_at hl 0 rfl) ?_
  refine va_get (ci := 4) (v := .ref af) (C := RX4) (T := TX4) (N := 10) hx hb hts inGX4 hown hK hP 0 rfl rfl 8 (by decide) (hts _ mw_3_62) (fun _ h9 => h9) rfl dX4_daysOf_1 ?_
  refine lv_iload_n hx hb dX4_daysOf_4 rfl (lv_at hl 1 rfl) ?_
  refine lv_iconst (v := nI 1) hx hb dX4_daysOf_5 (by decide) ?_
  refine n_iadd hx hb dX4_daysOf_6 ?_
  refine n_iald hx hb hK hP 1 0 rfl rfl (by omega) (by omega) dX4_daysOf_7 ?_
  refine lv_aload_n hx hb dX4_daysOf_8 rfl (lv_at hl 0 rfl) ?_
  refine va_get (ci := 4) (v := .ref af) (C := RX4) (T := TX4) (N := 10) hx hb hts inGX4 hown hK hP 0 rfl rfl 8 (by decide) (hts _ mw_3_62) (fun _ h9 => h9) rfl dX4_daysOf_9 ?_
  refine lv_iload_n hx hb dX4_daysOf_12 rfl (lv_at hl 1 rfl) ?_
  refine n_iald hx hb hK hP 1 0 rfl rfl (by omega) (by omega) dX4_daysOf_13 ?_
  refine n_isub hx hb (by omega) dX4_daysOf_14 ?_
  exact e_ri hx hb hr hlk (congrArg nI (by omega)) dX4_daysOf_15
set_option maxHeartbeats 4000000 in
set_option maxRecDepth 100000 in
theorem c_X4_at (l : Launch) (G : gT) (m : Nat) (s0 : Nat)  : Ro l G yX4_at cX4_at 2 (some .int) 0 [] [.int (nI m), .int (nI s0)] (nI (255 + 16 * m + s0)) := by
  refine Ro.mk (by decide) (Nat.le_of_ble_eq_true rfl) (fun pq eq sq mq bq tq cq ls hr hlk hF hKx hZ hP hl => ?_)
  have hx := hF.1
  have hb := hF.2.1
  have hml := hF.2.2.1
  have hown : sq.vm.findClass RX4 = some mq.cls := hF.2.2.2.1
  have hts : ∀ w ∈ GW, w.before _ sq = true := hF.2.2.2.2
  have hK := hKx.1
  have hl : lv_has ls 2 [(0, .int (nI m)), (1, .int (nI s0))] := hl
  have hS : va_S (fun _ => False) sq.heap sq.heap [] := va_S.rf
  have hP : va_P G.1 vwCl [] sq.heap := hP
  refine lv_sipush (v := nI 255) hx hb dX4_at_0 (by decide) ?_
  refine lv_bipush (v := nI 16) hx hb dX4_at_3 (by decide) ?_
  refine lv_iload_n hx hb dX4_at_5 rfl (lv_at hl 0 rfl) ?_
  refine n_imul hx hb dX4_at_6 ?_
  refine n_iadd hx hb dX4_at_7 ?_
  refine lv_iload_n hx hb dX4_at_8 rfl (lv_at hl 1 rfl) ?_
  refine n_iadd hx hb dX4_at_9 ?_
  exact e_ri hx hb hr hlk (rfl) dX4_at_10
set_option maxHeartbeats 4000000 in
set_option maxRecDepth 100000 in
theorem c_X4_ones (l : Launch) (G : gT) (x : Int32)  : Ro l G yX4_ones cX4_ones 3 (some .int) 0 [] [.int x] (nI (ons x)) := by
  refine Ro.mk (by decide) (Nat.le_of_ble_eq_true rfl) (fun pq eq sq mq bq tq cq ls hr hlk hF hKx hZ hP hl => ?_)
  have hx := hF.1
  have hb := hF.2.1
  have hml := hF.2.2.1
  have hown : sq.vm.findClass RX4 = some mq.cls := hF.2.2.2.1
  have hts : ∀ w ∈ GW, w.before _ sq = true := hF.2.2.2.2
  have hK := hKx.1
  have hl : lv_has ls 3 [(0, .int x)] := hl
  have hS : va_S (fun _ => False) sq.heap sq.heap [] := va_S.rf
  have hP : va_P G.1 vwCl [] sq.heap := hP
  refine lv_iconst (v := nI 0) hx hb dX4_ones_0 (by decide) ?_
  refine lv_istore_n (lv' := [(1, .int (nI 0)), (0, .int x)]) hx hb dX4_ones_1 rfl hl (by decide) rfl (fun ls hl => ?_)
  refine lv_iconst (v := nI 0) hx hb dX4_ones_2 (by decide) ?_
  refine lv_istore_n (lv' := [(2, .int (nI 0)), (1, .int (nI 0)), (0, .int x)]) hx hb dX4_ones_3 rfl hl (by decide) rfl (fun ls hl => ?_)
  refine wloop (n := 0) [] (fun k ls => (k ≤ 31) ∧ lv_has ls 3 [(2, .int (nI k)), (1, .int (nI (pcn x k))), (0, .int x)]) (fun k => 31 - k) ?_ 0 ⟨(by omega), lv_sub hl [0, 1, 2] (lvr (lvc (by first | rfl | exact congrArg nI (by omega)) (lvr rfl)))⟩
  intro k ih
  intro ls ⟨hk, hl⟩
  refine lv_iload_n hx hb dX4_ones_4 rfl (lv_at hl 0 rfl) ?_
  refine lv_bipush (v := nI 31) hx hb dX4_ones_5 (by decide) ?_
  refine z_ge hx hb (tgt := 24) ((k : Nat) : Int) 31 dX4_ones_7 (by decide) (toI (by omega)) (by decide) (fun c_7 => ?_) (fun c_7 => ?_)
  · skip
    have hk2 : k = 31 := by omega
    subst hk2
    refine lv_iload_n hx hb dX4_ones_24 rfl (lv_at hl 1 rfl) ?_
    exact e_ri hx hb hr hlk (rfl) dX4_ones_25
  · skip
    refine lv_iload_n hx hb dX4_ones_10 rfl (lv_at hl 1 rfl) ?_
    refine lv_iload_n hx hb dX4_ones_11 rfl (lv_at hl 2 rfl) ?_
    refine lv_iload_n hx hb dX4_ones_12 rfl (lv_at hl 0 rfl) ?_
    refine lv_ishr hx hb dX4_ones_13 ?_
    refine lv_iconst (v := nI 1) hx hb dX4_ones_14 (by decide) ?_
    refine lv_iand hx hb dX4_ones_15 ?_
    refine lv_cv (y := nI (bn x k)) (b_sra (by omega)) ?_
    refine n_iadd hx hb dX4_ones_16 ?_
    refine lv_istore_n (lv' := [(1, .int (nI (pcn x k + bn x k))), (2, .int (nI k)), (0, .int x)]) hx hb dX4_ones_17 rfl hl (by decide) rfl (fun ls hl => ?_)
    refine lv_iinc (v := nI (k + 1)) (lv' := [(2, .int (nI (k + 1))), (1, .int (nI (pcn x k + bn x k))), (0, .int x)]) hx hb dX4_ones_18 hl (k := 1) rfl (nI_add _ _) (by decide) rfl (fun ls hl => ?_)
    refine lv_goto (tgt := 4) hx hb dX4_ones_21 (by decide) ?_
    exact ih (k + 1) ls (by omega) ⟨(by omega), lv_sub hl [0, 1, 2] (lvr (lvc (by first | rfl | exact congrArg nI (by omega)) (lvr rfl)))⟩
set_option maxHeartbeats 4000000 in
set_option maxRecDepth 100000 in
theorem c_X4_meant (l : Launch) (G : gT) (h : Nat) (an : Nat) (tr : Nat) (ah : Nat) (ch : Int32) (ak : Nat) (ai : Nat) (ap : Nat) (sy : Int32) (af : Nat) (sp : Int32) (m : Nat) (f : Nat) (t : Nat) (hm : m < 120) (hf : f < 3650) (ht : t < 3650) : Ro l G yX4_meant cX4_meant 6 (some .int) 1 [(h, .inr (4, [.ref an, .ref tr, .ref ah, .int ch, .ref ak, .ref ai, .ref ap, .int sy, .ref af, .int sp])), (af, .inl (gI G, 121, .inl (fun q9 => nI (fdy q9))))] [.ref h, .int (nI m), .int (nI f), .int (nI t)] (mnt m f t) := by
  refine Ro.mk (by decide) (Nat.le_of_ble_eq_true rfl) (fun pq eq sq mq bq tq cq ls hr hlk hF hKx hZ hP hl => ?_)
  have hx := hF.1
  have hb := hF.2.1
  have hml := hF.2.2.1
  have hown : sq.vm.findClass RX4 = some mq.cls := hF.2.2.2.1
  have hts : ∀ w ∈ GW, w.before _ sq = true := hF.2.2.2.2
  have hK := hKx.1
  have hl : lv_has ls 6 [(0, .ref h), (1, .int (nI m)), (2, .int (nI f)), (3, .int (nI t))] := hl
  have hS : va_S (fun _ => False) sq.heap sq.heap [] := va_S.rf
  have hP : va_P G.1 vwCl [(h, .inr (4, [.ref an, .ref tr, .ref ah, .int ch, .ref ak, .ref ai, .ref ap, .int sy, .ref af, .int sp])), (af, .inl (gI G, 121, .inl (fun q9 => nI (fdy q9))))] sq.heap := hP
  have hm2 := fdy_lt' hm
  have hm3 := dys_in m
  refine lv_iconst (v := nI 0) hx hb dX4_meant_0 (by decide) ?_
  refine lv_istore (lv' := [(4, .int (nI 0)), (0, .ref h), (1, .int (nI m)), (2, .int (nI f)), (3, .int (nI t))]) hx hb dX4_meant_1 hl (by decide) rfl (fun ls hl => ?_)
  refine lv_iconst (v := nI 0) hx hb dX4_meant_3 (by decide) ?_
  refine lv_istore (lv' := [(5, .int (nI 0)), (4, .int (nI 0)), (0, .ref h), (1, .int (nI m)), (2, .int (nI f)), (3, .int (nI t))]) hx hb dX4_meant_4 hl (by decide) rfl (fun ls hl => ?_)
  refine wloop (n := 0) [] (fun k ls => (k ≤ dys m) ∧ lv_has ls 6 [(5, .int (nI k)), (4, .int (mtk m f t k)), (0, .ref h), (1, .int (nI m)), (2, .int (nI f)), (3, .int (nI t))]) (fun k => dys m - k) ?_ 0 ⟨(by omega), lv_sub hl [0, 1, 2, 3, 4, 5] rfl⟩
  intro k ih
  intro ls ⟨hk, hl⟩
  refine lv_iload hx hb dX4_meant_6 (lv_at hl 0 rfl) ?_
  refine lv_aload_n hx hb dX4_meant_8 rfl (lv_at hl 2 rfl) ?_
  refine lv_iload_n hx hb dX4_meant_9 rfl (lv_at hl 3 rfl) ?_
  refine k_roV (ci := 4) (q0 := 0) (As := [.int (nI m)]) (rest := [.int (nI k)]) hF (c_X4_daysOf l G h an tr ah ch ak ai ap sy af sp m (by omega)) hKx hP ⟨_, rfl, rfl⟩ rfl rfl mw_3_183 mw_3_185 mw_p2_0 mw_1_5 mw_3_186 hd_X4_daysOf ⟨Nat.le_of_ble_eq_true rfl, Nat.le_of_ble_eq_true rfl⟩ (Rd.of hKx hZ hS) (hP.sub (ws' := [(h, .inr (4, [.ref an, .ref tr, .ref ah, .int ch, .ref ak, .ref ai, .ref ap, .int sy, .ref af, .int sp])), (af, .inl (gI G, 121, .inl (fun q9 => nI (fdy q9))))]) [0, 1] rfl) rfl hl.1 rfl (Nat.le_of_ble_eq_true rfl) dX4_meant_10 ⟨Nat.zero_le _, Nat.zero_le _⟩ ?_
  refine z_ge hx hb (tgt := 55) ((k : Nat) : Int) ((dys m : Nat) : Int) dX4_meant_13 (by decide) (toI (by omega)) (toI (by omega)) (fun c_13 => ?_) (fun c_13 => ?_)
  · skip
    have hk2 : k = dys m := by omega
    subst hk2
    refine lv_iload hx hb dX4_meant_55 (lv_at hl 1 rfl) ?_
    exact e_ri hx hb hr hlk (rfl) dX4_meant_57
  · skip
    refine lv_iload hx hb dX4_meant_16 (lv_at hl 1 rfl) ?_
    refine lv_aload_n hx hb dX4_meant_18 rfl (lv_at hl 2 rfl) ?_
    refine va_get (ci := 4) (v := .ref af) (C := RX4) (T := TX4) (N := 10) hx hb hts inGX4 hown hK hP 0 rfl rfl 8 (by decide) (hts _ mw_3_62) (fun _ h9 => h9) rfl dX4_meant_19 ?_
    refine lv_iload_n hx hb dX4_meant_22 rfl (lv_at hl 3 rfl) ?_
    refine n_iald hx hb hK hP 1 0 rfl rfl (by omega) (by omega) dX4_meant_23 ?_
    refine lv_iload hx hb dX4_meant_24 (lv_at hl 0 rfl) ?_
    refine n_iadd hx hb dX4_meant_26 ?_
    refine lv_i2l (v := (nI (fdy m + k)).toInt64) hx hb dX4_meant_27 rfl ?_
    refine lv_iload_n hx hb dX4_meant_28 rfl (lv_at hl 4 rfl) ?_
    refine lv_i2l (v := (nI f).toInt64) hx hb dX4_meant_29 rfl ?_
    refine lv_iload_n hx hb dX4_meant_30 rfl (lv_at hl 5 rfl) ?_
    refine lv_i2l (v := (nI t).toInt64) hx hb dX4_meant_31 rfl ?_
    refine k_roS (As := [.long ((nI (fdy m + k)).toInt64), .long ((nI f).toInt64), .long ((nI t).toInt64)]) (rest := [.int (mtk m f t k)]) hF (c_X4_in l G ((nI (fdy m + k)).toInt64) ((nI f).toInt64) ((nI t).toInt64) ((fdy m + k : Nat) : Int) ((f : Nat) : Int) ((t : Nat) : Int) (l64 (toI (by omega))) (l64 (toI (by omega))) (l64 (toI (by omega)))) mw_3_91 mw_3_92 mw_1_5 mw_3_93 hd_X4_in ⟨Nat.le_of_ble_eq_true rfl, Nat.le_of_ble_eq_true rfl⟩ (Rd.of hKx hZ hS) (hP.sub (ws' := []) [] rfl) rfl hl.1 rfl (Nat.le_of_ble_eq_true rfl) dX4_meant_32 ⟨Nat.zero_le _, Nat.zero_le _⟩ ?_
    refine p0_eq hx hb (tgt := 45) dX4_meant_35 (by decide) (fun c_35 => ?_) (fun c_35 => ?_)
    · skip
      refine lv_iconst (v := nI 0) hx hb dX4_meant_45 (by decide) ?_
      refine lv_ior hx hb dX4_meant_46 ?_
      refine lv_istore (lv' := [(4, .int ((mtk m f t k) ||| (nI 0))), (5, .int (nI k)), (0, .ref h), (1, .int (nI m)), (2, .int (nI f)), (3, .int (nI t))]) hx hb dX4_meant_47 hl (by decide) rfl (fun ls hl => ?_)
      refine lv_iinc (v := nI (k + 1)) (lv' := [(5, .int (nI (k + 1))), (4, .int ((mtk m f t k) ||| (nI 0))), (0, .ref h), (1, .int (nI m)), (2, .int (nI f)), (3, .int (nI t))]) hx hb dX4_meant_49 hl (k := 1) rfl (nI_add _ _) (by decide) rfl (fun ls hl => ?_)
      refine lv_goto (tgt := 6) hx hb dX4_meant_52 (by decide) ?_
      exact ih (k + 1) ls (by omega) ⟨(by omega), lv_sub hl [0, 1, 2, 3, 4, 5] (lvr (lvc (by first | exact mtk_t (by omega) | exact mtk_f (by omega)) (lvr (lvr (lvr (lvr rfl))))))⟩
    · skip
      refine lv_iconst (v := nI 1) hx hb dX4_meant_38 (by decide) ?_
      refine lv_iload hx hb dX4_meant_39 (lv_at hl 0 rfl) ?_
      refine lv_ishl hx hb dX4_meant_41 ?_
      refine lv_goto (tgt := 46) hx hb dX4_meant_42 (by decide) ?_
      refine lv_ior hx hb dX4_meant_46 ?_
      refine lv_istore (lv' := [(4, .int ((mtk m f t k) ||| ((nI 1) <<< ((nI k) &&& 31)))), (5, .int (nI k)), (0, .ref h), (1, .int (nI m)), (2, .int (nI f)), (3, .int (nI t))]) hx hb dX4_meant_47 hl (by decide) rfl (fun ls hl => ?_)
      refine lv_iinc (v := nI (k + 1)) (lv' := [(5, .int (nI (k + 1))), (4, .int ((mtk m f t k) ||| ((nI 1) <<< ((nI k) &&& 31)))), (0, .ref h), (1, .int (nI m)), (2, .int (nI f)), (3, .int (nI t))]) hx hb dX4_meant_49 hl (k := 1) rfl (nI_add _ _) (by decide) rfl (fun ls hl => ?_)
      refine lv_goto (tgt := 6) hx hb dX4_meant_52 (by decide) ?_
      exact ih (k + 1) ls (by omega) ⟨(by omega), lv_sub hl [0, 1, 2, 3, 4, 5] (lvr (lvc (by first | exact mtk_t (by omega) | exact mtk_f (by omega)) (lvr (lvr (lvr (lvr rfl))))))⟩
set_option maxHeartbeats 4000000 in
set_option maxRecDepth 100000 in
theorem c_X4_whole (l : Launch) (G : gT) (h : Nat) (an : Nat) (tr : Nat) (ah : Nat) (ch : Int32) (ak : Nat) (ai : Nat) (ap : Nat) (sy : Int32) (af : Nat) (sp : Int32) (m : Nat) (hm : m < 120) : Ro l G yX4_whole cX4_whole 2 (some .int) 2 [(h, .inr (4, [.ref an, .ref tr, .ref ah, .int ch, .ref ak, .ref ai, .ref ap, .int sy, .ref af, .int sp])), (af, .inl (gI G, 121, .inl (fun q9 => nI (fdy q9))))] [.ref h, .int (nI m)] (mnt m 0 3649) := by
  refine Ro.mk (by decide) (Nat.le_of_ble_eq_true rfl) (fun pq eq sq mq bq tq cq ls hr hlk hF hKx hZ hP hl => ?_)
  have hx := hF.1
  have hb := hF.2.1
  have hml := hF.2.2.1
  have hown : sq.vm.findClass RX4 = some mq.cls := hF.2.2.2.1
  have hts : ∀ w ∈ GW, w.before _ sq = true := hF.2.2.2.2
  have hK := hKx.1
  have hl : lv_has ls 2 [(0, .ref h), (1, .int (nI m))] := hl
  have hS : va_S (fun _ => False) sq.heap sq.heap [] := va_S.rf
  have hP : va_P G.1 vwCl [(h, .inr (4, [.ref an, .ref tr, .ref ah, .int ch, .ref ak, .ref ai, .ref ap, .int sy, .ref af, .int sp])), (af, .inl (gI G, 121, .inl (fun q9 => nI (fdy q9))))] sq.heap := hP
  refine lv_aload_n hx hb dX4_whole_0 rfl (lv_at hl 0 rfl) ?_
  refine lv_iload_n hx hb dX4_whole_1 rfl (lv_at hl 1 rfl) ?_
  refine lv_iconst (v := nI 0) hx hb dX4_whole_2 (by decide) ?_
  refine lv_sipush (v := nI 3649) hx hb dX4_whole_3 (by decide) ?_
  refine k_roV (ci := 4) (q0 := 0) (As := [.int (nI m), .int (nI 0), .int (nI 3649)]) (rest := []) hF (c_X4_meant l G h an tr ah ch ak ai ap sy af sp m 0 3649 (by omega) (by omega) (by omega)) hKx hP ⟨_, rfl, rfl⟩ rfl rfl mw_3_179 mw_3_181 mw_p1_15 mw_1_5 mw_3_182 hd_X4_meant ⟨Nat.le_of_ble_eq_true rfl, Nat.le_of_ble_eq_true rfl⟩ (Rd.of hKx hZ hS) (hP.sub (ws' := [(h, .inr (4, [.ref an, .ref tr, .ref ah, .int ch, .ref ak, .ref ai, .ref ap, .int sy, .ref af, .int sp])), (af, .inl (gI G, 121, .inl (fun q9 => nI (fdy q9))))]) [0, 1] rfl) rfl hl.1 rfl (Nat.le_of_ble_eq_true rfl) dX4_whole_6 ⟨Nat.zero_le _, Nat.zero_le _⟩ ?_
  exact e_ri hx hb hr hlk (rfl) dX4_whole_9
set_option maxHeartbeats 4000000 in
set_option maxRecDepth 100000 in
theorem c_X4_isOld (l : Launch) (G : gT) (h : Nat) (an : Nat) (tr : Nat) (ah : Nat) (ch : Int32) (ak : Nat) (ai : Nat) (ap : Nat) (sy : Int32) (af : Nat) (sp : Int32) (a : Nat) (r : Nat → Int32) (m : Nat) (hm : m < 120) (hB : Bs r 8) : Ro l G yX4_isOld cX4_isOld 3 (some .boolean) 1 [(h, .inr (4, [.ref an, .ref tr, .ref ah, .int ch, .ref ak, .ref ai, .ref ap, .int sy, .ref af, .int sp])), (af, .inl (gI G, 121, .inl (fun q9 => nI (fdy q9)))), (a, .inl (gI G, 2175, .inl r))] [.ref h, .ref a, .int (nI m)] (pI (m + kpn r ≤ mot (td r))) := by
  refine Ro.mk (by decide) (Nat.le_of_ble_eq_true rfl) (fun pq eq sq mq bq tq cq ls hr hlk hF hKx hZ hP hl => ?_)
  have hx := hF.1
  have hb := hF.2.1
  have hml := hF.2.2.1
  have hown : sq.vm.findClass RX4 = some mq.cls := hF.2.2.2.1
  have hts : ∀ w ∈ GW, w.before _ sq = true := hF.2.2.2.2
  have hK := hKx.1
  have hl : lv_has ls 3 [(0, .ref h), (1, .ref a), (2, .int (nI m))] := hl
  have hS : va_S (fun _ => False) sq.heap sq.heap [] := va_S.rf
  have hP : va_P G.1 vwCl [(h, .inr (4, [.ref an, .ref tr, .ref ah, .int ch, .ref ak, .ref ai, .ref ap, .int sy, .ref af, .int sp])), (af, .inl (gI G, 121, .inl (fun q9 => nI (fdy q9)))), (a, .inl (gI G, 2175, .inl r))] sq.heap := hP
  obtain ⟨h0, ht, h1, hkp, -⟩ := hB
  have hm2 := mot_row ht
  refine lv_iload_n hx hb dX4_isOld_0 rfl (lv_at hl 2 rfl) ?_
  refine lv_aload_n hx hb dX4_isOld_1 rfl (lv_at hl 1 rfl) ?_
  refine lv_iconst (v := nI 1) hx hb dX4_isOld_2 (by decide) ?_
  refine n_iald hx hb hK hP 2 0 rfl rfl (by omega) (by omega) dX4_isOld_3 ?_
  refine lv_cv (y := nI (kpn r)) (h1) ?_
  refine n_iadd hx hb dX4_isOld_4 ?_
  refine lv_aload_n hx hb dX4_isOld_5 rfl (lv_at hl 0 rfl) ?_
  refine lv_aload_n hx hb dX4_isOld_6 rfl (lv_at hl 1 rfl) ?_
  refine lv_iconst (v := nI 0) hx hb dX4_isOld_7 (by decide) ?_
  refine n_iald hx hb hK hP 2 0 rfl rfl (by omega) (by omega) dX4_isOld_8 ?_
  refine lv_cv (y := nI (td r)) (h0) ?_
  refine k_roV (ci := 4) (q0 := 0) (As := [.int (nI (td r))]) (rest := [.int (nI (m + kpn r))]) hF (c_X4_monthOf l G h an tr ah ch ak ai ap sy af sp (td r) (by omega)) hKx hP ⟨_, rfl, rfl⟩ rfl rfl mw_3_148 mw_3_150 mw_p1_11 mw_1_5 mw_3_151 hd_X4_monthOf ⟨Nat.le_of_ble_eq_true rfl, Nat.le_of_ble_eq_true rfl⟩ (Rd.of hKx hZ hS) (hP.sub (ws' := [(h, .inr (4, [.ref an, .ref tr, .ref ah, .int ch, .ref ak, .ref ai, .ref ap, .int sy, .ref af, .int sp])), (af, .inl (gI G, 121, .inl (fun q9 => nI (fdy q9))))]) [0, 1] rfl) rfl hl.1 rfl (Nat.le_of_ble_eq_true rfl) dX4_isOld_9 ⟨Nat.zero_le _, Nat.zero_le _⟩ ?_
  refine z_gt hx hb (tgt := 19) ((m + kpn r : Nat) : Int) ((mot (td r) : Nat) : Int) dX4_isOld_12 (by decide) (toI (by omega)) (toI (by omega)) (fun c_12 => ?_) (fun c_12 => ?_)
  · skip
    refine lv_iconst (v := nI 0) hx hb dX4_isOld_19 (by decide) ?_
    exact e_rz hx hb hr hlk (nz_0) (pI_f' (by omega)) dX4_isOld_20
  · skip
    refine lv_iconst (v := nI 1) hx hb dX4_isOld_15 (by decide) ?_
    refine lv_goto (tgt := 20) hx hb dX4_isOld_16 (by decide) ?_
    exact e_rz hx hb hr hlk (nz_1) (pI_t' (by omega)) dX4_isOld_20
set_option maxHeartbeats 4000000 in
set_option maxRecDepth 100000 in
theorem c_X4_marksIn (l : Launch) (G : gT) (a : Nat) (r : Nat → Int32) (m : Nat) (hm : m < 120) : Ro l G yX4_marksIn cX4_marksIn 4 (some .int) 1 [(a, .inl (gI G, 2175, .inl r))] [.ref a, .int (nI m)] (nI (mIn r m)) := by
  refine Ro.mk (by decide) (Nat.le_of_ble_eq_true rfl) (fun pq eq sq mq bq tq cq ls hr hlk hF hKx hZ hP hl => ?_)
  have hx := hF.1
  have hb := hF.2.1
  have hml := hF.2.2.1
  have hown : sq.vm.findClass RX4 = some mq.cls := hF.2.2.2.1
  have hts : ∀ w ∈ GW, w.before _ sq = true := hF.2.2.2.2
  have hK := hKx.1
  have hl : lv_has ls 4 [(0, .ref a), (1, .int (nI m))] := hl
  have hS : va_S (fun _ => False) sq.heap sq.heap [] := va_S.rf
  have hP : va_P G.1 vwCl [(a, .inl (gI G, 2175, .inl r))] sq.heap := hP
  refine lv_iconst (v := nI 0) hx hb dX4_marksIn_0 (by decide) ?_
  refine lv_istore_n (lv' := [(2, .int (nI 0)), (0, .ref a), (1, .int (nI m))]) hx hb dX4_marksIn_1 rfl hl (by decide) rfl (fun ls hl => ?_)
  refine lv_iconst (v := nI 0) hx hb dX4_marksIn_2 (by decide) ?_
  refine lv_istore_n (lv' := [(3, .int (nI 0)), (2, .int (nI 0)), (0, .ref a), (1, .int (nI m))]) hx hb dX4_marksIn_3 rfl hl (by decide) rfl (fun ls hl => ?_)
  refine wloop (n := 0) [] (fun k ls => (k ≤ 16) ∧ lv_has ls 4 [(3, .int (nI k)), (2, .int (nI (mIk r m k))), (0, .ref a), (1, .int (nI m))]) (fun k => 16 - k) ?_ 0 ⟨(by omega), lv_sub hl [0, 1, 2, 3] (lvr (lvc (by first | rfl | exact congrArg nI (by omega)) (lvr (lvr rfl))))⟩
  intro k ih
  intro ls ⟨hk, hl⟩
  refine lv_iload_n hx hb dX4_marksIn_4 rfl (lv_at hl 0 rfl) ?_
  refine lv_bipush (v := nI 16) hx hb dX4_marksIn_5 (by decide) ?_
  refine z_ge hx hb (tgt := 29) ((k : Nat) : Int) 16 dX4_marksIn_7 (by decide) (toI (by omega)) (by decide) (fun c_7 => ?_) (fun c_7 => ?_)
  · skip
    have hk2 : k = 16 := by omega
    subst hk2
    refine lv_iload_n hx hb dX4_marksIn_29 rfl (lv_at hl 1 rfl) ?_
    exact e_ri hx hb hr hlk (rfl) dX4_marksIn_30
  · skip
    refine lv_iload_n hx hb dX4_marksIn_10 rfl (lv_at hl 1 rfl) ?_
    refine lv_aload_n hx hb dX4_marksIn_11 rfl (lv_at hl 2 rfl) ?_
    refine lv_iload_n hx hb dX4_marksIn_12 rfl (lv_at hl 3 rfl) ?_
    refine lv_iload_n hx hb dX4_marksIn_13 rfl (lv_at hl 0 rfl) ?_
    refine k_roS (As := [.int (nI m), .int (nI k)]) (rest := [.ref a, .int (nI (mIk r m k))]) hF (c_X4_at l G m k) mw_3_117 mw_3_118 mw_1_5 mw_3_119 hd_X4_at ⟨Nat.le_of_ble_eq_true rfl, Nat.le_of_ble_eq_true rfl⟩ (Rd.of hKx hZ hS) (hP.sub (ws' := []) [] rfl) rfl hl.1 rfl (Nat.le_of_ble_eq_true rfl) dX4_marksIn_14 ⟨Nat.zero_le _, Nat.zero_le _⟩ ?_
    refine n_iald hx hb hK hP 0 0 rfl rfl (by omega) (by omega) dX4_marksIn_17 ?_
    refine k_roS (As := [.int (r (255 + 16 * m + k))]) (rest := [.int (nI (mIk r m k))]) hF (c_X4_ones l G (r (255 + 16 * m + k))) mw_3_120 mw_3_121 mw_1_5 mw_3_122 hd_X4_ones ⟨Nat.le_of_ble_eq_true rfl, Nat.le_of_ble_eq_true rfl⟩ (Rd.of hKx hZ hS) (hP.sub (ws' := []) [] rfl) rfl hl.1 rfl (Nat.le_of_ble_eq_true rfl) dX4_marksIn_18 ⟨Nat.zero_le _, Nat.zero_le _⟩ ?_
    refine n_iadd hx hb dX4_marksIn_21 ?_
    refine lv_istore_n (lv' := [(2, .int (nI (mIk r m k + ons (r (255 + 16 * m + k))))), (3, .int (nI k)), (0, .ref a), (1, .int (nI m))]) hx hb dX4_marksIn_22 rfl hl (by decide) rfl (fun ls hl => ?_)
    refine lv_iinc (v := nI (k + 1)) (lv' := [(3, .int (nI (k + 1))), (2, .int (nI (mIk r m k + ons (r (255 + 16 * m + k))))), (0, .ref a), (1, .int (nI m))]) hx hb dX4_marksIn_23 hl (k := 1) rfl (nI_add _ _) (by decide) rfl (fun ls hl => ?_)
    refine lv_goto (tgt := 4) hx hb dX4_marksIn_26 (by decide) ?_
    exact ih (k + 1) ls (by omega) ⟨(by omega), lv_sub hl [0, 1, 2, 3] (lvr (lvc (by first | rfl | exact congrArg nI (by omega)) (lvr (lvr rfl))))⟩
set_option maxHeartbeats 4000000 in
set_option maxRecDepth 100000 in
theorem c_X4_runsIn (l : Launch) (G : gT) (a : Nat) (r : Nat → Int32) (m : Nat) (hm : m < 120) : Ro l G yX4_runsIn cX4_runsIn 5 (some .int) 1 [(a, .inl (gI G, 2175, .inl r))] [.ref a, .int (nI m)] (nI (rns r m)) := by
  refine Ro.mk (by decide) (Nat.le_of_ble_eq_true rfl) (fun pq eq sq mq bq tq cq ls hr hlk hF hKx hZ hP hl => ?_)
  have hx := hF.1
  have hb := hF.2.1
  have hml := hF.2.2.1
  have hown : sq.vm.findClass RX4 = some mq.cls := hF.2.2.2.1
  have hts : ∀ w ∈ GW, w.before _ sq = true := hF.2.2.2.2
  have hK := hKx.1
  have hl : lv_has ls 5 [(0, .ref a), (1, .int (nI m))] := hl
  have hS : va_S (fun _ => False) sq.heap sq.heap [] := va_S.rf
  have hP : va_P G.1 vwCl [(a, .inl (gI G, 2175, .inl r))] sq.heap := hP
  refine lv_iconst (v := nI 0) hx hb dX4_runsIn_0 (by decide) ?_
  refine lv_istore_n (lv' := [(2, .int (nI 0)), (0, .ref a), (1, .int (nI m))]) hx hb dX4_runsIn_1 rfl hl (by decide) rfl (fun ls hl => ?_)
  refine lv_iconst (v := nI 0) hx hb dX4_runsIn_2 (by decide) ?_
  refine lv_istore_n (lv' := [(3, .int (nI 0)), (2, .int (nI 0)), (0, .ref a), (1, .int (nI m))]) hx hb dX4_runsIn_3 rfl hl (by decide) rfl (fun ls hl => ?_)
  refine wloop (n := 0) [] (fun k ls => (k ≤ 16) ∧ lv_has ls 5 [(3, .int (nI k)), (2, .int (nI (rnk r m k))), (0, .ref a), (1, .int (nI m))]) (fun k => 16 - k) ?_ 0 ⟨(by omega), lv_sub hl [0, 1, 2, 3] (lvr (lvc (by first | rfl | exact congrArg nI (by omega)) (lvr (lvr rfl))))⟩
  intro k ih
  intro ls ⟨hk, hl⟩
  refine lv_iload_n hx hb dX4_runsIn_4 rfl (lv_at hl 0 rfl) ?_
  refine lv_bipush (v := nI 16) hx hb dX4_runsIn_5 (by decide) ?_
  refine z_ge hx hb (tgt := 40) ((k : Nat) : Int) 16 dX4_runsIn_7 (by decide) (toI (by omega)) (by decide) (fun c_7 => ?_) (fun c_7 => ?_)
  · skip
    have hk2 : k = 16 := by omega
    subst hk2
    refine lv_iload_n hx hb dX4_runsIn_40 rfl (lv_at hl 1 rfl) ?_
    exact e_ri hx hb hr hlk (rfl) dX4_runsIn_41
  · skip
    refine lv_aload_n hx hb dX4_runsIn_10 rfl (lv_at hl 2 rfl) ?_
    refine lv_iload_n hx hb dX4_runsIn_11 rfl (lv_at hl 3 rfl) ?_
    refine lv_iload_n hx hb dX4_runsIn_12 rfl (lv_at hl 0 rfl) ?_
    refine k_roS (As := [.int (nI m), .int (nI k)]) (rest := [.ref a]) hF (c_X4_at l G m k) mw_3_117 mw_3_118 mw_1_5 mw_3_119 hd_X4_at ⟨Nat.le_of_ble_eq_true rfl, Nat.le_of_ble_eq_true rfl⟩ (Rd.of hKx hZ hS) (hP.sub (ws' := []) [] rfl) rfl hl.1 rfl (Nat.le_of_ble_eq_true rfl) dX4_runsIn_13 ⟨Nat.zero_le _, Nat.zero_le _⟩ ?_
    refine n_iald hx hb hK hP 0 0 rfl rfl (by omega) (by omega) dX4_runsIn_16 ?_
    refine lv_istore (lv' := [(4, .int (r (255 + 16 * m + k))), (3, .int (nI k)), (2, .int (nI (rnk r m k))), (0, .ref a), (1, .int (nI m))]) hx hb dX4_runsIn_17 hl (by decide) rfl (fun ls hl => ?_)
    refine lv_iload_n hx hb dX4_runsIn_19 rfl (lv_at hl 2 rfl) ?_
    refine lv_iload hx hb dX4_runsIn_20 (lv_at hl 0 rfl) ?_
    refine lv_iload hx hb dX4_runsIn_22 (lv_at hl 0 rfl) ?_
    refine lv_iconst (v := nI 1) hx hb dX4_runsIn_24 (by decide) ?_
    refine lv_ishl hx hb dX4_runsIn_25 ?_
    refine lv_iconst (v := (-1)) hx hb dX4_runsIn_26 (by decide) ?_
    refine lv_ixor hx hb dX4_runsIn_27 ?_
    refine lv_iand hx hb dX4_runsIn_28 ?_
    refine k_roS (As := [.int ((r (255 + 16 * m + k)) &&& (((r (255 + 16 * m + k)) <<< ((nI 1) &&& 31)) ^^^ (-1)))]) (rest := [.int (nI (rnk r m k))]) hF (c_X4_ones l G ((r (255 + 16 * m + k)) &&& (((r (255 + 16 * m + k)) <<< ((nI 1) &&& 31)) ^^^ (-1)))) mw_3_120 mw_3_121 mw_1_5 mw_3_122 hd_X4_ones ⟨Nat.le_of_ble_eq_true rfl, Nat.le_of_ble_eq_true rfl⟩ (Rd.of hKx hZ hS) (hP.sub (ws' := []) [] rfl) rfl hl.1 rfl (Nat.le_of_ble_eq_true rfl) dX4_runsIn_29 ⟨Nat.zero_le _, Nat.zero_le _⟩ ?_
    refine n_iadd hx hb dX4_runsIn_32 ?_
    refine lv_istore_n (lv' := [(2, .int (nI (rnk r m k + ons ((r (255 + 16 * m + k)) &&& (((r (255 + 16 * m + k)) <<< ((nI 1) &&& 31)) ^^^ (-1)))))), (4, .int (r (255 + 16 * m + k))), (3, .int (nI k)), (0, .ref a), (1, .int (nI m))]) hx hb dX4_runsIn_33 rfl hl (by decide) rfl (fun ls hl => ?_)
    refine lv_iinc (v := nI (k + 1)) (lv' := [(3, .int (nI (k + 1))), (2, .int (nI (rnk r m k + ons ((r (255 + 16 * m + k)) &&& (((r (255 + 16 * m + k)) <<< ((nI 1) &&& 31)) ^^^ (-1)))))), (4, .int (r (255 + 16 * m + k))), (0, .ref a), (1, .int (nI m))]) hx hb dX4_runsIn_34 hl (k := 2) rfl (nI_add _ _) (by decide) rfl (fun ls hl => ?_)
    refine lv_goto (tgt := 4) hx hb dX4_runsIn_37 (by decide) ?_
    exact ih (k + 1) ls (by omega) ⟨(by omega), lv_sub hl [0, 1, 3, 4] (lvr (lvc (by first | rfl | exact congrArg nI (by omega)) (lvr (lvr rfl))))⟩
set_option maxHeartbeats 4000000 in
set_option maxRecDepth 100000 in
theorem c_X4_areAlike (l : Launch) (G : gT) (a : Nat) (r : Nat → Int32) (m : Nat) (o : Nat) (hm : m < 120) (ho : o < 120) : Ro l G yX4_areAlike cX4_areAlike 5 (some .boolean) 1 [(a, .inl (gI G, 2175, .inl r))] [.ref a, .int (nI m), .int (nI o)] (pI (alk r m o 16)) := by
  refine Ro.mk (by decide) (Nat.le_of_ble_eq_true rfl) (fun pq eq sq mq bq tq cq ls hr hlk hF hKx hZ hP hl => ?_)
  have hx := hF.1
  have hb := hF.2.1
  have hml := hF.2.2.1
  have hown : sq.vm.findClass RX4 = some mq.cls := hF.2.2.2.1
  have hts : ∀ w ∈ GW, w.before _ sq = true := hF.2.2.2.2
  have hK := hKx.1
  have hl : lv_has ls 5 [(0, .ref a), (1, .int (nI m)), (2, .int (nI o))] := hl
  have hS : va_S (fun _ => False) sq.heap sq.heap [] := va_S.rf
  have hP : va_P G.1 vwCl [(a, .inl (gI G, 2175, .inl r))] sq.heap := hP
  refine lv_iconst (v := nI 1) hx hb dX4_areAlike_0 (by decide) ?_
  refine lv_istore_n (lv' := [(3, .int (nI 1)), (0, .ref a), (1, .int (nI m)), (2, .int (nI o))]) hx hb dX4_areAlike_1 rfl hl (by decide) rfl (fun ls hl => ?_)
  refine lv_iconst (v := nI 0) hx hb dX4_areAlike_2 (by decide) ?_
  refine lv_istore (lv' := [(4, .int (nI 0)), (3, .int (nI 1)), (0, .ref a), (1, .int (nI m)), (2, .int (nI o))]) hx hb dX4_areAlike_3 hl (by decide) rfl (fun ls hl => ?_)
  refine wloop (n := 0) [] (fun k ls => (k ≤ 16) ∧ lv_has ls 5 [(4, .int (nI k)), (3, .int (pI (alk r m o k))), (0, .ref a), (1, .int (nI m)), (2, .int (nI o))]) (fun k => 16 - k) ?_ 0 ⟨(by omega), lv_sub hl [0, 1, 2, 3, 4] (lvr (lvc (pI_t' (alk_0 r m o)) (lvr (lvr (lvr rfl)))))⟩
  intro k ih
  intro ls ⟨hk, hl⟩
  refine lv_iload hx hb dX4_areAlike_5 (lv_at hl 0 rfl) ?_
  refine lv_bipush (v := nI 16) hx hb dX4_areAlike_7 (by decide) ?_
  refine z_ge hx hb (tgt := 47) ((k : Nat) : Int) 16 dX4_areAlike_9 (by decide) (toI (by omega)) (by decide) (fun c_9 => ?_) (fun c_9 => ?_)
  · skip
    have hk2 : k = 16 := by omega
    subst hk2
    refine lv_iload_n hx hb dX4_areAlike_47 rfl (lv_at hl 1 rfl) ?_
    exact e_rz hx hb hr hlk (nz_p _) (by first | rfl | exact pI_c ⟨fun z => absurd z c_13, fun z => absurd z (alk_n c_13 hk)⟩) dX4_areAlike_48
  · skip
    refine lv_iload_n hx hb dX4_areAlike_12 rfl (lv_at hl 1 rfl) ?_
    refine p0_eq hx hb (tgt := 47) dX4_areAlike_13 (by decide) (fun c_13 => ?_) (fun c_13 => ?_)
    · skip
      refine lv_iload_n hx hb dX4_areAlike_47 rfl (lv_at hl 1 rfl) ?_
      exact e_rz hx hb hr hlk (nz_p _) (by first | rfl | exact pI_c ⟨fun z => absurd z c_13, fun z => absurd z (alk_n c_13 hk)⟩) dX4_areAlike_48
    · skip
      refine lv_aload_n hx hb dX4_areAlike_16 rfl (lv_at hl 2 rfl) ?_
      refine lv_iload_n hx hb dX4_areAlike_17 rfl (lv_at hl 3 rfl) ?_
      refine lv_iload hx hb dX4_areAlike_18 (lv_at hl 0 rfl) ?_
      refine k_roS (As := [.int (nI m), .int (nI k)]) (rest := [.ref a]) hF (c_X4_at l G m k) mw_3_117 mw_3_118 mw_1_5 mw_3_119 hd_X4_at ⟨Nat.le_of_ble_eq_true rfl, Nat.le_of_ble_eq_true rfl⟩ (Rd.of hKx hZ hS) (hP.sub (ws' := []) [] rfl) rfl hl.1 rfl (Nat.le_of_ble_eq_true rfl) dX4_areAlike_20 ⟨Nat.zero_le _, Nat.zero_le _⟩ ?_
      refine n_iald hx hb hK hP 0 0 rfl rfl (by omega) (by omega) dX4_areAlike_23 ?_
      refine lv_aload_n hx hb dX4_areAlike_24 rfl (lv_at hl 2 rfl) ?_
      refine lv_iload_n hx hb dX4_areAlike_25 rfl (lv_at hl 4 rfl) ?_
      refine lv_iload hx hb dX4_areAlike_26 (lv_at hl 0 rfl) ?_
      refine k_roS (As := [.int (nI o), .int (nI k)]) (rest := [.ref a, .int (r (255 + 16 * m + k))]) hF (c_X4_at l G o k) mw_3_117 mw_3_118 mw_1_5 mw_3_119 hd_X4_at ⟨Nat.le_of_ble_eq_true rfl, Nat.le_of_ble_eq_true rfl⟩ (Rd.of hKx hZ hS) (hP.sub (ws' := []) [] rfl) rfl hl.1 rfl (Nat.le_of_ble_eq_true rfl) dX4_areAlike_28 ⟨Nat.zero_le _, Nat.zero_le _⟩ ?_
      refine n_iald hx hb hK hP 0 0 rfl rfl (by omega) (by omega) dX4_areAlike_31 ?_
      refine z_ne hx hb (tgt := 39) ((r (255 + 16 * m + k)).toInt) ((r (255 + 16 * o + k)).toInt) dX4_areAlike_32 (by decide) rfl rfl (fun c_32 => ?_) (fun c_32 => ?_)
      · skip
        refine lv_iconst (v := nI 0) hx hb dX4_areAlike_39 (by decide) ?_
        refine lv_istore_n (lv' := [(3, .int (nI 0)), (4, .int (nI k)), (0, .ref a), (1, .int (nI m)), (2, .int (nI o))]) hx hb dX4_areAlike_40 rfl hl (by decide) rfl (fun ls hl => ?_)
        refine lv_iinc (v := nI (k + 1)) (lv' := [(4, .int (nI (k + 1))), (3, .int (nI 0)), (0, .ref a), (1, .int (nI m)), (2, .int (nI o))]) hx hb dX4_areAlike_41 hl (k := 1) rfl (nI_add _ _) (by decide) rfl (fun ls hl => ?_)
        refine lv_goto (tgt := 5) hx hb dX4_areAlike_44 (by decide) ?_
        exact ih (k + 1) ls (by omega) ⟨(by omega), lv_sub hl [0, 1, 2, 3, 4] (lvr (lvc (by first | exact pI_t' (alk_s c_13 (Int32.toInt_inj.mp c_32)) | exact pI_f' (fun z => c_32 (by rw [z k (by omega)]))) (lvr (lvr (lvr rfl)))))⟩
      · skip
        refine lv_iconst (v := nI 1) hx hb dX4_areAlike_35 (by decide) ?_
        refine lv_goto (tgt := 40) hx hb dX4_areAlike_36 (by decide) ?_
        refine lv_istore_n (lv' := [(3, .int (nI 1)), (4, .int (nI k)), (0, .ref a), (1, .int (nI m)), (2, .int (nI o))]) hx hb dX4_areAlike_40 rfl hl (by decide) rfl (fun ls hl => ?_)
        refine lv_iinc (v := nI (k + 1)) (lv' := [(4, .int (nI (k + 1))), (3, .int (nI 1)), (0, .ref a), (1, .int (nI m)), (2, .int (nI o))]) hx hb dX4_areAlike_41 hl (k := 1) rfl (nI_add _ _) (by decide) rfl (fun ls hl => ?_)
        refine lv_goto (tgt := 5) hx hb dX4_areAlike_44 (by decide) ?_
        exact ih (k + 1) ls (by omega) ⟨(by omega), lv_sub hl [0, 1, 2, 3, 4] (lvr (lvc (by first | exact pI_t' (alk_s c_13 (Int32.toInt_inj.mp c_32)) | exact pI_f' (fun z => c_32 (by rw [z k (by omega)]))) (lvr (lvr (lvr rfl)))))⟩
set_option maxHeartbeats 4000000 in
set_option maxRecDepth 100000 in
theorem c_X4_twin (l : Launch) (G : gT) (a : Nat) (r : Nat → Int32) (m : Nat) (but : Int32) (B : Int) (hm : m < 120) (hB : but.toInt = B) : Ro l G yX4_twin cX4_twin 5 (some .int) 2 [(a, .inl (gI G, 2175, .inl r))] [.ref a, .int (nI m), .int but] (tw r m B) := by
  refine Ro.mk (by decide) (Nat.le_of_ble_eq_true rfl) (fun pq eq sq mq bq tq cq ls hr hlk hF hKx hZ hP hl => ?_)
  have hx := hF.1
  have hb := hF.2.1
  have hml := hF.2.2.1
  have hown : sq.vm.findClass RX4 = some mq.cls := hF.2.2.2.1
  have hts : ∀ w ∈ GW, w.before _ sq = true := hF.2.2.2.2
  have hK := hKx.1
  have hl : lv_has ls 5 [(0, .ref a), (1, .int (nI m)), (2, .int but)] := hl
  have hS : va_S (fun _ => False) sq.heap sq.heap [] := va_S.rf
  have hP : va_P G.1 vwCl [(a, .inl (gI G, 2175, .inl r))] sq.heap := hP
  refine lv_iconst (v := nI 0) hx hb dX4_twin_0 (by decide) ?_
  refine lv_istore_n (lv' := [(3, .int (nI 0)), (0, .ref a), (1, .int (nI m)), (2, .int but)]) hx hb dX4_twin_1 rfl hl (by decide) rfl (fun ls hl => ?_)
  refine wloop (n := 0) [] (fun k ls => (k ≤ m) ∧ (tw r m B = twf r m B (m - k) k) ∧ lv_has ls 5 [(3, .int (nI k)), (0, .ref a), (1, .int (nI m)), (2, .int but)]) (fun k => m - k) ?_ 0 ⟨(by omega), (rfl), lv_sub hl [0, 1, 2, 3] rfl⟩
  intro k ih
  intro ls ⟨hk, ht, hl⟩
  refine lv_iload_n hx hb dX4_twin_2 rfl (lv_at hl 0 rfl) ?_
  refine lv_iload_n hx hb dX4_twin_3 rfl (lv_at hl 2 rfl) ?_
  refine z_ge hx hb (tgt := 60) ((k : Nat) : Int) ((m : Nat) : Int) dX4_twin_4 (by decide) (toI (by omega)) (toI (by omega)) (fun c_4 => ?_) (fun c_4 => ?_)
  · skip
    refine lv_bipush (v := (-6)) hx hb dX4_twin_60 (by decide) ?_
    exact e_ri hx hb hr hlk ((ht.trans (twf_e (by omega))).symm) dX4_twin_62
  · skip
    refine lv_iload_n hx hb dX4_twin_7 rfl (lv_at hl 0 rfl) ?_
    refine lv_iload_n hx hb dX4_twin_8 rfl (lv_at hl 3 rfl) ?_
    refine z_eq hx hb (tgt := 35) ((k : Nat) : Int) B dX4_twin_9 (by decide) (toI (by omega)) hB (fun c_9 => ?_) (fun c_9 => ?_)
    · skip
      refine lv_iconst (v := nI 0) hx hb dX4_twin_35 (by decide) ?_
      refine lv_istore (lv' := [(4, .int (nI 0)), (3, .int (nI k)), (0, .ref a), (1, .int (nI m)), (2, .int but)]) hx hb dX4_twin_36 hl (by decide) rfl (fun ls hl => ?_)
      refine lv_iload hx hb dX4_twin_38 (lv_at hl 0 rfl) ?_
      refine z0_eq hx hb (tgt := 54) 0 dX4_twin_40 (by decide) (by decide) (fun c_40 => ?_) (fun c_40 => ?_)
      · skip
        refine lv_iinc (v := nI (k + 1)) (lv' := [(3, .int (nI (k + 1))), (4, .int (nI 0)), (0, .ref a), (1, .int (nI m)), (2, .int but)]) hx hb dX4_twin_54 hl (k := 1) rfl (nI_add _ _) (by decide) rfl (fun ls hl => ?_)
        refine lv_goto (tgt := 2) hx hb dX4_twin_57 (by decide) ?_
        exact ih (k + 1) ls (by omega) ⟨(by omega), (ht.trans (twf_f (by omega) (fun z => by first | exact z.1.1 c_9 | exact absurd z.1.2.1 (by omega) | exact z.1.2.2 c_28 | exact c_49 z.2))), lv_sub hl [0, 2, 3, 4] rfl⟩
      · skip
        exact absurd c_40 (by decide)
    · skip
      refine lv_aload_n hx hb dX4_twin_12 rfl (lv_at hl 1 rfl) ?_
      refine lv_bipush (v := nI 15) hx hb dX4_twin_13 (by decide) ?_
      refine lv_iload_n hx hb dX4_twin_15 rfl (lv_at hl 0 rfl) ?_
      refine n_iadd hx hb dX4_twin_16 ?_
      refine n_iald hx hb hK hP 0 0 rfl rfl (by omega) (by omega) dX4_twin_17 ?_
      refine z0_le hx hb (tgt := 35) ((r (15 + k)).toInt) dX4_twin_18 (by decide) rfl (fun c_18 => ?_) (fun c_18 => ?_)
      · skip
        refine lv_iconst (v := nI 0) hx hb dX4_twin_35 (by decide) ?_
        refine lv_istore (lv' := [(4, .int (nI 0)), (3, .int (nI k)), (0, .ref a), (1, .int (nI m)), (2, .int but)]) hx hb dX4_twin_36 hl (by decide) rfl (fun ls hl => ?_)
        refine lv_iload hx hb dX4_twin_38 (lv_at hl 0 rfl) ?_
        refine z0_eq hx hb (tgt := 54) 0 dX4_twin_40 (by decide) (by decide) (fun c_40 => ?_) (fun c_40 => ?_)
        · skip
          refine lv_iinc (v := nI (k + 1)) (lv' := [(3, .int (nI (k + 1))), (4, .int (nI 0)), (0, .ref a), (1, .int (nI m)), (2, .int but)]) hx hb dX4_twin_54 hl (k := 1) rfl (nI_add _ _) (by decide) rfl (fun ls hl => ?_)
          refine lv_goto (tgt := 2) hx hb dX4_twin_57 (by decide) ?_
          exact ih (k + 1) ls (by omega) ⟨(by omega), (ht.trans (twf_f (by omega) (fun z => by first | exact z.1.1 c_9 | exact absurd z.1.2.1 (by omega) | exact z.1.2.2 c_28 | exact c_49 z.2))), lv_sub hl [0, 2, 3, 4] rfl⟩
        · skip
          exact absurd c_40 (by decide)
      · skip
        refine lv_aload_n hx hb dX4_twin_21 rfl (lv_at hl 1 rfl) ?_
        refine lv_bipush (v := nI 15) hx hb dX4_twin_22 (by decide) ?_
        refine lv_iload_n hx hb dX4_twin_24 rfl (lv_at hl 0 rfl) ?_
        refine n_iadd hx hb dX4_twin_25 ?_
        refine n_iald hx hb hK hP 0 0 rfl rfl (by omega) (by omega) dX4_twin_26 ?_
        refine lv_iconst (v := nI 2) hx hb dX4_twin_27 (by decide) ?_
        refine z_eq hx hb (tgt := 35) ((r (15 + k)).toInt) 2 dX4_twin_28 (by decide) rfl (by decide) (fun c_28 => ?_) (fun c_28 => ?_)
        · skip
          refine lv_iconst (v := nI 0) hx hb dX4_twin_35 (by decide) ?_
          refine lv_istore (lv' := [(4, .int (nI 0)), (3, .int (nI k)), (0, .ref a), (1, .int (nI m)), (2, .int but)]) hx hb dX4_twin_36 hl (by decide) rfl (fun ls hl => ?_)
          refine lv_iload hx hb dX4_twin_38 (lv_at hl 0 rfl) ?_
          refine z0_eq hx hb (tgt := 54) 0 dX4_twin_40 (by decide) (by decide) (fun c_40 => ?_) (fun c_40 => ?_)
          · skip
            refine lv_iinc (v := nI (k + 1)) (lv' := [(3, .int (nI (k + 1))), (4, .int (nI 0)), (0, .ref a), (1, .int (nI m)), (2, .int but)]) hx hb dX4_twin_54 hl (k := 1) rfl (nI_add _ _) (by decide) rfl (fun ls hl => ?_)
            refine lv_goto (tgt := 2) hx hb dX4_twin_57 (by decide) ?_
            exact ih (k + 1) ls (by omega) ⟨(by omega), (ht.trans (twf_f (by omega) (fun z => by first | exact z.1.1 c_9 | exact absurd z.1.2.1 (by omega) | exact z.1.2.2 c_28 | exact c_49 z.2))), lv_sub hl [0, 2, 3, 4] rfl⟩
          · skip
            exact absurd c_40 (by decide)
        · skip
          refine lv_iconst (v := nI 1) hx hb dX4_twin_31 (by decide) ?_
          refine lv_goto (tgt := 36) hx hb dX4_twin_32 (by decide) ?_
          refine lv_istore (lv' := [(4, .int (nI 1)), (3, .int (nI k)), (0, .ref a), (1, .int (nI m)), (2, .int but)]) hx hb dX4_twin_36 hl (by decide) rfl (fun ls hl => ?_)
          refine lv_iload hx hb dX4_twin_38 (lv_at hl 0 rfl) ?_
          refine z0_eq hx hb (tgt := 54) 1 dX4_twin_40 (by decide) (by decide) (fun c_40 => ?_) (fun c_40 => ?_)
          · skip
            exact absurd c_40 (by decide)
          · skip
            refine lv_aload_n hx hb dX4_twin_43 rfl (lv_at hl 2 rfl) ?_
            refine lv_iload_n hx hb dX4_twin_44 rfl (lv_at hl 3 rfl) ?_
            refine lv_iload_n hx hb dX4_twin_45 rfl (lv_at hl 1 rfl) ?_
            refine k_roS (As := [.ref a, .int (nI m), .int (nI k)]) (rest := []) hF (c_X4_areAlike l G a r m k (by omega) (by omega)) mw_3_126 mw_3_127 mw_1_5 mw_3_128 hd_X4_areAlike ⟨Nat.le_of_ble_eq_true rfl, Nat.le_of_ble_eq_true rfl⟩ (Rd.of hKx hZ hS) (hP.sub (ws' := [(a, .inl (gI G, 2175, .inl r))]) [0] rfl) rfl hl.1 rfl (Nat.le_of_ble_eq_true rfl) dX4_twin_46 ⟨Nat.zero_le _, Nat.zero_le _⟩ ?_
            refine p0_eq hx hb (tgt := 54) dX4_twin_49 (by decide) (fun c_49 => ?_) (fun c_49 => ?_)
            · skip
              refine lv_iinc (v := nI (k + 1)) (lv' := [(3, .int (nI (k + 1))), (4, .int (nI 1)), (0, .ref a), (1, .int (nI m)), (2, .int but)]) hx hb dX4_twin_54 hl (k := 1) rfl (nI_add _ _) (by decide) rfl (fun ls hl => ?_)
              refine lv_goto (tgt := 2) hx hb dX4_twin_57 (by decide) ?_
              exact ih (k + 1) ls (by omega) ⟨(by omega), (ht.trans (twf_f (by omega) (fun z => by first | exact z.1.1 c_9 | exact absurd z.1.2.1 (by omega) | exact z.1.2.2 c_28 | exact c_49 z.2))), lv_sub hl [0, 2, 3, 4] rfl⟩
            · skip
              refine lv_iload_n hx hb dX4_twin_52 rfl (lv_at hl 1 rfl) ?_
              exact e_ri hx hb hr hlk ((ht.trans (twf_t (by omega) ⟨⟨c_9, by omega, c_28⟩, c_49⟩)).symm) dX4_twin_53
set_option maxHeartbeats 4000000 in
set_option maxRecDepth 100000 in
theorem c_X4_sizeIn (l : Launch) (G : gT) (a : Nat) (r : Nat → Int32) (m : Nat) (fo : Int32) (F : Int) (but : Int32) (B : Int) (hm : m < 120) (hF0 : fo.toInt = F) (hB : but.toInt = B) : Ro l G yX4_sizeIn cX4_sizeIn 5 (some .int) 3 [(a, .inl (gI G, 2175, .inl r))] [.ref a, .int (nI m), .int fo, .int but] (siz r m B F) := by
  refine Ro.mk (by decide) (Nat.le_of_ble_eq_true rfl) (fun pq eq sq mq bq tq cq ls hr hlk hF hKx hZ hP hl => ?_)
  have hx := hF.1
  have hb := hF.2.1
  have hml := hF.2.2.1
  have hown : sq.vm.findClass RX4 = some mq.cls := hF.2.2.2.1
  have hts : ∀ w ∈ GW, w.before _ sq = true := hF.2.2.2.2
  have hK := hKx.1
  have hl : lv_has ls 5 [(0, .ref a), (1, .int (nI m)), (2, .int fo), (3, .int but)] := hl
  have hS : va_S (fun _ => False) sq.heap sq.heap [] := va_S.rf
  have hP : va_P G.1 vwCl [(a, .inl (gI G, 2175, .inl r))] sq.heap := hP
  have hmi : mIn r m ≤ 496 := mIk_le r m 16
  have hri : rns r m ≤ 496 := rnk_le r m 16
  refine lv_aload_n hx hb dX4_sizeIn_0 rfl (lv_at hl 0 rfl) ?_
  refine lv_iload_n hx hb dX4_sizeIn_1 rfl (lv_at hl 1 rfl) ?_
  refine k_roS (As := [.ref a, .int (nI m)]) (rest := []) hF (c_X4_marksIn l G a r m (by omega)) mw_3_114 mw_3_115 mw_1_5 mw_3_116 hd_X4_marksIn ⟨Nat.le_of_ble_eq_true rfl, Nat.le_of_ble_eq_true rfl⟩ (Rd.of hKx hZ hS) (hP.sub (ws' := [(a, .inl (gI G, 2175, .inl r))]) [0] rfl) rfl hl.1 rfl (Nat.le_of_ble_eq_true rfl) dX4_sizeIn_2 ⟨Nat.zero_le _, Nat.zero_le _⟩ ?_
  refine lv_istore (lv' := [(4, .int (nI (mIn r m))), (0, .ref a), (1, .int (nI m)), (2, .int fo), (3, .int but)]) hx hb dX4_sizeIn_5 hl (by decide) rfl (fun ls hl => ?_)
  refine lv_iload_n hx hb dX4_sizeIn_7 rfl (lv_at hl 3 rfl) ?_
  have sw_8 : fo.toInt = F := hF0
  rcases (show (F < 0 ∨ 3 < F) ∨ F = 0 ∨ F = 1 ∨ F = 2 ∨ F = 3 by omega) with c_8 | c_8 | c_8 | c_8 | c_8
  · skip
    refine lv_tableOut (tgt := 87) hx hb dX4_sizeIn_8 (by rw [sw_8]; exact c_8) (by decide) ?_
    refine lv_bipush (v := nI 16) hx hb dX4_sizeIn_87 (by decide) ?_
    exact e_ri hx hb hr hlk (by unfold siz; rw [if_neg (by omega), if_neg (by omega), if_neg (by omega), if_neg (by omega)]) dX4_sizeIn_89
  · skip
    refine lv_tableIn (tgt := 40) hx hb dX4_sizeIn_8 (by rw [sw_8, c_8]; decide) (by rw [sw_8, c_8]; decide) (by rw [sw_8, c_8]; rfl) (by decide) ?_
    refine lv_iload hx hb dX4_sizeIn_40 (lv_at hl 0 rfl) ?_
    refine z0_ne hx hb (tgt := 49) ((mIn r m : Nat) : Int) dX4_sizeIn_42 (by decide) (toI (by omega)) (fun c_42 => ?_) (fun c_42 => ?_)
    · skip
      refine lv_bipush (v := (-6)) hx hb dX4_sizeIn_49 (by decide) ?_
      exact e_ri hx hb hr hlk (by unfold siz; rw [if_pos c_8]; first | rw [if_pos (by omega)] | rw [if_neg (by omega)]) dX4_sizeIn_51
    · skip
      refine lv_iconst (v := nI 0) hx hb dX4_sizeIn_45 (by decide) ?_
      refine lv_goto (tgt := 51) hx hb dX4_sizeIn_46 (by decide) ?_
      exact e_ri hx hb hr hlk (by unfold siz; rw [if_pos c_8]; first | rw [if_pos (by omega)] | rw [if_neg (by omega)]) dX4_sizeIn_51
  · skip
    refine lv_tableIn (tgt := 52) hx hb dX4_sizeIn_8 (by rw [sw_8, c_8]; decide) (by rw [sw_8, c_8]; decide) (by rw [sw_8, c_8]; rfl) (by decide) ?_
    refine lv_aload_n hx hb dX4_sizeIn_52 rfl (lv_at hl 1 rfl) ?_
    refine lv_iload_n hx hb dX4_sizeIn_53 rfl (lv_at hl 2 rfl) ?_
    refine lv_iload_n hx hb dX4_sizeIn_54 rfl (lv_at hl 4 rfl) ?_
    refine k_roS (As := [.ref a, .int (nI m), .int but]) (rest := []) hF (c_X4_twin l G a r m but B (by omega) hB) mw_3_123 mw_3_124 mw_1_5 mw_3_125 hd_X4_twin ⟨Nat.le_of_ble_eq_true rfl, Nat.le_of_ble_eq_true rfl⟩ (Rd.of hKx hZ hS) (hP.sub (ws' := [(a, .inl (gI G, 2175, .inl r))]) [0] rfl) rfl hl.1 rfl (Nat.le_of_ble_eq_true rfl) dX4_sizeIn_55 ⟨Nat.zero_le _, Nat.zero_le _⟩ ?_
    refine lv_bipush (v := (-6)) hx hb dX4_sizeIn_58 (by decide) ?_
    refine z_ne hx hb (tgt := 68) ((tw r m B).toInt) (-6) dX4_sizeIn_60 (by decide) rfl (by decide) (fun c_60 => ?_) (fun c_60 => ?_)
    · skip
      refine lv_iconst (v := nI 1) hx hb dX4_sizeIn_68 (by decide) ?_
      exact e_ri hx hb hr hlk (by unfold siz; rw [if_neg (by omega), if_pos c_8]; first | rw [if_pos (Int32.toInt_inj.mp c_60)] | rw [if_neg (fun z => c_60 (by rw [z]; rfl))]) dX4_sizeIn_69
    · skip
      refine lv_bipush (v := (-6)) hx hb dX4_sizeIn_63 (by decide) ?_
      refine lv_goto (tgt := 69) hx hb dX4_sizeIn_65 (by decide) ?_
      exact e_ri hx hb hr hlk (by unfold siz; rw [if_neg (by omega), if_pos c_8]; first | rw [if_pos (Int32.toInt_inj.mp c_60)] | rw [if_neg (fun z => c_60 (by rw [z]; rfl))]) dX4_sizeIn_69
  · skip
    refine lv_tableIn (tgt := 70) hx hb dX4_sizeIn_8 (by rw [sw_8, c_8]; decide) (by rw [sw_8, c_8]; decide) (by rw [sw_8, c_8]; rfl) (by decide) ?_
    refine lv_iconst (v := nI 1) hx hb dX4_sizeIn_70 (by decide) ?_
    refine lv_aload_n hx hb dX4_sizeIn_71 rfl (lv_at hl 1 rfl) ?_
    refine lv_iload_n hx hb dX4_sizeIn_72 rfl (lv_at hl 2 rfl) ?_
    refine k_roS (As := [.ref a, .int (nI m)]) (rest := [.int (nI 1)]) hF (c_X4_runsIn l G a r m (by omega)) mw_3_129 mw_3_130 mw_1_5 mw_3_131 hd_X4_runsIn ⟨Nat.le_of_ble_eq_true rfl, Nat.le_of_ble_eq_true rfl⟩ (Rd.of hKx hZ hS) (hP.sub (ws' := [(a, .inl (gI G, 2175, .inl r))]) [0] rfl) rfl hl.1 rfl (Nat.le_of_ble_eq_true rfl) dX4_sizeIn_73 ⟨Nat.zero_le _, Nat.zero_le _⟩ ?_
    refine n_iadd hx hb dX4_sizeIn_76 ?_
    exact e_ri hx hb hr hlk (by unfold siz; rw [if_neg (by omega), if_neg (by omega), if_pos c_8]) dX4_sizeIn_77
  · skip
    refine lv_tableIn (tgt := 78) hx hb dX4_sizeIn_8 (by rw [sw_8, c_8]; decide) (by rw [sw_8, c_8]; decide) (by rw [sw_8, c_8]; rfl) (by decide) ?_
    refine lv_iconst (v := nI 1) hx hb dX4_sizeIn_78 (by decide) ?_
    refine lv_iload hx hb dX4_sizeIn_79 (lv_at hl 0 rfl) ?_
    refine lv_iconst (v := nI 2) hx hb dX4_sizeIn_81 (by decide) ?_
    refine n_iadd hx hb dX4_sizeIn_82 ?_
    refine lv_iconst (v := nI 3) hx hb dX4_sizeIn_83 (by decide) ?_
    refine n_idiv hx hb (by omega) (by omega) (by omega) dX4_sizeIn_84 ?_
    refine n_iadd hx hb dX4_sizeIn_85 ?_
    exact e_ri hx hb hr hlk (by unfold siz; rw [if_neg (by omega), if_neg (by omega), if_neg (by omega), if_pos c_8]) dX4_sizeIn_86
set_option maxHeartbeats 4000000 in
set_option maxRecDepth 100000 in
theorem c_X4_sizeOf (l : Launch) (G : gT) (a : Nat) (r : Nat → Int32) (m : Nat) (hm : m < 120) : Ro l G yX4_sizeOf cX4_sizeOf 3 (some .int) 4 [(a, .inl (gI G, 2175, .inl r))] [.ref a, .int (nI m)] (szo r m) := by
  refine Ro.mk (by decide) (Nat.le_of_ble_eq_true rfl) (fun pq eq sq mq bq tq cq ls hr hlk hF hKx hZ hP hl => ?_)
  have hx := hF.1
  have hb := hF.2.1
  have hml := hF.2.2.1
  have hown : sq.vm.findClass RX4 = some mq.cls := hF.2.2.2.1
  have hts : ∀ w ∈ GW, w.before _ sq = true := hF.2.2.2.2
  have hK := hKx.1
  have hl : lv_has ls 3 [(0, .ref a), (1, .int (nI m))] := hl
  have hS : va_S (fun _ => False) sq.heap sq.heap [] := va_S.rf
  have hP : va_P G.1 vwCl [(a, .inl (gI G, 2175, .inl r))] sq.heap := hP
  refine lv_aload_n hx hb dX4_sizeOf_0 rfl (lv_at hl 0 rfl) ?_
  refine lv_bipush (v := nI 15) hx hb dX4_sizeOf_1 (by decide) ?_
  refine lv_iload_n hx hb dX4_sizeOf_3 rfl (lv_at hl 1 rfl) ?_
  refine n_iadd hx hb dX4_sizeOf_4 ?_
  refine n_iald hx hb hK hP 0 0 rfl rfl (by omega) (by omega) dX4_sizeOf_5 ?_
  refine lv_iconst (v := nI 1) hx hb dX4_sizeOf_6 (by decide) ?_
  refine lv_isub hx hb dX4_sizeOf_7 ?_
  refine lv_istore_n (lv' := [(2, .int ((r (15 + m)) - (nI 1))), (0, .ref a), (1, .int (nI m))]) hx hb dX4_sizeOf_8 rfl hl (by decide) rfl (fun ls hl => ?_)
  refine lv_iload_n hx hb dX4_sizeOf_9 rfl (lv_at hl 0 rfl) ?_
  refine z0_ge hx hb (tgt := 18) (((r (15 + m)) - (nI 1)).toInt) dX4_sizeOf_10 (by decide) rfl (fun c_10 => ?_) (fun c_10 => ?_)
  · skip
    refine lv_iload_n hx hb dX4_sizeOf_18 rfl (lv_at hl 0 rfl) ?_
    refine lv_iconst (v := nI 1) hx hb dX4_sizeOf_19 (by decide) ?_
    refine z_ne hx hb (tgt := 27) (((r (15 + m)) - (nI 1)).toInt) 1 dX4_sizeOf_20 (by decide) rfl (by decide) (fun c_20 => ?_) (fun c_20 => ?_)
    · skip
      refine lv_aload_n hx hb dX4_sizeOf_27 rfl (lv_at hl 1 rfl) ?_
      refine lv_iload_n hx hb dX4_sizeOf_28 rfl (lv_at hl 2 rfl) ?_
      refine lv_iload_n hx hb dX4_sizeOf_29 rfl (lv_at hl 0 rfl) ?_
      refine lv_bipush (v := (-6)) hx hb dX4_sizeOf_30 (by decide) ?_
      refine k_roS (As := [.ref a, .int (nI m), .int ((r (15 + m)) - (nI 1)), .int (-6)]) (rest := []) hF (c_X4_sizeIn l G a r m ((r (15 + m)) - (nI 1)) (((r (15 + m)) - (nI 1)).toInt) (-6) (-6) (by omega) rfl (by decide)) mw_3_111 mw_3_112 mw_1_5 mw_3_113 hd_X4_sizeIn ⟨Nat.le_of_ble_eq_true rfl, Nat.le_of_ble_eq_true rfl⟩ (Rd.of hKx hZ hS) (hP.sub (ws' := [(a, .inl (gI G, 2175, .inl r))]) [0] rfl) rfl hl.1 rfl (Nat.le_of_ble_eq_true rfl) dX4_sizeOf_32 ⟨Nat.zero_le _, Nat.zero_le _⟩ ?_
      exact e_ri hx hb hr hlk (by unfold szo; first | rw [if_pos c_10] | rw [if_neg (by omega), if_pos c_20] | rw [if_neg (by omega), if_neg c_20]) dX4_sizeOf_35
    · skip
      refine lv_iconst (v := nI 1) hx hb dX4_sizeOf_23 (by decide) ?_
      refine lv_goto (tgt := 35) hx hb dX4_sizeOf_24 (by decide) ?_
      exact e_ri hx hb hr hlk (by unfold szo; first | rw [if_pos c_10] | rw [if_neg (by omega), if_pos c_20] | rw [if_neg (by omega), if_neg c_20]) dX4_sizeOf_35
  · skip
    refine lv_bipush (v := nI 16) hx hb dX4_sizeOf_13 (by decide) ?_
    refine lv_goto (tgt := 35) hx hb dX4_sizeOf_15 (by decide) ?_
    exact e_ri hx hb hr hlk (by unfold szo; first | rw [if_pos c_10] | rw [if_neg (by omega), if_pos c_20] | rw [if_neg (by omega), if_neg c_20]) dX4_sizeOf_35
