theorem hd_X4_lookAll : hdY yX4_lookAll 2 := ⟨by decide +kernel, by decide +kernel, by decide +kernel⟩
theorem hd_X4_workOf : hdY yX4_workOf 2 := ⟨by decide +kernel, by decide +kernel, by decide +kernel⟩
theorem hd_X4_bestOpen : hdY yX4_bestOpen 2 := ⟨by decide +kernel, by decide +kernel, by decide +kernel⟩
theorem hd_X4_undo : hdY yX4_undo 0 := ⟨by decide +kernel, by decide +kernel, by decide +kernel⟩
theorem hd_X4_save : hdY yX4_save 1 := ⟨by decide +kernel, by decide +kernel, by decide +kernel⟩
theorem hd_X4_restore : hdY yX4_restore 1 := ⟨by decide +kernel, by decide +kernel, by decide +kernel⟩
set_option maxHeartbeats 4000000 in
set_option maxRecDepth 100000 in
theorem c_X4_lookAll (l : Launch) (G : gT) (sz : Nat) (h : Nat) (an : Nat) (tr : Nat) (ah : Nat) (ch : Int32) (ak : Nat) (ai : Nat) (ap : Nat) (sy : Int32) (af : Nat) (sp : Int32) (rt : Nat → Int32) (f : Nat) (t : Nat) (hB : Br rt) (hft : f ≤ t) (ht : t < 3650) : Rv l G yX4_lookAll cX4_lookAll 4 none 8 sz [(h, .inr (4, [.ref an, .ref tr, .ref ah, .int ch, .ref ak, .ref ai, .ref ap, .int sy, .ref af, .int sp])), (af, .inl (gI G, 121, .inl (fun q9 => nI (fdy q9)))), (tr, .inl (gI G, 2175, .inl rt))] [.ref h, .int (nI f), .int (nI t)] [(h, .inr (4, [.ref an, .ref tr, .ref ah, .int ch, .ref ak, .ref ai, .ref ap, .int sy, .ref af, .int sp])), (af, .inl (gI G, 121, .inl (fun q9 => nI (fdy q9)))), (tr, .inl (gI G, 2175, .inl (lkk rt (mot f) (mot t + 1 - mot f))))] := by
  refine Rv.mk (by decide) (Nat.le_of_ble_eq_true rfl) (fun pq eq sq mq bq tq cq ls A hr hlk hF hKx hZ hA hP hD hS hl => ?_)
  have hx := hF.1
  have hb := hF.2.1
  have hml := hF.2.2.1
  have hown : sq.vm.findClass RX4 = some mq.cls := hF.2.2.2.1
  have hts : ∀ w ∈ GW, w.before _ sq = true := hF.2.2.2.2
  have hK := hKx.1
  have hl : lv_has ls 4 [(0, .ref h), (1, .int (nI f)), (2, .int (nI t))] := hl
  have hP : va_P G.1 vwCl [(h, .inr (4, [.ref an, .ref tr, .ref ah, .int ch, .ref ak, .ref ai, .ref ap, .int sy, .ref af, .int sp])), (af, .inl (gI G, 121, .inl (fun q9 => nI (fdy q9)))), (tr, .inl (gI G, 2175, .inl rt))] sq.heap := hP
  have hD : va_D A [(h, .inr (4, [.ref an, .ref tr, .ref ah, .int ch, .ref ak, .ref ai, .ref ap, .int sy, .ref af, .int sp])), (af, .inl (gI G, 121, .inl (fun q9 => nI (fdy q9)))), (tr, .inl (gI G, 2175, .inl rt))] := hD
  have hmf := mot_mono ht hft
  have hmt := mot_row ht
  have hf : f < 3650 := by omega
  refine lv_aload_n hx hb dX4_lookAll_0 rfl (lv_at hl 0 rfl) ?_
  refine lv_iload_n hx hb dX4_lookAll_1 rfl (lv_at hl 1 rfl) ?_
  refine k_roV (ci := 4) (q0 := 0) (As := [.int (nI f)]) (rest := []) hF (c_X4_monthOf l G h an tr ah ch ak ai ap sy af sp f (by omega)) hKx hP ⟨_, rfl, rfl⟩ rfl rfl mw_3_148 mw_3_150 mw_p1_11 mw_1_5 mw_3_151 hd_X4_monthOf ⟨Nat.le_of_ble_eq_true rfl, Nat.le_of_ble_eq_true rfl⟩ (Rd.of hKx hZ hS) (hP.sub (ws' := [(h, .inr (4, [.ref an, .ref tr, .ref ah, .int ch, .ref ak, .ref ai, .ref ap, .int sy, .ref af, .int sp])), (af, .inl (gI G, 121, .inl (fun q9 => nI (fdy q9))))]) [0, 1] rfl) rfl hl.1 rfl (Nat.le_of_ble_eq_true rfl) dX4_lookAll_2 ⟨Nat.zero_le _, Nat.zero_le _⟩ ?_
  refine lv_istore_n (lv' := [(3, .int (nI (mot f))), (0, .ref h), (1, .int (nI f)), (2, .int (nI t))]) hx hb dX4_lookAll_5 rfl hl (by decide) rfl (fun ls hl => ?_)
  have hPj := hP.sub (ws' := [(h, .inr (4, [.ref an, .ref tr, .ref ah, .int ch, .ref ak, .ref ai, .ref ap, .int sy, .ref af, .int sp])), (af, .inl (gI G, 121, .inl (fun q9 => nI (fdy q9)))), (tr, .inl (gI G, 2175, .inl rt))]) [0, 1, 2] rfl
  have hDj := hD.sub (ws' := [(h, .inr (4, [.ref an, .ref tr, .ref ah, .int ch, .ref ak, .ref ai, .ref ap, .int sy, .ref af, .int sp])), (af, .inl (gI G, 121, .inl (fun q9 => nI (fdy q9)))), (tr, .inl (gI G, 2175, .inl rt))]) [0, 1, 2] (by decide) rfl
  have hwj : ([(h, .inr (4, [.ref an, .ref tr, .ref ah, .int ch, .ref ak, .ref ai, .ref ap, .int sy, .ref af, .int sp])), (af, .inl (gI G, 121, .inl (fun q9 => nI (fdy q9)))), (tr, .inl (gI G, 2175, .inl rt))] : va_W) = [(h, .inr (4, [.ref an, .ref tr, .ref ah, .int ch, .ref ak, .ref ai, .ref ap, .int sy, .ref af, .int sp])), (af, .inl (gI G, 121, .inl (fun q9 => nI (fdy q9)))), (tr, .inl (gI G, 2175, .inl (lkk rt (mot f) 0)))] := (wlc (rfl) (wlc (rfl) (wlc (rfl) rfl)))
  rw [hwj] at hPj hDj
  refine wloopH [] (fun j H locs ls => (j ≤ mot t + 1 - mot f) ∧ va_P G.1 vwCl [(h, .inr (4, [.ref an, .ref tr, .ref ah, .int ch, .ref ak, .ref ai, .ref ap, .int sy, .ref af, .int sp])), (af, .inl (gI G, 121, .inl (fun q9 => nI (fdy q9)))), (tr, .inl (gI G, 2175, .inl (lkk rt (mot f) j)))] H ∧ va_D A [(h, .inr (4, [.ref an, .ref tr, .ref ah, .int ch, .ref ak, .ref ai, .ref ap, .int sy, .ref af, .int sp])), (af, .inl (gI G, 121, .inl (fun q9 => nI (fdy q9)))), (tr, .inl (gI G, 2175, .inl (lkk rt (mot f) j)))] ∧ va_S A sq.heap H locs ∧ lv_has ls 4 [(3, .int (nI (mot f + j))), (0, .ref h), (1, .int (nI f)), (2, .int (nI t))]) (fun j => (mot t + 1 - mot f) - j) ?_ 0 ⟨(by omega), hPj, hDj, hS, lv_sub hl [0, 1, 2, 3] (lvc (by first | rfl | exact congrArg nI (by omega)) (lvr (lvr (lvr rfl))))⟩
  intro j ih
  intro H locs ls ⟨hj, hP, hD, hS, hl⟩
  refine lv_iload_n hx hb dX4_lookAll_6 rfl (lv_at hl 0 rfl) ?_
  refine lv_aload_n hx hb dX4_lookAll_7 rfl (lv_at hl 1 rfl) ?_
  refine lv_iload_n hx hb dX4_lookAll_8 rfl (lv_at hl 3 rfl) ?_
  refine k_roV (ci := 4) (q0 := 0) (As := [.int (nI t)]) (rest := [.int (nI (mot f + j))]) hF (c_X4_monthOf l G h an tr ah ch ak ai ap sy af sp t (by omega)) hKx hP ⟨_, rfl, rfl⟩ rfl rfl mw_3_148 mw_3_150 mw_p1_11 mw_1_5 mw_3_151 hd_X4_monthOf ⟨Nat.le_of_ble_eq_true rfl, Nat.le_of_ble_eq_true rfl⟩ (Rd.of hKx hZ hS) (hP.sub (ws' := [(h, .inr (4, [.ref an, .ref tr, .ref ah, .int ch, .ref ak, .ref ai, .ref ap, .int sy, .ref af, .int sp])), (af, .inl (gI G, 121, .inl (fun q9 => nI (fdy q9))))]) [0, 1] rfl) rfl hl.1 rfl (Nat.le_of_ble_eq_true rfl) dX4_lookAll_9 ⟨Nat.zero_le _, Nat.zero_le _⟩ ?_
  refine z_gt hx hb (tgt := 30) ((mot f + j : Nat) : Int) ((mot t : Nat) : Int) dX4_lookAll_12 (by decide) (toI (by omega)) (toI (by omega)) (fun c_12 => ?_) (fun c_12 => ?_)
  · skip
    have hj2 : j = mot t + 1 - mot f := by omega
    subst hj2
    have hPj := hP.sub (ws' := [(h, .inr (4, [.ref an, .ref tr, .ref ah, .int ch, .ref ak, .ref ai, .ref ap, .int sy, .ref af, .int sp])), (af, .inl (gI G, 121, .inl (fun q9 => nI (fdy q9)))), (tr, .inl (gI G, 2175, .inl (lkk rt (mot f) (mot t + 1 - mot f))))]) [0, 1, 2] rfl
    exact e_wv hx hb hr hlk hPj hS dX4_lookAll_30
  · skip
    refine lv_aload_n hx hb dX4_lookAll_15 rfl (lv_at hl 1 rfl) ?_
    refine lv_aload_n hx hb dX4_lookAll_16 rfl (lv_at hl 1 rfl) ?_
    refine va_get (ci := 4) (v := .ref tr) (C := RX4) (T := TX4) (N := 10) hx hb hts inGX4 hown hK hP 0 rfl rfl 1 (by decide) (hts _ mw_3_55) (fun _ h9 => h9) rfl dX4_lookAll_17 ?_
    refine lv_iload_n hx hb dX4_lookAll_20 rfl (lv_at hl 0 rfl) ?_
    refine k_rvV (ci := 4) (q0 := 0) (As := [.ref tr, .int (nI (mot f + j))]) (rest := []) (wr := []) hF (c_X4_look l G _ h an tr ah ch ak ai ap sy af sp tr (lkk rt (mot f) j) (mot f + j) (by omega) ((Br_lkk hB j (by omega)).b (by omega))) ⟨_, rfl, rfl⟩ rfl rfl mw_3_212 mw_3_214 mw_p2_3 mw_1_5 mw_3_215 hd_X4_look ⟨Nat.le_of_ble_eq_true rfl, Nat.le_of_ble_eq_true rfl⟩ hKx hZ hS hP hD hA [0, 1, 2] [] rfl rfl (by decide) (by decide) (by decide) rfl rfl hl.1 rfl (Nat.le_of_ble_eq_true rfl) dX4_lookAll_21 ⟨Nat.zero_le _, Nat.zero_le _⟩ (fun H locs hP hD hS => ?_)
    have hP : va_P G.1 vwCl [(h, .inr (4, [.ref an, .ref tr, .ref ah, .int ch, .ref ak, .ref ai, .ref ap, .int sy, .ref af, .int sp])), (af, .inl (gI G, 121, .inl (fun q9 => nI (fdy q9)))), (tr, .inl (gI G, 2175, .inl (lok (lkk rt (mot f) j) (mot f + j))))] H := hP
    have hD : va_D A [(h, .inr (4, [.ref an, .ref tr, .ref ah, .int ch, .ref ak, .ref ai, .ref ap, .int sy, .ref af, .int sp])), (af, .inl (gI G, 121, .inl (fun q9 => nI (fdy q9)))), (tr, .inl (gI G, 2175, .inl (lok (lkk rt (mot f) j) (mot f + j))))] := hD
    refine lv_iinc (v := nI (mot f + j + 1)) (lv' := [(3, .int (nI (mot f + j + 1))), (0, .ref h), (1, .int (nI f)), (2, .int (nI t))]) hx hb dX4_lookAll_24 hl (k := 0) rfl (nI_add _ _) (by decide) rfl (fun ls hl => ?_)
    refine lv_goto (tgt := 6) hx hb dX4_lookAll_27 (by decide) ?_
    have w_1 : ([(h, .inr (4, [.ref an, .ref tr, .ref ah, .int ch, .ref ak, .ref ai, .ref ap, .int sy, .ref af, .int sp])), (af, .inl (gI G, 121, .inl (fun q9 => nI (fdy q9)))), (tr, .inl (gI G, 2175, .inl (lok (lkk rt (mot f) j) (mot f + j))))] : va_W) = [(h, .inr (4, [.ref an, .ref tr, .ref ah, .int ch, .ref ak, .ref ai, .ref ap, .int sy, .ref af, .int sp])), (af, .inl (gI G, 121, .inl (fun q9 => nI (fdy q9)))), (tr, .inl (gI G, 2175, .inl (lkk rt (mot f) (j + 1))))] := (wlc (rfl) (wlc (rfl) (wlc (rfl) rfl)))
    have hPj := hP.sub (ws' := [(h, .inr (4, [.ref an, .ref tr, .ref ah, .int ch, .ref ak, .ref ai, .ref ap, .int sy, .ref af, .int sp])), (af, .inl (gI G, 121, .inl (fun q9 => nI (fdy q9)))), (tr, .inl (gI G, 2175, .inl (lok (lkk rt (mot f) j) (mot f + j))))]) [0, 1, 2] rfl
    have hDj := hD.sub (ws' := [(h, .inr (4, [.ref an, .ref tr, .ref ah, .int ch, .ref ak, .ref ai, .ref ap, .int sy, .ref af, .int sp])), (af, .inl (gI G, 121, .inl (fun q9 => nI (fdy q9)))), (tr, .inl (gI G, 2175, .inl (lok (lkk rt (mot f) j) (mot f + j))))]) [0, 1, 2] (by decide) rfl
    rw [w_1] at hPj hDj
    exact ih (j + 1) _ _ ls (by omega) ⟨(by omega), hPj, hDj, hS, lv_sub hl [0, 1, 2, 3] (lvc (by first | rfl | exact congrArg nI (by omega)) (lvr (lvr (lvr rfl))))⟩
set_option maxHeartbeats 4000000 in
set_option maxRecDepth 100000 in
theorem c_X4_workOf_k (l : Launch) (G : gT) (sz : Nat) (h : Nat) (an : Nat) (tr : Nat) (ah : Nat) (ch : Int32) (ak : Nat) (ai : Nat) (ap : Nat) (sy : Int32) (af : Nat) (sp : Int32) (r : Nat → Int32) (rt : Nat → Int32) (f : Nat) (t : Nat) (hB : Br r) (hft : f ≤ t) (ht : t < 3650) : Rw l G yX4_workOf cX4_workOf 4 (some .int) 9 sz [(h, .inr (4, [.ref an, .ref tr, .ref ah, .int ch, .ref ak, .ref ai, .ref ap, .int sy, .ref af, .int sp])), (af, .inl (gI G, 121, .inl (fun q9 => nI (fdy q9)))), (an, .inl (gI G, 2175, .inl r)), (tr, .inl (gI G, 2175, .inl rt))] [.ref h, .int (nI f), .int (nI t)] (lkk r (mot f) (mot t + 1 - mot f) 3 - r 3) [(h, .inr (4, [.ref an, .ref tr, .ref ah, .int ch, .ref ak, .ref ai, .ref ap, .int sy, .ref af, .int sp])), (af, .inl (gI G, 121, .inl (fun q9 => nI (fdy q9)))), (an, .inl (gI G, 2175, .inl r)), (tr, .inl (gI G, 2175, .inl (lkk r (mot f) (mot t + 1 - mot f))))] := by
  refine Rw.mk (by decide) (Nat.le_of_ble_eq_true rfl) (fun pq eq sq mq bq tq cq ls A hr hlk hF hKx hZ hA hP hD hS hl => ?_)
  have hx := hF.1
  have hb := hF.2.1
  have hml := hF.2.2.1
  have hown : sq.vm.findClass RX4 = some mq.cls := hF.2.2.2.1
  have hts : ∀ w ∈ GW, w.before _ sq = true := hF.2.2.2.2
  have hK := hKx.1
  have hl : lv_has ls 4 [(0, .ref h), (1, .int (nI f)), (2, .int (nI t))] := hl
  have hP : va_P G.1 vwCl [(h, .inr (4, [.ref an, .ref tr, .ref ah, .int ch, .ref ak, .ref ai, .ref ap, .int sy, .ref af, .int sp])), (af, .inl (gI G, 121, .inl (fun q9 => nI (fdy q9)))), (an, .inl (gI G, 2175, .inl r)), (tr, .inl (gI G, 2175, .inl rt))] sq.heap := hP
  have hD : va_D A [(h, .inr (4, [.ref an, .ref tr, .ref ah, .int ch, .ref ak, .ref ai, .ref ap, .int sy, .ref af, .int sp])), (af, .inl (gI G, 121, .inl (fun q9 => nI (fdy q9)))), (an, .inl (gI G, 2175, .inl r)), (tr, .inl (gI G, 2175, .inl rt))] := hD
  refine lv_iconst (v := nI 1) hx hb dX4_workOf_0 (by decide) ?_
  refine lv_cv (y := pI True) (pI_t' trivial) ?_
  refine lv_iload_n hx hb dX4_workOf_1 rfl (lv_at hl 1 rfl) ?_
  refine lv_iload_n hx hb dX4_workOf_2 rfl (lv_at hl 2 rfl) ?_
  refine k_roS (As := [.int (pI True), .int (nI f), .int (nI t)]) (rest := []) hF (c_X4_whyNotDays l G True (nI f) ((f : Nat) : Int) (nI t) ((t : Nat) : Int) (toI (by omega)) (toI (by omega))) mw_3_168 mw_3_169 mw_1_5 mw_3_170 hd_X4_whyNotDays ⟨Nat.le_of_ble_eq_true rfl, Nat.le_of_ble_eq_true rfl⟩ (Rd.of hKx hZ hS) (hP.sub (ws' := []) [] rfl) rfl hl.1 rfl (Nat.le_of_ble_eq_true rfl) dX4_workOf_3 ⟨Nat.zero_le _, Nat.zero_le _⟩ ?_
  refine lv_cv (y := nI 0) (eDy_0 trivial (by omega)) ?_
  refine lv_istore_n (lv' := [(3, .int (nI 0)), (0, .ref h), (1, .int (nI f)), (2, .int (nI t))]) hx hb dX4_workOf_6 rfl hl (by decide) rfl (fun ls hl => ?_)
  refine lv_iload_n hx hb dX4_workOf_7 rfl (lv_at hl 0 rfl) ?_
  refine z0_eq hx hb (tgt := 13) 0 dX4_workOf_8 (by decide) (by decide) (fun c_8 => ?_) (fun c_8 => ?_)
  · skip
    refine lv_aload_n hx hb dX4_workOf_13 rfl (lv_at hl 1 rfl) ?_
    refine va_get (ci := 4) (v := .ref an) (C := RX4) (T := TX4) (N := 10) hx hb hts inGX4 hown hK hP 0 rfl rfl 0 (by decide) (hts _ mw_3_54) (fun _ h9 => h9) rfl dX4_workOf_14 ?_
    refine lv_iconst (v := nI 0) hx hb dX4_workOf_17 (by decide) ?_
    refine lv_aload_n hx hb dX4_workOf_18 rfl (lv_at hl 1 rfl) ?_
    refine va_get (ci := 4) (v := .ref tr) (C := RX4) (T := TX4) (N := 10) hx hb hts inGX4 hown hK hP 0 rfl rfl 1 (by decide) (hts _ mw_3_55) (fun _ h9 => h9) rfl dX4_workOf_19 ?_
    refine lv_iconst (v := nI 0) hx hb dX4_workOf_22 (by decide) ?_
    refine k_rvS (As := [.ref an, .int (nI 0), .ref tr, .int (nI 0)]) (rest := []) (wr := [(h, .inr (4, [.ref an, .ref tr, .ref ah, .int ch, .ref ak, .ref ai, .ref ap, .int sy, .ref af, .int sp])), (af, .inl (gI G, 121, .inl (fun q9 => nI (fdy q9))))]) hF (c_X4_copyDiary l G _ an tr 2175 2175 r rt 0 0 (by omega) (by omega) (by omega) (by omega)) mw_3_99 mw_3_100 mw_1_5 mw_3_101 hd_X4_copyDiary ⟨Nat.le_of_ble_eq_true rfl, Nat.le_of_ble_eq_true rfl⟩ hKx hZ hS hP hD hA [2, 3] [0, 1] rfl rfl (by decide) (by decide) (by decide) rfl rfl hl.1 rfl (Nat.le_of_ble_eq_true rfl) dX4_workOf_23 ⟨Nat.zero_le _, Nat.zero_le _⟩ (fun H locs hP hD hS => ?_)
    have hP : va_P G.1 vwCl [(h, .inr (4, [.ref an, .ref tr, .ref ah, .int ch, .ref ak, .ref ai, .ref ap, .int sy, .ref af, .int sp])), (af, .inl (gI G, 121, .inl (fun q9 => nI (fdy q9)))), (an, .inl (gI G, 2175, .inl r)), (tr, .inl (gI G, 2175, .inl (va_cpy r rt 0 0 2175)))] H := hP
    have hD : va_D A [(h, .inr (4, [.ref an, .ref tr, .ref ah, .int ch, .ref ak, .ref ai, .ref ap, .int sy, .ref af, .int sp])), (af, .inl (gI G, 121, .inl (fun q9 => nI (fdy q9)))), (an, .inl (gI G, 2175, .inl r)), (tr, .inl (gI G, 2175, .inl (va_cpy r rt 0 0 2175)))] := hD
    obtain ⟨hP, hD⟩ := va_nrm hP hD 3 r rfl (fun k hk => by unfold va_cpy; rw [if_pos (by omega), Nat.zero_add, Nat.sub_zero])
    have hP : va_P G.1 vwCl [(h, .inr (4, [.ref an, .ref tr, .ref ah, .int ch, .ref ak, .ref ai, .ref ap, .int sy, .ref af, .int sp])), (af, .inl (gI G, 121, .inl (fun q9 => nI (fdy q9)))), (an, .inl (gI G, 2175, .inl r)), (tr, .inl (gI G, 2175, .inl r))] H := hP
    have hD : va_D A [(h, .inr (4, [.ref an, .ref tr, .ref ah, .int ch, .ref ak, .ref ai, .ref ap, .int sy, .ref af, .int sp])), (af, .inl (gI G, 121, .inl (fun q9 => nI (fdy q9)))), (an, .inl (gI G, 2175, .inl r)), (tr, .inl (gI G, 2175, .inl r))] := hD
    refine lv_aload_n hx hb dX4_workOf_26 rfl (lv_at hl 1 rfl) ?_
    refine lv_iload_n hx hb dX4_workOf_27 rfl (lv_at hl 2 rfl) ?_
    refine lv_iload_n hx hb dX4_workOf_28 rfl (lv_at hl 3 rfl) ?_
    refine k_rvV (ci := 4) (q0 := 0) (As := [.int (nI f), .int (nI t)]) (rest := []) (wr := [(an, .inl (gI G, 2175, .inl r))]) hF (c_X4_lookAll l G _ h an tr ah ch ak ai ap sy af sp r f t (by omega) (by omega) (by omega)) ⟨_, rfl, rfl⟩ rfl rfl mw_4_35 mw_4_37 mw_p2_4 mw_1_5 mw_4_38 hd_X4_lookAll ⟨Nat.le_of_ble_eq_true rfl, Nat.le_of_ble_eq_true rfl⟩ hKx hZ hS hP hD hA [0, 1, 3] [2] rfl rfl (by decide) (by decide) (by decide) rfl rfl hl.1 rfl (Nat.le_of_ble_eq_true rfl) dX4_workOf_29 ⟨Nat.zero_le _, Nat.zero_le _⟩ (fun H locs hP hD hS => ?_)
    have hP : va_P G.1 vwCl [(an, .inl (gI G, 2175, .inl r)), (h, .inr (4, [.ref an, .ref tr, .ref ah, .int ch, .ref ak, .ref ai, .ref ap, .int sy, .ref af, .int sp])), (af, .inl (gI G, 121, .inl (fun q9 => nI (fdy q9)))), (tr, .inl (gI G, 2175, .inl (lkk r (mot f) (mot t + 1 - mot f))))] H := hP
    have hD : va_D A [(an, .inl (gI G, 2175, .inl r)), (h, .inr (4, [.ref an, .ref tr, .ref ah, .int ch, .ref ak, .ref ai, .ref ap, .int sy, .ref af, .int sp])), (af, .inl (gI G, 121, .inl (fun q9 => nI (fdy q9)))), (tr, .inl (gI G, 2175, .inl (lkk r (mot f) (mot t + 1 - mot f))))] := hD
    refine lv_aload_n hx hb dX4_workOf_32 rfl (lv_at hl 1 rfl) ?_
    refine va_get (ci := 4) (v := .ref tr) (C := RX4) (T := TX4) (N := 10) hx hb hts inGX4 hown hK hP 1 rfl rfl 1 (by decide) (hts _ mw_3_55) (fun _ h9 => h9) rfl dX4_workOf_33 ?_
    refine lv_iconst (v := nI 3) hx hb dX4_workOf_36 (by decide) ?_
    refine n_iald hx hb hK hP 3 0 rfl rfl (by omega) (by omega) dX4_workOf_37 ?_
    refine lv_aload_n hx hb dX4_workOf_38 rfl (lv_at hl 1 rfl) ?_
    refine va_get (ci := 4) (v := .ref an) (C := RX4) (T := TX4) (N := 10) hx hb hts inGX4 hown hK hP 1 rfl rfl 0 (by decide) (hts _ mw_3_54) (fun _ h9 => h9) rfl dX4_workOf_39 ?_
    refine lv_iconst (v := nI 3) hx hb dX4_workOf_42 (by decide) ?_
    refine n_iald hx hb hK hP 0 0 rfl rfl (by omega) (by omega) dX4_workOf_43 ?_
    refine lv_isub hx hb dX4_workOf_44 ?_
    have hPj := hP.sub (ws' := [(h, .inr (4, [.ref an, .ref tr, .ref ah, .int ch, .ref ak, .ref ai, .ref ap, .int sy, .ref af, .int sp])), (af, .inl (gI G, 121, .inl (fun q9 => nI (fdy q9)))), (an, .inl (gI G, 2175, .inl r)), (tr, .inl (gI G, 2175, .inl (lkk r (mot f) (mot t + 1 - mot f))))]) [1, 2, 0, 3] rfl
    exact e_wi hx hb hr hlk hPj hS (rfl) dX4_workOf_45
  · skip
    exact absurd c_8 (by decide)
set_option maxHeartbeats 4000000 in
set_option maxRecDepth 100000 in
theorem c_X4_workOf_e (l : Launch) (G : gT) (h : Nat) (an : Nat) (tr : Nat) (ah : Nat) (ch : Int32) (ak : Nat) (ai : Nat) (ap : Nat) (sy : Int32) (af : Nat) (sp : Int32) (x : Int32) (F : Int) (y : Int32) (T : Int) (hF1 : x.toInt = F) (hT1 : y.toInt = T) (he : ¬ (eDy True F T).toInt = 0) : Ro l G yX4_workOf cX4_workOf 4 (some .int) 9 [] [.ref h, .int x, .int y] (eDy True F T) := by
  refine Ro.mk (by decide) (Nat.le_of_ble_eq_true rfl) (fun pq eq sq mq bq tq cq ls hr hlk hF hKx hZ hP hl => ?_)
  have hx := hF.1
  have hb := hF.2.1
  have hml := hF.2.2.1
  have hown : sq.vm.findClass RX4 = some mq.cls := hF.2.2.2.1
  have hts : ∀ w ∈ GW, w.before _ sq = true := hF.2.2.2.2
  have hK := hKx.1
  have hl : lv_has ls 4 [(0, .ref h), (1, .int x), (2, .int y)] := hl
  have hS : va_S (fun _ => False) sq.heap sq.heap [] := va_S.rf
  have hP : va_P G.1 vwCl [] sq.heap := hP
  refine lv_iconst (v := nI 1) hx hb dX4_workOf_0 (by decide) ?_
  refine lv_cv (y := pI True) (pI_t' trivial) ?_
  refine lv_iload_n hx hb dX4_workOf_1 rfl (lv_at hl 1 rfl) ?_
  refine lv_iload_n hx hb dX4_workOf_2 rfl (lv_at hl 2 rfl) ?_
  refine k_roS (As := [.int (pI True), .int x, .int y]) (rest := []) hF (c_X4_whyNotDays l G True x F y T hF1 hT1) mw_3_168 mw_3_169 mw_1_5 mw_3_170 hd_X4_whyNotDays ⟨Nat.le_of_ble_eq_true rfl, Nat.le_of_ble_eq_true rfl⟩ (Rd.of hKx hZ hS) (hP.sub (ws' := []) [] rfl) rfl hl.1 rfl (Nat.le_of_ble_eq_true rfl) dX4_workOf_3 ⟨Nat.zero_le _, Nat.zero_le _⟩ ?_
  refine lv_istore_n (lv' := [(3, .int (eDy True F T)), (0, .ref h), (1, .int x), (2, .int y)]) hx hb dX4_workOf_6 rfl hl (by decide) rfl (fun ls hl => ?_)
  refine lv_iload_n hx hb dX4_workOf_7 rfl (lv_at hl 0 rfl) ?_
  refine z0_eq hx hb (tgt := 13) ((eDy True F T).toInt) dX4_workOf_8 (by decide) rfl (fun c_8 => ?_) (fun c_8 => ?_)
  · skip
    exact absurd c_8 he
  · skip
    refine lv_iload_n hx hb dX4_workOf_11 rfl (lv_at hl 0 rfl) ?_
    exact e_ri hx hb hr hlk (rfl) dX4_workOf_12
set_option maxHeartbeats 4000000 in
set_option maxRecDepth 100000 in
theorem c_X4_bestOpen_k (l : Launch) (G : gT) (sz : Nat) (h : Nat) (an : Nat) (tr : Nat) (ah : Nat) (ch : Int32) (ak : Nat) (ai : Nat) (ap : Nat) (sy : Int32) (af : Nat) (sp : Int32) (r : Nat → Int32) (rt : Nat → Int32) (f : Nat) (t : Nat) (hB : Br r) (hft : f ≤ t) (ht : t < 3650) : Rw l G yX4_bestOpen cX4_bestOpen 9 (some .int) 9 sz [(h, .inr (4, [.ref an, .ref tr, .ref ah, .int ch, .ref ak, .ref ai, .ref ap, .int sy, .ref af, .int sp])), (af, .inl (gI G, 121, .inl (fun q9 => nI (fdy q9)))), (an, .inl (gI G, 2175, .inl r)), (tr, .inl (gI G, 2175, .inl rt))] [.ref h, .int (nI f), .int (nI t)] (nI (bob r f t 6)) [(h, .inr (4, [.ref an, .ref tr, .ref ah, .int ch, .ref ak, .ref ai, .ref ap, .int sy, .ref af, .int sp])), (af, .inl (gI G, 121, .inl (fun q9 => nI (fdy q9)))), (an, .inl (gI G, 2175, .inl r)), (tr, .inl (gI G, 2175, .inl (tbr r f t 6)))] := by
  refine Rw.mk (by decide) (Nat.le_of_ble_eq_true rfl) (fun pq eq sq mq bq tq cq ls A hr hlk hF hKx hZ hA hP hD hS hl => ?_)
  have hx := hF.1
  have hb := hF.2.1
  have hml := hF.2.2.1
  have hown : sq.vm.findClass RX4 = some mq.cls := hF.2.2.2.1
  have hts : ∀ w ∈ GW, w.before _ sq = true := hF.2.2.2.2
  have hK := hKx.1
  have hl : lv_has ls 9 [(0, .ref h), (1, .int (nI f)), (2, .int (nI t))] := hl
  have hP : va_P G.1 vwCl [(h, .inr (4, [.ref an, .ref tr, .ref ah, .int ch, .ref ak, .ref ai, .ref ap, .int sy, .ref af, .int sp])), (af, .inl (gI G, 121, .inl (fun q9 => nI (fdy q9)))), (an, .inl (gI G, 2175, .inl r)), (tr, .inl (gI G, 2175, .inl rt))] sq.heap := hP
  have hD : va_D A [(h, .inr (4, [.ref an, .ref tr, .ref ah, .int ch, .ref ak, .ref ai, .ref ap, .int sy, .ref af, .int sp])), (af, .inl (gI G, 121, .inl (fun q9 => nI (fdy q9)))), (an, .inl (gI G, 2175, .inl r)), (tr, .inl (gI G, 2175, .inl rt))] := hD
  have hmf := mot_mono ht hft
  have hmt := mot_row ht
  have hf : f < 3650 := by omega
  refine lv_iconst (v := nI 1) hx hb dX4_bestOpen_0 (by decide) ?_
  refine lv_cv (y := pI True) (pI_t' trivial) ?_
  refine lv_iload_n hx hb dX4_bestOpen_1 rfl (lv_at hl 1 rfl) ?_
  refine lv_iload_n hx hb dX4_bestOpen_2 rfl (lv_at hl 2 rfl) ?_
  refine k_roS (As := [.int (pI True), .int (nI f), .int (nI t)]) (rest := []) hF (c_X4_whyNotDays l G True (nI f) ((f : Nat) : Int) (nI t) ((t : Nat) : Int) (toI (by omega)) (toI (by omega))) mw_3_168 mw_3_169 mw_1_5 mw_3_170 hd_X4_whyNotDays ⟨Nat.le_of_ble_eq_true rfl, Nat.le_of_ble_eq_true rfl⟩ (Rd.of hKx hZ hS) (hP.sub (ws' := []) [] rfl) rfl hl.1 rfl (Nat.le_of_ble_eq_true rfl) dX4_bestOpen_3 ⟨Nat.zero_le _, Nat.zero_le _⟩ ?_
  refine lv_cv (y := nI 0) (eDy_0 trivial (by omega)) ?_
  refine lv_istore_n (lv' := [(3, .int (nI 0)), (0, .ref h), (1, .int (nI f)), (2, .int (nI t))]) hx hb dX4_bestOpen_6 rfl hl (by decide) rfl (fun ls hl => ?_)
  refine lv_iload_n hx hb dX4_bestOpen_7 rfl (lv_at hl 0 rfl) ?_
  refine z0_eq hx hb (tgt := 13) 0 dX4_bestOpen_8 (by decide) (by decide) (fun c_8 => ?_) (fun c_8 => ?_)
  · skip
    refine lv_bipush (v := (-6)) hx hb dX4_bestOpen_13 (by decide) ?_
    refine lv_istore (lv' := [(4, .int (-6)), (3, .int (nI 0)), (0, .ref h), (1, .int (nI f)), (2, .int (nI t))]) hx hb dX4_bestOpen_15 hl (by decide) rfl (fun ls hl => ?_)
    refine lv_iconst (v := nI 0) hx hb dX4_bestOpen_17 (by decide) ?_
    refine lv_istore (lv' := [(5, .int (nI 0)), (4, .int (-6)), (3, .int (nI 0)), (0, .ref h), (1, .int (nI f)), (2, .int (nI t))]) hx hb dX4_bestOpen_18 hl (by decide) rfl (fun ls hl => ?_)
    refine lv_iconst (v := nI 0) hx hb dX4_bestOpen_20 (by decide) ?_
    refine lv_istore (lv' := [(6, .int (nI 0)), (5, .int (nI 0)), (4, .int (-6)), (3, .int (nI 0)), (0, .ref h), (1, .int (nI f)), (2, .int (nI t))]) hx hb dX4_bestOpen_21 hl (by decide) rfl (fun ls hl => ?_)
    have hPj := hP.sub (ws' := [(h, .inr (4, [.ref an, .ref tr, .ref ah, .int ch, .ref ak, .ref ai, .ref ap, .int sy, .ref af, .int sp])), (af, .inl (gI G, 121, .inl (fun q9 => nI (fdy q9)))), (an, .inl (gI G, 2175, .inl r)), (tr, .inl (gI G, 2175, .inl rt))]) [0, 1, 2, 3] rfl
    have hDj := hD.sub (ws' := [(h, .inr (4, [.ref an, .ref tr, .ref ah, .int ch, .ref ak, .ref ai, .ref ap, .int sy, .ref af, .int sp])), (af, .inl (gI G, 121, .inl (fun q9 => nI (fdy q9)))), (an, .inl (gI G, 2175, .inl r)), (tr, .inl (gI G, 2175, .inl rt))]) [0, 1, 2, 3] (by decide) rfl
    have hwj : ([(h, .inr (4, [.ref an, .ref tr, .ref ah, .int ch, .ref ak, .ref ai, .ref ap, .int sy, .ref af, .int sp])), (af, .inl (gI G, 121, .inl (fun q9 => nI (fdy q9)))), (an, .inl (gI G, 2175, .inl r)), (tr, .inl (gI G, 2175, .inl rt))] : va_W) = [(h, .inr (4, [.ref an, .ref tr, .ref ah, .int ch, .ref ak, .ref ai, .ref ap, .int sy, .ref af, .int sp])), (af, .inl (gI G, 121, .inl (fun q9 => nI (fdy q9)))), (an, .inl (gI G, 2175, .inl r)), (tr, .inl (gI G, 2175, .inl (tbo r rt f t 0)))] := (wlc (rfl) (wlc (rfl) (wlc (rfl) (wlc (rfl) rfl))))
    rw [hwj] at hPj hDj
    refine wloopH [] (fun k H locs ls => (k ≤ 7) ∧ va_P G.1 vwCl [(h, .inr (4, [.ref an, .ref tr, .ref ah, .int ch, .ref ak, .ref ai, .ref ap, .int sy, .ref af, .int sp])), (af, .inl (gI G, 121, .inl (fun q9 => nI (fdy q9)))), (an, .inl (gI G, 2175, .inl r)), (tr, .inl (gI G, 2175, .inl (tbo r rt f t k)))] H ∧ va_D A [(h, .inr (4, [.ref an, .ref tr, .ref ah, .int ch, .ref ak, .ref ai, .ref ap, .int sy, .ref af, .int sp])), (af, .inl (gI G, 121, .inl (fun q9 => nI (fdy q9)))), (an, .inl (gI G, 2175, .inl r)), (tr, .inl (gI G, 2175, .inl (tbo r rt f t k)))] ∧ va_S A sq.heap H locs ∧ lv_has ls 9 [(6, .int (nI k)), (5, .int (ro2 r f t k)), (4, .int (ro1 r f t k)), (0, .ref h), (1, .int (nI f)), (2, .int (nI t))]) (fun k => 7 - k) ?_ 0 ⟨(by omega), hPj, hDj, hS, lv_sub hl [0, 1, 2, 4, 5, 6] rfl⟩
    intro k ih
    intro H locs ls ⟨hk, hP, hD, hS, hl⟩
    refine lv_iload hx hb dX4_bestOpen_23 (lv_at hl 0 rfl) ?_
    refine lv_bipush (v := nI 6) hx hb dX4_bestOpen_25 (by decide) ?_
    refine z_gt hx hb (tgt := 140) ((k : Nat) : Int) 6 dX4_bestOpen_27 (by decide) (toI (by omega)) (by decide) (fun c_27 => ?_) (fun c_27 => ?_)
    · skip
      have hk2 : k = 7 := by omega
      subst hk2
      refine lv_iload hx hb dX4_bestOpen_140 (lv_at hl 2 rfl) ?_
      refine lv_cv (y := nI (bob r f t 6)) (rfl) ?_
      have hPj := hP.sub (ws' := [(h, .inr (4, [.ref an, .ref tr, .ref ah, .int ch, .ref ak, .ref ai, .ref ap, .int sy, .ref af, .int sp])), (af, .inl (gI G, 121, .inl (fun q9 => nI (fdy q9)))), (an, .inl (gI G, 2175, .inl r)), (tr, .inl (gI G, 2175, .inl (tbo r rt f t 7)))]) [0, 1, 2, 3] rfl
      have hwj : ([(h, .inr (4, [.ref an, .ref tr, .ref ah, .int ch, .ref ak, .ref ai, .ref ap, .int sy, .ref af, .int sp])), (af, .inl (gI G, 121, .inl (fun q9 => nI (fdy q9)))), (an, .inl (gI G, 2175, .inl r)), (tr, .inl (gI G, 2175, .inl (tbo r rt f t 7)))] : va_W) = [(h, .inr (4, [.ref an, .ref tr, .ref ah, .int ch, .ref ak, .ref ai, .ref ap, .int sy, .ref af, .int sp])), (af, .inl (gI G, 121, .inl (fun q9 => nI (fdy q9)))), (an, .inl (gI G, 2175, .inl r)), (tr, .inl (gI G, 2175, .inl (tbr r f t 6)))] := (wlc (rfl) (wlc (rfl) (wlc (rfl) (wlc (rfl) rfl))))
      rw [hwj] at hPj
      exact e_wi hx hb hr hlk hPj hS (rfl) dX4_bestOpen_142
    · skip
      refine lv_aload_n hx hb dX4_bestOpen_30 rfl (lv_at hl 3 rfl) ?_
      refine va_get (ci := 4) (v := .ref an) (C := RX4) (T := TX4) (N := 10) hx hb hts inGX4 hown hK hP 0 rfl rfl 0 (by decide) (hts _ mw_3_54) (fun _ h9 => h9) rfl dX4_bestOpen_31 ?_
      refine lv_iconst (v := nI 0) hx hb dX4_bestOpen_34 (by decide) ?_
      refine lv_aload_n hx hb dX4_bestOpen_35 rfl (lv_at hl 3 rfl) ?_
      refine va_get (ci := 4) (v := .ref tr) (C := RX4) (T := TX4) (N := 10) hx hb hts inGX4 hown hK hP 0 rfl rfl 1 (by decide) (hts _ mw_3_55) (fun _ h9 => h9) rfl dX4_bestOpen_36 ?_
      refine lv_iconst (v := nI 0) hx hb dX4_bestOpen_39 (by decide) ?_
      refine k_rvS (As := [.ref an, .int (nI 0), .ref tr, .int (nI 0)]) (rest := []) (wr := [(h, .inr (4, [.ref an, .ref tr, .ref ah, .int ch, .ref ak, .ref ai, .ref ap, .int sy, .ref af, .int sp])), (af, .inl (gI G, 121, .inl (fun q9 => nI (fdy q9))))]) hF (c_X4_copyDiary l G _ an tr 2175 2175 r (tbo r rt f t k) 0 0 (by omega) (by omega) (by omega) (by omega)) mw_3_99 mw_3_100 mw_1_5 mw_3_101 hd_X4_copyDiary ⟨Nat.le_of_ble_eq_true rfl, Nat.le_of_ble_eq_true rfl⟩ hKx hZ hS hP hD hA [2, 3] [0, 1] rfl rfl (by decide) (by decide) (by decide) rfl rfl hl.1 rfl (Nat.le_of_ble_eq_true rfl) dX4_bestOpen_40 ⟨Nat.zero_le _, Nat.zero_le _⟩ (fun H locs hP hD hS => ?_)
      have hP : va_P G.1 vwCl [(h, .inr (4, [.ref an, .ref tr, .ref ah, .int ch, .ref ak, .ref ai, .ref ap, .int sy, .ref af, .int sp])), (af, .inl (gI G, 121, .inl (fun q9 => nI (fdy q9)))), (an, .inl (gI G, 2175, .inl r)), (tr, .inl (gI G, 2175, .inl (va_cpy r (tbo r rt f t k) 0 0 2175)))] H := hP
      have hD : va_D A [(h, .inr (4, [.ref an, .ref tr, .ref ah, .int ch, .ref ak, .ref ai, .ref ap, .int sy, .ref af, .int sp])), (af, .inl (gI G, 121, .inl (fun q9 => nI (fdy q9)))), (an, .inl (gI G, 2175, .inl r)), (tr, .inl (gI G, 2175, .inl (va_cpy r (tbo r rt f t k) 0 0 2175)))] := hD
      have hB2 : Bs (upd r 2 (nI k)) 8 := Bs_open (hB.b (by omega)) (by omega)
      have hB3 : Br (fga (upd r 2 (nI k))) := ⟨(Bs_fga hB2).1, (Bs_fga hB2).2.1⟩
      have hB4 := Br_lkk (a := mot f) hB3 (mot t + 1 - mot f) (by omega)
      have hro := ro_s (r := r) (f := f) (t := t) (k := k)
      obtain ⟨hP, hD⟩ := va_nrm hP hD 3 r rfl (fun k hk => by unfold va_cpy; rw [if_pos (by omega), Nat.zero_add, Nat.sub_zero])
      have hP : va_P G.1 vwCl [(h, .inr (4, [.ref an, .ref tr, .ref ah, .int ch, .ref ak, .ref ai, .ref ap, .int sy, .ref af, .int sp])), (af, .inl (gI G, 121, .inl (fun q9 => nI (fdy q9)))), (an, .inl (gI G, 2175, .inl r)), (tr, .inl (gI G, 2175, .inl r))] H := hP
      have hD : va_D A [(h, .inr (4, [.ref an, .ref tr, .ref ah, .int ch, .ref ak, .ref ai, .ref ap, .int sy, .ref af, .int sp])), (af, .inl (gI G, 121, .inl (fun q9 => nI (fdy q9)))), (an, .inl (gI G, 2175, .inl r)), (tr, .inl (gI G, 2175, .inl r))] := hD
      refine lv_aload_n hx hb dX4_bestOpen_43 rfl (lv_at hl 3 rfl) ?_
      refine va_get (ci := 4) (v := .ref tr) (C := RX4) (T := TX4) (N := 10) hx hb hts inGX4 hown hK hP 0 rfl rfl 1 (by decide) (hts _ mw_3_55) (fun _ h9 => h9) rfl dX4_bestOpen_44 ?_
      refine lv_iconst (v := nI 2) hx hb dX4_bestOpen_47 (by decide) ?_
      refine lv_iload hx hb dX4_bestOpen_48 (lv_at hl 0 rfl) ?_
      refine n_iast hx hb hK hP hD hS 3 0 rfl rfl (by omega) (by omega) dX4_bestOpen_50 (fun H locs hP hD hS => ?_)
      have hP : va_P G.1 vwCl [(h, .inr (4, [.ref an, .ref tr, .ref ah, .int ch, .ref ak, .ref ai, .ref ap, .int sy, .ref af, .int sp])), (af, .inl (gI G, 121, .inl (fun q9 => nI (fdy q9)))), (an, .inl (gI G, 2175, .inl r)), (tr, .inl (gI G, 2175, .inl (upd r 2 (nI k))))] H := hP
      have hD : va_D A [(h, .inr (4, [.ref an, .ref tr, .ref ah, .int ch, .ref ak, .ref ai, .ref ap, .int sy, .ref af, .int sp])), (af, .inl (gI G, 121, .inl (fun q9 => nI (fdy q9)))), (an, .inl (gI G, 2175, .inl r)), (tr, .inl (gI G, 2175, .inl (upd r 2 (nI k))))] := hD
      refine lv_aload_n hx hb dX4_bestOpen_51 rfl (lv_at hl 3 rfl) ?_
      refine va_get (ci := 4) (v := .ref tr) (C := RX4) (T := TX4) (N := 10) hx hb hts inGX4 hown hK hP 0 rfl rfl 1 (by decide) (hts _ mw_3_55) (fun _ h9 => h9) rfl dX4_bestOpen_52 ?_
      refine k_rvS (As := [.ref tr]) (rest := []) (wr := [(h, .inr (4, [.ref an, .ref tr, .ref ah, .int ch, .ref ak, .ref ai, .ref ap, .int sy, .ref af, .int sp])), (af, .inl (gI G, 121, .inl (fun q9 => nI (fdy q9)))), (an, .inl (gI G, 2175, .inl r))]) hF (c_X4_foldAgain l G _ tr (upd r 2 (nI k)) (hB2)) mw_3_102 mw_3_103 mw_1_5 mw_3_104 hd_X4_foldAgain ⟨Nat.le_of_ble_eq_true rfl, Nat.le_of_ble_eq_true rfl⟩ hKx hZ hS hP hD hA [3] [0, 1, 2] rfl rfl (by decide) (by decide) (by decide) rfl rfl hl.1 rfl (Nat.le_of_ble_eq_true rfl) dX4_bestOpen_55 ⟨Nat.zero_le _, Nat.zero_le _⟩ (fun H locs hP hD hS => ?_)
      have hP : va_P G.1 vwCl [(h, .inr (4, [.ref an, .ref tr, .ref ah, .int ch, .ref ak, .ref ai, .ref ap, .int sy, .ref af, .int sp])), (af, .inl (gI G, 121, .inl (fun q9 => nI (fdy q9)))), (an, .inl (gI G, 2175, .inl r)), (tr, .inl (gI G, 2175, .inl (fga (upd r 2 (nI k)))))] H := hP
      have hD : va_D A [(h, .inr (4, [.ref an, .ref tr, .ref ah, .int ch, .ref ak, .ref ai, .ref ap, .int sy, .ref af, .int sp])), (af, .inl (gI G, 121, .inl (fun q9 => nI (fdy q9)))), (an, .inl (gI G, 2175, .inl r)), (tr, .inl (gI G, 2175, .inl (fga (upd r 2 (nI k)))))] := hD
      refine lv_aload_n hx hb dX4_bestOpen_58 rfl (lv_at hl 3 rfl) ?_
      refine lv_iload_n hx hb dX4_bestOpen_59 rfl (lv_at hl 4 rfl) ?_
      refine lv_iload_n hx hb dX4_bestOpen_60 rfl (lv_at hl 5 rfl) ?_
      refine k_rvV (ci := 4) (q0 := 0) (As := [.int (nI f), .int (nI t)]) (rest := []) (wr := [(an, .inl (gI G, 2175, .inl r))]) hF (c_X4_lookAll l G _ h an tr ah ch ak ai ap sy af sp (fga (upd r 2 (nI k))) f t (hB3) (by omega) (by omega)) ⟨_, rfl, rfl⟩ rfl rfl mw_4_35 mw_4_37 mw_p2_4 mw_1_5 mw_4_38 hd_X4_lookAll ⟨Nat.le_of_ble_eq_true rfl, Nat.le_of_ble_eq_true rfl⟩ hKx hZ hS hP hD hA [0, 1, 3] [2] rfl rfl (by decide) (by decide) (by decide) rfl rfl hl.1 rfl (Nat.le_of_ble_eq_true rfl) dX4_bestOpen_61 ⟨Nat.zero_le _, Nat.zero_le _⟩ (fun H locs hP hD hS => ?_)
      have hP : va_P G.1 vwCl [(an, .inl (gI G, 2175, .inl r)), (h, .inr (4, [.ref an, .ref tr, .ref ah, .int ch, .ref ak, .ref ai, .ref ap, .int sy, .ref af, .int sp])), (af, .inl (gI G, 121, .inl (fun q9 => nI (fdy q9)))), (tr, .inl (gI G, 2175, .inl (lkk (fga (upd r 2 (nI k))) (mot f) (mot t + 1 - mot f))))] H := hP
      have hD : va_D A [(an, .inl (gI G, 2175, .inl r)), (h, .inr (4, [.ref an, .ref tr, .ref ah, .int ch, .ref ak, .ref ai, .ref ap, .int sy, .ref af, .int sp])), (af, .inl (gI G, 121, .inl (fun q9 => nI (fdy q9)))), (tr, .inl (gI G, 2175, .inl (lkk (fga (upd r 2 (nI k))) (mot f) (mot t + 1 - mot f))))] := hD
      refine lv_aload_n hx hb dX4_bestOpen_64 rfl (lv_at hl 3 rfl) ?_
      refine lv_iload_n hx hb dX4_bestOpen_65 rfl (lv_at hl 4 rfl) ?_
      refine lv_iload_n hx hb dX4_bestOpen_66 rfl (lv_at hl 5 rfl) ?_
      refine k_rvV (ci := 4) (q0 := 1) (As := [.int (nI f), .int (nI t)]) (rest := []) (wr := [(an, .inl (gI G, 2175, .inl r))]) hF (c_X4_lookAll l G _ h an tr ah ch ak ai ap sy af sp (lkk (fga (upd r 2 (nI k))) (mot f) (mot t + 1 - mot f)) f t (hB4) (by omega) (by omega)) ⟨_, rfl, rfl⟩ rfl rfl mw_4_35 mw_4_37 mw_p2_4 mw_1_5 mw_4_38 hd_X4_lookAll ⟨Nat.le_of_ble_eq_true rfl, Nat.le_of_ble_eq_true rfl⟩ hKx hZ hS hP hD hA [1, 2, 3] [0] rfl rfl (by decide) (by decide) (by decide) rfl rfl hl.1 rfl (Nat.le_of_ble_eq_true rfl) dX4_bestOpen_67 ⟨Nat.zero_le _, Nat.zero_le _⟩ (fun H locs hP hD hS => ?_)
      have hP : va_P G.1 vwCl [(an, .inl (gI G, 2175, .inl r)), (h, .inr (4, [.ref an, .ref tr, .ref ah, .int ch, .ref ak, .ref ai, .ref ap, .int sy, .ref af, .int sp])), (af, .inl (gI G, 121, .inl (fun q9 => nI (fdy q9)))), (tr, .inl (gI G, 2175, .inl (lkk (lkk (fga (upd r 2 (nI k))) (mot f) (mot t + 1 - mot f)) (mot f) (mot t + 1 - mot f))))] H := hP
      have hD : va_D A [(an, .inl (gI G, 2175, .inl r)), (h, .inr (4, [.ref an, .ref tr, .ref ah, .int ch, .ref ak, .ref ai, .ref ap, .int sy, .ref af, .int sp])), (af, .inl (gI G, 121, .inl (fun q9 => nI (fdy q9)))), (tr, .inl (gI G, 2175, .inl (lkk (lkk (fga (upd r 2 (nI k))) (mot f) (mot t + 1 - mot f)) (mot f) (mot t + 1 - mot f))))] := hD
      have hw_1 : ([(an, .inl (gI G, 2175, .inl r)), (h, .inr (4, [.ref an, .ref tr, .ref ah, .int ch, .ref ak, .ref ai, .ref ap, .int sy, .ref af, .int sp])), (af, .inl (gI G, 121, .inl (fun q9 => nI (fdy q9)))), (tr, .inl (gI G, 2175, .inl (lkk (lkk (fga (upd r 2 (nI k))) (mot f) (mot t + 1 - mot f)) (mot f) (mot t + 1 - mot f))))] : va_W) = [(an, .inl (gI G, 2175, .inl r)), (h, .inr (4, [.ref an, .ref tr, .ref ah, .int ch, .ref ak, .ref ai, .ref ap, .int sy, .ref af, .int sp])), (af, .inl (gI G, 121, .inl (fun q9 => nI (fdy q9)))), (tr, .inl (gI G, 2175, .inl (tbr r f t k)))] := (wlc rfl (wlc rfl (wlc rfl (wlc (wli (rfl)) rfl))))
      rw [hw_1] at hP hD
      refine lv_aload_n hx hb dX4_bestOpen_70 rfl (lv_at hl 3 rfl) ?_
      refine va_get (ci := 4) (v := .ref tr) (C := RX4) (T := TX4) (N := 10) hx hb hts inGX4 hown hK hP 1 rfl rfl 1 (by decide) (hts _ mw_3_55) (fun _ h9 => h9) rfl dX4_bestOpen_71 ?_
      refine lv_iconst (v := nI 3) hx hb dX4_bestOpen_74 (by decide) ?_
      refine n_iald hx hb hK hP 3 0 rfl rfl (by omega) (by omega) dX4_bestOpen_75 ?_
      refine lv_aload_n hx hb dX4_bestOpen_76 rfl (lv_at hl 3 rfl) ?_
      refine va_get (ci := 4) (v := .ref an) (C := RX4) (T := TX4) (N := 10) hx hb hts inGX4 hown hK hP 1 rfl rfl 0 (by decide) (hts _ mw_3_54) (fun _ h9 => h9) rfl dX4_bestOpen_77 ?_
      refine lv_iconst (v := nI 3) hx hb dX4_bestOpen_80 (by decide) ?_
      refine n_iald hx hb hK hP 0 0 rfl rfl (by omega) (by omega) dX4_bestOpen_81 ?_
      refine lv_isub hx hb dX4_bestOpen_82 ?_
      refine lv_cv (y := bwk r f t k) (rfl) ?_
      refine lv_istore (lv' := [(7, .int (bwk r f t k)), (6, .int (nI k)), (5, .int (ro2 r f t k)), (4, .int (ro1 r f t k)), (0, .ref h), (1, .int (nI f)), (2, .int (nI t))]) hx hb dX4_bestOpen_83 hl (by decide) rfl (fun ls hl => ?_)
      refine lv_iload hx hb dX4_bestOpen_85 (lv_at hl 3 rfl) ?_
      refine lv_bipush (v := (-6)) hx hb dX4_bestOpen_87 (by decide) ?_
      refine z_eq hx hb (tgt := 99) ((ro1 r f t k).toInt) (-6) dX4_bestOpen_89 (by decide) rfl (by decide) (fun c_89 => ?_) (fun c_89 => ?_)
      · skip
        refine lv_iconst (v := nI 1) hx hb dX4_bestOpen_99 (by decide) ?_
        refine lv_goto (tgt := 104) hx hb dX4_bestOpen_100 (by decide) ?_
        refine lv_istore (lv' := [(8, .int (nI 1)), (7, .int (bwk r f t k)), (6, .int (nI k)), (5, .int (ro2 r f t k)), (4, .int (ro1 r f t k)), (0, .ref h), (1, .int (nI f)), (2, .int (nI t))]) hx hb dX4_bestOpen_104 hl (by decide) rfl (fun ls hl => ?_)
        refine lv_iload hx hb dX4_bestOpen_106 (lv_at hl 0 rfl) ?_
        refine z0_eq hx hb (tgt := 116) 1 dX4_bestOpen_108 (by decide) (by decide) (fun c_108 => ?_) (fun c_108 => ?_)
        · skip
          exact absurd c_108 (by decide)
        · skip
          refine lv_iload hx hb dX4_bestOpen_111 (lv_at hl 2 rfl) ?_
          refine lv_goto (tgt := 118) hx hb dX4_bestOpen_113 (by decide) ?_
          refine lv_istore (lv' := [(4, .int (nI k)), (8, .int (nI 1)), (7, .int (bwk r f t k)), (6, .int (nI k)), (5, .int (ro2 r f t k)), (0, .ref h), (1, .int (nI f)), (2, .int (nI t))]) hx hb dX4_bestOpen_118 hl (by decide) rfl (fun ls hl => ?_)
          refine lv_iload hx hb dX4_bestOpen_120 (lv_at hl 1 rfl) ?_
          refine z0_eq hx hb (tgt := 130) 1 dX4_bestOpen_122 (by decide) (by decide) (fun c_122 => ?_) (fun c_122 => ?_)
          · skip
            exact absurd c_122 (by decide)
          · skip
            refine lv_iload hx hb dX4_bestOpen_125 (lv_at hl 2 rfl) ?_
            refine lv_goto (tgt := 132) hx hb dX4_bestOpen_127 (by decide) ?_
            refine lv_istore (lv' := [(5, .int (bwk r f t k)), (4, .int (nI k)), (8, .int (nI 1)), (7, .int (bwk r f t k)), (6, .int (nI k)), (0, .ref h), (1, .int (nI f)), (2, .int (nI t))]) hx hb dX4_bestOpen_132 hl (by decide) rfl (fun ls hl => ?_)
            refine lv_iinc (v := nI (k + 1)) (lv' := [(6, .int (nI (k + 1))), (5, .int (bwk r f t k)), (4, .int (nI k)), (8, .int (nI 1)), (7, .int (bwk r f t k)), (0, .ref h), (1, .int (nI f)), (2, .int (nI t))]) hx hb dX4_bestOpen_134 hl (k := 4) rfl (nI_add _ _) (by decide) rfl (fun ls hl => ?_)
            refine lv_goto (tgt := 23) hx hb dX4_bestOpen_137 (by decide) ?_
            have w_2 : ([(h, .inr (4, [.ref an, .ref tr, .ref ah, .int ch, .ref ak, .ref ai, .ref ap, .int sy, .ref af, .int sp])), (af, .inl (gI G, 121, .inl (fun q9 => nI (fdy q9)))), (an, .inl (gI G, 2175, .inl r)), (tr, .inl (gI G, 2175, .inl (tbr r f t k)))] : va_W) = [(h, .inr (4, [.ref an, .ref tr, .ref ah, .int ch, .ref ak, .ref ai, .ref ap, .int sy, .ref af, .int sp])), (af, .inl (gI G, 121, .inl (fun q9 => nI (fdy q9)))), (an, .inl (gI G, 2175, .inl r)), (tr, .inl (gI G, 2175, .inl (tbo r rt f t (k + 1))))] := (wlc (rfl) (wlc (rfl) (wlc (rfl) (wlc (rfl) rfl))))
            have hPj := hP.sub (ws' := [(h, .inr (4, [.ref an, .ref tr, .ref ah, .int ch, .ref ak, .ref ai, .ref ap, .int sy, .ref af, .int sp])), (af, .inl (gI G, 121, .inl (fun q9 => nI (fdy q9)))), (an, .inl (gI G, 2175, .inl r)), (tr, .inl (gI G, 2175, .inl (tbr r f t k)))]) [1, 2, 0, 3] rfl
            have hDj := hD.sub (ws' := [(h, .inr (4, [.ref an, .ref tr, .ref ah, .int ch, .ref ak, .ref ai, .ref ap, .int sy, .ref af, .int sp])), (af, .inl (gI G, 121, .inl (fun q9 => nI (fdy q9)))), (an, .inl (gI G, 2175, .inl r)), (tr, .inl (gI G, 2175, .inl (tbr r f t k)))]) [1, 2, 0, 3] (by decide) rfl
            rw [w_2] at hPj hDj
            exact ih (k + 1) _ _ ls (by omega) ⟨(by omega), hPj, hDj, hS, lv_sub hl [0, 1, 2, 5, 6, 7] (lvr (lvc (by first | exact (hro.1 (by omega) (by omega)).2.symm | exact (hro.2 (by omega)).2.symm) (lvc (by first | exact (hro.1 (by omega) (by omega)).1.symm | exact (hro.2 (by omega)).1.symm) (lvr (lvr (lvr rfl))))))⟩
      · skip
        refine lv_iload hx hb dX4_bestOpen_92 (lv_at hl 0 rfl) ?_
        refine lv_iload hx hb dX4_bestOpen_94 (lv_at hl 2 rfl) ?_
        refine z_ge hx hb (tgt := 103) ((bwk r f t k).toInt) ((ro2 r f t k).toInt) dX4_bestOpen_96 (by decide) rfl rfl (fun c_96 => ?_) (fun c_96 => ?_)
        · skip
          refine lv_iconst (v := nI 0) hx hb dX4_bestOpen_103 (by decide) ?_
          refine lv_istore (lv' := [(8, .int (nI 0)), (7, .int (bwk r f t k)), (6, .int (nI k)), (5, .int (ro2 r f t k)), (4, .int (ro1 r f t k)), (0, .ref h), (1, .int (nI f)), (2, .int (nI t))]) hx hb dX4_bestOpen_104 hl (by decide) rfl (fun ls hl => ?_)
          refine lv_iload hx hb dX4_bestOpen_106 (lv_at hl 0 rfl) ?_
          refine z0_eq hx hb (tgt := 116) 0 dX4_bestOpen_108 (by decide) (by decide) (fun c_108 => ?_) (fun c_108 => ?_)
          · skip
            refine lv_iload hx hb dX4_bestOpen_116 (lv_at hl 4 rfl) ?_
            refine lv_istore (lv' := [(4, .int (ro1 r f t k)), (8, .int (nI 0)), (7, .int (bwk r f t k)), (6, .int (nI k)), (5, .int (ro2 r f t k)), (0, .ref h), (1, .int (nI f)), (2, .int (nI t))]) hx hb dX4_bestOpen_118 hl (by decide) rfl (fun ls hl => ?_)
            refine lv_iload hx hb dX4_bestOpen_120 (lv_at hl 1 rfl) ?_
            refine z0_eq hx hb (tgt := 130) 0 dX4_bestOpen_122 (by decide) (by decide) (fun c_122 => ?_) (fun c_122 => ?_)
            · skip
              refine lv_iload hx hb dX4_bestOpen_130 (lv_at hl 4 rfl) ?_
              refine lv_istore (lv' := [(5, .int (ro2 r f t k)), (4, .int (ro1 r f t k)), (8, .int (nI 0)), (7, .int (bwk r f t k)), (6, .int (nI k)), (0, .ref h), (1, .int (nI f)), (2, .int (nI t))]) hx hb dX4_bestOpen_132 hl (by decide) rfl (fun ls hl => ?_)
              refine lv_iinc (v := nI (k + 1)) (lv' := [(6, .int (nI (k + 1))), (5, .int (ro2 r f t k)), (4, .int (ro1 r f t k)), (8, .int (nI 0)), (7, .int (bwk r f t k)), (0, .ref h), (1, .int (nI f)), (2, .int (nI t))]) hx hb dX4_bestOpen_134 hl (k := 4) rfl (nI_add _ _) (by decide) rfl (fun ls hl => ?_)
              refine lv_goto (tgt := 23) hx hb dX4_bestOpen_137 (by decide) ?_
              have w_3 : ([(h, .inr (4, [.ref an, .ref tr, .ref ah, .int ch, .ref ak, .ref ai, .ref ap, .int sy, .ref af, .int sp])), (af, .inl (gI G, 121, .inl (fun q9 => nI (fdy q9)))), (an, .inl (gI G, 2175, .inl r)), (tr, .inl (gI G, 2175, .inl (tbr r f t k)))] : va_W) = [(h, .inr (4, [.ref an, .ref tr, .ref ah, .int ch, .ref ak, .ref ai, .ref ap, .int sy, .ref af, .int sp])), (af, .inl (gI G, 121, .inl (fun q9 => nI (fdy q9)))), (an, .inl (gI G, 2175, .inl r)), (tr, .inl (gI G, 2175, .inl (tbo r rt f t (k + 1))))] := (wlc (rfl) (wlc (rfl) (wlc (rfl) (wlc (rfl) rfl))))
              have hPj := hP.sub (ws' := [(h, .inr (4, [.ref an, .ref tr, .ref ah, .int ch, .ref ak, .ref ai, .ref ap, .int sy, .ref af, .int sp])), (af, .inl (gI G, 121, .inl (fun q9 => nI (fdy q9)))), (an, .inl (gI G, 2175, .inl r)), (tr, .inl (gI G, 2175, .inl (tbr r f t k)))]) [1, 2, 0, 3] rfl
              have hDj := hD.sub (ws' := [(h, .inr (4, [.ref an, .ref tr, .ref ah, .int ch, .ref ak, .ref ai, .ref ap, .int sy, .ref af, .int sp])), (af, .inl (gI G, 121, .inl (fun q9 => nI (fdy q9)))), (an, .inl (gI G, 2175, .inl r)), (tr, .inl (gI G, 2175, .inl (tbr r f t k)))]) [1, 2, 0, 3] (by decide) rfl
              rw [w_3] at hPj hDj
              exact ih (k + 1) _ _ ls (by omega) ⟨(by omega), hPj, hDj, hS, lv_sub hl [0, 1, 2, 5, 6, 7] (lvr (lvc (by first | exact (hro.1 (by omega) (by omega)).2.symm | exact (hro.2 (by omega)).2.symm) (lvc (by first | exact (hro.1 (by omega) (by omega)).1.symm | exact (hro.2 (by omega)).1.symm) (lvr (lvr (lvr rfl))))))⟩
            · skip
              exact absurd c_122 (by decide)
          · skip
            exact absurd c_108 (by decide)
        · skip
          refine lv_iconst (v := nI 1) hx hb dX4_bestOpen_99 (by decide) ?_
          refine lv_goto (tgt := 104) hx hb dX4_bestOpen_100 (by decide) ?_
          refine lv_istore (lv' := [(8, .int (nI 1)), (7, .int (bwk r f t k)), (6, .int (nI k)), (5, .int (ro2 r f t k)), (4, .int (ro1 r f t k)), (0, .ref h), (1, .int (nI f)), (2, .int (nI t))]) hx hb dX4_bestOpen_104 hl (by decide) rfl (fun ls hl => ?_)
          refine lv_iload hx hb dX4_bestOpen_106 (lv_at hl 0 rfl) ?_
          refine z0_eq hx hb (tgt := 116) 1 dX4_bestOpen_108 (by decide) (by decide) (fun c_108 => ?_) (fun c_108 => ?_)
          · skip
            exact absurd c_108 (by decide)
          · skip
            refine lv_iload hx hb dX4_bestOpen_111 (lv_at hl 2 rfl) ?_
            refine lv_goto (tgt := 118) hx hb dX4_bestOpen_113 (by decide) ?_
            refine lv_istore (lv' := [(4, .int (nI k)), (8, .int (nI 1)), (7, .int (bwk r f t k)), (6, .int (nI k)), (5, .int (ro2 r f t k)), (0, .ref h), (1, .int (nI f)), (2, .int (nI t))]) hx hb dX4_bestOpen_118 hl (by decide) rfl (fun ls hl => ?_)
            refine lv_iload hx hb dX4_bestOpen_120 (lv_at hl 1 rfl) ?_
            refine z0_eq hx hb (tgt := 130) 1 dX4_bestOpen_122 (by decide) (by decide) (fun c_122 => ?_) (fun c_122 => ?_)
            · skip
              exact absurd c_122 (by decide)
            · skip
              refine lv_iload hx hb dX4_bestOpen_125 (lv_at hl 2 rfl) ?_
              refine lv_goto (tgt := 132) hx hb dX4_bestOpen_127 (by decide) ?_
              refine lv_istore (lv' := [(5, .int (bwk r f t k)), (4, .int (nI k)), (8, .int (nI 1)), (7, .int (bwk r f t k)), (6, .int (nI k)), (0, .ref h), (1, .int (nI f)), (2, .int (nI t))]) hx hb dX4_bestOpen_132 hl (by decide) rfl (fun ls hl => ?_)
              refine lv_iinc (v := nI (k + 1)) (lv' := [(6, .int (nI (k + 1))), (5, .int (bwk r f t k)), (4, .int (nI k)), (8, .int (nI 1)), (7, .int (bwk r f t k)), (0, .ref h), (1, .int (nI f)), (2, .int (nI t))]) hx hb dX4_bestOpen_134 hl (k := 4) rfl (nI_add _ _) (by decide) rfl (fun ls hl => ?_)
              refine lv_goto (tgt := 23) hx hb dX4_bestOpen_137 (by decide) ?_
              have w_4 : ([(h, .inr (4, [.ref an, .ref tr, .ref ah, .int ch, .ref ak, .ref ai, .ref ap, .int sy, .ref af, .int sp])), (af, .inl (gI G, 121, .inl (fun q9 => nI (fdy q9)))), (an, .inl (gI G, 2175, .inl r)), (tr, .inl (gI G, 2175, .inl (tbr r f t k)))] : va_W) = [(h, .inr (4, [.ref an, .ref tr, .ref ah, .int ch, .ref ak, .ref ai, .ref ap, .int sy, .ref af, .int sp])), (af, .inl (gI G, 121, .inl (fun q9 => nI (fdy q9)))), (an, .inl (gI G, 2175, .inl r)), (tr, .inl (gI G, 2175, .inl (tbo r rt f t (k + 1))))] := (wlc (rfl) (wlc (rfl) (wlc (rfl) (wlc (rfl) rfl))))
              have hPj := hP.sub (ws' := [(h, .inr (4, [.ref an, .ref tr, .ref ah, .int ch, .ref ak, .ref ai, .ref ap, .int sy, .ref af, .int sp])), (af, .inl (gI G, 121, .inl (fun q9 => nI (fdy q9)))), (an, .inl (gI G, 2175, .inl r)), (tr, .inl (gI G, 2175, .inl (tbr r f t k)))]) [1, 2, 0, 3] rfl
              have hDj := hD.sub (ws' := [(h, .inr (4, [.ref an, .ref tr, .ref ah, .int ch, .ref ak, .ref ai, .ref ap, .int sy, .ref af, .int sp])), (af, .inl (gI G, 121, .inl (fun q9 => nI (fdy q9)))), (an, .inl (gI G, 2175, .inl r)), (tr, .inl (gI G, 2175, .inl (tbr r f t k)))]) [1, 2, 0, 3] (by decide) rfl
              rw [w_4] at hPj hDj
              exact ih (k + 1) _ _ ls (by omega) ⟨(by omega), hPj, hDj, hS, lv_sub hl [0, 1, 2, 5, 6, 7] (lvr (lvc (by first | exact (hro.1 (by omega) (by omega)).2.symm | exact (hro.2 (by omega)).2.symm) (lvc (by first | exact (hro.1 (by omega) (by omega)).1.symm | exact (hro.2 (by omega)).1.symm) (lvr (lvr (lvr rfl))))))⟩
  · skip
    exact absurd c_8 (by decide)
set_option maxHeartbeats 4000000 in
set_option maxRecDepth 100000 in
theorem c_X4_bestOpen_e (l : Launch) (G : gT) (h : Nat) (an : Nat) (tr : Nat) (ah : Nat) (ch : Int32) (ak : Nat) (ai : Nat) (ap : Nat) (sy : Int32) (af : Nat) (sp : Int32) (x : Int32) (F : Int) (y : Int32) (T : Int) (hF1 : x.toInt = F) (hT1 : y.toInt = T) (he : ¬ (eDy True F T).toInt = 0) : Ro l G yX4_bestOpen cX4_bestOpen 9 (some .int) 9 [] [.ref h, .int x, .int y] (eDy True F T) := by
  refine Ro.mk (by decide) (Nat.le_of_ble_eq_true rfl) (fun pq eq sq mq bq tq cq ls hr hlk hF hKx hZ hP hl => ?_)
  have hx := hF.1
  have hb := hF.2.1
  have hml := hF.2.2.1
  have hown : sq.vm.findClass RX4 = some mq.cls := hF.2.2.2.1
  have hts : ∀ w ∈ GW, w.before _ sq = true := hF.2.2.2.2
  have hK := hKx.1
  have hl : lv_has ls 9 [(0, .ref h), (1, .int x), (2, .int y)] := hl
  have hS : va_S (fun _ => False) sq.heap sq.heap [] := va_S.rf
  have hP : va_P G.1 vwCl [] sq.heap := hP
  refine lv_iconst (v := nI 1) hx hb dX4_bestOpen_0 (by decide) ?_
  refine lv_cv (y := pI True) (pI_t' trivial) ?_
  refine lv_iload_n hx hb dX4_bestOpen_1 rfl (lv_at hl 1 rfl) ?_
  refine lv_iload_n hx hb dX4_bestOpen_2 rfl (lv_at hl 2 rfl) ?_
  refine k_roS (As := [.int (pI True), .int x, .int y]) (rest := []) hF (c_X4_whyNotDays l G True x F y T hF1 hT1) mw_3_168 mw_3_169 mw_1_5 mw_3_170 hd_X4_whyNotDays ⟨Nat.le_of_ble_eq_true rfl, Nat.le_of_ble_eq_true rfl⟩ (Rd.of hKx hZ hS) (hP.sub (ws' := []) [] rfl) rfl hl.1 rfl (Nat.le_of_ble_eq_true rfl) dX4_bestOpen_3 ⟨Nat.zero_le _, Nat.zero_le _⟩ ?_
  refine lv_istore_n (lv' := [(3, .int (eDy True F T)), (0, .ref h), (1, .int x), (2, .int y)]) hx hb dX4_bestOpen_6 rfl hl (by decide) rfl (fun ls hl => ?_)
  refine lv_iload_n hx hb dX4_bestOpen_7 rfl (lv_at hl 0 rfl) ?_
  refine z0_eq hx hb (tgt := 13) ((eDy True F T).toInt) dX4_bestOpen_8 (by decide) rfl (fun c_8 => ?_) (fun c_8 => ?_)
  · skip
    exact absurd c_8 he
  · skip
    refine lv_iload_n hx hb dX4_bestOpen_11 rfl (lv_at hl 0 rfl) ?_
    exact e_ri hx hb hr hlk (rfl) dX4_bestOpen_12
set_option maxHeartbeats 4000000 in
set_option maxRecDepth 100000 in
theorem c_X4_undo_k (l : Launch) (G : gT) (sz : Nat) (h : Nat) (an : Nat) (tr : Nat) (ah : Nat) (c : Nat) (ak : Nat) (ai : Nat) (ap : Nat) (sy : Int32) (af : Nat) (sp : Int32) (r : Nat → Int32) (hh : Nat → Int32) (hc : c ≤ 6) (hc1 : 1 ≤ c) : Rw l G yX4_undo cX4_undo 1 (some .int) 2 sz [(h, .inr (4, [.ref an, .ref tr, .ref ah, .int (nI c), .ref ak, .ref ai, .ref ap, .int sy, .ref af, .int sp])), (an, .inl (gI G, 2175, .inl r)), (ah, .inl (gI G, 13050, .inl hh))] [.ref h] (nI (c - 1)) [(h, .inr (4, [.ref an, .ref tr, .ref ah, .int (nI (c - 1)), .ref ak, .ref ai, .ref ap, .int sy, .ref af, .int sp])), (an, .inl (gI G, 2175, .inl (fun q9 => hh (2175 * (c - 1) + q9)))), (ah, .inl (gI G, 13050, .inl hh))] := by
  refine Rw.mk (by decide) (Nat.le_of_ble_eq_true rfl) (fun pq eq sq mq bq tq cq ls A hr hlk hF hKx hZ hA hP hD hS hl => ?_)
  have hx := hF.1
  have hb := hF.2.1
  have hml := hF.2.2.1
  have hown : sq.vm.findClass RX4 = some mq.cls := hF.2.2.2.1
  have hts : ∀ w ∈ GW, w.before _ sq = true := hF.2.2.2.2
  have hK := hKx.1
  have hl : lv_has ls 1 [(0, .ref h)] := hl
  have hP : va_P G.1 vwCl [(h, .inr (4, [.ref an, .ref tr, .ref ah, .int (nI c), .ref ak, .ref ai, .ref ap, .int sy, .ref af, .int sp])), (an, .inl (gI G, 2175, .inl r)), (ah, .inl (gI G, 13050, .inl hh))] sq.heap := hP
  have hD : va_D A [(h, .inr (4, [.ref an, .ref tr, .ref ah, .int (nI c), .ref ak, .ref ai, .ref ap, .int sy, .ref af, .int sp])), (an, .inl (gI G, 2175, .inl r)), (ah, .inl (gI G, 13050, .inl hh))] := hD
  refine lv_aload_n hx hb dX4_undo_0 rfl (lv_at hl 0 rfl) ?_
  refine va_get (ci := 4) (v := .int (nI c)) (C := RX4) (T := TX4) (N := 10) hx hb hts inGX4 hown hK hP 0 rfl rfl 3 (by decide) (hts _ mw_3_57) (fun _ h9 => h9) rfl dX4_undo_1 ?_
  refine z0_ne hx hb (tgt := 10) ((c : Nat) : Int) dX4_undo_4 (by decide) (toI (by omega)) (fun c_4 => ?_) (fun c_4 => ?_)
  · skip
    refine lv_aload_n hx hb dX4_undo_10 rfl (lv_at hl 0 rfl) ?_
    refine lv_dup hx hb dX4_undo_11 rfl ?_
    refine va_get (ci := 4) (v := .int (nI c)) (C := RX4) (T := TX4) (N := 10) hx hb hts inGX4 hown hK hP 0 rfl rfl 3 (by decide) (hts _ mw_3_57) (fun _ h9 => h9) rfl dX4_undo_12 ?_
    refine lv_iconst (v := nI 1) hx hb dX4_undo_15 (by decide) ?_
    refine n_isub hx hb (by omega) dX4_undo_16 ?_
    refine va_put (ci := 4) (v := .int (nI (c - 1))) (ty := .int) (C := RX4) (T := TX4) (N := 10) hx hb hts inGX4 tyX4 tyX4_ok nmX4 hown hK hP hD hS 0 rfl rfl 3 (by decide) (hts _ mw_3_57) (fun _ h9 => h9) rfl (by decide +kernel) rfl rfl (Nat.le_of_ble_eq_true rfl) dX4_undo_17 (fun H locs hP hD hS => ?_)
    have hP : va_P G.1 vwCl [(h, .inr (4, [.ref an, .ref tr, .ref ah, .int (nI (c - 1)), .ref ak, .ref ai, .ref ap, .int sy, .ref af, .int sp])), (an, .inl (gI G, 2175, .inl r)), (ah, .inl (gI G, 13050, .inl hh))] H := hP
    have hD : va_D A [(h, .inr (4, [.ref an, .ref tr, .ref ah, .int (nI (c - 1)), .ref ak, .ref ai, .ref ap, .int sy, .ref af, .int sp])), (an, .inl (gI G, 2175, .inl r)), (ah, .inl (gI G, 13050, .inl hh))] := hD
    refine lv_aload_n hx hb dX4_undo_20 rfl (lv_at hl 0 rfl) ?_
    refine va_get (ci := 4) (v := .ref ah) (C := RX4) (T := TX4) (N := 10) hx hb hts inGX4 hown hK hP 0 rfl rfl 2 (by decide) (hts _ mw_3_56) (fun _ h9 => h9) rfl dX4_undo_21 ?_
    refine lv_sipush (v := nI 2175) hx hb dX4_undo_24 (by decide) ?_
    refine lv_aload_n hx hb dX4_undo_27 rfl (lv_at hl 0 rfl) ?_
    refine va_get (ci := 4) (v := .int (nI (c - 1))) (C := RX4) (T := TX4) (N := 10) hx hb hts inGX4 hown hK hP 0 rfl rfl 3 (by decide) (hts _ mw_3_57) (fun _ h9 => h9) rfl dX4_undo_28 ?_
    refine n_imul hx hb dX4_undo_31 ?_
    refine lv_aload_n hx hb dX4_undo_32 rfl (lv_at hl 0 rfl) ?_
    refine va_get (ci := 4) (v := .ref an) (C := RX4) (T := TX4) (N := 10) hx hb hts inGX4 hown hK hP 0 rfl rfl 0 (by decide) (hts _ mw_3_54) (fun _ h9 => h9) rfl dX4_undo_33 ?_
    refine lv_iconst (v := nI 0) hx hb dX4_undo_36 (by decide) ?_
    refine k_rvS (As := [.ref ah, .int (nI (2175 * (c - 1))), .ref an, .int (nI 0)]) (rest := []) (wr := [(h, .inr (4, [.ref an, .ref tr, .ref ah, .int (nI (c - 1)), .ref ak, .ref ai, .ref ap, .int sy, .ref af, .int sp]))]) hF (c_X4_copyDiary l G _ ah an 13050 2175 hh r (2175 * (c - 1)) 0 (by omega) (by omega) (by omega) (by omega)) mw_3_99 mw_3_100 mw_1_5 mw_3_101 hd_X4_copyDiary ⟨Nat.le_of_ble_eq_true rfl, Nat.le_of_ble_eq_true rfl⟩ hKx hZ hS hP hD hA [2, 1] [0] rfl rfl (by decide) (by decide) (by decide) rfl rfl hl.1 rfl (Nat.le_of_ble_eq_true rfl) dX4_undo_37 ⟨Nat.zero_le _, Nat.zero_le _⟩ (fun H locs hP hD hS => ?_)
    have hP : va_P G.1 vwCl [(h, .inr (4, [.ref an, .ref tr, .ref ah, .int (nI (c - 1)), .ref ak, .ref ai, .ref ap, .int sy, .ref af, .int sp])), (ah, .inl (gI G, 13050, .inl hh)), (an, .inl (gI G, 2175, .inl (va_cpy hh r (2175 * (c - 1)) 0 2175)))] H := hP
    have hD : va_D A [(h, .inr (4, [.ref an, .ref tr, .ref ah, .int (nI (c - 1)), .ref ak, .ref ai, .ref ap, .int sy, .ref af, .int sp])), (ah, .inl (gI G, 13050, .inl hh)), (an, .inl (gI G, 2175, .inl (va_cpy hh r (2175 * (c - 1)) 0 2175)))] := hD
    obtain ⟨hP, hD⟩ := va_nrm hP hD 2 (fun q9 => hh (2175 * (c - 1) + q9)) rfl (fun k hk => by unfold va_cpy; rw [if_pos (by omega), Nat.sub_zero])
    have hP : va_P G.1 vwCl [(h, .inr (4, [.ref an, .ref tr, .ref ah, .int (nI (c - 1)), .ref ak, .ref ai, .ref ap, .int sy, .ref af, .int sp])), (ah, .inl (gI G, 13050, .inl hh)), (an, .inl (gI G, 2175, .inl (fun q9 => hh (2175 * (c - 1) + q9))))] H := hP
    have hD : va_D A [(h, .inr (4, [.ref an, .ref tr, .ref ah, .int (nI (c - 1)), .ref ak, .ref ai, .ref ap, .int sy, .ref af, .int sp])), (ah, .inl (gI G, 13050, .inl hh)), (an, .inl (gI G, 2175, .inl (fun q9 => hh (2175 * (c - 1) + q9))))] := hD
    refine lv_aload_n hx hb dX4_undo_40 rfl (lv_at hl 0 rfl) ?_
    refine va_get (ci := 4) (v := .int (nI (c - 1))) (C := RX4) (T := TX4) (N := 10) hx hb hts inGX4 hown hK hP 0 rfl rfl 3 (by decide) (hts _ mw_3_57) (fun _ h9 => h9) rfl dX4_undo_41 ?_
    have hPj := hP.sub (ws' := [(h, .inr (4, [.ref an, .ref tr, .ref ah, .int (nI (c - 1)), .ref ak, .ref ai, .ref ap, .int sy, .ref af, .int sp])), (an, .inl (gI G, 2175, .inl (fun q9 => hh (2175 * (c - 1) + q9)))), (ah, .inl (gI G, 13050, .inl hh))]) [0, 2, 1] rfl
    exact e_wi hx hb hr hlk hPj hS (rfl) dX4_undo_44
  · skip
    exact absurd c_4 (by omega)
set_option maxHeartbeats 4000000 in
set_option maxRecDepth 100000 in
theorem c_X4_undo_e (l : Launch) (G : gT) (h : Nat) (an : Nat) (tr : Nat) (ah : Nat) (c : Nat) (ak : Nat) (ai : Nat) (ap : Nat) (sy : Int32) (af : Nat) (sp : Int32) (hc : c = 0) : Ro l G yX4_undo cX4_undo 1 (some .int) 2 [(h, .inr (4, [.ref an, .ref tr, .ref ah, .int (nI c), .ref ak, .ref ai, .ref ap, .int sy, .ref af, .int sp]))] [.ref h] (-5) := by
  refine Ro.mk (by decide) (Nat.le_of_ble_eq_true rfl) (fun pq eq sq mq bq tq cq ls hr hlk hF hKx hZ hP hl => ?_)
  have hx := hF.1
  have hb := hF.2.1
  have hml := hF.2.2.1
  have hown : sq.vm.findClass RX4 = some mq.cls := hF.2.2.2.1
  have hts : ∀ w ∈ GW, w.before _ sq = true := hF.2.2.2.2
  have hK := hKx.1
  have hl : lv_has ls 1 [(0, .ref h)] := hl
  have hS : va_S (fun _ => False) sq.heap sq.heap [] := va_S.rf
  have hP : va_P G.1 vwCl [(h, .inr (4, [.ref an, .ref tr, .ref ah, .int (nI c), .ref ak, .ref ai, .ref ap, .int sy, .ref af, .int sp]))] sq.heap := hP
  refine lv_aload_n hx hb dX4_undo_0 rfl (lv_at hl 0 rfl) ?_
  refine va_get (ci := 4) (v := .int (nI c)) (C := RX4) (T := TX4) (N := 10) hx hb hts inGX4 hown hK hP 0 rfl rfl 3 (by decide) (hts _ mw_3_57) (fun _ h9 => h9) rfl dX4_undo_1 ?_
  refine z0_ne hx hb (tgt := 10) ((c : Nat) : Int) dX4_undo_4 (by decide) (toI (by omega)) (fun c_4 => ?_) (fun c_4 => ?_)
  · skip
    exact absurd c_4 (by omega)
  · skip
    refine lv_bipush (v := (-5)) hx hb dX4_undo_7 (by decide) ?_
    exact e_ri hx hb hr hlk (rfl) dX4_undo_9
set_option maxHeartbeats 4000000 in
set_option maxRecDepth 100000 in
theorem c_X4_save_k (l : Launch) (G : gT) (sz : Nat) (h : Nat) (an : Nat) (tr : Nat) (ah : Nat) (ch : Int32) (ak : Nat) (ai : Nat) (ap : Nat) (sy : Int32) (af : Nat) (sp : Int32) (r : Nat → Int32) (kk : Nat → Int32) (ik : Nat → Int32) (v : Nat) (hv : v ≤ 1) : Rw l G yX4_save cX4_save 2 (some .int) 2 sz [(h, .inr (4, [.ref an, .ref tr, .ref ah, .int ch, .ref ak, .ref ai, .ref ap, .int sy, .ref af, .int sp])), (an, .inl (gI G, 2175, .inl r)), (ak, .inl (gI G, 4350, .inl kk)), (ai, .inl (gZ G, 2, .inl ik))] [.ref h, .int (nI v)] (r 0) [(h, .inr (4, [.ref an, .ref tr, .ref ah, .int ch, .ref ak, .ref ai, .ref ap, .int sy, .ref af, .int sp])), (an, .inl (gI G, 2175, .inl r)), (ak, .inl (gI G, 4350, .inl (va_cpy r kk 0 (2175 * v) 2175))), (ai, .inl (gZ G, 2, .inl (upd ik v (nI 1))))] := by
  refine Rw.mk (by decide) (Nat.le_of_ble_eq_true rfl) (fun pq eq sq mq bq tq cq ls A hr hlk hF hKx hZ hA hP hD hS hl => ?_)
  have hx := hF.1
  have hb := hF.2.1
  have hml := hF.2.2.1
  have hown : sq.vm.findClass RX4 = some mq.cls := hF.2.2.2.1
  have hts : ∀ w ∈ GW, w.before _ sq = true := hF.2.2.2.2
  have hK := hKx.1
  have hl : lv_has ls 2 [(0, .ref h), (1, .int (nI v))] := hl
  have hP : va_P G.1 vwCl [(h, .inr (4, [.ref an, .ref tr, .ref ah, .int ch, .ref ak, .ref ai, .ref ap, .int sy, .ref af, .int sp])), (an, .inl (gI G, 2175, .inl r)), (ak, .inl (gI G, 4350, .inl kk)), (ai, .inl (gZ G, 2, .inl ik))] sq.heap := hP
  have hD : va_D A [(h, .inr (4, [.ref an, .ref tr, .ref ah, .int ch, .ref ak, .ref ai, .ref ap, .int sy, .ref af, .int sp])), (an, .inl (gI G, 2175, .inl r)), (ak, .inl (gI G, 4350, .inl kk)), (ai, .inl (gZ G, 2, .inl ik))] := hD
  refine lv_iload_n hx hb dX4_save_0 rfl (lv_at hl 1 rfl) ?_
  refine lv_i2l (v := (nI v).toInt64) hx hb dX4_save_1 rfl ?_
  refine lv_lconst (v := 0) hx hb dX4_save_2 (by decide) ?_
  refine lv_lconst (v := 1) hx hb dX4_save_3 (by decide) ?_
  refine k_roS (As := [.long ((nI v).toInt64), .long 0, .long 1]) (rest := []) hF (c_X4_in l G ((nI v).toInt64) 0 1 ((v : Nat) : Int) 0 1 (l64 (toI (by omega))) (by decide) (by decide)) mw_3_91 mw_3_92 mw_1_5 mw_3_93 hd_X4_in ⟨Nat.le_of_ble_eq_true rfl, Nat.le_of_ble_eq_true rfl⟩ (Rd.of hKx hZ hS) (hP.sub (ws' := []) [] rfl) rfl hl.1 rfl (Nat.le_of_ble_eq_true rfl) dX4_save_4 ⟨Nat.zero_le _, Nat.zero_le _⟩ ?_
  refine p0_ne hx hb (tgt := 13) dX4_save_7 (by decide) (fun c_7 => ?_) (fun c_7 => ?_)
  · skip
    refine lv_aload_n hx hb dX4_save_13 rfl (lv_at hl 0 rfl) ?_
    refine va_get (ci := 4) (v := .ref an) (C := RX4) (T := TX4) (N := 10) hx hb hts inGX4 hown hK hP 0 rfl rfl 0 (by decide) (hts _ mw_3_54) (fun _ h9 => h9) rfl dX4_save_14 ?_
    refine lv_iconst (v := nI 0) hx hb dX4_save_17 (by decide) ?_
    refine lv_aload_n hx hb dX4_save_18 rfl (lv_at hl 0 rfl) ?_
    refine va_get (ci := 4) (v := .ref ak) (C := RX4) (T := TX4) (N := 10) hx hb hts inGX4 hown hK hP 0 rfl rfl 4 (by decide) (hts _ mw_3_58) (fun _ h9 => h9) rfl dX4_save_19 ?_
    refine lv_sipush (v := nI 2175) hx hb dX4_save_22 (by decide) ?_
    refine lv_iload_n hx hb dX4_save_25 rfl (lv_at hl 1 rfl) ?_
    refine n_imul hx hb dX4_save_26 ?_
    refine k_rvS (As := [.ref an, .int (nI 0), .ref ak, .int (nI (2175 * v))]) (rest := []) (wr := [(h, .inr (4, [.ref an, .ref tr, .ref ah, .int ch, .ref ak, .ref ai, .ref ap, .int sy, .ref af, .int sp])), (ai, .inl (gZ G, 2, .inl ik))]) hF (c_X4_copyDiary l G _ an ak 2175 4350 r kk 0 (2175 * v) (by omega) (by omega) (by omega) (by omega)) mw_3_99 mw_3_100 mw_1_5 mw_3_101 hd_X4_copyDiary ⟨Nat.le_of_ble_eq_true rfl, Nat.le_of_ble_eq_true rfl⟩ hKx hZ hS hP hD hA [1, 2] [0, 3] rfl rfl (by decide) (by decide) (by decide) rfl rfl hl.1 rfl (Nat.le_of_ble_eq_true rfl) dX4_save_27 ⟨Nat.zero_le _, Nat.zero_le _⟩ (fun H locs hP hD hS => ?_)
    have hP : va_P G.1 vwCl [(h, .inr (4, [.ref an, .ref tr, .ref ah, .int ch, .ref ak, .ref ai, .ref ap, .int sy, .ref af, .int sp])), (ai, .inl (gZ G, 2, .inl ik)), (an, .inl (gI G, 2175, .inl r)), (ak, .inl (gI G, 4350, .inl (va_cpy r kk 0 (2175 * v) 2175)))] H := hP
    have hD : va_D A [(h, .inr (4, [.ref an, .ref tr, .ref ah, .int ch, .ref ak, .ref ai, .ref ap, .int sy, .ref af, .int sp])), (ai, .inl (gZ G, 2, .inl ik)), (an, .inl (gI G, 2175, .inl r)), (ak, .inl (gI G, 4350, .inl (va_cpy r kk 0 (2175 * v) 2175)))] := hD
    refine lv_aload_n hx hb dX4_save_30 rfl (lv_at hl 0 rfl) ?_
    refine va_get (ci := 4) (v := .ref ai) (C := RX4) (T := TX4) (N := 10) hx hb hts inGX4 hown hK hP 0 rfl rfl 5 (by decide) (hts _ mw_3_59) (fun _ h9 => h9) rfl dX4_save_31 ?_
    refine lv_iload_n hx hb dX4_save_34 rfl (lv_at hl 1 rfl) ?_
    refine lv_iconst (v := nI 1) hx hb dX4_save_35 (by decide) ?_
    refine n_zast hx hb hK hP hD hS 1 2 rfl rfl (by omega) (by omega) nz_1 dX4_save_36 (fun H locs hP hD hS => ?_)
    have hP : va_P G.1 vwCl [(h, .inr (4, [.ref an, .ref tr, .ref ah, .int ch, .ref ak, .ref ai, .ref ap, .int sy, .ref af, .int sp])), (ai, .inl (gZ G, 2, .inl (upd ik v (nI 1)))), (an, .inl (gI G, 2175, .inl r)), (ak, .inl (gI G, 4350, .inl (va_cpy r kk 0 (2175 * v) 2175)))] H := hP
    have hD : va_D A [(h, .inr (4, [.ref an, .ref tr, .ref ah, .int ch, .ref ak, .ref ai, .ref ap, .int sy, .ref af, .int sp])), (ai, .inl (gZ G, 2, .inl (upd ik v (nI 1)))), (an, .inl (gI G, 2175, .inl r)), (ak, .inl (gI G, 4350, .inl (va_cpy r kk 0 (2175 * v) 2175)))] := hD
    refine lv_aload_n hx hb dX4_save_37 rfl (lv_at hl 0 rfl) ?_
    refine va_get (ci := 4) (v := .ref an) (C := RX4) (T := TX4) (N := 10) hx hb hts inGX4 hown hK hP 0 rfl rfl 0 (by decide) (hts _ mw_3_54) (fun _ h9 => h9) rfl dX4_save_38 ?_
    refine lv_iconst (v := nI 0) hx hb dX4_save_41 (by decide) ?_
    refine n_iald hx hb hK hP 2 0 rfl rfl (by omega) (by omega) dX4_save_42 ?_
    have hPj := hP.sub (ws' := [(h, .inr (4, [.ref an, .ref tr, .ref ah, .int ch, .ref ak, .ref ai, .ref ap, .int sy, .ref af, .int sp])), (an, .inl (gI G, 2175, .inl r)), (ak, .inl (gI G, 4350, .inl (va_cpy r kk 0 (2175 * v) 2175))), (ai, .inl (gZ G, 2, .inl (upd ik v (nI 1))))]) [0, 2, 3, 1] rfl
    exact e_wi hx hb hr hlk hPj hS (rfl) dX4_save_43
  · skip
    exact absurd c_7 (by omega)
set_option maxHeartbeats 4000000 in
set_option maxRecDepth 100000 in
theorem c_X4_save_e (l : Launch) (G : gT) (h : Nat) (an : Nat) (tr : Nat) (ah : Nat) (ch : Int32) (ak : Nat) (ai : Nat) (ap : Nat) (sy : Int32) (af : Nat) (sp : Int32) (w : Int32) (S0 : Int) (hw1 : w.toInt = S0) (he : ¬ (0 ≤ S0 ∧ S0 ≤ 1)) : Ro l G yX4_save cX4_save 2 (some .int) 9 [] [.ref h, .int w] (-2) := by
  refine Ro.mk (by decide) (Nat.le_of_ble_eq_true rfl) (fun pq eq sq mq bq tq cq ls hr hlk hF hKx hZ hP hl => ?_)
  have hx := hF.1
  have hb := hF.2.1
  have hml := hF.2.2.1
  have hown : sq.vm.findClass RX4 = some mq.cls := hF.2.2.2.1
  have hts : ∀ w ∈ GW, w.before _ sq = true := hF.2.2.2.2
  have hK := hKx.1
  have hl : lv_has ls 2 [(0, .ref h), (1, .int w)] := hl
  have hS : va_S (fun _ => False) sq.heap sq.heap [] := va_S.rf
  have hP : va_P G.1 vwCl [] sq.heap := hP
  refine lv_iload_n hx hb dX4_save_0 rfl (lv_at hl 1 rfl) ?_
  refine lv_i2l (v := w.toInt64) hx hb dX4_save_1 rfl ?_
  refine lv_lconst (v := 0) hx hb dX4_save_2 (by decide) ?_
  refine lv_lconst (v := 1) hx hb dX4_save_3 (by decide) ?_
  refine k_roS (As := [.long w.toInt64, .long 0, .long 1]) (rest := []) hF (c_X4_in l G w.toInt64 0 1 S0 0 1 (l64 hw1) (by decide) (by decide)) mw_3_91 mw_3_92 mw_1_5 mw_3_93 hd_X4_in ⟨Nat.le_of_ble_eq_true rfl, Nat.le_of_ble_eq_true rfl⟩ (Rd.of hKx hZ hS) (hP.sub (ws' := []) [] rfl) rfl hl.1 rfl (Nat.le_of_ble_eq_true rfl) dX4_save_4 ⟨Nat.zero_le _, Nat.zero_le _⟩ ?_
  refine p0_ne hx hb (tgt := 13) dX4_save_7 (by decide) (fun c_7 => ?_) (fun c_7 => ?_)
  · skip
    exact absurd c_7 (by omega)
  · skip
    refine lv_bipush (v := (-2)) hx hb dX4_save_10 (by decide) ?_
    exact e_ri hx hb hr hlk (rfl) dX4_save_12
set_option maxHeartbeats 4000000 in
set_option maxRecDepth 100000 in
theorem c_X4_restore_k (l : Launch) (G : gT) (sz : Nat) (h : Nat) (an : Nat) (tr : Nat) (ah : Nat) (c : Nat) (ak : Nat) (ai : Nat) (ap : Nat) (sy : Int32) (af : Nat) (sp : Int32) (r : Nat → Int32) (hh : Nat → Int32) (kk : Nat → Int32) (ik : Nat → Int32) (v : Nat) (hc : c ≤ 6) (hv : v ≤ 1) (hi : ¬ (ik v).toInt = 0) : Rw l G yX4_restore cX4_restore 2 (some .int) 2 sz [(h, .inr (4, [.ref an, .ref tr, .ref ah, .int (nI c), .ref ak, .ref ai, .ref ap, .int sy, .ref af, .int sp])), (an, .inl (gI G, 2175, .inl r)), (ah, .inl (gI G, 13050, .inl hh)), (ak, .inl (gI G, 4350, .inl kk)), (ai, .inl (gZ G, 2, .inl ik))] [.ref h, .int (nI v)] (kk (2175 * v + 0)) [(h, .inr (4, [.ref an, .ref tr, .ref ah, .int (nI (rch c + 1)), .ref ak, .ref ai, .ref ap, .int sy, .ref af, .int sp])), (an, .inl (gI G, 2175, .inl (fun q9 => kk (2175 * v + q9)))), (ah, .inl (gI G, 13050, .inl (va_cpy r (rhh c hh) 0 (2175 * rch c) 2175))), (ak, .inl (gI G, 4350, .inl kk)), (ai, .inl (gZ G, 2, .inl ik))] := by
  refine Rw.mk (by decide) (Nat.le_of_ble_eq_true rfl) (fun pq eq sq mq bq tq cq ls A hr hlk hF hKx hZ hA hP hD hS hl => ?_)
  have hx := hF.1
  have hb := hF.2.1
  have hml := hF.2.2.1
  have hown : sq.vm.findClass RX4 = some mq.cls := hF.2.2.2.1
  have hts : ∀ w ∈ GW, w.before _ sq = true := hF.2.2.2.2
  have hK := hKx.1
  have hl : lv_has ls 2 [(0, .ref h), (1, .int (nI v))] := hl
  have hP : va_P G.1 vwCl [(h, .inr (4, [.ref an, .ref tr, .ref ah, .int (nI c), .ref ak, .ref ai, .ref ap, .int sy, .ref af, .int sp])), (an, .inl (gI G, 2175, .inl r)), (ah, .inl (gI G, 13050, .inl hh)), (ak, .inl (gI G, 4350, .inl kk)), (ai, .inl (gZ G, 2, .inl ik))] sq.heap := hP
  have hD : va_D A [(h, .inr (4, [.ref an, .ref tr, .ref ah, .int (nI c), .ref ak, .ref ai, .ref ap, .int sy, .ref af, .int sp])), (an, .inl (gI G, 2175, .inl r)), (ah, .inl (gI G, 13050, .inl hh)), (ak, .inl (gI G, 4350, .inl kk)), (ai, .inl (gZ G, 2, .inl ik))] := hD
  refine lv_iload_n hx hb dX4_restore_0 rfl (lv_at hl 1 rfl) ?_
  refine lv_i2l (v := (nI v).toInt64) hx hb dX4_restore_1 rfl ?_
  refine lv_lconst (v := 0) hx hb dX4_restore_2 (by decide) ?_
  refine lv_lconst (v := 1) hx hb dX4_restore_3 (by decide) ?_
  refine k_roS (As := [.long ((nI v).toInt64), .long 0, .long 1]) (rest := []) hF (c_X4_in l G ((nI v).toInt64) 0 1 ((v : Nat) : Int) 0 1 (l64 (toI (by omega))) (by decide) (by decide)) mw_3_91 mw_3_92 mw_1_5 mw_3_93 hd_X4_in ⟨Nat.le_of_ble_eq_true rfl, Nat.le_of_ble_eq_true rfl⟩ (Rd.of hKx hZ hS) (hP.sub (ws' := []) [] rfl) rfl hl.1 rfl (Nat.le_of_ble_eq_true rfl) dX4_restore_4 ⟨Nat.zero_le _, Nat.zero_le _⟩ ?_
  refine p0_ne hx hb (tgt := 13) dX4_restore_7 (by decide) (fun c_7 => ?_) (fun c_7 => ?_)
  · skip
    refine lv_aload_n hx hb dX4_restore_13 rfl (lv_at hl 0 rfl) ?_
    refine va_get (ci := 4) (v := .ref ai) (C := RX4) (T := TX4) (N := 10) hx hb hts inGX4 hown hK hP 0 rfl rfl 5 (by decide) (hts _ mw_3_59) (fun _ h9 => h9) rfl dX4_restore_14 ?_
    refine lv_iload_n hx hb dX4_restore_17 rfl (lv_at hl 1 rfl) ?_
    refine n_zald hx hb hK hP 4 2 rfl rfl (by omega) (by omega) dX4_restore_18 ?_
    refine z0_ne hx hb (tgt := 25) ((ik v).toInt) dX4_restore_19 (by decide) rfl (fun c_19 => ?_) (fun c_19 => ?_)
    · skip
      refine lv_aload_n hx hb dX4_restore_25 rfl (lv_at hl 0 rfl) ?_
      refine k_rvV (ci := 4) (q0 := 0) (As := []) (rest := []) (wr := [(ak, .inl (gI G, 4350, .inl kk)), (ai, .inl (gZ G, 2, .inl ik))]) hF (c_X4_record l G _ h an tr ah c ak ai ap sy af sp r hh (by omega)) ⟨_, rfl, rfl⟩ rfl rfl mw_3_95 mw_3_97 mw_p1_8 mw_1_5 mw_3_98 hd_X4_record ⟨Nat.le_of_ble_eq_true rfl, Nat.le_of_ble_eq_true rfl⟩ hKx hZ hS hP hD hA [0, 1, 2] [3, 4] rfl rfl (by decide) (by decide) (by decide) rfl rfl hl.1 rfl (Nat.le_of_ble_eq_true rfl) dX4_restore_26 ⟨Nat.zero_le _, Nat.zero_le _⟩ (fun H locs hP hD hS => ?_)
      have hP : va_P G.1 vwCl [(ak, .inl (gI G, 4350, .inl kk)), (ai, .inl (gZ G, 2, .inl ik)), (h, .inr (4, [.ref an, .ref tr, .ref ah, .int (nI (rch c + 1)), .ref ak, .ref ai, .ref ap, .int sy, .ref af, .int sp])), (an, .inl (gI G, 2175, .inl r)), (ah, .inl (gI G, 13050, .inl (va_cpy r (rhh c hh) 0 (2175 * rch c) 2175)))] H := hP
      have hD : va_D A [(ak, .inl (gI G, 4350, .inl kk)), (ai, .inl (gZ G, 2, .inl ik)), (h, .inr (4, [.ref an, .ref tr, .ref ah, .int (nI (rch c + 1)), .ref ak, .ref ai, .ref ap, .int sy, .ref af, .int sp])), (an, .inl (gI G, 2175, .inl r)), (ah, .inl (gI G, 13050, .inl (va_cpy r (rhh c hh) 0 (2175 * rch c) 2175)))] := hD
      refine lv_aload_n hx hb dX4_restore_29 rfl (lv_at hl 0 rfl) ?_
      refine va_get (ci := 4) (v := .ref ak) (C := RX4) (T := TX4) (N := 10) hx hb hts inGX4 hown hK hP 2 rfl rfl 4 (by decide) (hts _ mw_3_58) (fun _ h9 => h9) rfl dX4_restore_30 ?_
      refine lv_sipush (v := nI 2175) hx hb dX4_restore_33 (by decide) ?_
      refine lv_iload_n hx hb dX4_restore_36 rfl (lv_at hl 1 rfl) ?_
      refine n_imul hx hb dX4_restore_37 ?_
      refine lv_aload_n hx hb dX4_restore_38 rfl (lv_at hl 0 rfl) ?_
      refine va_get (ci := 4) (v := .ref an) (C := RX4) (T := TX4) (N := 10) hx hb hts inGX4 hown hK hP 2 rfl rfl 0 (by decide) (hts _ mw_3_54) (fun _ h9 => h9) rfl dX4_restore_39 ?_
      refine lv_iconst (v := nI 0) hx hb dX4_restore_42 (by decide) ?_
      refine k_rvS (As := [.ref ak, .int (nI (2175 * v)), .ref an, .int (nI 0)]) (rest := []) (wr := [(ai, .inl (gZ G, 2, .inl ik)), (h, .inr (4, [.ref an, .ref tr, .ref ah, .int (nI (rch c + 1)), .ref ak, .ref ai, .ref ap, .int sy, .ref af, .int sp])), (ah, .inl (gI G, 13050, .inl (va_cpy r (rhh c hh) 0 (2175 * rch c) 2175)))]) hF (c_X4_copyDiary l G _ ak an 4350 2175 kk r (2175 * v) 0 (by omega) (by omega) (by omega) (by omega)) mw_3_99 mw_3_100 mw_1_5 mw_3_101 hd_X4_copyDiary ⟨Nat.le_of_ble_eq_true rfl, Nat.le_of_ble_eq_true rfl⟩ hKx hZ hS hP hD hA [0, 3] [1, 2, 4] rfl rfl (by decide) (by decide) (by decide) rfl rfl hl.1 rfl (Nat.le_of_ble_eq_true rfl) dX4_restore_43 ⟨Nat.zero_le _, Nat.zero_le _⟩ (fun H locs hP hD hS => ?_)
      have hP : va_P G.1 vwCl [(ai, .inl (gZ G, 2, .inl ik)), (h, .inr (4, [.ref an, .ref tr, .ref ah, .int (nI (rch c + 1)), .ref ak, .ref ai, .ref ap, .int sy, .ref af, .int sp])), (ah, .inl (gI G, 13050, .inl (va_cpy r (rhh c hh) 0 (2175 * rch c) 2175))), (ak, .inl (gI G, 4350, .inl kk)), (an, .inl (gI G, 2175, .inl (va_cpy kk r (2175 * v) 0 2175)))] H := hP
      have hD : va_D A [(ai, .inl (gZ G, 2, .inl ik)), (h, .inr (4, [.ref an, .ref tr, .ref ah, .int (nI (rch c + 1)), .ref ak, .ref ai, .ref ap, .int sy, .ref af, .int sp])), (ah, .inl (gI G, 13050, .inl (va_cpy r (rhh c hh) 0 (2175 * rch c) 2175))), (ak, .inl (gI G, 4350, .inl kk)), (an, .inl (gI G, 2175, .inl (va_cpy kk r (2175 * v) 0 2175)))] := hD
      obtain ⟨hP, hD⟩ := va_nrm hP hD 4 (fun q9 => kk (2175 * v + q9)) rfl (fun k hk => by unfold va_cpy; rw [if_pos (by omega), Nat.sub_zero])
      have hP : va_P G.1 vwCl [(ai, .inl (gZ G, 2, .inl ik)), (h, .inr (4, [.ref an, .ref tr, .ref ah, .int (nI (rch c + 1)), .ref ak, .ref ai, .ref ap, .int sy, .ref af, .int sp])), (ah, .inl (gI G, 13050, .inl (va_cpy r (rhh c hh) 0 (2175 * rch c) 2175))), (ak, .inl (gI G, 4350, .inl kk)), (an, .inl (gI G, 2175, .inl (fun q9 => kk (2175 * v + q9))))] H := hP
      have hD : va_D A [(ai, .inl (gZ G, 2, .inl ik)), (h, .inr (4, [.ref an, .ref tr, .ref ah, .int (nI (rch c + 1)), .ref ak, .ref ai, .ref ap, .int sy, .ref af, .int sp])), (ah, .inl (gI G, 13050, .inl (va_cpy r (rhh c hh) 0 (2175 * rch c) 2175))), (ak, .inl (gI G, 4350, .inl kk)), (an, .inl (gI G, 2175, .inl (fun q9 => kk (2175 * v + q9))))] := hD
      refine lv_aload_n hx hb dX4_restore_46 rfl (lv_at hl 0 rfl) ?_
      refine va_get (ci := 4) (v := .ref an) (C := RX4) (T := TX4) (N := 10) hx hb hts inGX4 hown hK hP 1 rfl rfl 0 (by decide) (hts _ mw_3_54) (fun _ h9 => h9) rfl dX4_restore_47 ?_
      refine lv_iconst (v := nI 0) hx hb dX4_restore_50 (by decide) ?_
      refine n_iald hx hb hK hP 4 0 rfl rfl (by omega) (by omega) dX4_restore_51 ?_
      have hPj := hP.sub (ws' := [(h, .inr (4, [.ref an, .ref tr, .ref ah, .int (nI (rch c + 1)), .ref ak, .ref ai, .ref ap, .int sy, .ref af, .int sp])), (an, .inl (gI G, 2175, .inl (fun q9 => kk (2175 * v + q9)))), (ah, .inl (gI G, 13050, .inl (va_cpy r (rhh c hh) 0 (2175 * rch c) 2175))), (ak, .inl (gI G, 4350, .inl kk)), (ai, .inl (gZ G, 2, .inl ik))]) [1, 4, 2, 3, 0] rfl
      exact e_wi hx hb hr hlk hPj hS (rfl) dX4_restore_52
    · skip
      exact absurd c_19 (by omega)
  · skip
    exact absurd c_7 (by omega)
set_option maxHeartbeats 4000000 in
set_option maxRecDepth 100000 in
theorem c_X4_restore_e (l : Launch) (G : gT) (h : Nat) (an : Nat) (tr : Nat) (ah : Nat) (ch : Int32) (ak : Nat) (ai : Nat) (ap : Nat) (sy : Int32) (af : Nat) (sp : Int32) (w : Int32) (S0 : Int) (hw1 : w.toInt = S0) (he : ¬ (0 ≤ S0 ∧ S0 ≤ 1)) : Ro l G yX4_restore cX4_restore 2 (some .int) 9 [] [.ref h, .int w] (-2) := by
  refine Ro.mk (by decide) (Nat.le_of_ble_eq_true rfl) (fun pq eq sq mq bq tq cq ls hr hlk hF hKx hZ hP hl => ?_)
  have hx := hF.1
  have hb := hF.2.1
  have hml := hF.2.2.1
  have hown : sq.vm.findClass RX4 = some mq.cls := hF.2.2.2.1
  have hts : ∀ w ∈ GW, w.before _ sq = true := hF.2.2.2.2
  have hK := hKx.1
  have hl : lv_has ls 2 [(0, .ref h), (1, .int w)] := hl
  have hS : va_S (fun _ => False) sq.heap sq.heap [] := va_S.rf
  have hP : va_P G.1 vwCl [] sq.heap := hP
  refine lv_iload_n hx hb dX4_restore_0 rfl (lv_at hl 1 rfl) ?_
  refine lv_i2l (v := w.toInt64) hx hb dX4_restore_1 rfl ?_
  refine lv_lconst (v := 0) hx hb dX4_restore_2 (by decide) ?_
  refine lv_lconst (v := 1) hx hb dX4_restore_3 (by decide) ?_
  refine k_roS (As := [.long w.toInt64, .long 0, .long 1]) (rest := []) hF (c_X4_in l G w.toInt64 0 1 S0 0 1 (l64 hw1) (by decide) (by decide)) mw_3_91 mw_3_92 mw_1_5 mw_3_93 hd_X4_in ⟨Nat.le_of_ble_eq_true rfl, Nat.le_of_ble_eq_true rfl⟩ (Rd.of hKx hZ hS) (hP.sub (ws' := []) [] rfl) rfl hl.1 rfl (Nat.le_of_ble_eq_true rfl) dX4_restore_4 ⟨Nat.zero_le _, Nat.zero_le _⟩ ?_
  refine p0_ne hx hb (tgt := 13) dX4_restore_7 (by decide) (fun c_7 => ?_) (fun c_7 => ?_)
  · skip
    exact absurd c_7 (by omega)
  · skip
    refine lv_bipush (v := (-2)) hx hb dX4_restore_10 (by decide) ?_
    exact e_ri hx hb hr hlk (rfl) dX4_restore_12
set_option maxHeartbeats 4000000 in
set_option maxRecDepth 100000 in
theorem c_X4_restore_e2 (l : Launch) (G : gT) (h : Nat) (an : Nat) (tr : Nat) (ah : Nat) (ch : Int32) (ak : Nat) (ai : Nat) (ap : Nat) (sy : Int32) (af : Nat) (sp : Int32) (ik : Nat → Int32) (v : Nat) (hv : v ≤ 1) (hi : (ik v).toInt = 0) : Ro l G yX4_restore cX4_restore 2 (some .int) 9 [(h, .inr (4, [.ref an, .ref tr, .ref ah, .int ch, .ref ak, .ref ai, .ref ap, .int sy, .ref af, .int sp])), (ai, .inl (gZ G, 2, .inl ik))] [.ref h, .int (nI v)] (-5) := by
  refine Ro.mk (by decide) (Nat.le_of_ble_eq_true rfl) (fun pq eq sq mq bq tq cq ls hr hlk hF hKx hZ hP hl => ?_)
  have hx := hF.1
  have hb := hF.2.1
  have hml := hF.2.2.1
  have hown : sq.vm.findClass RX4 = some mq.cls := hF.2.2.2.1
  have hts : ∀ w ∈ GW, w.before _ sq = true := hF.2.2.2.2
  have hK := hKx.1
  have hl : lv_has ls 2 [(0, .ref h), (1, .int (nI v))] := hl
  have hS : va_S (fun _ => False) sq.heap sq.heap [] := va_S.rf
  have hP : va_P G.1 vwCl [(h, .inr (4, [.ref an, .ref tr, .ref ah, .int ch, .ref ak, .ref ai, .ref ap, .int sy, .ref af, .int sp])), (ai, .inl (gZ G, 2, .inl ik))] sq.heap := hP
  refine lv_iload_n hx hb dX4_restore_0 rfl (lv_at hl 1 rfl) ?_
  refine lv_i2l (v := (nI v).toInt64) hx hb dX4_restore_1 rfl ?_
  refine lv_lconst (v := 0) hx hb dX4_restore_2 (by decide) ?_
  refine lv_lconst (v := 1) hx hb dX4_restore_3 (by decide) ?_
  refine k_roS (As := [.long ((nI v).toInt64), .long 0, .long 1]) (rest := []) hF (c_X4_in l G ((nI v).toInt64) 0 1 ((v : Nat) : Int) 0 1 (l64 (toI (by omega))) (by decide) (by decide)) mw_3_91 mw_3_92 mw_1_5 mw_3_93 hd_X4_in ⟨Nat.le_of_ble_eq_true rfl, Nat.le_of_ble_eq_true rfl⟩ (Rd.of hKx hZ hS) (hP.sub (ws' := []) [] rfl) rfl hl.1 rfl (Nat.le_of_ble_eq_true rfl) dX4_restore_4 ⟨Nat.zero_le _, Nat.zero_le _⟩ ?_
  refine p0_ne hx hb (tgt := 13) dX4_restore_7 (by decide) (fun c_7 => ?_) (fun c_7 => ?_)
  · skip
    refine lv_aload_n hx hb dX4_restore_13 rfl (lv_at hl 0 rfl) ?_
    refine va_get (ci := 4) (v := .ref ai) (C := RX4) (T := TX4) (N := 10) hx hb hts inGX4 hown hK hP 0 rfl rfl 5 (by decide) (hts _ mw_3_59) (fun _ h9 => h9) rfl dX4_restore_14 ?_
    refine lv_iload_n hx hb dX4_restore_17 rfl (lv_at hl 1 rfl) ?_
    refine n_zald hx hb hK hP 1 2 rfl rfl (by omega) (by omega) dX4_restore_18 ?_
    refine z0_ne hx hb (tgt := 25) ((ik v).toInt) dX4_restore_19 (by decide) rfl (fun c_19 => ?_) (fun c_19 => ?_)
    · skip
      exact absurd c_19 (by omega)
    · skip
      refine lv_bipush (v := (-5)) hx hb dX4_restore_22 (by decide) ?_
      exact e_ri hx hb hr hlk (rfl) dX4_restore_24
  · skip
    exact absurd c_7 (by omega)
