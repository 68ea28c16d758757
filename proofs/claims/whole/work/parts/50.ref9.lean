theorem hd_X4_carryOut : hdY yX4_carryOut 0 := ⟨by decide +kernel, by decide +kernel, by decide +kernel⟩
set_option maxHeartbeats 4000000 in
set_option maxRecDepth 100000 in
theorem c_X4_carryOut_t (l : Launch) (G : gT) (sz : Nat) (h : Nat) (an : Nat) (tr : Nat) (ah : Nat) (ch : Int32) (ak : Nat) (ai : Nat) (ap : Nat) (n : Nat) (af : Nat) (sp : Int32) (p : Nat → Int32) (V : Int32) (W0 : Nat) (hn : n ≤ 80) (hV0 : fV p n 0 = V) (hW0 : fW p n 0 = W0) (hV6 : ¬ V.toInt = -6) : Rw l G yX4_carryOut cX4_carryOut 3 (some .int) 10 sz [(h, .inr (4, [.ref an, .ref tr, .ref ah, .int ch, .ref ak, .ref ai, .ref ap, .int (nI n), .ref af, .int sp])), (ap, .inl (gI G, 80, .inl p))] [.ref h] (-3) [(h, .inr (4, [.ref an, .ref tr, .ref ah, .int ch, .ref ak, .ref ai, .ref ap, .int (nI n), .ref af, .int (nI W0)])), (ap, .inl (gI G, 80, .inl p))] := by
  refine Rw.mk (by decide) (Nat.le_of_ble_eq_true rfl) (fun pq eq sq mq bq tq cq ls A hr hlk hF hKx hZ hA hP hD hS hl => ?_)
  have hx := hF.1
  have hb := hF.2.1
  have hml := hF.2.2.1
  have hown : sq.vm.findClass RX4 = some mq.cls := hF.2.2.2.1
  have hts : ∀ w ∈ GW, w.before _ sq = true := hF.2.2.2.2
  have hK := hKx.1
  have hl : lv_has ls 3 [(0, .ref h)] := hl
  have hP : va_P G.1 vwCl [(h, .inr (4, [.ref an, .ref tr, .ref ah, .int ch, .ref ak, .ref ai, .ref ap, .int (nI n), .ref af, .int sp])), (ap, .inl (gI G, 80, .inl p))] sq.heap := hP
  have hD : va_D A [(h, .inr (4, [.ref an, .ref tr, .ref ah, .int ch, .ref ak, .ref ai, .ref ap, .int (nI n), .ref af, .int sp])), (ap, .inl (gI G, 80, .inl p))] := hD
  refine lv_aload_n hx hb dX4_carryOut_0 rfl (lv_at hl 0 rfl) ?_
  refine k_rwV (ci := 4) (q0 := 0) (As := []) (rest := []) (wr := []) hF (c_X4_fault l G _ h an tr ah ch ak ai ap n af sp p (by omega)) ⟨_, rfl, rfl⟩ rfl rfl mw_4_82 mw_4_55 mw_4_56 mw_1_5 mw_4_57 hd_X4_fault ⟨Nat.le_of_ble_eq_true rfl, Nat.le_of_ble_eq_true rfl⟩ hKx hZ hS hP hD hA [0, 1] [] rfl rfl (by decide) (by decide) (by decide) (Eq.trans (b := [h, ap]) rfl rfl) rfl hl.1 rfl (Nat.le_of_ble_eq_true rfl) dX4_carryOut_1 ⟨Nat.zero_le _, Nat.zero_le _⟩ (fun H locs hP hD hS => ?_)
  have hP : va_P G.1 vwCl [(h, .inr (4, [.ref an, .ref tr, .ref ah, .int ch, .ref ak, .ref ai, .ref ap, .int (nI n), .ref af, .int (nI (fW p n 0))])), (ap, .inl (gI G, 80, .inl p))] H := hP
  have hD : va_D A [(h, .inr (4, [.ref an, .ref tr, .ref ah, .int ch, .ref ak, .ref ai, .ref ap, .int (nI n), .ref af, .int (nI (fW p n 0))])), (ap, .inl (gI G, 80, .inl p))] := hD
  refine lv_cv (y := V) (hV0) ?_
  refine lv_bipush (v := (-6)) hx hb dX4_carryOut_4 (by decide) ?_
  refine z_eq hx hb (tgt := 12) V.toInt (-6) dX4_carryOut_6 (by decide) rfl (by decide) (fun c_6 => ?_) (fun c_6 => ?_)
  · skip
    exact absurd c_6 hV6
  · skip
    refine lv_bipush (v := (-3)) hx hb dX4_carryOut_9 (by decide) ?_
    have hPj := hP.sub (ws' := [(h, .inr (4, [.ref an, .ref tr, .ref ah, .int ch, .ref ak, .ref ai, .ref ap, .int (nI n), .ref af, .int (nI (fW p n 0))])), (ap, .inl (gI G, 80, .inl p))]) [0, 1] rfl
    have hwj : ([(h, .inr (4, [.ref an, .ref tr, .ref ah, .int ch, .ref ak, .ref ai, .ref ap, .int (nI n), .ref af, .int (nI (fW p n 0))])), (ap, .inl (gI G, 80, .inl p))] : va_W) = [(h, .inr (4, [.ref an, .ref tr, .ref ah, .int ch, .ref ak, .ref ai, .ref ap, .int (nI n), .ref af, .int (nI W0)])), (ap, .inl (gI G, 80, .inl p))] := (wlc (by rw [hW0]) (wlc (rfl) rfl))
    rw [hwj] at hPj
    exact e_wi hx hb hr hlk hPj hS (rfl) dX4_carryOut_11
set_option maxHeartbeats 4000000 in
set_option maxRecDepth 100000 in
theorem c_X4_carryOut_k (l : Launch) (G : gT) (sz : Nat) (h : Nat) (an : Nat) (tr : Nat) (ah : Nat) (c : Nat) (ak : Nat) (ai : Nat) (ap : Nat) (n : Nat) (af : Nat) (sp : Int32) (p : Nat → Int32) (r : Nat → Int32) (hh : Nat → Int32) (N0 : Nat) (O0 : Nat) (E : Nat) (hc : c ≤ 6) (hn : n ≤ 80) (hV0 : fV p n 0 = -6) (hN0 : alN p n 0 = N0) (hO0 : alO p n 0 = O0) (hE0 : fe p n r N0 0 = E) (hCv : Cv r) : Rw l G yX4_carryOut cX4_carryOut 3 (some .int) 10 sz [(h, .inr (4, [.ref an, .ref tr, .ref ah, .int (nI c), .ref ak, .ref ai, .ref ap, .int (nI n), .ref af, .int sp])), (ap, .inl (gI G, 80, .inl p)), (an, .inl (gI G, 2175, .inl r)), (ah, .inl (gI G, 13050, .inl hh)), (af, .inl (gI G, 121, .inl (fun q9 => nI (fdy q9))))] [.ref h] (cI (E = N0) (nI O0) (nI (cO p n E))) [(h, .inr (4, [.ref an, .ref tr, .ref ah, .int (nI (rch c + 1)), .ref ak, .ref ai, .ref ap, .int (nI 0), .ref af, .int (nI (cI (E = N0) (n + 1) (cE p n (cur p n E))))])), (ap, .inl (gI G, 80, .inl p)), (an, .inl (gI G, 2175, .inl (run p n r E))), (ah, .inl (gI G, 13050, .inl (va_cpy r (rhh c hh) 0 (2175 * rch c) 2175))), (af, .inl (gI G, 121, .inl (fun q9 => nI (fdy q9))))] := by
  refine Rw.mk (by decide) (Nat.le_of_ble_eq_true rfl) (fun pq eq sq mq bq tq cq ls A hr hlk hF hKx hZ hA hP hD hS hl => ?_)
  have hx := hF.1
  have hb := hF.2.1
  have hml := hF.2.2.1
  have hown : sq.vm.findClass RX4 = some mq.cls := hF.2.2.2.1
  have hts : ∀ w ∈ GW, w.before _ sq = true := hF.2.2.2.2
  have hK := hKx.1
  have hl : lv_has ls 3 [(0, .ref h)] := hl
  have hP : va_P G.1 vwCl [(h, .inr (4, [.ref an, .ref tr, .ref ah, .int (nI c), .ref ak, .ref ai, .ref ap, .int (nI n), .ref af, .int sp])), (ap, .inl (gI G, 80, .inl p)), (an, .inl (gI G, 2175, .inl r)), (ah, .inl (gI G, 13050, .inl hh)), (af, .inl (gI G, 121, .inl (fun q9 => nI (fdy q9))))] sq.heap := hP
  have hD : va_D A [(h, .inr (4, [.ref an, .ref tr, .ref ah, .int (nI c), .ref ak, .ref ai, .ref ap, .int (nI n), .ref af, .int sp])), (ap, .inl (gI G, 80, .inl p)), (an, .inl (gI G, 2175, .inl r)), (ah, .inl (gI G, 13050, .inl hh)), (af, .inl (gI G, 121, .inl (fun q9 => nI (fdy q9))))] := hD
  refine lv_aload_n hx hb dX4_carryOut_0 rfl (lv_at hl 0 rfl) ?_
  refine k_rwV (ci := 4) (q0 := 0) (As := []) (rest := []) (wr := [(an, .inl (gI G, 2175, .inl r)), (ah, .inl (gI G, 13050, .inl hh)), (af, .inl (gI G, 121, .inl (fun q9 => nI (fdy q9))))]) hF (c_X4_fault l G _ h an tr ah (nI c) ak ai ap n af sp p (by omega)) ⟨_, rfl, rfl⟩ rfl rfl mw_4_82 mw_4_55 mw_4_56 mw_1_5 mw_4_57 hd_X4_fault ⟨Nat.le_of_ble_eq_true rfl, Nat.le_of_ble_eq_true rfl⟩ hKx hZ hS hP hD hA [0, 1] [2, 3, 4] rfl rfl (by decide) (by decide) (by decide) (Eq.trans (b := [h, ap]) rfl rfl) rfl hl.1 rfl (Nat.le_of_ble_eq_true rfl) dX4_carryOut_1 ⟨Nat.zero_le _, Nat.zero_le _⟩ (fun H locs hP hD hS => ?_)
  have hP : va_P G.1 vwCl [(an, .inl (gI G, 2175, .inl r)), (ah, .inl (gI G, 13050, .inl hh)), (af, .inl (gI G, 121, .inl (fun q9 => nI (fdy q9)))), (h, .inr (4, [.ref an, .ref tr, .ref ah, .int (nI c), .ref ak, .ref ai, .ref ap, .int (nI n), .ref af, .int (nI (fW p n 0))])), (ap, .inl (gI G, 80, .inl p))] H := hP
  have hD : va_D A [(an, .inl (gI G, 2175, .inl r)), (ah, .inl (gI G, 13050, .inl hh)), (af, .inl (gI G, 121, .inl (fun q9 => nI (fdy q9)))), (h, .inr (4, [.ref an, .ref tr, .ref ah, .int (nI c), .ref ak, .ref ai, .ref ap, .int (nI n), .ref af, .int (nI (fW p n 0))])), (ap, .inl (gI G, 80, .inl p))] := hD
  refine lv_cv (y := (-6)) (hV0) ?_
  refine lv_bipush (v := (-6)) hx hb dX4_carryOut_4 (by decide) ?_
  refine z_eq hx hb (tgt := 12) (-6) (-6) dX4_carryOut_6 (by decide) (by decide) (by decide) (fun c_6 => ?_) (fun c_6 => ?_)
  · skip
    refine lv_aload_n hx hb dX4_carryOut_12 rfl (lv_at hl 0 rfl) ?_
    refine k_rvV (ci := 4) (q0 := 3) (As := []) (rest := []) (wr := [(af, .inl (gI G, 121, .inl (fun q9 => nI (fdy q9)))), (ap, .inl (gI G, 80, .inl p))]) hF (c_X4_record l G _ h an tr ah c ak ai ap (nI n) af (nI (fW p n 0)) r hh (by omega)) ⟨_, rfl, rfl⟩ rfl rfl mw_3_95 mw_3_97 mw_p1_8 mw_1_5 mw_3_98 hd_X4_record ⟨Nat.le_of_ble_eq_true rfl, Nat.le_of_ble_eq_true rfl⟩ hKx hZ hS hP hD hA [3, 0, 1] [2, 4] rfl rfl (by decide) (by decide) (by decide) (Eq.trans (b := [h, an, ah]) rfl rfl) rfl hl.1 rfl (Nat.le_of_ble_eq_true rfl) dX4_carryOut_13 ⟨Nat.zero_le _, Nat.zero_le _⟩ (fun H locs hP hD hS => ?_)
    have hP : va_P G.1 vwCl [(af, .inl (gI G, 121, .inl (fun q9 => nI (fdy q9)))), (ap, .inl (gI G, 80, .inl p)), (h, .inr (4, [.ref an, .ref tr, .ref ah, .int (nI (rch c + 1)), .ref ak, .ref ai, .ref ap, .int (nI n), .ref af, .int (nI (fW p n 0))])), (an, .inl (gI G, 2175, .inl r)), (ah, .inl (gI G, 13050, .inl (va_cpy r (rhh c hh) 0 (2175 * rch c) 2175)))] H := hP
    have hD : va_D A [(af, .inl (gI G, 121, .inl (fun q9 => nI (fdy q9)))), (ap, .inl (gI G, 80, .inl p)), (h, .inr (4, [.ref an, .ref tr, .ref ah, .int (nI (rch c + 1)), .ref ak, .ref ai, .ref ap, .int (nI n), .ref af, .int (nI (fW p n 0))])), (an, .inl (gI G, 2175, .inl r)), (ah, .inl (gI G, 13050, .inl (va_cpy r (rhh c hh) 0 (2175 * rch c) 2175)))] := hD
    refine lv_aload_n hx hb dX4_carryOut_16 rfl (lv_at hl 0 rfl) ?_
    refine lv_iconst (v := nI 0) hx hb dX4_carryOut_17 (by decide) ?_
    refine va_put (ci := 4) (v := .int (nI 0)) (ty := .int) (C := RX4) (T := TX4) (N := 10) hx hb hts inGX4 tyX4 tyX4_ok nmX4 hown hK hP hD hS 2 rfl rfl 9 (by decide) (hts _ mw_3_63) (fun _ h9 => h9) rfl (by decide +kernel) rfl rfl (Nat.le_of_ble_eq_true rfl) dX4_carryOut_18 (fun H locs hP hD hS => ?_)
    have hP : va_P G.1 vwCl [(af, .inl (gI G, 121, .inl (fun q9 => nI (fdy q9)))), (ap, .inl (gI G, 80, .inl p)), (h, .inr (4, [.ref an, .ref tr, .ref ah, .int (nI (rch c + 1)), .ref ak, .ref ai, .ref ap, .int (nI n), .ref af, .int (nI 0)])), (an, .inl (gI G, 2175, .inl r)), (ah, .inl (gI G, 13050, .inl (va_cpy r (rhh c hh) 0 (2175 * rch c) 2175)))] H := hP
    have hD : va_D A [(af, .inl (gI G, 121, .inl (fun q9 => nI (fdy q9)))), (ap, .inl (gI G, 80, .inl p)), (h, .inr (4, [.ref an, .ref tr, .ref ah, .int (nI (rch c + 1)), .ref ak, .ref ai, .ref ap, .int (nI n), .ref af, .int (nI 0)])), (an, .inl (gI G, 2175, .inl r)), (ah, .inl (gI G, 13050, .inl (va_cpy r (rhh c hh) 0 (2175 * rch c) 2175)))] := hD
    refine lv_iconst (v := nI 0) hx hb dX4_carryOut_21 (by decide) ?_
    refine lv_istore_n (lv' := [(1, .int (nI 0)), (0, .ref h)]) hx hb dX4_carryOut_22 rfl hl (by decide) rfl (fun ls hl => ?_)
    refine lv_iconst (v := nI 1) hx hb dX4_carryOut_23 (by decide) ?_
    refine lv_istore_n (lv' := [(2, .int (nI 1)), (1, .int (nI 0)), (0, .ref h)]) hx hb dX4_carryOut_24 rfl hl (by decide) rfl (fun ls hl => ?_)
    have hPj := hP.sub (ws' := [(h, .inr (4, [.ref an, .ref tr, .ref ah, .int (nI (rch c + 1)), .ref ak, .ref ai, .ref ap, .int (nI n), .ref af, .int (nI 0)])), (ap, .inl (gI G, 80, .inl p)), (an, .inl (gI G, 2175, .inl r)), (ah, .inl (gI G, 13050, .inl (va_cpy r (rhh c hh) 0 (2175 * rch c) 2175))), (af, .inl (gI G, 121, .inl (fun q9 => nI (fdy q9))))]) [2, 1, 3, 4, 0] rfl
    have hDj := hD.sub (ws' := [(h, .inr (4, [.ref an, .ref tr, .ref ah, .int (nI (rch c + 1)), .ref ak, .ref ai, .ref ap, .int (nI n), .ref af, .int (nI 0)])), (ap, .inl (gI G, 80, .inl p)), (an, .inl (gI G, 2175, .inl r)), (ah, .inl (gI G, 13050, .inl (va_cpy r (rhh c hh) 0 (2175 * rch c) 2175))), (af, .inl (gI G, 121, .inl (fun q9 => nI (fdy q9))))]) [2, 1, 3, 4, 0] (by decide) rfl
    have w_1 : ([(h, .inr (4, [.ref an, .ref tr, .ref ah, .int (nI (rch c + 1)), .ref ak, .ref ai, .ref ap, .int (nI n), .ref af, .int (nI 0)])), (ap, .inl (gI G, 80, .inl p)), (an, .inl (gI G, 2175, .inl r)), (ah, .inl (gI G, 13050, .inl (va_cpy r (rhh c hh) 0 (2175 * rch c) 2175))), (af, .inl (gI G, 121, .inl (fun q9 => nI (fdy q9))))] : va_W) = [(h, .inr (4, [.ref an, .ref tr, .ref ah, .int (nI (rch c + 1)), .ref ak, .ref ai, .ref ap, .int (nI n), .ref af, .int (nI (os p n 0))])), (ap, .inl (gI G, 80, .inl p)), (an, .inl (gI G, 2175, .inl (run p n r (oq p n 0)))), (ah, .inl (gI G, 13050, .inl (va_cpy r (rhh c hh) 0 (2175 * rch c) 2175))), (af, .inl (gI G, 121, .inl (fun q9 => nI (fdy q9))))] := (wlc (by rw [os_0]) (wlc (rfl) (wlc (by rw [oq_0, run_0]) (wlc (rfl) (wlc (rfl) rfl)))))
    rw [w_1] at hPj hDj
    refine wloopH [] (fun ow H locs ls => (os p n ow ≤ n) ∧ (2 * oq p n ow ≤ os p n ow) ∧ (ow ≤ oq p n ow) ∧ (cur p n (oq p n ow) = ent p n (os p n ow) ow) ∧ (fV p n (os p n ow) = -6) ∧ (N0 = oq p n ow + alN p n (os p n ow)) ∧ (O0 = ow + alO p n (os p n ow)) ∧ (fe p n r (alN p n (os p n ow)) (oq p n ow) = E) ∧ va_P G.1 vwCl [(h, .inr (4, [.ref an, .ref tr, .ref ah, .int (nI (rch c + 1)), .ref ak, .ref ai, .ref ap, .int (nI n), .ref af, .int (nI (os p n ow))])), (ap, .inl (gI G, 80, .inl p)), (an, .inl (gI G, 2175, .inl (run p n r (oq p n ow)))), (ah, .inl (gI G, 13050, .inl (va_cpy r (rhh c hh) 0 (2175 * rch c) 2175))), (af, .inl (gI G, 121, .inl (fun q9 => nI (fdy q9))))] H ∧ va_D A [(h, .inr (4, [.ref an, .ref tr, .ref ah, .int (nI (rch c + 1)), .ref ak, .ref ai, .ref ap, .int (nI n), .ref af, .int (nI (os p n ow))])), (ap, .inl (gI G, 80, .inl p)), (an, .inl (gI G, 2175, .inl (run p n r (oq p n ow)))), (ah, .inl (gI G, 13050, .inl (va_cpy r (rhh c hh) 0 (2175 * rch c) 2175))), (af, .inl (gI G, 121, .inl (fun q9 => nI (fdy q9))))] ∧ va_S A sq.heap H locs ∧ lv_has ls 3 [(2, .int (nI 1)), (1, .int (nI ow)), (0, .ref h)]) (fun ow => 81 - ow) ?_ 0 ⟨(by rw [os_0]; exact Nat.zero_le _), (by rw [os_0, oq_0]; exact Nat.le_refl _), (Nat.zero_le _), (by rw [os_0, oq_0]; rfl), (by rw [os_0]; exact hV0), (by rw [os_0, oq_0, Nat.zero_add]; exact hN0.symm), (by rw [os_0, Nat.zero_add]; exact hO0.symm), (by rw [os_0, oq_0, hN0]; exact hE0), hPj, hDj, hS, lv_sub hl [0, 1, 2] rfl⟩
    intro ow ih
    intro H locs ls ⟨hoi, hoq, hoo, hck, hV, hN, hO, hfe, hP, hD, hS, hl⟩
    clear hV0 hN0 hO0 hE0
    obtain ⟨hoF, hnd, hor⟩ := fV_ok hn hoi hV
    have hoe := oE_in (p := p) (n := n) hoi
    have hd1n := odN_1 hn hoi hoF
    obtain ⟨X2, hX2⟩ := alN_od (p := p) hn hoi
    obtain ⟨E2, hE2⟩ : ∃ E2, fe p n r (odN p n (os p n ow)) (oq p n ow) = E2 := ⟨_, rfl⟩
    have hfi := fe_in (p := p) (n := n) (r0 := r) (odN p n (os p n ow)) (oq p n ow)
    rw [hE2] at hfi
    refine lv_iload_n hx hb dX4_carryOut_25 rfl (lv_at hl 0 rfl) ?_
    refine z0_eq hx hb (tgt := 67) 1 dX4_carryOut_26 (by decide) (by decide) (fun c_26 => ?_) (fun c_26 => ?_)
    · skip
      exact absurd c_26 (by decide)
    · skip
      refine lv_aload_n hx hb dX4_carryOut_29 rfl (lv_at hl 2 rfl) ?_
      refine k_rwV (ci := 4) (q0 := 0) (As := []) (rest := []) (wr := [(ah, .inl (gI G, 13050, .inl (va_cpy r (rhh c hh) 0 (2175 * rch c) 2175)))]) hF (c_X4_doOrder l G _ h an tr ah (nI (rch c + 1)) ak ai ap n af (os p n ow) p r (oq p n ow) ow E2 (hn) (hoi) (hoF) (hnd) (hck) (hCv) (hE2)) ⟨_, rfl, rfl⟩ rfl rfl mw_4_83 mw_4_85 mw_p2_9 mw_1_5 mw_4_86 hd_X4_doOrder ⟨Nat.le_of_ble_eq_true rfl, Nat.le_of_ble_eq_true rfl⟩ hKx hZ hS hP hD hA [0, 1, 2, 4] [3] rfl rfl (by decide) (by decide) (by decide) (Eq.trans (b := [h, ap, an, af]) rfl rfl) rfl hl.1 rfl (Nat.le_of_ble_eq_true rfl) dX4_carryOut_30 ⟨Nat.zero_le _, Nat.zero_le _⟩ (fun H locs hP hD hS => ?_)
      have hP : va_P G.1 vwCl [(ah, .inl (gI G, 13050, .inl (va_cpy r (rhh c hh) 0 (2175 * rch c) 2175))), (h, .inr (4, [.ref an, .ref tr, .ref ah, .int (nI (rch c + 1)), .ref ak, .ref ai, .ref ap, .int (nI n), .ref af, .int (nI (cI (E2 = (oq p n ow) + odN p n (os p n ow)) (oE p n (os p n ow)) (cE p n (cur p n E2))))])), (ap, .inl (gI G, 80, .inl p)), (an, .inl (gI G, 2175, .inl (run p n r E2))), (af, .inl (gI G, 121, .inl (fun q9 => nI (fdy q9))))] H := hP
      have hD : va_D A [(ah, .inl (gI G, 13050, .inl (va_cpy r (rhh c hh) 0 (2175 * rch c) 2175))), (h, .inr (4, [.ref an, .ref tr, .ref ah, .int (nI (rch c + 1)), .ref ak, .ref ai, .ref ap, .int (nI n), .ref af, .int (nI (cI (E2 = (oq p n ow) + odN p n (os p n ow)) (oE p n (os p n ow)) (cE p n (cur p n E2))))])), (ap, .inl (gI G, 80, .inl p)), (an, .inl (gI G, 2175, .inl (run p n r E2))), (af, .inl (gI G, 121, .inl (fun q9 => nI (fdy q9))))] := hD
      refine p0_eq hx hb (tgt := 67) dX4_carryOut_33 (by decide) (fun c_33 => ?_) (fun c_33 => ?_)
      · skip
        have hEE : E = E2 := by rw [← hfe, hX2, fe_add, hE2]; exact cI_f c_33
        have hgo := (od_gd hn hoq hck (E2 - oq p n ow) (by omega)).2.1
        rw [show oq p n ow + (E2 - oq p n ow) = E2 by omega] at hgo
        have hEN : ¬ E = N0 := by omega
        have hs2 : cI (E = N0) (n + 1) (cE p n (cur p n E)) = cE p n (cur p n E2) := by rw [cI_f hEN, hEE]
        have hr2 : run p n r E = run p n r E2 := by rw [hEE]
        have hres : cI (E = N0) (nI O0) (nI (cO p n E)) = nI ow := by rw [cI_f hEN, hEE, hgo]
        have hw_2 : ([(ah, .inl (gI G, 13050, .inl (va_cpy r (rhh c hh) 0 (2175 * rch c) 2175))), (h, .inr (4, [.ref an, .ref tr, .ref ah, .int (nI (rch c + 1)), .ref ak, .ref ai, .ref ap, .int (nI n), .ref af, .int (nI (cI (E2 = (oq p n ow) + odN p n (os p n ow)) (oE p n (os p n ow)) (cE p n (cur p n E2))))])), (ap, .inl (gI G, 80, .inl p)), (an, .inl (gI G, 2175, .inl (run p n r E2))), (af, .inl (gI G, 121, .inl (fun q9 => nI (fdy q9))))] : va_W) = [(ah, .inl (gI G, 13050, .inl (va_cpy r (rhh c hh) 0 (2175 * rch c) 2175))), (h, .inr (4, [.ref an, .ref tr, .ref ah, .int (nI (rch c + 1)), .ref ak, .ref ai, .ref ap, .int (nI n), .ref af, .int (nI (cE p n (cur p n E2)))])), (ap, .inl (gI G, 80, .inl p)), (an, .inl (gI G, 2175, .inl (run p n r E2))), (af, .inl (gI G, 121, .inl (fun q9 => nI (fdy q9))))] := (wlc rfl (wlc (by rw [cI_f c_33]) (wlc rfl (wlc rfl (wlc rfl rfl)))))
        rw [hw_2] at hP hD
        refine lv_aload_n hx hb dX4_carryOut_67 rfl (lv_at hl 2 rfl) ?_
        refine lv_iconst (v := nI 0) hx hb dX4_carryOut_68 (by decide) ?_
        refine va_put (ci := 4) (v := .int (nI 0)) (ty := .int) (C := RX4) (T := TX4) (N := 10) hx hb hts inGX4 tyX4 tyX4_ok nmX4 hown hK hP hD hS 1 rfl rfl 7 (by decide) (hts _ mw_3_61) (fun _ h9 => h9) rfl (by decide +kernel) rfl rfl (Nat.le_of_ble_eq_true rfl) dX4_carryOut_69 (fun H locs hP hD hS => ?_)
        have hP : va_P G.1 vwCl [(ah, .inl (gI G, 13050, .inl (va_cpy r (rhh c hh) 0 (2175 * rch c) 2175))), (h, .inr (4, [.ref an, .ref tr, .ref ah, .int (nI (rch c + 1)), .ref ak, .ref ai, .ref ap, .int (nI 0), .ref af, .int (nI (cE p n (cur p n E2)))])), (ap, .inl (gI G, 80, .inl p)), (an, .inl (gI G, 2175, .inl (run p n r E2))), (af, .inl (gI G, 121, .inl (fun q9 => nI (fdy q9))))] H := hP
        have hD : va_D A [(ah, .inl (gI G, 13050, .inl (va_cpy r (rhh c hh) 0 (2175 * rch c) 2175))), (h, .inr (4, [.ref an, .ref tr, .ref ah, .int (nI (rch c + 1)), .ref ak, .ref ai, .ref ap, .int (nI 0), .ref af, .int (nI (cE p n (cur p n E2)))])), (ap, .inl (gI G, 80, .inl p)), (an, .inl (gI G, 2175, .inl (run p n r E2))), (af, .inl (gI G, 121, .inl (fun q9 => nI (fdy q9))))] := hD
        refine lv_iload_n hx hb dX4_carryOut_72 rfl (lv_at hl 1 rfl) ?_
        have hPj := hP.sub (ws' := [(h, .inr (4, [.ref an, .ref tr, .ref ah, .int (nI (rch c + 1)), .ref ak, .ref ai, .ref ap, .int (nI 0), .ref af, .int (nI (cE p n (cur p n E2)))])), (ap, .inl (gI G, 80, .inl p)), (an, .inl (gI G, 2175, .inl (run p n r E2))), (ah, .inl (gI G, 13050, .inl (va_cpy r (rhh c hh) 0 (2175 * rch c) 2175))), (af, .inl (gI G, 121, .inl (fun q9 => nI (fdy q9))))]) [1, 2, 3, 0, 4] rfl
        have hwj : ([(h, .inr (4, [.ref an, .ref tr, .ref ah, .int (nI (rch c + 1)), .ref ak, .ref ai, .ref ap, .int (nI 0), .ref af, .int (nI (cE p n (cur p n E2)))])), (ap, .inl (gI G, 80, .inl p)), (an, .inl (gI G, 2175, .inl (run p n r E2))), (ah, .inl (gI G, 13050, .inl (va_cpy r (rhh c hh) 0 (2175 * rch c) 2175))), (af, .inl (gI G, 121, .inl (fun q9 => nI (fdy q9))))] : va_W) = [(h, .inr (4, [.ref an, .ref tr, .ref ah, .int (nI (rch c + 1)), .ref ak, .ref ai, .ref ap, .int (nI 0), .ref af, .int (nI (cI (E = N0) (n + 1) (cE p n (cur p n E))))])), (ap, .inl (gI G, 80, .inl p)), (an, .inl (gI G, 2175, .inl (run p n r E))), (ah, .inl (gI G, 13050, .inl (va_cpy r (rhh c hh) 0 (2175 * rch c) 2175))), (af, .inl (gI G, 121, .inl (fun q9 => nI (fdy q9))))] := (wlc (by rw [hs2]) (wlc (rfl) (wlc (by rw [hr2]) (wlc (rfl) (wlc (rfl) rfl)))))
        rw [hwj] at hPj
        exact e_wi hx hb hr hlk hPj hS (hres.symm) dX4_carryOut_73
      · skip
        subst c_33
        have hw_3 : ([(ah, .inl (gI G, 13050, .inl (va_cpy r (rhh c hh) 0 (2175 * rch c) 2175))), (h, .inr (4, [.ref an, .ref tr, .ref ah, .int (nI (rch c + 1)), .ref ak, .ref ai, .ref ap, .int (nI n), .ref af, .int (nI (cI ((oq p n ow + odN p n (os p n ow)) = (oq p n ow) + odN p n (os p n ow)) (oE p n (os p n ow)) (cE p n (cur p n (oq p n ow + odN p n (os p n ow))))))])), (ap, .inl (gI G, 80, .inl p)), (an, .inl (gI G, 2175, .inl (run p n r (oq p n ow + odN p n (os p n ow))))), (af, .inl (gI G, 121, .inl (fun q9 => nI (fdy q9))))] : va_W) = [(ah, .inl (gI G, 13050, .inl (va_cpy r (rhh c hh) 0 (2175 * rch c) 2175))), (h, .inr (4, [.ref an, .ref tr, .ref ah, .int (nI (rch c + 1)), .ref ak, .ref ai, .ref ap, .int (nI n), .ref af, .int (nI (oE p n (os p n ow)))])), (ap, .inl (gI G, 80, .inl p)), (an, .inl (gI G, 2175, .inl (run p n r (oq p n ow + odN p n (os p n ow))))), (af, .inl (gI G, 121, .inl (fun q9 => nI (fdy q9))))] := (wlc rfl (wlc (by rw [cI_t rfl]) (wlc rfl (wlc rfl (wlc rfl rfl)))))
        rw [hw_3] at hP hD
        refine lv_iinc (v := nI (ow + 1)) (lv' := [(1, .int (nI (ow + 1))), (2, .int (nI 1)), (0, .ref h)]) hx hb dX4_carryOut_36 hl (k := 1) rfl (nI_add _ _) (by decide) rfl (fun ls hl => ?_)
        refine lv_aload_n hx hb dX4_carryOut_39 rfl (lv_at hl 2 rfl) ?_
        refine k_roV (ci := 4) (q0 := 1) (As := []) (rest := []) hF (c_X4_sign l G h an tr ah (nI (rch c + 1)) ak ai ap n af (oE p n (os p n ow)) p (by omega) (by omega)) hKx hP ⟨_, rfl, rfl⟩ rfl rfl mw_4_62 mw_4_64 mw_p2_6 mw_1_5 mw_4_65 hd_X4_sign ⟨Nat.le_of_ble_eq_true rfl, Nat.le_of_ble_eq_true rfl⟩ (Rd.of hKx hZ hS) (hP.sub (ws' := [(h, .inr (4, [.ref an, .ref tr, .ref ah, .int (nI (rch c + 1)), .ref ak, .ref ai, .ref ap, .int (nI n), .ref af, .int (nI (oE p n (os p n ow)))])), (ap, .inl (gI G, 80, .inl p))]) [1, 2] rfl) rfl hl.1 rfl (Nat.le_of_ble_eq_true rfl) dX4_carryOut_40 ⟨Nat.zero_le _, Nat.zero_le _⟩ ?_
        refine lv_bipush (v := nI 59) hx hb dX4_carryOut_43 (by decide) ?_
        refine z_ne hx hb (tgt := 52) ((sgn p n (oE p n (os p n ow))).toInt) 59 dX4_carryOut_45 (by decide) rfl (by decide) (fun c_45 => ?_) (fun c_45 => ?_)
        · skip
          have hen := (hor.resolve_left (fun z => c_45 z.1)).2
          have hsp : ¬ (oF p n (os p n ow) ∧ sg p n (oE p n (os p n ow)) = 59) := fun z => c_45 z.2
          have hE3 : E = oq p n ow + odN p n (os p n ow) := by rw [← hfe, alN_f hsp]; exact hE2
          have hEN : E = N0 := by rw [hE3, hN, alN_f hsp]
          have hO2 : O0 = ow + 1 := hO.trans (by rw [alO_f hsp, cI_t hoF])
          have hs2 : cI (E = N0) (n + 1) (cE p n (cur p n E)) = oE p n (os p n ow) + 1 := by rw [cI_t hEN, hen]
          have hr2 : run p n r E = run p n r (oq p n ow + odN p n (os p n ow)) := by rw [hE3]
          have hres : cI (E = N0) (nI O0) (nI (cO p n E)) = nI (ow + 1) := by rw [cI_t hEN, hO2]
          refine lv_iconst (v := nI 0) hx hb dX4_carryOut_52 (by decide) ?_
          refine lv_istore_n (lv' := [(2, .int (nI 0)), (1, .int (nI (ow + 1))), (0, .ref h)]) hx hb dX4_carryOut_53 rfl hl (by decide) rfl (fun ls hl => ?_)
          refine lv_aload_n hx hb dX4_carryOut_54 rfl (lv_at hl 2 rfl) ?_
          refine lv_dup hx hb dX4_carryOut_55 rfl ?_
          refine va_get (ci := 4) (v := .int (nI (oE p n (os p n ow)))) (C := RX4) (T := TX4) (N := 10) hx hb hts inGX4 hown hK hP 1 rfl rfl 9 (by decide) (hts _ mw_3_63) (fun _ h9 => h9) rfl dX4_carryOut_56 ?_
          refine lv_iconst (v := nI 1) hx hb dX4_carryOut_59 (by decide) ?_
          refine n_iadd hx hb dX4_carryOut_60 ?_
          refine va_put (ci := 4) (v := .int (nI (oE p n (os p n ow) + 1))) (ty := .int) (C := RX4) (T := TX4) (N := 10) hx hb hts inGX4 tyX4 tyX4_ok nmX4 hown hK hP hD hS 1 rfl rfl 9 (by decide) (hts _ mw_3_63) (fun _ h9 => h9) rfl (by decide +kernel) rfl rfl (Nat.le_of_ble_eq_true rfl) dX4_carryOut_61 (fun H locs hP hD hS => ?_)
          have hP : va_P G.1 vwCl [(ah, .inl (gI G, 13050, .inl (va_cpy r (rhh c hh) 0 (2175 * rch c) 2175))), (h, .inr (4, [.ref an, .ref tr, .ref ah, .int (nI (rch c + 1)), .ref ak, .ref ai, .ref ap, .int (nI n), .ref af, .int (nI (oE p n (os p n ow) + 1))])), (ap, .inl (gI G, 80, .inl p)), (an, .inl (gI G, 2175, .inl (run p n r (oq p n ow + odN p n (os p n ow))))), (af, .inl (gI G, 121, .inl (fun q9 => nI (fdy q9))))] H := hP
          have hD : va_D A [(ah, .inl (gI G, 13050, .inl (va_cpy r (rhh c hh) 0 (2175 * rch c) 2175))), (h, .inr (4, [.ref an, .ref tr, .ref ah, .int (nI (rch c + 1)), .ref ak, .ref ai, .ref ap, .int (nI n), .ref af, .int (nI (oE p n (os p n ow) + 1))])), (ap, .inl (gI G, 80, .inl p)), (an, .inl (gI G, 2175, .inl (run p n r (oq p n ow + odN p n (os p n ow))))), (af, .inl (gI G, 121, .inl (fun q9 => nI (fdy q9))))] := hD
          refine lv_goto (tgt := 25) hx hb dX4_carryOut_64 (by decide) ?_
          refine lv_iload_n hx hb dX4_carryOut_25 rfl (lv_at hl 0 rfl) ?_
          refine z0_eq hx hb (tgt := 67) 0 dX4_carryOut_26 (by decide) (by decide) (fun c_26 => ?_) (fun c_26 => ?_)
          · skip
            refine lv_aload_n hx hb dX4_carryOut_67 rfl (lv_at hl 2 rfl) ?_
            refine lv_iconst (v := nI 0) hx hb dX4_carryOut_68 (by decide) ?_
            refine va_put (ci := 4) (v := .int (nI 0)) (ty := .int) (C := RX4) (T := TX4) (N := 10) hx hb hts inGX4 tyX4 tyX4_ok nmX4 hown hK hP hD hS 1 rfl rfl 7 (by decide) (hts _ mw_3_61) (fun _ h9 => h9) rfl (by decide +kernel) rfl rfl (Nat.le_of_ble_eq_true rfl) dX4_carryOut_69 (fun H locs hP hD hS => ?_)
            have hP : va_P G.1 vwCl [(ah, .inl (gI G, 13050, .inl (va_cpy r (rhh c hh) 0 (2175 * rch c) 2175))), (h, .inr (4, [.ref an, .ref tr, .ref ah, .int (nI (rch c + 1)), .ref ak, .ref ai, .ref ap, .int (nI 0), .ref af, .int (nI (oE p n (os p n ow) + 1))])), (ap, .inl (gI G, 80, .inl p)), (an, .inl (gI G, 2175, .inl (run p n r (oq p n ow + odN p n (os p n ow))))), (af, .inl (gI G, 121, .inl (fun q9 => nI (fdy q9))))] H := hP
            have hD : va_D A [(ah, .inl (gI G, 13050, .inl (va_cpy r (rhh c hh) 0 (2175 * rch c) 2175))), (h, .inr (4, [.ref an, .ref tr, .ref ah, .int (nI (rch c + 1)), .ref ak, .ref ai, .ref ap, .int (nI 0), .ref af, .int (nI (oE p n (os p n ow) + 1))])), (ap, .inl (gI G, 80, .inl p)), (an, .inl (gI G, 2175, .inl (run p n r (oq p n ow + odN p n (os p n ow))))), (af, .inl (gI G, 121, .inl (fun q9 => nI (fdy q9))))] := hD
            refine lv_iload_n hx hb dX4_carryOut_72 rfl (lv_at hl 1 rfl) ?_
            have hPj := hP.sub (ws' := [(h, .inr (4, [.ref an, .ref tr, .ref ah, .int (nI (rch c + 1)), .ref ak, .ref ai, .ref ap, .int (nI 0), .ref af, .int (nI (oE p n (os p n ow) + 1))])), (ap, .inl (gI G, 80, .inl p)), (an, .inl (gI G, 2175, .inl (run p n r (oq p n ow + odN p n (os p n ow))))), (ah, .inl (gI G, 13050, .inl (va_cpy r (rhh c hh) 0 (2175 * rch c) 2175))), (af, .inl (gI G, 121, .inl (fun q9 => nI (fdy q9))))]) [1, 2, 3, 0, 4] rfl
            have hwj : ([(h, .inr (4, [.ref an, .ref tr, .ref ah, .int (nI (rch c + 1)), .ref ak, .ref ai, .ref ap, .int (nI 0), .ref af, .int (nI (oE p n (os p n ow) + 1))])), (ap, .inl (gI G, 80, .inl p)), (an, .inl (gI G, 2175, .inl (run p n r (oq p n ow + odN p n (os p n ow))))), (ah, .inl (gI G, 13050, .inl (va_cpy r (rhh c hh) 0 (2175 * rch c) 2175))), (af, .inl (gI G, 121, .inl (fun q9 => nI (fdy q9))))] : va_W) = [(h, .inr (4, [.ref an, .ref tr, .ref ah, .int (nI (rch c + 1)), .ref ak, .ref ai, .ref ap, .int (nI 0), .ref af, .int (nI (cI (E = N0) (n + 1) (cE p n (cur p n E))))])), (ap, .inl (gI G, 80, .inl p)), (an, .inl (gI G, 2175, .inl (run p n r E))), (ah, .inl (gI G, 13050, .inl (va_cpy r (rhh c hh) 0 (2175 * rch c) 2175))), (af, .inl (gI G, 121, .inl (fun q9 => nI (fdy q9))))] := (wlc (by rw [hs2]) (wlc (rfl) (wlc (by rw [hr2]) (wlc (rfl) (wlc (rfl) rfl)))))
            rw [hwj] at hPj
            exact e_wi hx hb hr hlk hPj hS (hres.symm) dX4_carryOut_73
          · skip
            exact absurd c_26 (by decide)
        · skip
          have h59 := hor.resolve_right (fun z => z.1 c_45)
          have hcc : oF p n (os p n ow) ∧ sg p n (oE p n (os p n ow)) = 59 := ⟨hoF, h59.1⟩
          have hlt := sg_lt (p := p) (n := n) (i := oE p n (os p n ow)) (by omega)
          have hco := cur_o hn hoi hck hoq hoF
          refine lv_iconst (v := nI 1) hx hb dX4_carryOut_48 (by decide) ?_
          refine lv_goto (tgt := 53) hx hb dX4_carryOut_49 (by decide) ?_
          refine lv_istore_n (lv' := [(2, .int (nI 1)), (1, .int (nI (ow + 1))), (0, .ref h)]) hx hb dX4_carryOut_53 rfl hl (by decide) rfl (fun ls hl => ?_)
          refine lv_aload_n hx hb dX4_carryOut_54 rfl (lv_at hl 2 rfl) ?_
          refine lv_dup hx hb dX4_carryOut_55 rfl ?_
          refine va_get (ci := 4) (v := .int (nI (oE p n (os p n ow)))) (C := RX4) (T := TX4) (N := 10) hx hb hts inGX4 hown hK hP 1 rfl rfl 9 (by decide) (hts _ mw_3_63) (fun _ h9 => h9) rfl dX4_carryOut_56 ?_
          refine lv_iconst (v := nI 1) hx hb dX4_carryOut_59 (by decide) ?_
          refine n_iadd hx hb dX4_carryOut_60 ?_
          refine va_put (ci := 4) (v := .int (nI (oE p n (os p n ow) + 1))) (ty := .int) (C := RX4) (T := TX4) (N := 10) hx hb hts inGX4 tyX4 tyX4_ok nmX4 hown hK hP hD hS 1 rfl rfl 9 (by decide) (hts _ mw_3_63) (fun _ h9 => h9) rfl (by decide +kernel) rfl rfl (Nat.le_of_ble_eq_true rfl) dX4_carryOut_61 (fun H locs hP hD hS => ?_)
          have hP : va_P G.1 vwCl [(ah, .inl (gI G, 13050, .inl (va_cpy r (rhh c hh) 0 (2175 * rch c) 2175))), (h, .inr (4, [.ref an, .ref tr, .ref ah, .int (nI (rch c + 1)), .ref ak, .ref ai, .ref ap, .int (nI n), .ref af, .int (nI (oE p n (os p n ow) + 1))])), (ap, .inl (gI G, 80, .inl p)), (an, .inl (gI G, 2175, .inl (run p n r (oq p n ow + odN p n (os p n ow))))), (af, .inl (gI G, 121, .inl (fun q9 => nI (fdy q9))))] H := hP
          have hD : va_D A [(ah, .inl (gI G, 13050, .inl (va_cpy r (rhh c hh) 0 (2175 * rch c) 2175))), (h, .inr (4, [.ref an, .ref tr, .ref ah, .int (nI (rch c + 1)), .ref ak, .ref ai, .ref ap, .int (nI n), .ref af, .int (nI (oE p n (os p n ow) + 1))])), (ap, .inl (gI G, 80, .inl p)), (an, .inl (gI G, 2175, .inl (run p n r (oq p n ow + odN p n (os p n ow))))), (af, .inl (gI G, 121, .inl (fun q9 => nI (fdy q9))))] := hD
          refine lv_goto (tgt := 25) hx hb dX4_carryOut_64 (by decide) ?_
          have hPj := hP.sub (ws' := [(h, .inr (4, [.ref an, .ref tr, .ref ah, .int (nI (rch c + 1)), .ref ak, .ref ai, .ref ap, .int (nI n), .ref af, .int (nI (oE p n (os p n ow) + 1))])), (ap, .inl (gI G, 80, .inl p)), (an, .inl (gI G, 2175, .inl (run p n r (oq p n ow + odN p n (os p n ow))))), (ah, .inl (gI G, 13050, .inl (va_cpy r (rhh c hh) 0 (2175 * rch c) 2175))), (af, .inl (gI G, 121, .inl (fun q9 => nI (fdy q9))))]) [1, 2, 3, 0, 4] rfl
          have hDj := hD.sub (ws' := [(h, .inr (4, [.ref an, .ref tr, .ref ah, .int (nI (rch c + 1)), .ref ak, .ref ai, .ref ap, .int (nI n), .ref af, .int (nI (oE p n (os p n ow) + 1))])), (ap, .inl (gI G, 80, .inl p)), (an, .inl (gI G, 2175, .inl (run p n r (oq p n ow + odN p n (os p n ow))))), (ah, .inl (gI G, 13050, .inl (va_cpy r (rhh c hh) 0 (2175 * rch c) 2175))), (af, .inl (gI G, 121, .inl (fun q9 => nI (fdy q9))))]) [1, 2, 3, 0, 4] (by decide) rfl
          have w_4 : ([(h, .inr (4, [.ref an, .ref tr, .ref ah, .int (nI (rch c + 1)), .ref ak, .ref ai, .ref ap, .int (nI n), .ref af, .int (nI (oE p n (os p n ow) + 1))])), (ap, .inl (gI G, 80, .inl p)), (an, .inl (gI G, 2175, .inl (run p n r (oq p n ow + odN p n (os p n ow))))), (ah, .inl (gI G, 13050, .inl (va_cpy r (rhh c hh) 0 (2175 * rch c) 2175))), (af, .inl (gI G, 121, .inl (fun q9 => nI (fdy q9))))] : va_W) = [(h, .inr (4, [.ref an, .ref tr, .ref ah, .int (nI (rch c + 1)), .ref ak, .ref ai, .ref ap, .int (nI n), .ref af, .int (nI (os p n (ow + 1)))])), (ap, .inl (gI G, 80, .inl p)), (an, .inl (gI G, 2175, .inl (run p n r (oq p n (ow + 1))))), (ah, .inl (gI G, 13050, .inl (va_cpy r (rhh c hh) 0 (2175 * rch c) 2175))), (af, .inl (gI G, 121, .inl (fun q9 => nI (fdy q9))))] := (wlc (by rw [os_s]) (wlc (rfl) (wlc (by rw [oq_s]) (wlc (rfl) (wlc (rfl) rfl)))))
          rw [w_4] at hPj hDj
          exact ih (ow + 1) _ _ ls (by omega) ⟨(by rw [os_s]; omega), (by rw [os_s, oq_s]; omega), (by rw [oq_s]; omega), (by rw [os_s, oq_s]; exact hco.1), (by rw [os_s]; exact h59.2), (by rw [os_s, oq_s, Nat.add_assoc, ← alN_t hn hoi hcc]; exact hN), (by rw [os_s]; have hq9 := alO_t hn hoi hcc; omega), (by rw [os_s, oq_s, ← hfe, alN_t hn hoi hcc, fe_add, hE2]; exact (cI_t rfl).symm), hPj, hDj, hS, lv_sub hl [0, 1, 2] rfl⟩
  · skip
    exact absurd c_6 (by omega)
