theorem hd_X4_sign : hdY yX4_sign 0 := ⟨by decide +kernel, by decide +kernel, by decide +kernel⟩
theorem hd_X4_number : hdY yX4_number 0 := ⟨by decide +kernel, by decide +kernel, by decide +kernel⟩
theorem hd_X4_readRanges : hdY yX4_readRanges 0 := ⟨by decide +kernel, by decide +kernel, by decide +kernel⟩
theorem hd_X4_readOrder : hdY yX4_readOrder 0 := ⟨by decide +kernel, by decide +kernel, by decide +kernel⟩
theorem hd_X4_fault : hdY yX4_fault 0 := ⟨by decide +kernel, by decide +kernel, by decide +kernel⟩
theorem hd_X4_wipe : hdY yX4_wipe 0 := ⟨by decide +kernel, by decide +kernel, by decide +kernel⟩
set_option maxHeartbeats 4000000 in
set_option maxRecDepth 100000 in
theorem c_X4_sign (l : Launch) (G : gT) (h : Nat) (an : Nat) (tr : Nat) (ah : Nat) (ch : Int32) (ak : Nat) (ai : Nat) (ap : Nat) (n : Nat) (af : Nat) (i : Nat) (p : Nat → Int32) (hn : n ≤ 80) (hi : i ≤ 81) : Ro l G yX4_sign cX4_sign 1 (some .int) 0 [(h, .inr (4, [.ref an, .ref tr, .ref ah, .int ch, .ref ak, .ref ai, .ref ap, .int (nI n), .ref af, .int (nI i)])), (ap, .inl (gI G, 80, .inl p))] [.ref h] (sgn p n i) := by
  refine Ro.mk (by decide) (Nat.le_of_ble_eq_true rfl) (fun pq eq sq mq bq tq cq ls hr hlk hF hKx hZ hP hl => ?_)
  have hx := hF.1
  have hb := hF.2.1
  have hml := hF.2.2.1
  have hown : sq.vm.findClass RX4 = some mq.cls := hF.2.2.2.1
  have hts : ∀ w ∈ GW, w.before _ sq = true := hF.2.2.2.2
  have hK := hKx.1
  have hl : lv_has ls 1 [(0, .ref h)] := hl
  have hS : va_S (fun _ => False) sq.heap sq.heap [] := va_S.rf
  have hP : va_P G.1 vwCl [(h, .inr (4, [.ref an, .ref tr, .ref ah, .int ch, .ref ak, .ref ai, .ref ap, .int (nI n), .ref af, .int (nI i)])), (ap, .inl (gI G, 80, .inl p))] sq.heap := hP
  refine lv_aload_n hx hb dX4_sign_0 rfl (lv_at hl 0 rfl) ?_
  refine va_get (ci := 4) (v := .int (nI i)) (C := RX4) (T := TX4) (N := 10) hx hb hts inGX4 hown hK hP 0 rfl rfl 9 (by decide) (hts _ mw_3_63) (fun _ h9 => h9) rfl dX4_sign_1 ?_
  refine lv_aload_n hx hb dX4_sign_4 rfl (lv_at hl 0 rfl) ?_
  refine va_get (ci := 4) (v := .int (nI n)) (C := RX4) (T := TX4) (N := 10) hx hb hts inGX4 hown hK hP 0 rfl rfl 7 (by decide) (hts _ mw_3_61) (fun _ h9 => h9) rfl dX4_sign_5 ?_
  refine z_ge hx hb (tgt := 23) ((i : Nat) : Int) ((n : Nat) : Int) dX4_sign_8 (by decide) (toI (by omega)) (toI (by omega)) (fun c_8 => ?_) (fun c_8 => ?_)
  · skip
    refine lv_bipush (v := (-6)) hx hb dX4_sign_23 (by decide) ?_
    exact e_ri hx hb hr hlk (by unfold sgn; first | exact (if_pos (by omega)).symm | exact (if_neg (by omega)).symm) dX4_sign_25
  · skip
    refine lv_aload_n hx hb dX4_sign_11 rfl (lv_at hl 0 rfl) ?_
    refine va_get (ci := 4) (v := .ref ap) (C := RX4) (T := TX4) (N := 10) hx hb hts inGX4 hown hK hP 0 rfl rfl 6 (by decide) (hts _ mw_3_60) (fun _ h9 => h9) rfl dX4_sign_12 ?_
    refine lv_aload_n hx hb dX4_sign_15 rfl (lv_at hl 0 rfl) ?_
    refine va_get (ci := 4) (v := .int (nI i)) (C := RX4) (T := TX4) (N := 10) hx hb hts inGX4 hown hK hP 0 rfl rfl 9 (by decide) (hts _ mw_3_63) (fun _ h9 => h9) rfl dX4_sign_16 ?_
    refine n_iald hx hb hK hP 1 0 rfl rfl (by omega) (by omega) dX4_sign_19 ?_
    refine lv_goto (tgt := 25) hx hb dX4_sign_20 (by decide) ?_
    exact e_ri hx hb hr hlk (by unfold sgn; first | exact (if_pos (by omega)).symm | exact (if_neg (by omega)).symm) dX4_sign_25
set_option maxHeartbeats 4000000 in
set_option maxRecDepth 100000 in
theorem c_X4_number (l : Launch) (G : gT) (sz : Nat) (h : Nat) (an : Nat) (tr : Nat) (ah : Nat) (ch : Int32) (ak : Nat) (ai : Nat) (ap : Nat) (n : Nat) (af : Nat) (i : Nat) (p : Nat → Int32) (hn : n ≤ 80) (hi : i ≤ n) : Rw l G yX4_number cX4_number 2 (some .int) 1 sz [(h, .inr (4, [.ref an, .ref tr, .ref ah, .int ch, .ref ak, .ref ai, .ref ap, .int (nI n), .ref af, .int (nI i)])), (ap, .inl (gI G, 80, .inl p))] [.ref h] (nR p n i) [(h, .inr (4, [.ref an, .ref tr, .ref ah, .int ch, .ref ak, .ref ai, .ref ap, .int (nI n), .ref af, .int (nI (nE p n i))])), (ap, .inl (gI G, 80, .inl p))] := by
  refine Rw.mk (by decide) (Nat.le_of_ble_eq_true rfl) (fun pq eq sq mq bq tq cq ls A hr hlk hF hKx hZ hA hP hD hS hl => ?_)
  have hx := hF.1
  have hb := hF.2.1
  have hml := hF.2.2.1
  have hown : sq.vm.findClass RX4 = some mq.cls := hF.2.2.2.1
  have hts : ∀ w ∈ GW, w.before _ sq = true := hF.2.2.2.2
  have hK := hKx.1
  have hl : lv_has ls 2 [(0, .ref h)] := hl
  have hP : va_P G.1 vwCl [(h, .inr (4, [.ref an, .ref tr, .ref ah, .int ch, .ref ak, .ref ai, .ref ap, .int (nI n), .ref af, .int (nI i)])), (ap, .inl (gI G, 80, .inl p))] sq.heap := hP
  have hD : va_D A [(h, .inr (4, [.ref an, .ref tr, .ref ah, .int ch, .ref ak, .ref ai, .ref ap, .int (nI n), .ref af, .int (nI i)])), (ap, .inl (gI G, 80, .inl p))] := hD
  refine lv_aload_n hx hb dX4_number_0 rfl (lv_at hl 0 rfl) ?_
  refine k_roV (ci := 4) (q0 := 0) (As := []) (rest := []) hF (c_X4_sign l G h an tr ah ch ak ai ap n af i p (by omega) (by omega)) hKx hP ⟨_, rfl, rfl⟩ rfl rfl mw_4_62 mw_4_64 mw_p2_6 mw_1_5 mw_4_65 hd_X4_sign ⟨Nat.le_of_ble_eq_true rfl, Nat.le_of_ble_eq_true rfl⟩ (Rd.of hKx hZ hS) (hP.sub (ws' := [(h, .inr (4, [.ref an, .ref tr, .ref ah, .int ch, .ref ak, .ref ai, .ref ap, .int (nI n), .ref af, .int (nI i)])), (ap, .inl (gI G, 80, .inl p))]) [0, 1] rfl) rfl hl.1 rfl (Nat.le_of_ble_eq_true rfl) dX4_number_1 ⟨Nat.zero_le _, Nat.zero_le _⟩ ?_
  refine lv_i2l (v := (sgn p n i).toInt64) hx hb dX4_number_4 rfl ?_
  refine lv_ldc2 (v := 48) hx hb hown (hts _ mw_4_70) dX4_number_5 ?_
  refine lv_ldc2 (v := 57) hx hb hown (hts _ mw_4_71) dX4_number_8 ?_
  refine k_roS (As := [.long ((sgn p n i).toInt64), .long 48, .long 57]) (rest := []) hF (c_X4_in l G ((sgn p n i).toInt64) 48 57 ((sgn p n i).toInt) 48 57 (l64 rfl) (by decide) (by decide)) mw_3_91 mw_3_92 mw_1_5 mw_3_93 hd_X4_in ⟨Nat.le_of_ble_eq_true rfl, Nat.le_of_ble_eq_true rfl⟩ (Rd.of hKx hZ hS) (hP.sub (ws' := []) [] rfl) rfl hl.1 rfl (Nat.le_of_ble_eq_true rfl) dX4_number_11 ⟨Nat.zero_le _, Nat.zero_le _⟩ ?_
  refine p0_ne hx hb (tgt := 20) dX4_number_14 (by decide) (fun c_14 => ?_) (fun c_14 => ?_)
  · skip
    refine lv_aload_n hx hb dX4_number_20 rfl (lv_at hl 0 rfl) ?_
    refine k_roV (ci := 4) (q0 := 0) (As := []) (rest := []) hF (c_X4_sign l G h an tr ah ch ak ai ap n af i p (by omega) (by omega)) hKx hP ⟨_, rfl, rfl⟩ rfl rfl mw_4_62 mw_4_64 mw_p2_6 mw_1_5 mw_4_65 hd_X4_sign ⟨Nat.le_of_ble_eq_true rfl, Nat.le_of_ble_eq_true rfl⟩ (Rd.of hKx hZ hS) (hP.sub (ws' := [(h, .inr (4, [.ref an, .ref tr, .ref ah, .int ch, .ref ak, .ref ai, .ref ap, .int (nI n), .ref af, .int (nI i)])), (ap, .inl (gI G, 80, .inl p))]) [0, 1] rfl) rfl hl.1 rfl (Nat.le_of_ble_eq_true rfl) dX4_number_21 ⟨Nat.zero_le _, Nat.zero_le _⟩ ?_
    refine lv_bipush (v := nI 48) hx hb dX4_number_24 (by decide) ?_
    refine lv_isub hx hb dX4_number_26 ?_
    refine lv_cv (y := nI (dv p n i)) (dv_sub c_14) ?_
    have hdv := dv_in (p := p) (n := n) (i := i) c_14
    have hin := (dg_ne (p := p) (n := n) (i := i) c_14).2.2.2
    refine lv_istore_n (lv' := [(1, .int (nI (dv p n i))), (0, .ref h)]) hx hb dX4_number_27 rfl hl (by decide) rfl (fun ls hl => ?_)
    refine lv_aload_n hx hb dX4_number_28 rfl (lv_at hl 1 rfl) ?_
    refine lv_dup hx hb dX4_number_29 rfl ?_
    refine va_get (ci := 4) (v := .int (nI i)) (C := RX4) (T := TX4) (N := 10) hx hb hts inGX4 hown hK hP 0 rfl rfl 9 (by decide) (hts _ mw_3_63) (fun _ h9 => h9) rfl dX4_number_30 ?_
    refine lv_iconst (v := nI 1) hx hb dX4_number_33 (by decide) ?_
    refine n_iadd hx hb dX4_number_34 ?_
    refine va_put (ci := 4) (v := .int (nI (i + 1))) (ty := .int) (C := RX4) (T := TX4) (N := 10) hx hb hts inGX4 tyX4 tyX4_ok nmX4 hown hK hP hD hS 0 rfl rfl 9 (by decide) (hts _ mw_3_63) (fun _ h9 => h9) rfl (by decide +kernel) rfl rfl (Nat.le_of_ble_eq_true rfl) dX4_number_35 (fun H locs hP hD hS => ?_)
    have hP : va_P G.1 vwCl [(h, .inr (4, [.ref an, .ref tr, .ref ah, .int ch, .ref ak, .ref ai, .ref ap, .int (nI n), .ref af, .int (nI (i + 1))])), (ap, .inl (gI G, 80, .inl p))] H := hP
    have hD : va_D A [(h, .inr (4, [.ref an, .ref tr, .ref ah, .int ch, .ref ak, .ref ai, .ref ap, .int (nI n), .ref af, .int (nI (i + 1))])), (ap, .inl (gI G, 80, .inl p))] := hD
    refine lv_iload_n hx hb dX4_number_38 rfl (lv_at hl 0 rfl) ?_
    refine z0_ne hx hb (tgt := 66) ((dv p n i : Nat) : Int) dX4_number_39 (by decide) (toI (by omega)) (fun c_39 => ?_) (fun c_39 => ?_)
    · skip
      have hPj := hP.sub (ws' := [(h, .inr (4, [.ref an, .ref tr, .ref ah, .int ch, .ref ak, .ref ai, .ref ap, .int (nI n), .ref af, .int (nI (i + 1))])), (ap, .inl (gI G, 80, .inl p))]) [0, 1] rfl
      have hDj := hD.sub (ws' := [(h, .inr (4, [.ref an, .ref tr, .ref ah, .int ch, .ref ak, .ref ai, .ref ap, .int (nI n), .ref af, .int (nI (i + 1))])), (ap, .inl (gI G, 80, .inl p))]) [0, 1] (by decide) rfl
      have hwj : ([(h, .inr (4, [.ref an, .ref tr, .ref ah, .int ch, .ref ak, .ref ai, .ref ap, .int (nI n), .ref af, .int (nI (i + 1))])), (ap, .inl (gI G, 80, .inl p))] : va_W) = [(h, .inr (4, [.ref an, .ref tr, .ref ah, .int ch, .ref ak, .ref ai, .ref ap, .int (nI n), .ref af, .int (nI (i + 1 + 0))])), (ap, .inl (gI G, 80, .inl p))] := (wlc (rfl) (wlc (rfl) rfl))
      rw [hwj] at hPj hDj
      refine wloopH [] (fun k H locs ls => (i + 1 + k ≤ n) ∧ (¬ vk p n i k = 0) ∧ (vk p n i k < 3650) ∧ (nuV p n i = nV p n (vk p n i k) (i + 1 + k)) ∧ (nE p n i = nW p n (vk p n i k) (i + 1 + k)) ∧ (dgP p n i) ∧ va_P G.1 vwCl [(h, .inr (4, [.ref an, .ref tr, .ref ah, .int ch, .ref ak, .ref ai, .ref ap, .int (nI n), .ref af, .int (nI (i + 1 + k))])), (ap, .inl (gI G, 80, .inl p))] H ∧ va_D A [(h, .inr (4, [.ref an, .ref tr, .ref ah, .int ch, .ref ak, .ref ai, .ref ap, .int (nI n), .ref af, .int (nI (i + 1 + k))])), (ap, .inl (gI G, 80, .inl p))] ∧ va_S A sq.heap H locs ∧ lv_has ls 2 [(1, .int (nI (vk p n i k))), (0, .ref h)]) (fun k => n - (i + 1 + k)) ?_ 0 ⟨(by omega), (by show ¬ dv p n i = 0; omega), (by show dv p n i < 3650; omega), (rfl), (nE_t c_14), (c_14), hPj, hDj, hS, lv_sub hl [0, 1] (lvc (by first | rfl | exact congrArg nI (by omega)) (lvr rfl))⟩
      intro k ih
      intro H locs ls ⟨hk, hv, hv2, hV, hW, hdi, hP, hD, hS, hl⟩
      refine lv_aload_n hx hb dX4_number_66 rfl (lv_at hl 1 rfl) ?_
      refine k_roV (ci := 4) (q0 := 0) (As := []) (rest := []) hF (c_X4_sign l G h an tr ah ch ak ai ap n af (i + 1 + k) p (by omega) (by omega)) hKx hP ⟨_, rfl, rfl⟩ rfl rfl mw_4_62 mw_4_64 mw_p2_6 mw_1_5 mw_4_65 hd_X4_sign ⟨Nat.le_of_ble_eq_true rfl, Nat.le_of_ble_eq_true rfl⟩ (Rd.of hKx hZ hS) (hP.sub (ws' := [(h, .inr (4, [.ref an, .ref tr, .ref ah, .int ch, .ref ak, .ref ai, .ref ap, .int (nI n), .ref af, .int (nI (i + 1 + k))])), (ap, .inl (gI G, 80, .inl p))]) [0, 1] rfl) rfl hl.1 rfl (Nat.le_of_ble_eq_true rfl) dX4_number_67 ⟨Nat.zero_le _, Nat.zero_le _⟩ ?_
      refine lv_i2l (v := (sgn p n (i + 1 + k)).toInt64) hx hb dX4_number_70 rfl ?_
      refine lv_ldc2 (v := 48) hx hb hown (hts _ mw_4_70) dX4_number_71 ?_
      refine lv_ldc2 (v := 57) hx hb hown (hts _ mw_4_71) dX4_number_74 ?_
      refine k_roS (As := [.long ((sgn p n (i + 1 + k)).toInt64), .long 48, .long 57]) (rest := []) hF (c_X4_in l G ((sgn p n (i + 1 + k)).toInt64) 48 57 ((sgn p n (i + 1 + k)).toInt) 48 57 (l64 rfl) (by decide) (by decide)) mw_3_91 mw_3_92 mw_1_5 mw_3_93 hd_X4_in ⟨Nat.le_of_ble_eq_true rfl, Nat.le_of_ble_eq_true rfl⟩ (Rd.of hKx hZ hS) (hP.sub (ws' := []) [] rfl) rfl hl.1 rfl (Nat.le_of_ble_eq_true rfl) dX4_number_77 ⟨Nat.zero_le _, Nat.zero_le _⟩ ?_
      refine p0_eq hx hb (tgt := 130) dX4_number_80 (by decide) (fun c_80 => ?_) (fun c_80 => ?_)
      · skip
        have hE2 : nE p n i = i + 1 + k := hW.trans (nW_f (fun z => c_80 z.1))
        have hV2 : nuV p n i = vk p n i k := hV.trans (nV_f (fun z => c_80 z.1))
        refine lv_iload_n hx hb dX4_number_130 rfl (lv_at hl 0 rfl) ?_
        have hPj := hP.sub (ws' := [(h, .inr (4, [.ref an, .ref tr, .ref ah, .int ch, .ref ak, .ref ai, .ref ap, .int (nI n), .ref af, .int (nI (i + 1 + k))])), (ap, .inl (gI G, 80, .inl p))]) [0, 1] rfl
        have hwj : ([(h, .inr (4, [.ref an, .ref tr, .ref ah, .int ch, .ref ak, .ref ai, .ref ap, .int (nI n), .ref af, .int (nI (i + 1 + k))])), (ap, .inl (gI G, 80, .inl p))] : va_W) = [(h, .inr (4, [.ref an, .ref tr, .ref ah, .int ch, .ref ak, .ref ai, .ref ap, .int (nI n), .ref af, .int (nI (nE p n i))])), (ap, .inl (gI G, 80, .inl p))] := (wlc (by rw [hE2]) (wlc (rfl) rfl))
        rw [hwj] at hPj
        exact e_wi hx hb hr hlk hPj hS (((nR_t ⟨hdi, by rw [hE2]; exact c_80⟩).trans (congrArg nI hV2)).symm) dX4_number_131
      · skip
        have hdk := dv_in (p := p) (n := n) (i := i + 1 + k) c_80
        have hjn := (dg_ne (p := p) (n := n) (i := i + 1 + k) c_80).2.2.2
        refine lv_bipush (v := nI 10) hx hb dX4_number_83 (by decide) ?_
        refine lv_iload_n hx hb dX4_number_85 rfl (lv_at hl 0 rfl) ?_
        refine n_imul hx hb dX4_number_86 ?_
        refine lv_aload_n hx hb dX4_number_87 rfl (lv_at hl 1 rfl) ?_
        refine k_roV (ci := 4) (q0 := 0) (As := []) (rest := [.int (nI (10 * (vk p n i k)))]) hF (c_X4_sign l G h an tr ah ch ak ai ap n af (i + 1 + k) p (by omega) (by omega)) hKx hP ⟨_, rfl, rfl⟩ rfl rfl mw_4_62 mw_4_64 mw_p2_6 mw_1_5 mw_4_65 hd_X4_sign ⟨Nat.le_of_ble_eq_true rfl, Nat.le_of_ble_eq_true rfl⟩ (Rd.of hKx hZ hS) (hP.sub (ws' := [(h, .inr (4, [.ref an, .ref tr, .ref ah, .int ch, .ref ak, .ref ai, .ref ap, .int (nI n), .ref af, .int (nI (i + 1 + k))])), (ap, .inl (gI G, 80, .inl p))]) [0, 1] rfl) rfl hl.1 rfl (Nat.le_of_ble_eq_true rfl) dX4_number_88 ⟨Nat.zero_le _, Nat.zero_le _⟩ ?_
        refine lv_iadd hx hb dX4_number_91 ?_
        refine lv_bipush (v := nI 48) hx hb dX4_number_92 (by decide) ?_
        refine lv_isub hx hb dX4_number_94 ?_
        refine lv_cv (y := nI (10 * vk p n i k + dv p n (i + 1 + k))) (dv_sub2 c_80) ?_
        refine lv_sipush (v := nI 3650) hx hb dX4_number_95 (by decide) ?_
        refine z_lt hx hb (tgt := 104) ((10 * vk p n i k + dv p n (i + 1 + k) : Nat) : Int) 3650 dX4_number_98 (by decide) (toI (by omega)) (by decide) (fun c_98 => ?_) (fun c_98 => ?_)
        · skip
          have hct : cnt p n (vk p n i k) (i + 1 + k) := ⟨c_80, hv, by omega⟩
          refine lv_bipush (v := nI 10) hx hb dX4_number_104 (by decide) ?_
          refine lv_iload_n hx hb dX4_number_106 rfl (lv_at hl 0 rfl) ?_
          refine n_imul hx hb dX4_number_107 ?_
          refine lv_aload_n hx hb dX4_number_108 rfl (lv_at hl 1 rfl) ?_
          refine k_roV (ci := 4) (q0 := 0) (As := []) (rest := [.int (nI (10 * (vk p n i k)))]) hF (c_X4_sign l G h an tr ah ch ak ai ap n af (i + 1 + k) p (by omega) (by omega)) hKx hP ⟨_, rfl, rfl⟩ rfl rfl mw_4_62 mw_4_64 mw_p2_6 mw_1_5 mw_4_65 hd_X4_sign ⟨Nat.le_of_ble_eq_true rfl, Nat.le_of_ble_eq_true rfl⟩ (Rd.of hKx hZ hS) (hP.sub (ws' := [(h, .inr (4, [.ref an, .ref tr, .ref ah, .int ch, .ref ak, .ref ai, .ref ap, .int (nI n), .ref af, .int (nI (i + 1 + k))])), (ap, .inl (gI G, 80, .inl p))]) [0, 1] rfl) rfl hl.1 rfl (Nat.le_of_ble_eq_true rfl) dX4_number_109 ⟨Nat.zero_le _, Nat.zero_le _⟩ ?_
          refine lv_iadd hx hb dX4_number_112 ?_
          refine lv_bipush (v := nI 48) hx hb dX4_number_113 (by decide) ?_
          refine lv_isub hx hb dX4_number_115 ?_
          refine lv_cv (y := nI (10 * vk p n i k + dv p n (i + 1 + k))) (dv_sub2 c_80) ?_
          refine lv_istore_n (lv' := [(1, .int (nI (10 * vk p n i k + dv p n (i + 1 + k)))), (0, .ref h)]) hx hb dX4_number_116 rfl hl (by decide) rfl (fun ls hl => ?_)
          refine lv_aload_n hx hb dX4_number_117 rfl (lv_at hl 1 rfl) ?_
          refine lv_dup hx hb dX4_number_118 rfl ?_
          refine va_get (ci := 4) (v := .int (nI (i + 1 + k))) (C := RX4) (T := TX4) (N := 10) hx hb hts inGX4 hown hK hP 0 rfl rfl 9 (by decide) (hts _ mw_3_63) (fun _ h9 => h9) rfl dX4_number_119 ?_
          refine lv_iconst (v := nI 1) hx hb dX4_number_122 (by decide) ?_
          refine n_iadd hx hb dX4_number_123 ?_
          refine va_put (ci := 4) (v := .int (nI (i + 1 + k + 1))) (ty := .int) (C := RX4) (T := TX4) (N := 10) hx hb hts inGX4 tyX4 tyX4_ok nmX4 hown hK hP hD hS 0 rfl rfl 9 (by decide) (hts _ mw_3_63) (fun _ h9 => h9) rfl (by decide +kernel) rfl rfl (Nat.le_of_ble_eq_true rfl) dX4_number_124 (fun H locs hP hD hS => ?_)
          have hP : va_P G.1 vwCl [(h, .inr (4, [.ref an, .ref tr, .ref ah, .int ch, .ref ak, .ref ai, .ref ap, .int (nI n), .ref af, .int (nI (i + 1 + k + 1))])), (ap, .inl (gI G, 80, .inl p))] H := hP
          have hD : va_D A [(h, .inr (4, [.ref an, .ref tr, .ref ah, .int ch, .ref ak, .ref ai, .ref ap, .int (nI n), .ref af, .int (nI (i + 1 + k + 1))])), (ap, .inl (gI G, 80, .inl p))] := hD
          refine lv_goto (tgt := 66) hx hb dX4_number_127 (by decide) ?_
          have w_1 : ([(h, .inr (4, [.ref an, .ref tr, .ref ah, .int ch, .ref ak, .ref ai, .ref ap, .int (nI n), .ref af, .int (nI (i + 1 + k + 1))])), (ap, .inl (gI G, 80, .inl p))] : va_W) = [(h, .inr (4, [.ref an, .ref tr, .ref ah, .int ch, .ref ak, .ref ai, .ref ap, .int (nI n), .ref af, .int (nI (i + 1 + (k + 1)))])), (ap, .inl (gI G, 80, .inl p))] := (wlc (rfl) (wlc (rfl) rfl))
          have hPj := hP.sub (ws' := [(h, .inr (4, [.ref an, .ref tr, .ref ah, .int ch, .ref ak, .ref ai, .ref ap, .int (nI n), .ref af, .int (nI (i + 1 + k + 1))])), (ap, .inl (gI G, 80, .inl p))]) [0, 1] rfl
          have hDj := hD.sub (ws' := [(h, .inr (4, [.ref an, .ref tr, .ref ah, .int ch, .ref ak, .ref ai, .ref ap, .int (nI n), .ref af, .int (nI (i + 1 + k + 1))])), (ap, .inl (gI G, 80, .inl p))]) [0, 1] (by decide) rfl
          rw [w_1] at hPj hDj
          exact ih (k + 1) _ _ ls (by omega) ⟨(by omega), (by show ¬ 10 * vk p n i k + dv p n (i + 1 + k) = 0; omega), (by show 10 * vk p n i k + dv p n (i + 1 + k) < 3650; omega), (hV.trans (nV_t hn hct)), (hW.trans (nW_t hn hct)), (hdi), hPj, hDj, hS, lv_sub hl [0, 1] (lvc (by first | rfl | exact congrArg nI (by omega)) (lvr rfl))⟩
        · skip
          have hE2 : nE p n i = i + 1 + k := hW.trans (nW_f (fun z => absurd z.2.2 (by omega)))
          refine lv_bipush (v := (-6)) hx hb dX4_number_101 (by decide) ?_
          have hPj := hP.sub (ws' := [(h, .inr (4, [.ref an, .ref tr, .ref ah, .int ch, .ref ak, .ref ai, .ref ap, .int (nI n), .ref af, .int (nI (i + 1 + k))])), (ap, .inl (gI G, 80, .inl p))]) [0, 1] rfl
          have hwj : ([(h, .inr (4, [.ref an, .ref tr, .ref ah, .int ch, .ref ak, .ref ai, .ref ap, .int (nI n), .ref af, .int (nI (i + 1 + k))])), (ap, .inl (gI G, 80, .inl p))] : va_W) = [(h, .inr (4, [.ref an, .ref tr, .ref ah, .int ch, .ref ak, .ref ai, .ref ap, .int (nI n), .ref af, .int (nI (nE p n i))])), (ap, .inl (gI G, 80, .inl p))] := (wlc (by rw [hE2]) (wlc (rfl) rfl))
          rw [hwj] at hPj
          exact e_wi hx hb hr hlk hPj hS ((nR_f (fun z => z.2 (by rw [hE2]; exact c_80))).symm) dX4_number_103
    · skip
      have hz : dv p n i = 0 := by omega
      have hnc : ¬ cnt p n (dv p n i) (i + 1) := fun z => z.2.1 hz
      have hE : nE p n i = i + 1 := (nE_t c_14).trans (nW_f hnc)
      have hV : nuV p n i = 0 := (nV_f hnc).trans hz
      refine lv_aload_n hx hb dX4_number_42 rfl (lv_at hl 1 rfl) ?_
      refine k_roV (ci := 4) (q0 := 0) (As := []) (rest := []) hF (c_X4_sign l G h an tr ah ch ak ai ap n af (i + 1) p (by omega) (by omega)) hKx hP ⟨_, rfl, rfl⟩ rfl rfl mw_4_62 mw_4_64 mw_p2_6 mw_1_5 mw_4_65 hd_X4_sign ⟨Nat.le_of_ble_eq_true rfl, Nat.le_of_ble_eq_true rfl⟩ (Rd.of hKx hZ hS) (hP.sub (ws' := [(h, .inr (4, [.ref an, .ref tr, .ref ah, .int ch, .ref ak, .ref ai, .ref ap, .int (nI n), .ref af, .int (nI (i + 1))])), (ap, .inl (gI G, 80, .inl p))]) [0, 1] rfl) rfl hl.1 rfl (Nat.le_of_ble_eq_true rfl) dX4_number_43 ⟨Nat.zero_le _, Nat.zero_le _⟩ ?_
      refine lv_i2l (v := (sgn p n (i + 1)).toInt64) hx hb dX4_number_46 rfl ?_
      refine lv_ldc2 (v := 48) hx hb hown (hts _ mw_4_70) dX4_number_47 ?_
      refine lv_ldc2 (v := 57) hx hb hown (hts _ mw_4_71) dX4_number_50 ?_
      refine k_roS (As := [.long ((sgn p n (i + 1)).toInt64), .long 48, .long 57]) (rest := []) hF (c_X4_in l G ((sgn p n (i + 1)).toInt64) 48 57 ((sgn p n (i + 1)).toInt) 48 57 (l64 rfl) (by decide) (by decide)) mw_3_91 mw_3_92 mw_1_5 mw_3_93 hd_X4_in ⟨Nat.le_of_ble_eq_true rfl, Nat.le_of_ble_eq_true rfl⟩ (Rd.of hKx hZ hS) (hP.sub (ws' := []) [] rfl) rfl hl.1 rfl (Nat.le_of_ble_eq_true rfl) dX4_number_53 ⟨Nat.zero_le _, Nat.zero_le _⟩ ?_
      refine p0_eq hx hb (tgt := 64) dX4_number_56 (by decide) (fun c_56 => ?_) (fun c_56 => ?_)
      · skip
        refine lv_iconst (v := nI 0) hx hb dX4_number_64 (by decide) ?_
        have hPj := hP.sub (ws' := [(h, .inr (4, [.ref an, .ref tr, .ref ah, .int ch, .ref ak, .ref ai, .ref ap, .int (nI n), .ref af, .int (nI (i + 1))])), (ap, .inl (gI G, 80, .inl p))]) [0, 1] rfl
        have hwj : ([(h, .inr (4, [.ref an, .ref tr, .ref ah, .int ch, .ref ak, .ref ai, .ref ap, .int (nI n), .ref af, .int (nI (i + 1))])), (ap, .inl (gI G, 80, .inl p))] : va_W) = [(h, .inr (4, [.ref an, .ref tr, .ref ah, .int ch, .ref ak, .ref ai, .ref ap, .int (nI n), .ref af, .int (nI (nE p n i))])), (ap, .inl (gI G, 80, .inl p))] := (wlc (by rw [hE]) (wlc (rfl) rfl))
        rw [hwj] at hPj
        exact e_wi hx hb hr hlk hPj hS (by first | exact ((nR_t ⟨c_14, by rw [hE]; exact c_56⟩).trans (congrArg nI hV)).symm | exact (nR_f (fun z => z.2 (by rw [hE]; exact c_56))).symm) dX4_number_65
      · skip
        refine lv_bipush (v := (-6)) hx hb dX4_number_59 (by decide) ?_
        refine lv_goto (tgt := 65) hx hb dX4_number_61 (by decide) ?_
        have hPj := hP.sub (ws' := [(h, .inr (4, [.ref an, .ref tr, .ref ah, .int ch, .ref ak, .ref ai, .ref ap, .int (nI n), .ref af, .int (nI (i + 1))])), (ap, .inl (gI G, 80, .inl p))]) [0, 1] rfl
        have hwj : ([(h, .inr (4, [.ref an, .ref tr, .ref ah, .int ch, .ref ak, .ref ai, .ref ap, .int (nI n), .ref af, .int (nI (i + 1))])), (ap, .inl (gI G, 80, .inl p))] : va_W) = [(h, .inr (4, [.ref an, .ref tr, .ref ah, .int ch, .ref ak, .ref ai, .ref ap, .int (nI n), .ref af, .int (nI (nE p n i))])), (ap, .inl (gI G, 80, .inl p))] := (wlc (by rw [hE]) (wlc (rfl) rfl))
        rw [hwj] at hPj
        exact e_wi hx hb hr hlk hPj hS (by first | exact ((nR_t ⟨c_14, by rw [hE]; exact c_56⟩).trans (congrArg nI hV)).symm | exact (nR_f (fun z => z.2 (by rw [hE]; exact c_56))).symm) dX4_number_65
  · skip
    refine lv_bipush (v := (-6)) hx hb dX4_number_17 (by decide) ?_
    have hPj := hP.sub (ws' := [(h, .inr (4, [.ref an, .ref tr, .ref ah, .int ch, .ref ak, .ref ai, .ref ap, .int (nI n), .ref af, .int (nI i)])), (ap, .inl (gI G, 80, .inl p))]) [0, 1] rfl
    have hwj : ([(h, .inr (4, [.ref an, .ref tr, .ref ah, .int ch, .ref ak, .ref ai, .ref ap, .int (nI n), .ref af, .int (nI i)])), (ap, .inl (gI G, 80, .inl p))] : va_W) = [(h, .inr (4, [.ref an, .ref tr, .ref ah, .int ch, .ref ak, .ref ai, .ref ap, .int (nI n), .ref af, .int (nI (nE p n i))])), (ap, .inl (gI G, 80, .inl p))] := (wlc (by rw [nE_f c_14]) (wlc (rfl) rfl))
    rw [hwj] at hPj
    exact e_wi hx hb hr hlk hPj hS ((nR_f (fun z => c_14 z.1)).symm) dX4_number_19
set_option maxHeartbeats 4000000 in
set_option maxRecDepth 100000 in
theorem c_X4_readRanges (l : Launch) (G : gT) (sz : Nat) (h : Nat) (an : Nat) (tr : Nat) (ah : Nat) (ch : Int32) (ak : Nat) (ai : Nat) (ap : Nat) (n : Nat) (af : Nat) (i : Nat) (p : Nat → Int32) (hn : n ≤ 80) (hi : i ≤ n) : Rw l G yX4_readRanges cX4_readRanges 2 (some .boolean) 2 sz [(h, .inr (4, [.ref an, .ref tr, .ref ah, .int ch, .ref ak, .ref ai, .ref ap, .int (nI n), .ref af, .int (nI i)])), (ap, .inl (gI G, 80, .inl p))] [.ref h] (pI (rgO p n i ∧ ¬ dgP p n (rgE p n i))) [(h, .inr (4, [.ref an, .ref tr, .ref ah, .int ch, .ref ak, .ref ai, .ref ap, .int (nI n), .ref af, .int (nI (rgE p n i))])), (ap, .inl (gI G, 80, .inl p))] := by
  refine Rw.mk (by decide) (Nat.le_of_ble_eq_true rfl) (fun pq eq sq mq bq tq cq ls A hr hlk hF hKx hZ hA hP hD hS hl => ?_)
  have hx := hF.1
  have hb := hF.2.1
  have hml := hF.2.2.1
  have hown : sq.vm.findClass RX4 = some mq.cls := hF.2.2.2.1
  have hts : ∀ w ∈ GW, w.before _ sq = true := hF.2.2.2.2
  have hK := hKx.1
  have hl : lv_has ls 2 [(0, .ref h)] := hl
  have hP : va_P G.1 vwCl [(h, .inr (4, [.ref an, .ref tr, .ref ah, .int ch, .ref ak, .ref ai, .ref ap, .int (nI n), .ref af, .int (nI i)])), (ap, .inl (gI G, 80, .inl p))] sq.heap := hP
  have hD : va_D A [(h, .inr (4, [.ref an, .ref tr, .ref ah, .int ch, .ref ak, .ref ai, .ref ap, .int (nI n), .ref af, .int (nI i)])), (ap, .inl (gI G, 80, .inl p))] := hD
  refine lv_iconst (v := nI 1) hx hb dX4_readRanges_0 (by decide) ?_
  refine lv_istore_n (lv' := [(1, .int (nI 1)), (0, .ref h)]) hx hb dX4_readRanges_1 rfl hl (by decide) rfl (fun ls hl => ?_)
  have hPj := hP.sub (ws' := [(h, .inr (4, [.ref an, .ref tr, .ref ah, .int ch, .ref ak, .ref ai, .ref ap, .int (nI n), .ref af, .int (nI i)])), (ap, .inl (gI G, 80, .inl p))]) [0, 1] rfl
  have hDj := hD.sub (ws' := [(h, .inr (4, [.ref an, .ref tr, .ref ah, .int ch, .ref ak, .ref ai, .ref ap, .int (nI n), .ref af, .int (nI i)])), (ap, .inl (gI G, 80, .inl p))]) [0, 1] (by decide) rfl
  refine wloopH [] (fun j H locs ls => (j ≤ n) ∧ (rgE p n i = rgE p n j) ∧ (rgO p n i ↔ rgO p n j) ∧ va_P G.1 vwCl [(h, .inr (4, [.ref an, .ref tr, .ref ah, .int ch, .ref ak, .ref ai, .ref ap, .int (nI n), .ref af, .int (nI j)])), (ap, .inl (gI G, 80, .inl p))] H ∧ va_D A [(h, .inr (4, [.ref an, .ref tr, .ref ah, .int ch, .ref ak, .ref ai, .ref ap, .int (nI n), .ref af, .int (nI j)])), (ap, .inl (gI G, 80, .inl p))] ∧ va_S A sq.heap H locs ∧ lv_has ls 2 [(1, .int (nI 1)), (0, .ref h)]) (fun j => n + 1 - j) ?_ i ⟨(by omega), (rfl), (Iff.rfl), hPj, hDj, hS, lv_sub hl [0, 1] rfl⟩
  intro j ih
  intro H locs ls ⟨hj, hE, hO, hP, hD, hS, hl⟩
  have hne := nE_in (p := p) (n := n) hj
  have hrl := rL_in (p := p) (n := n) hj
  refine lv_iload_n hx hb dX4_readRanges_2 rfl (lv_at hl 0 rfl) ?_
  refine z0_eq hx hb (tgt := 83) 1 dX4_readRanges_3 (by decide) (by decide) (fun c_3 => ?_) (fun c_3 => ?_)
  · skip
    exact absurd c_3 (by decide)
  · skip
    refine lv_aload_n hx hb dX4_readRanges_6 rfl (lv_at hl 1 rfl) ?_
    refine k_rwV (ci := 4) (q0 := 0) (As := []) (rest := []) (wr := []) hF (c_X4_number l G _ h an tr ah ch ak ai ap n af j p (by omega) (by omega)) ⟨_, rfl, rfl⟩ rfl rfl mw_4_66 mw_4_68 mw_p2_7 mw_1_5 mw_4_69 hd_X4_number ⟨Nat.le_of_ble_eq_true rfl, Nat.le_of_ble_eq_true rfl⟩ hKx hZ hS hP hD hA [0, 1] [] rfl rfl (by decide) (by decide) (by decide) rfl rfl hl.1 rfl (Nat.le_of_ble_eq_true rfl) dX4_readRanges_7 ⟨Nat.zero_le _, Nat.zero_le _⟩ (fun H locs hP hD hS => ?_)
    have hP : va_P G.1 vwCl [(h, .inr (4, [.ref an, .ref tr, .ref ah, .int ch, .ref ak, .ref ai, .ref ap, .int (nI n), .ref af, .int (nI (nE p n j))])), (ap, .inl (gI G, 80, .inl p))] H := hP
    have hD : va_D A [(h, .inr (4, [.ref an, .ref tr, .ref ah, .int ch, .ref ak, .ref ai, .ref ap, .int (nI n), .ref af, .int (nI (nE p n j))])), (ap, .inl (gI G, 80, .inl p))] := hD
    refine lv_bipush (v := (-6)) hx hb dX4_readRanges_10 (by decide) ?_
    refine z_ne hx hb (tgt := 17) ((nR p n j).toInt) (-6) dX4_readRanges_12 (by decide) rfl (by decide) (fun c_12 => ?_) (fun c_12 => ?_)
    · skip
      refine wjoinH 47 [] (fun H locs ls => (rF p n j ∧ ¬ dgP p n (rL p n j)) ∧ va_P G.1 vwCl [(h, .inr (4, [.ref an, .ref tr, .ref ah, .int ch, .ref ak, .ref ai, .ref ap, .int (nI n), .ref af, .int (nI (rL p n j))])), (ap, .inl (gI G, 80, .inl p))] H ∧ va_D A [(h, .inr (4, [.ref an, .ref tr, .ref ah, .int ch, .ref ak, .ref ai, .ref ap, .int (nI n), .ref af, .int (nI (rL p n j))])), (ap, .inl (gI G, 80, .inl p))] ∧ va_S A sq.heap H locs ∧ lv_has ls 2 [(0, .ref h)]) ?_ (fun J47 => ?_)
      · skip
        intro H locs ls ⟨hrf, hP, hD, hS, hl⟩
        refine lv_aload_n hx hb dX4_readRanges_47 rfl (lv_at hl 0 rfl) ?_
        refine k_roV (ci := 4) (q0 := 0) (As := []) (rest := []) hF (c_X4_sign l G h an tr ah ch ak ai ap n af (rL p n j) p (by omega) (by omega)) hKx hP ⟨_, rfl, rfl⟩ rfl rfl mw_4_62 mw_4_64 mw_p2_6 mw_1_5 mw_4_65 hd_X4_sign ⟨Nat.le_of_ble_eq_true rfl, Nat.le_of_ble_eq_true rfl⟩ (Rd.of hKx hZ hS) (hP.sub (ws' := [(h, .inr (4, [.ref an, .ref tr, .ref ah, .int ch, .ref ak, .ref ai, .ref ap, .int (nI n), .ref af, .int (nI (rL p n j))])), (ap, .inl (gI G, 80, .inl p))]) [0, 1] rfl) rfl hl.1 rfl (Nat.le_of_ble_eq_true rfl) dX4_readRanges_48 ⟨Nat.zero_le _, Nat.zero_le _⟩ ?_
        refine lv_bipush (v := nI 44) hx hb dX4_readRanges_51 (by decide) ?_
        refine z_ne hx hb (tgt := 60) ((sgn p n (rL p n j)).toInt) 44 dX4_readRanges_53 (by decide) rfl (by decide) (fun c_53 => ?_) (fun c_53 => ?_)
        · skip
          refine lv_iconst (v := nI 0) hx hb dX4_readRanges_60 (by decide) ?_
          refine lv_istore_n (lv' := [(1, .int (nI 0)), (0, .ref h)]) hx hb dX4_readRanges_61 rfl hl (by decide) rfl (fun ls hl => ?_)
          refine lv_aload_n hx hb dX4_readRanges_62 rfl (lv_at hl 1 rfl) ?_
          refine lv_dup hx hb dX4_readRanges_63 rfl ?_
          refine va_get (ci := 4) (v := .int (nI (rL p n j))) (C := RX4) (T := TX4) (N := 10) hx hb hts inGX4 hown hK hP 0 rfl rfl 9 (by decide) (hts _ mw_3_63) (fun _ h9 => h9) rfl dX4_readRanges_64 ?_
          refine lv_iload_n hx hb dX4_readRanges_67 rfl (lv_at hl 0 rfl) ?_
          refine z0_eq hx hb (tgt := 75) 0 dX4_readRanges_68 (by decide) (by decide) (fun c_68 => ?_) (fun c_68 => ?_)
          · skip
            refine lv_iconst (v := nI 0) hx hb dX4_readRanges_75 (by decide) ?_
            refine n_iadd hx hb dX4_readRanges_76 ?_
            refine va_put (ci := 4) (v := .int (nI (rL p n j + 0))) (ty := .int) (C := RX4) (T := TX4) (N := 10) hx hb hts inGX4 tyX4 tyX4_ok nmX4 hown hK hP hD hS 0 rfl rfl 9 (by decide) (hts _ mw_3_63) (fun _ h9 => h9) rfl (by decide +kernel) rfl rfl (Nat.le_of_ble_eq_true rfl) dX4_readRanges_77 (fun H locs hP hD hS => ?_)
            have hP : va_P G.1 vwCl [(h, .inr (4, [.ref an, .ref tr, .ref ah, .int ch, .ref ak, .ref ai, .ref ap, .int (nI n), .ref af, .int (nI (rL p n j + 0))])), (ap, .inl (gI G, 80, .inl p))] H := hP
            have hD : va_D A [(h, .inr (4, [.ref an, .ref tr, .ref ah, .int ch, .ref ak, .ref ai, .ref ap, .int (nI n), .ref af, .int (nI (rL p n j + 0))])), (ap, .inl (gI G, 80, .inl p))] := hD
            refine lv_goto (tgt := 2) hx hb dX4_readRanges_80 (by decide) ?_
            refine lv_iload_n hx hb dX4_readRanges_2 rfl (lv_at hl 0 rfl) ?_
            refine z0_eq hx hb (tgt := 83) 0 dX4_readRanges_3 (by decide) (by decide) (fun c_3 => ?_) (fun c_3 => ?_)
            · skip
              have hrc := rg_f (p := p) (n := n) (j := j) (by omega) (fun z => c_53 z.2)
              refine lv_iconst (v := nI 1) hx hb dX4_readRanges_83 (by decide) ?_
              have hPj := hP.sub (ws' := [(h, .inr (4, [.ref an, .ref tr, .ref ah, .int ch, .ref ak, .ref ai, .ref ap, .int (nI n), .ref af, .int (nI (rL p n j + 0))])), (ap, .inl (gI G, 80, .inl p))]) [0, 1] rfl
              have hwj : ([(h, .inr (4, [.ref an, .ref tr, .ref ah, .int ch, .ref ak, .ref ai, .ref ap, .int (nI n), .ref af, .int (nI (rL p n j + 0))])), (ap, .inl (gI G, 80, .inl p))] : va_W) = [(h, .inr (4, [.ref an, .ref tr, .ref ah, .int ch, .ref ak, .ref ai, .ref ap, .int (nI n), .ref af, .int (nI (rgE p n i))])), (ap, .inl (gI G, 80, .inl p))] := (wlc (by rw [hE, hrc.1, Nat.add_zero]) (wlc (rfl) rfl))
              rw [hwj] at hPj
              exact e_wz hx hb hr hlk (nz_1) hPj hS (pI_t' ⟨hO.mpr (hrc.2.mpr hrf.1), by rw [hE, hrc.1]; exact hrf.2⟩) dX4_readRanges_84
            · skip
              exact absurd c_3 (by decide)
          · skip
            exact absurd c_68 (by decide)
        · skip
          have h44 := sg_lt (p := p) (n := n) (i := rL p n j) (show 0 ≤ (sgn p n (rL p n j)).toInt by omega)
          refine lv_iconst (v := nI 1) hx hb dX4_readRanges_56 (by decide) ?_
          refine lv_goto (tgt := 61) hx hb dX4_readRanges_57 (by decide) ?_
          refine lv_istore_n (lv' := [(1, .int (nI 1)), (0, .ref h)]) hx hb dX4_readRanges_61 rfl hl (by decide) rfl (fun ls hl => ?_)
          refine lv_aload_n hx hb dX4_readRanges_62 rfl (lv_at hl 1 rfl) ?_
          refine lv_dup hx hb dX4_readRanges_63 rfl ?_
          refine va_get (ci := 4) (v := .int (nI (rL p n j))) (C := RX4) (T := TX4) (N := 10) hx hb hts inGX4 hown hK hP 0 rfl rfl 9 (by decide) (hts _ mw_3_63) (fun _ h9 => h9) rfl dX4_readRanges_64 ?_
          refine lv_iload_n hx hb dX4_readRanges_67 rfl (lv_at hl 0 rfl) ?_
          refine z0_eq hx hb (tgt := 75) 1 dX4_readRanges_68 (by decide) (by decide) (fun c_68 => ?_) (fun c_68 => ?_)
          · skip
            exact absurd c_68 (by decide)
          · skip
            refine lv_iconst (v := nI 1) hx hb dX4_readRanges_71 (by decide) ?_
            refine lv_goto (tgt := 76) hx hb dX4_readRanges_72 (by decide) ?_
            refine n_iadd hx hb dX4_readRanges_76 ?_
            refine va_put (ci := 4) (v := .int (nI (rL p n j + 1))) (ty := .int) (C := RX4) (T := TX4) (N := 10) hx hb hts inGX4 tyX4 tyX4_ok nmX4 hown hK hP hD hS 0 rfl rfl 9 (by decide) (hts _ mw_3_63) (fun _ h9 => h9) rfl (by decide +kernel) rfl rfl (Nat.le_of_ble_eq_true rfl) dX4_readRanges_77 (fun H locs hP hD hS => ?_)
            have hP : va_P G.1 vwCl [(h, .inr (4, [.ref an, .ref tr, .ref ah, .int ch, .ref ak, .ref ai, .ref ap, .int (nI n), .ref af, .int (nI (rL p n j + 1))])), (ap, .inl (gI G, 80, .inl p))] H := hP
            have hD : va_D A [(h, .inr (4, [.ref an, .ref tr, .ref ah, .int ch, .ref ak, .ref ai, .ref ap, .int (nI n), .ref af, .int (nI (rL p n j + 1))])), (ap, .inl (gI G, 80, .inl p))] := hD
            refine lv_goto (tgt := 2) hx hb dX4_readRanges_80 (by decide) ?_
            exact ih (rL p n j + 1) _ _ ls (by omega) ⟨(by omega), (hE.trans (rg_t hn hj ⟨hrf.1, c_53⟩).1), (hO.trans (rg_t hn hj ⟨hrf.1, c_53⟩).2), (hP.sub (ws' := [(h, .inr (4, [.ref an, .ref tr, .ref ah, .int ch, .ref ak, .ref ai, .ref ap, .int (nI n), .ref af, .int (nI (rL p n j + 1))])), (ap, .inl (gI G, 80, .inl p))]) [0, 1] rfl), (hD.sub (ws' := [(h, .inr (4, [.ref an, .ref tr, .ref ah, .int ch, .ref ak, .ref ai, .ref ap, .int (nI n), .ref af, .int (nI (rL p n j + 1))])), (ap, .inl (gI G, 80, .inl p))]) [0, 1] (by decide) rfl), hS, lv_sub hl [0, 1] rfl⟩
      · skip
        have hd1 : dgP p n j ∧ ¬ dgP p n (nE p n j) := Classical.byContradiction (fun z => c_12 (nR_6.mpr z))
        refine lv_aload_n hx hb dX4_readRanges_17 rfl (lv_at hl 1 rfl) ?_
        refine k_roV (ci := 4) (q0 := 0) (As := []) (rest := []) hF (c_X4_sign l G h an tr ah ch ak ai ap n af (nE p n j) p (by omega) (by omega)) hKx hP ⟨_, rfl, rfl⟩ rfl rfl mw_4_62 mw_4_64 mw_p2_6 mw_1_5 mw_4_65 hd_X4_sign ⟨Nat.le_of_ble_eq_true rfl, Nat.le_of_ble_eq_true rfl⟩ (Rd.of hKx hZ hS) (hP.sub (ws' := [(h, .inr (4, [.ref an, .ref tr, .ref ah, .int ch, .ref ak, .ref ai, .ref ap, .int (nI n), .ref af, .int (nI (nE p n j))])), (ap, .inl (gI G, 80, .inl p))]) [0, 1] rfl) rfl hl.1 rfl (Nat.le_of_ble_eq_true rfl) dX4_readRanges_18 ⟨Nat.zero_le _, Nat.zero_le _⟩ ?_
        refine lv_bipush (v := nI 45) hx hb dX4_readRanges_21 (by decide) ?_
        refine z_ne hx hb (tgt := 47) ((sgn p n (nE p n j)).toInt) 45 dX4_readRanges_23 (by decide) rfl (by decide) (fun c_23 => ?_) (fun c_23 => ?_)
        · skip
          have w_2 : ([(h, .inr (4, [.ref an, .ref tr, .ref ah, .int ch, .ref ak, .ref ai, .ref ap, .int (nI n), .ref af, .int (nI (nE p n j))])), (ap, .inl (gI G, 80, .inl p))] : va_W) = [(h, .inr (4, [.ref an, .ref tr, .ref ah, .int ch, .ref ak, .ref ai, .ref ap, .int (nI n), .ref af, .int (nI (rL p n j))])), (ap, .inl (gI G, 80, .inl p))] := (wlc (by first | rw [rL_1 hd1.1 c_23] | rw [rL_2 hd1.1 c_23]) (wlc (rfl) rfl))
          have hPj := hP.sub (ws' := [(h, .inr (4, [.ref an, .ref tr, .ref ah, .int ch, .ref ak, .ref ai, .ref ap, .int (nI n), .ref af, .int (nI (nE p n j))])), (ap, .inl (gI G, 80, .inl p))]) [0, 1] rfl
          have hDj := hD.sub (ws' := [(h, .inr (4, [.ref an, .ref tr, .ref ah, .int ch, .ref ak, .ref ai, .ref ap, .int (nI n), .ref af, .int (nI (nE p n j))])), (ap, .inl (gI G, 80, .inl p))]) [0, 1] (by decide) rfl
          rw [w_2] at hPj hDj
          exact J47 _ _ ls ⟨(by first | exact ⟨⟨hd1.1, fun z => absurd z c_23⟩, by rw [rL_1 hd1.1 c_23]; exact hd1.2⟩ | exact ⟨⟨hd1.1, fun _ => hd2.1⟩, by rw [rL_2 hd1.1 c_23]; exact hd2.2⟩), hPj, hDj, hS, lv_sub hl [1] rfl⟩
        · skip
          have h45 := sg_lt (p := p) (n := n) (i := nE p n j) (show 0 ≤ (sgn p n (nE p n j)).toInt by omega)
          have hne2 := nE_in (p := p) (n := n) (i := nE p n j + 1) h45
          refine lv_aload_n hx hb dX4_readRanges_26 rfl (lv_at hl 1 rfl) ?_
          refine lv_dup hx hb dX4_readRanges_27 rfl ?_
          refine va_get (ci := 4) (v := .int (nI (nE p n j))) (C := RX4) (T := TX4) (N := 10) hx hb hts inGX4 hown hK hP 0 rfl rfl 9 (by decide) (hts _ mw_3_63) (fun _ h9 => h9) rfl dX4_readRanges_28 ?_
          refine lv_iconst (v := nI 1) hx hb dX4_readRanges_31 (by decide) ?_
          refine n_iadd hx hb dX4_readRanges_32 ?_
          refine va_put (ci := 4) (v := .int (nI (nE p n j + 1))) (ty := .int) (C := RX4) (T := TX4) (N := 10) hx hb hts inGX4 tyX4 tyX4_ok nmX4 hown hK hP hD hS 0 rfl rfl 9 (by decide) (hts _ mw_3_63) (fun _ h9 => h9) rfl (by decide +kernel) rfl rfl (Nat.le_of_ble_eq_true rfl) dX4_readRanges_33 (fun H locs hP hD hS => ?_)
          have hP : va_P G.1 vwCl [(h, .inr (4, [.ref an, .ref tr, .ref ah, .int ch, .ref ak, .ref ai, .ref ap, .int (nI n), .ref af, .int (nI (nE p n j + 1))])), (ap, .inl (gI G, 80, .inl p))] H := hP
          have hD : va_D A [(h, .inr (4, [.ref an, .ref tr, .ref ah, .int ch, .ref ak, .ref ai, .ref ap, .int (nI n), .ref af, .int (nI (nE p n j + 1))])), (ap, .inl (gI G, 80, .inl p))] := hD
          refine lv_aload_n hx hb dX4_readRanges_36 rfl (lv_at hl 1 rfl) ?_
          refine k_rwV (ci := 4) (q0 := 0) (As := []) (rest := []) (wr := []) hF (c_X4_number l G _ h an tr ah ch ak ai ap n af (nE p n j + 1) p (by omega) (by omega)) ⟨_, rfl, rfl⟩ rfl rfl mw_4_66 mw_4_68 mw_p2_7 mw_1_5 mw_4_69 hd_X4_number ⟨Nat.le_of_ble_eq_true rfl, Nat.le_of_ble_eq_true rfl⟩ hKx hZ hS hP hD hA [0, 1] [] rfl rfl (by decide) (by decide) (by decide) rfl rfl hl.1 rfl (Nat.le_of_ble_eq_true rfl) dX4_readRanges_37 ⟨Nat.zero_le _, Nat.zero_le _⟩ (fun H locs hP hD hS => ?_)
          have hP : va_P G.1 vwCl [(h, .inr (4, [.ref an, .ref tr, .ref ah, .int ch, .ref ak, .ref ai, .ref ap, .int (nI n), .ref af, .int (nI (nE p n (nE p n j + 1)))])), (ap, .inl (gI G, 80, .inl p))] H := hP
          have hD : va_D A [(h, .inr (4, [.ref an, .ref tr, .ref ah, .int ch, .ref ak, .ref ai, .ref ap, .int (nI n), .ref af, .int (nI (nE p n (nE p n j + 1)))])), (ap, .inl (gI G, 80, .inl p))] := hD
          refine lv_bipush (v := (-6)) hx hb dX4_readRanges_40 (by decide) ?_
          refine z_ne hx hb (tgt := 47) ((nR p n (nE p n j + 1)).toInt) (-6) dX4_readRanges_42 (by decide) rfl (by decide) (fun c_42 => ?_) (fun c_42 => ?_)
          · skip
            have hd2 : dgP p n (nE p n j + 1) ∧ ¬ dgP p n (nE p n (nE p n j + 1)) := Classical.byContradiction (fun z => c_42 (nR_6.mpr z))
            have w_3 : ([(h, .inr (4, [.ref an, .ref tr, .ref ah, .int ch, .ref ak, .ref ai, .ref ap, .int (nI n), .ref af, .int (nI (nE p n (nE p n j + 1)))])), (ap, .inl (gI G, 80, .inl p))] : va_W) = [(h, .inr (4, [.ref an, .ref tr, .ref ah, .int ch, .ref ak, .ref ai, .ref ap, .int (nI n), .ref af, .int (nI (rL p n j))])), (ap, .inl (gI G, 80, .inl p))] := (wlc (by first | rw [rL_1 hd1.1 c_23] | rw [rL_2 hd1.1 c_23]) (wlc (rfl) rfl))
            have hPj := hP.sub (ws' := [(h, .inr (4, [.ref an, .ref tr, .ref ah, .int ch, .ref ak, .ref ai, .ref ap, .int (nI n), .ref af, .int (nI (nE p n (nE p n j + 1)))])), (ap, .inl (gI G, 80, .inl p))]) [0, 1] rfl
            have hDj := hD.sub (ws' := [(h, .inr (4, [.ref an, .ref tr, .ref ah, .int ch, .ref ak, .ref ai, .ref ap, .int (nI n), .ref af, .int (nI (nE p n (nE p n j + 1)))])), (ap, .inl (gI G, 80, .inl p))]) [0, 1] (by decide) rfl
            rw [w_3] at hPj hDj
            exact J47 _ _ ls ⟨(by first | exact ⟨⟨hd1.1, fun z => absurd z c_23⟩, by rw [rL_1 hd1.1 c_23]; exact hd1.2⟩ | exact ⟨⟨hd1.1, fun _ => hd2.1⟩, by rw [rL_2 hd1.1 c_23]; exact hd2.2⟩), hPj, hDj, hS, lv_sub hl [1] rfl⟩
          · skip
            have hrb := rr_b (p := p) (n := n) (j := j) (by omega) hd1.1 c_23 (nR_6.mp c_42)
            refine lv_iconst (v := nI 0) hx hb dX4_readRanges_45 (by decide) ?_
            have hPj := hP.sub (ws' := [(h, .inr (4, [.ref an, .ref tr, .ref ah, .int ch, .ref ak, .ref ai, .ref ap, .int (nI n), .ref af, .int (nI (nE p n (nE p n j + 1)))])), (ap, .inl (gI G, 80, .inl p))]) [0, 1] rfl
            have hwj : ([(h, .inr (4, [.ref an, .ref tr, .ref ah, .int ch, .ref ak, .ref ai, .ref ap, .int (nI n), .ref af, .int (nI (nE p n (nE p n j + 1)))])), (ap, .inl (gI G, 80, .inl p))] : va_W) = [(h, .inr (4, [.ref an, .ref tr, .ref ah, .int ch, .ref ak, .ref ai, .ref ap, .int (nI n), .ref af, .int (nI (rgE p n i))])), (ap, .inl (gI G, 80, .inl p))] := (wlc (by rw [hE, hrb.1]) (wlc (rfl) rfl))
            rw [hwj] at hPj
            exact e_wz hx hb hr hlk (nz_0) hPj hS (pI_f' (fun z => hrb.2 (by rw [← hE]; exact ⟨hO.mp z.1, z.2⟩))) dX4_readRanges_46
    · skip
      have hra := rr_a (p := p) (n := n) (j := j) (by omega) (nR_6.mp c_12)
      refine lv_iconst (v := nI 0) hx hb dX4_readRanges_15 (by decide) ?_
      have hPj := hP.sub (ws' := [(h, .inr (4, [.ref an, .ref tr, .ref ah, .int ch, .ref ak, .ref ai, .ref ap, .int (nI n), .ref af, .int (nI (nE p n j))])), (ap, .inl (gI G, 80, .inl p))]) [0, 1] rfl
      have hwj : ([(h, .inr (4, [.ref an, .ref tr, .ref ah, .int ch, .ref ak, .ref ai, .ref ap, .int (nI n), .ref af, .int (nI (nE p n j))])), (ap, .inl (gI G, 80, .inl p))] : va_W) = [(h, .inr (4, [.ref an, .ref tr, .ref ah, .int ch, .ref ak, .ref ai, .ref ap, .int (nI n), .ref af, .int (nI (rgE p n i))])), (ap, .inl (gI G, 80, .inl p))] := (wlc (by rw [hE, hra.1]) (wlc (rfl) rfl))
      rw [hwj] at hPj
      exact e_wz hx hb hr hlk (nz_0) hPj hS (pI_f' (fun z => hra.2 (by rw [← hE]; exact ⟨hO.mp z.1, z.2⟩))) dX4_readRanges_16
set_option maxHeartbeats 4000000 in
set_option maxRecDepth 100000 in
theorem c_X4_readOrder (l : Launch) (G : gT) (sz : Nat) (h : Nat) (an : Nat) (tr : Nat) (ah : Nat) (ch : Int32) (ak : Nat) (ai : Nat) (ap : Nat) (n : Nat) (af : Nat) (i : Nat) (p : Nat → Int32) (hn : n ≤ 80) (hi : i ≤ n) : Rw l G yX4_readOrder cX4_readOrder 2 (some .boolean) 3 sz [(h, .inr (4, [.ref an, .ref tr, .ref ah, .int ch, .ref ak, .ref ai, .ref ap, .int (nI n), .ref af, .int (nI i)])), (ap, .inl (gI G, 80, .inl p))] [.ref h] (pI (oF p n i ∧ ¬ dgP p n (oE p n i))) [(h, .inr (4, [.ref an, .ref tr, .ref ah, .int ch, .ref ak, .ref ai, .ref ap, .int (nI n), .ref af, .int (nI (oE p n i))])), (ap, .inl (gI G, 80, .inl p))] := by
  refine Rw.mk (by decide) (Nat.le_of_ble_eq_true rfl) (fun pq eq sq mq bq tq cq ls A hr hlk hF hKx hZ hA hP hD hS hl => ?_)
  have hx := hF.1
  have hb := hF.2.1
  have hml := hF.2.2.1
  have hown : sq.vm.findClass RX4 = some mq.cls := hF.2.2.2.1
  have hts : ∀ w ∈ GW, w.before _ sq = true := hF.2.2.2.2
  have hK := hKx.1
  have hl : lv_has ls 2 [(0, .ref h)] := hl
  have hP : va_P G.1 vwCl [(h, .inr (4, [.ref an, .ref tr, .ref ah, .int ch, .ref ak, .ref ai, .ref ap, .int (nI n), .ref af, .int (nI i)])), (ap, .inl (gI G, 80, .inl p))] sq.heap := hP
  have hD : va_D A [(h, .inr (4, [.ref an, .ref tr, .ref ah, .int ch, .ref ak, .ref ai, .ref ap, .int (nI n), .ref af, .int (nI i)])), (ap, .inl (gI G, 80, .inl p))] := hD
  refine lv_aload_n hx hb dX4_readOrder_0 rfl (lv_at hl 0 rfl) ?_
  refine k_roV (ci := 4) (q0 := 0) (As := []) (rest := []) hF (c_X4_sign l G h an tr ah ch ak ai ap n af i p (by omega) (by omega)) hKx hP ⟨_, rfl, rfl⟩ rfl rfl mw_4_62 mw_4_64 mw_p2_6 mw_1_5 mw_4_65 hd_X4_sign ⟨Nat.le_of_ble_eq_true rfl, Nat.le_of_ble_eq_true rfl⟩ (Rd.of hKx hZ hS) (hP.sub (ws' := [(h, .inr (4, [.ref an, .ref tr, .ref ah, .int ch, .ref ak, .ref ai, .ref ap, .int (nI n), .ref af, .int (nI i)])), (ap, .inl (gI G, 80, .inl p))]) [0, 1] rfl) rfl hl.1 rfl (Nat.le_of_ble_eq_true rfl) dX4_readOrder_1 ⟨Nat.zero_le _, Nat.zero_le _⟩ ?_
  refine lv_istore_n (lv' := [(1, .int (sgn p n i)), (0, .ref h)]) hx hb dX4_readOrder_4 rfl hl (by decide) rfl (fun ls hl => ?_)
  refine lv_iload_n hx hb dX4_readOrder_5 rfl (lv_at hl 0 rfl) ?_
  refine lv_bipush (v := nI 112) hx hb dX4_readOrder_6 (by decide) ?_
  refine z_ne hx hb (tgt := 36) ((sgn p n i).toInt) 112 dX4_readOrder_8 (by decide) rfl (by decide) (fun c_8 => ?_) (fun c_8 => ?_)
  · skip
    refine lv_iload_n hx hb dX4_readOrder_36 rfl (lv_at hl 0 rfl) ?_
    refine lv_bipush (v := nI 109) hx hb dX4_readOrder_37 (by decide) ?_
    refine z_eq hx hb (tgt := 50) ((sgn p n i).toInt) 109 dX4_readOrder_39 (by decide) rfl (by decide) (fun c_39 => ?_) (fun c_39 => ?_)
    · skip
      have h1 := sg_lt (p := p) (n := n) (i := i) (show 0 ≤ (sgn p n i).toInt by omega)
      have hmc : sg p n i = 109 ∨ sg p n i = 99 := by first | exact Or.inl c_39 | exact Or.inr c_45
      refine lv_aload_n hx hb dX4_readOrder_50 rfl (lv_at hl 1 rfl) ?_
      refine lv_dup hx hb dX4_readOrder_51 rfl ?_
      refine va_get (ci := 4) (v := .int (nI i)) (C := RX4) (T := TX4) (N := 10) hx hb hts inGX4 hown hK hP 0 rfl rfl 9 (by decide) (hts _ mw_3_63) (fun _ h9 => h9) rfl dX4_readOrder_52 ?_
      refine lv_iconst (v := nI 1) hx hb dX4_readOrder_55 (by decide) ?_
      refine n_iadd hx hb dX4_readOrder_56 ?_
      refine va_put (ci := 4) (v := .int (nI (i + 1))) (ty := .int) (C := RX4) (T := TX4) (N := 10) hx hb hts inGX4 tyX4 tyX4_ok nmX4 hown hK hP hD hS 0 rfl rfl 9 (by decide) (hts _ mw_3_63) (fun _ h9 => h9) rfl (by decide +kernel) rfl rfl (Nat.le_of_ble_eq_true rfl) dX4_readOrder_57 (fun H locs hP hD hS => ?_)
      have hP : va_P G.1 vwCl [(h, .inr (4, [.ref an, .ref tr, .ref ah, .int ch, .ref ak, .ref ai, .ref ap, .int (nI n), .ref af, .int (nI (i + 1))])), (ap, .inl (gI G, 80, .inl p))] H := hP
      have hD : va_D A [(h, .inr (4, [.ref an, .ref tr, .ref ah, .int ch, .ref ak, .ref ai, .ref ap, .int (nI n), .ref af, .int (nI (i + 1))])), (ap, .inl (gI G, 80, .inl p))] := hD
      refine lv_aload_n hx hb dX4_readOrder_60 rfl (lv_at hl 1 rfl) ?_
      refine k_roV (ci := 4) (q0 := 0) (As := []) (rest := []) hF (c_X4_sign l G h an tr ah ch ak ai ap n af (i + 1) p (by omega) (by omega)) hKx hP ⟨_, rfl, rfl⟩ rfl rfl mw_4_62 mw_4_64 mw_p2_6 mw_1_5 mw_4_65 hd_X4_sign ⟨Nat.le_of_ble_eq_true rfl, Nat.le_of_ble_eq_true rfl⟩ (Rd.of hKx hZ hS) (hP.sub (ws' := [(h, .inr (4, [.ref an, .ref tr, .ref ah, .int ch, .ref ak, .ref ai, .ref ap, .int (nI n), .ref af, .int (nI (i + 1))])), (ap, .inl (gI G, 80, .inl p))]) [0, 1] rfl) rfl hl.1 rfl (Nat.le_of_ble_eq_true rfl) dX4_readOrder_61 ⟨Nat.zero_le _, Nat.zero_le _⟩ ?_
      refine lv_i2l (v := (sgn p n (i + 1)).toInt64) hx hb dX4_readOrder_64 rfl ?_
      refine lv_ldc2 (v := 97) hx hb hown (hts _ mw_4_72) dX4_readOrder_65 ?_
      refine lv_ldc2 (v := 112) hx hb hown (hts _ mw_4_73) dX4_readOrder_68 ?_
      refine k_roS (As := [.long ((sgn p n (i + 1)).toInt64), .long 97, .long 112]) (rest := []) hF (c_X4_in l G ((sgn p n (i + 1)).toInt64) 97 112 ((sgn p n (i + 1)).toInt) 97 112 (l64 rfl) (by decide) (by decide)) mw_3_91 mw_3_92 mw_1_5 mw_3_93 hd_X4_in ⟨Nat.le_of_ble_eq_true rfl, Nat.le_of_ble_eq_true rfl⟩ (Rd.of hKx hZ hS) (hP.sub (ws' := []) [] rfl) rfl hl.1 rfl (Nat.le_of_ble_eq_true rfl) dX4_readOrder_71 ⟨Nat.zero_le _, Nat.zero_le _⟩ ?_
      refine p0_ne hx hb (tgt := 79) dX4_readOrder_74 (by decide) (fun c_74 => ?_) (fun c_74 => ?_)
      · skip
        have h2 := sg_lt (p := p) (n := n) (i := i + 1) (show 0 ≤ (sgn p n (i + 1)).toInt by omega)
        refine lv_aload_n hx hb dX4_readOrder_79 rfl (lv_at hl 1 rfl) ?_
        refine lv_dup hx hb dX4_readOrder_80 rfl ?_
        refine va_get (ci := 4) (v := .int (nI (i + 1))) (C := RX4) (T := TX4) (N := 10) hx hb hts inGX4 hown hK hP 0 rfl rfl 9 (by decide) (hts _ mw_3_63) (fun _ h9 => h9) rfl dX4_readOrder_81 ?_
        refine lv_iconst (v := nI 1) hx hb dX4_readOrder_84 (by decide) ?_
        refine n_iadd hx hb dX4_readOrder_85 ?_
        refine va_put (ci := 4) (v := .int (nI (i + 1 + 1))) (ty := .int) (C := RX4) (T := TX4) (N := 10) hx hb hts inGX4 tyX4 tyX4_ok nmX4 hown hK hP hD hS 0 rfl rfl 9 (by decide) (hts _ mw_3_63) (fun _ h9 => h9) rfl (by decide +kernel) rfl rfl (Nat.le_of_ble_eq_true rfl) dX4_readOrder_86 (fun H locs hP hD hS => ?_)
        have hP : va_P G.1 vwCl [(h, .inr (4, [.ref an, .ref tr, .ref ah, .int ch, .ref ak, .ref ai, .ref ap, .int (nI n), .ref af, .int (nI (i + 1 + 1))])), (ap, .inl (gI G, 80, .inl p))] H := hP
        have hD : va_D A [(h, .inr (4, [.ref an, .ref tr, .ref ah, .int ch, .ref ak, .ref ai, .ref ap, .int (nI n), .ref af, .int (nI (i + 1 + 1))])), (ap, .inl (gI G, 80, .inl p))] := hD
        refine lv_aload_n hx hb dX4_readOrder_89 rfl (lv_at hl 1 rfl) ?_
        refine k_roV (ci := 4) (q0 := 0) (As := []) (rest := []) hF (c_X4_sign l G h an tr ah ch ak ai ap n af (i + 1 + 1) p (by omega) (by omega)) hKx hP ⟨_, rfl, rfl⟩ rfl rfl mw_4_62 mw_4_64 mw_p2_6 mw_1_5 mw_4_65 hd_X4_sign ⟨Nat.le_of_ble_eq_true rfl, Nat.le_of_ble_eq_true rfl⟩ (Rd.of hKx hZ hS) (hP.sub (ws' := [(h, .inr (4, [.ref an, .ref tr, .ref ah, .int ch, .ref ak, .ref ai, .ref ap, .int (nI n), .ref af, .int (nI (i + 1 + 1))])), (ap, .inl (gI G, 80, .inl p))]) [0, 1] rfl) rfl hl.1 rfl (Nat.le_of_ble_eq_true rfl) dX4_readOrder_90 ⟨Nat.zero_le _, Nat.zero_le _⟩ ?_
        refine lv_bipush (v := nI 58) hx hb dX4_readOrder_93 (by decide) ?_
        refine z_eq hx hb (tgt := 100) ((sgn p n (i + 1 + 1)).toInt) 58 dX4_readOrder_95 (by decide) rfl (by decide) (fun c_95 => ?_) (fun c_95 => ?_)
        · skip
          have h3 := sg_lt (p := p) (n := n) (i := i + 1 + 1) (show 0 ≤ (sgn p n (i + 1 + 1)).toInt by omega)
          have ho := o_r (p := p) (n := n) (i := i) hmc c_74 c_95
          refine lv_aload_n hx hb dX4_readOrder_100 rfl (lv_at hl 1 rfl) ?_
          refine lv_dup hx hb dX4_readOrder_101 rfl ?_
          refine va_get (ci := 4) (v := .int (nI (i + 1 + 1))) (C := RX4) (T := TX4) (N := 10) hx hb hts inGX4 hown hK hP 0 rfl rfl 9 (by decide) (hts _ mw_3_63) (fun _ h9 => h9) rfl dX4_readOrder_102 ?_
          refine lv_iconst (v := nI 1) hx hb dX4_readOrder_105 (by decide) ?_
          refine n_iadd hx hb dX4_readOrder_106 ?_
          refine va_put (ci := 4) (v := .int (nI (i + 1 + 1 + 1))) (ty := .int) (C := RX4) (T := TX4) (N := 10) hx hb hts inGX4 tyX4 tyX4_ok nmX4 hown hK hP hD hS 0 rfl rfl 9 (by decide) (hts _ mw_3_63) (fun _ h9 => h9) rfl (by decide +kernel) rfl rfl (Nat.le_of_ble_eq_true rfl) dX4_readOrder_107 (fun H locs hP hD hS => ?_)
          have hP : va_P G.1 vwCl [(h, .inr (4, [.ref an, .ref tr, .ref ah, .int ch, .ref ak, .ref ai, .ref ap, .int (nI n), .ref af, .int (nI (i + 1 + 1 + 1))])), (ap, .inl (gI G, 80, .inl p))] H := hP
          have hD : va_D A [(h, .inr (4, [.ref an, .ref tr, .ref ah, .int ch, .ref ak, .ref ai, .ref ap, .int (nI n), .ref af, .int (nI (i + 1 + 1 + 1))])), (ap, .inl (gI G, 80, .inl p))] := hD
          refine lv_aload_n hx hb dX4_readOrder_110 rfl (lv_at hl 1 rfl) ?_
          refine k_rwV (ci := 4) (q0 := 0) (As := []) (rest := []) (wr := []) hF (c_X4_readRanges l G _ h an tr ah ch ak ai ap n af (i + 1 + 1 + 1) p (by omega) (by omega)) ⟨_, rfl, rfl⟩ rfl rfl mw_4_74 mw_4_76 mw_p2_8 mw_1_5 mw_4_77 hd_X4_readRanges ⟨Nat.le_of_ble_eq_true rfl, Nat.le_of_ble_eq_true rfl⟩ hKx hZ hS hP hD hA [0, 1] [] rfl rfl (by decide) (by decide) (by decide) rfl rfl hl.1 rfl (Nat.le_of_ble_eq_true rfl) dX4_readOrder_111 ⟨Nat.zero_le _, Nat.zero_le _⟩ (fun H locs hP hD hS => ?_)
          have hP : va_P G.1 vwCl [(h, .inr (4, [.ref an, .ref tr, .ref ah, .int ch, .ref ak, .ref ai, .ref ap, .int (nI n), .ref af, .int (nI (rgE p n (i + 1 + 1 + 1)))])), (ap, .inl (gI G, 80, .inl p))] H := hP
          have hD : va_D A [(h, .inr (4, [.ref an, .ref tr, .ref ah, .int ch, .ref ak, .ref ai, .ref ap, .int (nI n), .ref af, .int (nI (rgE p n (i + 1 + 1 + 1)))])), (ap, .inl (gI G, 80, .inl p))] := hD
          have hPj := hP.sub (ws' := [(h, .inr (4, [.ref an, .ref tr, .ref ah, .int ch, .ref ak, .ref ai, .ref ap, .int (nI n), .ref af, .int (nI (rgE p n (i + 1 + 1 + 1)))])), (ap, .inl (gI G, 80, .inl p))]) [0, 1] rfl
          have hwj : ([(h, .inr (4, [.ref an, .ref tr, .ref ah, .int ch, .ref ak, .ref ai, .ref ap, .int (nI n), .ref af, .int (nI (rgE p n (i + 1 + 1 + 1)))])), (ap, .inl (gI G, 80, .inl p))] : va_W) = [(h, .inr (4, [.ref an, .ref tr, .ref ah, .int ch, .ref ak, .ref ai, .ref ap, .int (nI n), .ref af, .int (nI (oE p n i))])), (ap, .inl (gI G, 80, .inl p))] := (wlc (by rw [ho.1]) (wlc (rfl) rfl))
          rw [hwj] at hPj
          exact e_wz hx hb hr hlk (nz_p _) hPj hS (pI_c ⟨fun z => ⟨ho.2.mpr z.1, by rw [ho.1]; exact z.2⟩, fun z => ⟨ho.2.mp z.1, by rw [← ho.1]; exact z.2⟩⟩) dX4_readOrder_114
        · skip
          have ho := o_c (p := p) (n := n) (i := i) hmc c_74 c_95
          refine lv_iconst (v := nI 0) hx hb dX4_readOrder_98 (by decide) ?_
          have hPj := hP.sub (ws' := [(h, .inr (4, [.ref an, .ref tr, .ref ah, .int ch, .ref ak, .ref ai, .ref ap, .int (nI n), .ref af, .int (nI (i + 1 + 1))])), (ap, .inl (gI G, 80, .inl p))]) [0, 1] rfl
          have hwj : ([(h, .inr (4, [.ref an, .ref tr, .ref ah, .int ch, .ref ak, .ref ai, .ref ap, .int (nI n), .ref af, .int (nI (i + 1 + 1))])), (ap, .inl (gI G, 80, .inl p))] : va_W) = [(h, .inr (4, [.ref an, .ref tr, .ref ah, .int ch, .ref ak, .ref ai, .ref ap, .int (nI n), .ref af, .int (nI (oE p n i))])), (ap, .inl (gI G, 80, .inl p))] := (wlc (by rw [ho.1]) (wlc (rfl) rfl))
          rw [hwj] at hPj
          exact e_wz hx hb hr hlk (nz_0) hPj hS (pI_f' (fun z => ho.2 z.1)) dX4_readOrder_99
      · skip
        have ho := o_s (p := p) (n := n) (i := i) hmc c_74
        refine lv_iconst (v := nI 0) hx hb dX4_readOrder_77 (by decide) ?_
        have hPj := hP.sub (ws' := [(h, .inr (4, [.ref an, .ref tr, .ref ah, .int ch, .ref ak, .ref ai, .ref ap, .int (nI n), .ref af, .int (nI (i + 1))])), (ap, .inl (gI G, 80, .inl p))]) [0, 1] rfl
        have hwj : ([(h, .inr (4, [.ref an, .ref tr, .ref ah, .int ch, .ref ak, .ref ai, .ref ap, .int (nI n), .ref af, .int (nI (i + 1))])), (ap, .inl (gI G, 80, .inl p))] : va_W) = [(h, .inr (4, [.ref an, .ref tr, .ref ah, .int ch, .ref ak, .ref ai, .ref ap, .int (nI n), .ref af, .int (nI (oE p n i))])), (ap, .inl (gI G, 80, .inl p))] := (wlc (by rw [ho.1]) (wlc (rfl) rfl))
        rw [hwj] at hPj
        exact e_wz hx hb hr hlk (nz_0) hPj hS (pI_f' (fun z => ho.2 z.1)) dX4_readOrder_78
    · skip
      refine lv_iload_n hx hb dX4_readOrder_42 rfl (lv_at hl 0 rfl) ?_
      refine lv_bipush (v := nI 99) hx hb dX4_readOrder_43 (by decide) ?_
      refine z_eq hx hb (tgt := 50) ((sgn p n i).toInt) 99 dX4_readOrder_45 (by decide) rfl (by decide) (fun c_45 => ?_) (fun c_45 => ?_)
      · skip
        have h1 := sg_lt (p := p) (n := n) (i := i) (show 0 ≤ (sgn p n i).toInt by omega)
        have hmc : sg p n i = 109 ∨ sg p n i = 99 := by first | exact Or.inl c_39 | exact Or.inr c_45
        refine lv_aload_n hx hb dX4_readOrder_50 rfl (lv_at hl 1 rfl) ?_
        refine lv_dup hx hb dX4_readOrder_51 rfl ?_
        refine va_get (ci := 4) (v := .int (nI i)) (C := RX4) (T := TX4) (N := 10) hx hb hts inGX4 hown hK hP 0 rfl rfl 9 (by decide) (hts _ mw_3_63) (fun _ h9 => h9) rfl dX4_readOrder_52 ?_
        refine lv_iconst (v := nI 1) hx hb dX4_readOrder_55 (by decide) ?_
        refine n_iadd hx hb dX4_readOrder_56 ?_
        refine va_put (ci := 4) (v := .int (nI (i + 1))) (ty := .int) (C := RX4) (T := TX4) (N := 10) hx hb hts inGX4 tyX4 tyX4_ok nmX4 hown hK hP hD hS 0 rfl rfl 9 (by decide) (hts _ mw_3_63) (fun _ h9 => h9) rfl (by decide +kernel) rfl rfl (Nat.le_of_ble_eq_true rfl) dX4_readOrder_57 (fun H locs hP hD hS => ?_)
        have hP : va_P G.1 vwCl [(h, .inr (4, [.ref an, .ref tr, .ref ah, .int ch, .ref ak, .ref ai, .ref ap, .int (nI n), .ref af, .int (nI (i + 1))])), (ap, .inl (gI G, 80, .inl p))] H := hP
        have hD : va_D A [(h, .inr (4, [.ref an, .ref tr, .ref ah, .int ch, .ref ak, .ref ai, .ref ap, .int (nI n), .ref af, .int (nI (i + 1))])), (ap, .inl (gI G, 80, .inl p))] := hD
        refine lv_aload_n hx hb dX4_readOrder_60 rfl (lv_at hl 1 rfl) ?_
        refine k_roV (ci := 4) (q0 := 0) (As := []) (rest := []) hF (c_X4_sign l G h an tr ah ch ak ai ap n af (i + 1) p (by omega) (by omega)) hKx hP ⟨_, rfl, rfl⟩ rfl rfl mw_4_62 mw_4_64 mw_p2_6 mw_1_5 mw_4_65 hd_X4_sign ⟨Nat.le_of_ble_eq_true rfl, Nat.le_of_ble_eq_true rfl⟩ (Rd.of hKx hZ hS) (hP.sub (ws' := [(h, .inr (4, [.ref an, .ref tr, .ref ah, .int ch, .ref ak, .ref ai, .ref ap, .int (nI n), .ref af, .int (nI (i + 1))])), (ap, .inl (gI G, 80, .inl p))]) [0, 1] rfl) rfl hl.1 rfl (Nat.le_of_ble_eq_true rfl) dX4_readOrder_61 ⟨Nat.zero_le _, Nat.zero_le _⟩ ?_
        refine lv_i2l (v := (sgn p n (i + 1)).toInt64) hx hb dX4_readOrder_64 rfl ?_
        refine lv_ldc2 (v := 97) hx hb hown (hts _ mw_4_72) dX4_readOrder_65 ?_
        refine lv_ldc2 (v := 112) hx hb hown (hts _ mw_4_73) dX4_readOrder_68 ?_
        refine k_roS (As := [.long ((sgn p n (i + 1)).toInt64), .long 97, .long 112]) (rest := []) hF (c_X4_in l G ((sgn p n (i + 1)).toInt64) 97 112 ((sgn p n (i + 1)).toInt) 97 112 (l64 rfl) (by decide) (by decide)) mw_3_91 mw_3_92 mw_1_5 mw_3_93 hd_X4_in ⟨Nat.le_of_ble_eq_true rfl, Nat.le_of_ble_eq_true rfl⟩ (Rd.of hKx hZ hS) (hP.sub (ws' := []) [] rfl) rfl hl.1 rfl (Nat.le_of_ble_eq_true rfl) dX4_readOrder_71 ⟨Nat.zero_le _, Nat.zero_le _⟩ ?_
        refine p0_ne hx hb (tgt := 79) dX4_readOrder_74 (by decide) (fun c_74 => ?_) (fun c_74 => ?_)
        · skip
          have h2 := sg_lt (p := p) (n := n) (i := i + 1) (show 0 ≤ (sgn p n (i + 1)).toInt by omega)
          refine lv_aload_n hx hb dX4_readOrder_79 rfl (lv_at hl 1 rfl) ?_
          refine lv_dup hx hb dX4_readOrder_80 rfl ?_
          refine va_get (ci := 4) (v := .int (nI (i + 1))) (C := RX4) (T := TX4) (N := 10) hx hb hts inGX4 hown hK hP 0 rfl rfl 9 (by decide) (hts _ mw_3_63) (fun _ h9 => h9) rfl dX4_readOrder_81 ?_
          refine lv_iconst (v := nI 1) hx hb dX4_readOrder_84 (by decide) ?_
          refine n_iadd hx hb dX4_readOrder_85 ?_
          refine va_put (ci := 4) (v := .int (nI (i + 1 + 1))) (ty := .int) (C := RX4) (T := TX4) (N := 10) hx hb hts inGX4 tyX4 tyX4_ok nmX4 hown hK hP hD hS 0 rfl rfl 9 (by decide) (hts _ mw_3_63) (fun _ h9 => h9) rfl (by decide +kernel) rfl rfl (Nat.le_of_ble_eq_true rfl) dX4_readOrder_86 (fun H locs hP hD hS => ?_)
          have hP : va_P G.1 vwCl [(h, .inr (4, [.ref an, .ref tr, .ref ah, .int ch, .ref ak, .ref ai, .ref ap, .int (nI n), .ref af, .int (nI (i + 1 + 1))])), (ap, .inl (gI G, 80, .inl p))] H := hP
          have hD : va_D A [(h, .inr (4, [.ref an, .ref tr, .ref ah, .int ch, .ref ak, .ref ai, .ref ap, .int (nI n), .ref af, .int (nI (i + 1 + 1))])), (ap, .inl (gI G, 80, .inl p))] := hD
          refine lv_aload_n hx hb dX4_readOrder_89 rfl (lv_at hl 1 rfl) ?_
          refine k_roV (ci := 4) (q0 := 0) (As := []) (rest := []) hF (c_X4_sign l G h an tr ah ch ak ai ap n af (i + 1 + 1) p (by omega) (by omega)) hKx hP ⟨_, rfl, rfl⟩ rfl rfl mw_4_62 mw_4_64 mw_p2_6 mw_1_5 mw_4_65 hd_X4_sign ⟨Nat.le_of_ble_eq_true rfl, Nat.le_of_ble_eq_true rfl⟩ (Rd.of hKx hZ hS) (hP.sub (ws' := [(h, .inr (4, [.ref an, .ref tr, .ref ah, .int ch, .ref ak, .ref ai, .ref ap, .int (nI n), .ref af, .int (nI (i + 1 + 1))])), (ap, .inl (gI G, 80, .inl p))]) [0, 1] rfl) rfl hl.1 rfl (Nat.le_of_ble_eq_true rfl) dX4_readOrder_90 ⟨Nat.zero_le _, Nat.zero_le _⟩ ?_
          refine lv_bipush (v := nI 58) hx hb dX4_readOrder_93 (by decide) ?_
          refine z_eq hx hb (tgt := 100) ((sgn p n (i + 1 + 1)).toInt) 58 dX4_readOrder_95 (by decide) rfl (by decide) (fun c_95 => ?_) (fun c_95 => ?_)
          · skip
            have h3 := sg_lt (p := p) (n := n) (i := i + 1 + 1) (show 0 ≤ (sgn p n (i + 1 + 1)).toInt by omega)
            have ho := o_r (p := p) (n := n) (i := i) hmc c_74 c_95
            refine lv_aload_n hx hb dX4_readOrder_100 rfl (lv_at hl 1 rfl) ?_
            refine lv_dup hx hb dX4_readOrder_101 rfl ?_
            refine va_get (ci := 4) (v := .int (nI (i + 1 + 1))) (C := RX4) (T := TX4) (N := 10) hx hb hts inGX4 hown hK hP 0 rfl rfl 9 (by decide) (hts _ mw_3_63) (fun _ h9 => h9) rfl dX4_readOrder_102 ?_
            refine lv_iconst (v := nI 1) hx hb dX4_readOrder_105 (by decide) ?_
            refine n_iadd hx hb dX4_readOrder_106 ?_
            refine va_put (ci := 4) (v := .int (nI (i + 1 + 1 + 1))) (ty := .int) (C := RX4) (T := TX4) (N := 10) hx hb hts inGX4 tyX4 tyX4_ok nmX4 hown hK hP hD hS 0 rfl rfl 9 (by decide) (hts _ mw_3_63) (fun _ h9 => h9) rfl (by decide +kernel) rfl rfl (Nat.le_of_ble_eq_true rfl) dX4_readOrder_107 (fun H locs hP hD hS => ?_)
            have hP : va_P G.1 vwCl [(h, .inr (4, [.ref an, .ref tr, .ref ah, .int ch, .ref ak, .ref ai, .ref ap, .int (nI n), .ref af, .int (nI (i + 1 + 1 + 1))])), (ap, .inl (gI G, 80, .inl p))] H := hP
            have hD : va_D A [(h, .inr (4, [.ref an, .ref tr, .ref ah, .int ch, .ref ak, .ref ai, .ref ap, .int (nI n), .ref af, .int (nI (i + 1 + 1 + 1))])), (ap, .inl (gI G, 80, .inl p))] := hD
            refine lv_aload_n hx hb dX4_readOrder_110 rfl (lv_at hl 1 rfl) ?_
            refine k_rwV (ci := 4) (q0 := 0) (As := []) (rest := []) (wr := []) hF (c_X4_readRanges l G _ h an tr ah ch ak ai ap n af (i + 1 + 1 + 1) p (by omega) (by omega)) ⟨_, rfl, rfl⟩ rfl rfl mw_4_74 mw_4_76 mw_p2_8 mw_1_5 mw_4_77 hd_X4_readRanges ⟨Nat.le_of_ble_eq_true rfl, Nat.le_of_ble_eq_true rfl⟩ hKx hZ hS hP hD hA [0, 1] [] rfl rfl (by decide) (by decide) (by decide) rfl rfl hl.1 rfl (Nat.le_of_ble_eq_true rfl) dX4_readOrder_111 ⟨Nat.zero_le _, Nat.zero_le _⟩ (fun H locs hP hD hS => ?_)
            have hP : va_P G.1 vwCl [(h, .inr (4, [.ref an, .ref tr, .ref ah, .int ch, .ref ak, .ref ai, .ref ap, .int (nI n), .ref af, .int (nI (rgE p n (i + 1 + 1 + 1)))])), (ap, .inl (gI G, 80, .inl p))] H := hP
            have hD : va_D A [(h, .inr (4, [.ref an, .ref tr, .ref ah, .int ch, .ref ak, .ref ai, .ref ap, .int (nI n), .ref af, .int (nI (rgE p n (i + 1 + 1 + 1)))])), (ap, .inl (gI G, 80, .inl p))] := hD
            have hPj := hP.sub (ws' := [(h, .inr (4, [.ref an, .ref tr, .ref ah, .int ch, .ref ak, .ref ai, .ref ap, .int (nI n), .ref af, .int (nI (rgE p n (i + 1 + 1 + 1)))])), (ap, .inl (gI G, 80, .inl p))]) [0, 1] rfl
            have hwj : ([(h, .inr (4, [.ref an, .ref tr, .ref ah, .int ch, .ref ak, .ref ai, .ref ap, .int (nI n), .ref af, .int (nI (rgE p n (i + 1 + 1 + 1)))])), (ap, .inl (gI G, 80, .inl p))] : va_W) = [(h, .inr (4, [.ref an, .ref tr, .ref ah, .int ch, .ref ak, .ref ai, .ref ap, .int (nI n), .ref af, .int (nI (oE p n i))])), (ap, .inl (gI G, 80, .inl p))] := (wlc (by rw [ho.1]) (wlc (rfl) rfl))
            rw [hwj] at hPj
            exact e_wz hx hb hr hlk (nz_p _) hPj hS (pI_c ⟨fun z => ⟨ho.2.mpr z.1, by rw [ho.1]; exact z.2⟩, fun z => ⟨ho.2.mp z.1, by rw [← ho.1]; exact z.2⟩⟩) dX4_readOrder_114
          · skip
            have ho := o_c (p := p) (n := n) (i := i) hmc c_74 c_95
            refine lv_iconst (v := nI 0) hx hb dX4_readOrder_98 (by decide) ?_
            have hPj := hP.sub (ws' := [(h, .inr (4, [.ref an, .ref tr, .ref ah, .int ch, .ref ak, .ref ai, .ref ap, .int (nI n), .ref af, .int (nI (i + 1 + 1))])), (ap, .inl (gI G, 80, .inl p))]) [0, 1] rfl
            have hwj : ([(h, .inr (4, [.ref an, .ref tr, .ref ah, .int ch, .ref ak, .ref ai, .ref ap, .int (nI n), .ref af, .int (nI (i + 1 + 1))])), (ap, .inl (gI G, 80, .inl p))] : va_W) = [(h, .inr (4, [.ref an, .ref tr, .ref ah, .int ch, .ref ak, .ref ai, .ref ap, .int (nI n), .ref af, .int (nI (oE p n i))])), (ap, .inl (gI G, 80, .inl p))] := (wlc (by rw [ho.1]) (wlc (rfl) rfl))
            rw [hwj] at hPj
            exact e_wz hx hb hr hlk (nz_0) hPj hS (pI_f' (fun z => ho.2 z.1)) dX4_readOrder_99
        · skip
          have ho := o_s (p := p) (n := n) (i := i) hmc c_74
          refine lv_iconst (v := nI 0) hx hb dX4_readOrder_77 (by decide) ?_
          have hPj := hP.sub (ws' := [(h, .inr (4, [.ref an, .ref tr, .ref ah, .int ch, .ref ak, .ref ai, .ref ap, .int (nI n), .ref af, .int (nI (i + 1))])), (ap, .inl (gI G, 80, .inl p))]) [0, 1] rfl
          have hwj : ([(h, .inr (4, [.ref an, .ref tr, .ref ah, .int ch, .ref ak, .ref ai, .ref ap, .int (nI n), .ref af, .int (nI (i + 1))])), (ap, .inl (gI G, 80, .inl p))] : va_W) = [(h, .inr (4, [.ref an, .ref tr, .ref ah, .int ch, .ref ak, .ref ai, .ref ap, .int (nI n), .ref af, .int (nI (oE p n i))])), (ap, .inl (gI G, 80, .inl p))] := (wlc (by rw [ho.1]) (wlc (rfl) rfl))
          rw [hwj] at hPj
          exact e_wz hx hb hr hlk (nz_0) hPj hS (pI_f' (fun z => ho.2 z.1)) dX4_readOrder_78
      · skip
        have ho := o_n (p := p) (n := n) (i := i) c_8 (fun z => z.elim c_39 c_45)
        refine lv_iconst (v := nI 0) hx hb dX4_readOrder_48 (by decide) ?_
        have hPj := hP.sub (ws' := [(h, .inr (4, [.ref an, .ref tr, .ref ah, .int ch, .ref ak, .ref ai, .ref ap, .int (nI n), .ref af, .int (nI i)])), (ap, .inl (gI G, 80, .inl p))]) [0, 1] rfl
        have hwj : ([(h, .inr (4, [.ref an, .ref tr, .ref ah, .int ch, .ref ak, .ref ai, .ref ap, .int (nI n), .ref af, .int (nI i)])), (ap, .inl (gI G, 80, .inl p))] : va_W) = [(h, .inr (4, [.ref an, .ref tr, .ref ah, .int ch, .ref ak, .ref ai, .ref ap, .int (nI n), .ref af, .int (nI (oE p n i))])), (ap, .inl (gI G, 80, .inl p))] := (wlc (by rw [ho.1]) (wlc (rfl) rfl))
        rw [hwj] at hPj
        exact e_wz hx hb hr hlk (nz_0) hPj hS (pI_f' (fun z => ho.2 z.1)) dX4_readOrder_49
  · skip
    have h1 := sg_lt (p := p) (n := n) (i := i) (show 0 ≤ (sgn p n i).toInt by omega)
    have ho := o_p (p := p) (n := n) (i := i) c_8
    refine lv_aload_n hx hb dX4_readOrder_11 rfl (lv_at hl 1 rfl) ?_
    refine lv_dup hx hb dX4_readOrder_12 rfl ?_
    refine va_get (ci := 4) (v := .int (nI i)) (C := RX4) (T := TX4) (N := 10) hx hb hts inGX4 hown hK hP 0 rfl rfl 9 (by decide) (hts _ mw_3_63) (fun _ h9 => h9) rfl dX4_readOrder_13 ?_
    refine lv_iconst (v := nI 1) hx hb dX4_readOrder_16 (by decide) ?_
    refine n_iadd hx hb dX4_readOrder_17 ?_
    refine va_put (ci := 4) (v := .int (nI (i + 1))) (ty := .int) (C := RX4) (T := TX4) (N := 10) hx hb hts inGX4 tyX4 tyX4_ok nmX4 hown hK hP hD hS 0 rfl rfl 9 (by decide) (hts _ mw_3_63) (fun _ h9 => h9) rfl (by decide +kernel) rfl rfl (Nat.le_of_ble_eq_true rfl) dX4_readOrder_18 (fun H locs hP hD hS => ?_)
    have hP : va_P G.1 vwCl [(h, .inr (4, [.ref an, .ref tr, .ref ah, .int ch, .ref ak, .ref ai, .ref ap, .int (nI n), .ref af, .int (nI (i + 1))])), (ap, .inl (gI G, 80, .inl p))] H := hP
    have hD : va_D A [(h, .inr (4, [.ref an, .ref tr, .ref ah, .int ch, .ref ak, .ref ai, .ref ap, .int (nI n), .ref af, .int (nI (i + 1))])), (ap, .inl (gI G, 80, .inl p))] := hD
    refine lv_aload_n hx hb dX4_readOrder_21 rfl (lv_at hl 1 rfl) ?_
    refine k_rwV (ci := 4) (q0 := 0) (As := []) (rest := []) (wr := []) hF (c_X4_number l G _ h an tr ah ch ak ai ap n af (i + 1) p (by omega) (by omega)) ⟨_, rfl, rfl⟩ rfl rfl mw_4_66 mw_4_68 mw_p2_7 mw_1_5 mw_4_69 hd_X4_number ⟨Nat.le_of_ble_eq_true rfl, Nat.le_of_ble_eq_true rfl⟩ hKx hZ hS hP hD hA [0, 1] [] rfl rfl (by decide) (by decide) (by decide) rfl rfl hl.1 rfl (Nat.le_of_ble_eq_true rfl) dX4_readOrder_22 ⟨Nat.zero_le _, Nat.zero_le _⟩ (fun H locs hP hD hS => ?_)
    have hP : va_P G.1 vwCl [(h, .inr (4, [.ref an, .ref tr, .ref ah, .int ch, .ref ak, .ref ai, .ref ap, .int (nI n), .ref af, .int (nI (nE p n (i + 1)))])), (ap, .inl (gI G, 80, .inl p))] H := hP
    have hD : va_D A [(h, .inr (4, [.ref an, .ref tr, .ref ah, .int ch, .ref ak, .ref ai, .ref ap, .int (nI n), .ref af, .int (nI (nE p n (i + 1)))])), (ap, .inl (gI G, 80, .inl p))] := hD
    refine lv_bipush (v := (-6)) hx hb dX4_readOrder_25 (by decide) ?_
    refine z_eq hx hb (tgt := 34) ((nR p n (i + 1)).toInt) (-6) dX4_readOrder_27 (by decide) rfl (by decide) (fun c_27 => ?_) (fun c_27 => ?_)
    · skip
      refine lv_iconst (v := nI 0) hx hb dX4_readOrder_34 (by decide) ?_
      have hPj := hP.sub (ws' := [(h, .inr (4, [.ref an, .ref tr, .ref ah, .int ch, .ref ak, .ref ai, .ref ap, .int (nI n), .ref af, .int (nI (nE p n (i + 1)))])), (ap, .inl (gI G, 80, .inl p))]) [0, 1] rfl
      have hwj : ([(h, .inr (4, [.ref an, .ref tr, .ref ah, .int ch, .ref ak, .ref ai, .ref ap, .int (nI n), .ref af, .int (nI (nE p n (i + 1)))])), (ap, .inl (gI G, 80, .inl p))] : va_W) = [(h, .inr (4, [.ref an, .ref tr, .ref ah, .int ch, .ref ak, .ref ai, .ref ap, .int (nI n), .ref af, .int (nI (oE p n i))])), (ap, .inl (gI G, 80, .inl p))] := (wlc (by rw [ho.1]) (wlc (rfl) rfl))
      rw [hwj] at hPj
      exact e_wz hx hb hr hlk (nz_0) hPj hS (by first | exact pI_t' ⟨ho.2.mpr (Classical.byContradiction (fun z => c_27 (nR_6.mpr (fun q => z q.1)))), by rw [ho.1]; exact fun z => c_27 (nR_6.mpr (fun q => q.2 z))⟩ | exact pI_f' (fun z => nR_6.mp c_27 ⟨ho.2.mp z.1, by rw [← ho.1]; exact z.2⟩)) dX4_readOrder_35
    · skip
      refine lv_iconst (v := nI 1) hx hb dX4_readOrder_30 (by decide) ?_
      refine lv_goto (tgt := 35) hx hb dX4_readOrder_31 (by decide) ?_
      have hPj := hP.sub (ws' := [(h, .inr (4, [.ref an, .ref tr, .ref ah, .int ch, .ref ak, .ref ai, .ref ap, .int (nI n), .ref af, .int (nI (nE p n (i + 1)))])), (ap, .inl (gI G, 80, .inl p))]) [0, 1] rfl
      have hwj : ([(h, .inr (4, [.ref an, .ref tr, .ref ah, .int ch, .ref ak, .ref ai, .ref ap, .int (nI n), .ref af, .int (nI (nE p n (i + 1)))])), (ap, .inl (gI G, 80, .inl p))] : va_W) = [(h, .inr (4, [.ref an, .ref tr, .ref ah, .int ch, .ref ak, .ref ai, .ref ap, .int (nI n), .ref af, .int (nI (oE p n i))])), (ap, .inl (gI G, 80, .inl p))] := (wlc (by rw [ho.1]) (wlc (rfl) rfl))
      rw [hwj] at hPj
      exact e_wz hx hb hr hlk (nz_1) hPj hS (by first | exact pI_t' ⟨ho.2.mpr (Classical.byContradiction (fun z => c_27 (nR_6.mpr (fun q => z q.1)))), by rw [ho.1]; exact fun z => c_27 (nR_6.mpr (fun q => q.2 z))⟩ | exact pI_f' (fun z => nR_6.mp c_27 ⟨ho.2.mp z.1, by rw [← ho.1]; exact z.2⟩)) dX4_readOrder_35
set_option maxHeartbeats 4000000 in
set_option maxRecDepth 100000 in
theorem c_X4_fault (l : Launch) (G : gT) (sz : Nat) (h : Nat) (an : Nat) (tr : Nat) (ah : Nat) (ch : Int32) (ak : Nat) (ai : Nat) (ap : Nat) (n : Nat) (af : Nat) (sp : Int32) (p : Nat → Int32) (hn : n ≤ 80) : Rw l G yX4_fault cX4_fault 2 (some .int) 4 sz [(h, .inr (4, [.ref an, .ref tr, .ref ah, .int ch, .ref ak, .ref ai, .ref ap, .int (nI n), .ref af, .int sp])), (ap, .inl (gI G, 80, .inl p))] [.ref h] (fV p n 0) [(h, .inr (4, [.ref an, .ref tr, .ref ah, .int ch, .ref ak, .ref ai, .ref ap, .int (nI n), .ref af, .int (nI (fW p n 0))])), (ap, .inl (gI G, 80, .inl p))] := by
  refine Rw.mk (by decide) (Nat.le_of_ble_eq_true rfl) (fun pq eq sq mq bq tq cq ls A hr hlk hF hKx hZ hA hP hD hS hl => ?_)
  have hx := hF.1
  have hb := hF.2.1
  have hml := hF.2.2.1
  have hown : sq.vm.findClass RX4 = some mq.cls := hF.2.2.2.1
  have hts : ∀ w ∈ GW, w.before _ sq = true := hF.2.2.2.2
  have hK := hKx.1
  have hl : lv_has ls 2 [(0, .ref h)] := hl
  have hP : va_P G.1 vwCl [(h, .inr (4, [.ref an, .ref tr, .ref ah, .int ch, .ref ak, .ref ai, .ref ap, .int (nI n), .ref af, .int sp])), (ap, .inl (gI G, 80, .inl p))] sq.heap := hP
  have hD : va_D A [(h, .inr (4, [.ref an, .ref tr, .ref ah, .int ch, .ref ak, .ref ai, .ref ap, .int (nI n), .ref af, .int sp])), (ap, .inl (gI G, 80, .inl p))] := hD
  refine lv_aload_n hx hb dX4_fault_0 rfl (lv_at hl 0 rfl) ?_
  refine lv_iconst (v := nI 0) hx hb dX4_fault_1 (by decide) ?_
  refine va_put (ci := 4) (v := .int (nI 0)) (ty := .int) (C := RX4) (T := TX4) (N := 10) hx hb hts inGX4 tyX4 tyX4_ok nmX4 hown hK hP hD hS 0 rfl rfl 9 (by decide) (hts _ mw_3_63) (fun _ h9 => h9) rfl (by decide +kernel) rfl rfl (Nat.le_of_ble_eq_true rfl) dX4_fault_2 (fun H locs hP hD hS => ?_)
  have hP : va_P G.1 vwCl [(h, .inr (4, [.ref an, .ref tr, .ref ah, .int ch, .ref ak, .ref ai, .ref ap, .int (nI n), .ref af, .int (nI 0)])), (ap, .inl (gI G, 80, .inl p))] H := hP
  have hD : va_D A [(h, .inr (4, [.ref an, .ref tr, .ref ah, .int ch, .ref ak, .ref ai, .ref ap, .int (nI n), .ref af, .int (nI 0)])), (ap, .inl (gI G, 80, .inl p))] := hD
  refine lv_iconst (v := nI 1) hx hb dX4_fault_5 (by decide) ?_
  refine lv_istore_n (lv' := [(1, .int (nI 1)), (0, .ref h)]) hx hb dX4_fault_6 rfl hl (by decide) rfl (fun ls hl => ?_)
  have hPj := hP.sub (ws' := [(h, .inr (4, [.ref an, .ref tr, .ref ah, .int ch, .ref ak, .ref ai, .ref ap, .int (nI n), .ref af, .int (nI 0)])), (ap, .inl (gI G, 80, .inl p))]) [0, 1] rfl
  have hDj := hD.sub (ws' := [(h, .inr (4, [.ref an, .ref tr, .ref ah, .int ch, .ref ak, .ref ai, .ref ap, .int (nI n), .ref af, .int (nI 0)])), (ap, .inl (gI G, 80, .inl p))]) [0, 1] (by decide) rfl
  refine wloopH [] (fun j H locs ls => (j ≤ n) ∧ (fV p n 0 = fV p n j) ∧ (fW p n 0 = fW p n j) ∧ va_P G.1 vwCl [(h, .inr (4, [.ref an, .ref tr, .ref ah, .int ch, .ref ak, .ref ai, .ref ap, .int (nI n), .ref af, .int (nI j)])), (ap, .inl (gI G, 80, .inl p))] H ∧ va_D A [(h, .inr (4, [.ref an, .ref tr, .ref ah, .int ch, .ref ak, .ref ai, .ref ap, .int (nI n), .ref af, .int (nI j)])), (ap, .inl (gI G, 80, .inl p))] ∧ va_S A sq.heap H locs ∧ lv_has ls 2 [(1, .int (nI 1)), (0, .ref h)]) (fun j => n + 1 - j) ?_ 0 ⟨(by omega), (rfl), (rfl), hPj, hDj, hS, lv_sub hl [0, 1] rfl⟩
  intro j ih
  intro H locs ls ⟨hj, hV, hW, hP, hD, hS, hl⟩
  have hoe := oE_in (p := p) (n := n) hj
  refine lv_iload_n hx hb dX4_fault_7 rfl (lv_at hl 0 rfl) ?_
  refine z0_eq hx hb (tgt := 59) 1 dX4_fault_8 (by decide) (by decide) (fun c_8 => ?_) (fun c_8 => ?_)
  · skip
    exact absurd c_8 (by decide)
  · skip
    refine lv_aload_n hx hb dX4_fault_11 rfl (lv_at hl 1 rfl) ?_
    refine k_rwV (ci := 4) (q0 := 0) (As := []) (rest := []) (wr := []) hF (c_X4_readOrder l G _ h an tr ah ch ak ai ap n af j p (by omega) (by omega)) ⟨_, rfl, rfl⟩ rfl rfl mw_4_58 mw_4_60 mw_p2_5 mw_1_5 mw_4_61 hd_X4_readOrder ⟨Nat.le_of_ble_eq_true rfl, Nat.le_of_ble_eq_true rfl⟩ hKx hZ hS hP hD hA [0, 1] [] rfl rfl (by decide) (by decide) (by decide) rfl rfl hl.1 rfl (Nat.le_of_ble_eq_true rfl) dX4_fault_12 ⟨Nat.zero_le _, Nat.zero_le _⟩ (fun H locs hP hD hS => ?_)
    have hP : va_P G.1 vwCl [(h, .inr (4, [.ref an, .ref tr, .ref ah, .int ch, .ref ak, .ref ai, .ref ap, .int (nI n), .ref af, .int (nI (oE p n j))])), (ap, .inl (gI G, 80, .inl p))] H := hP
    have hD : va_D A [(h, .inr (4, [.ref an, .ref tr, .ref ah, .int ch, .ref ak, .ref ai, .ref ap, .int (nI n), .ref af, .int (nI (oE p n j))])), (ap, .inl (gI G, 80, .inl p))] := hD
    refine p0_ne hx hb (tgt := 23) dX4_fault_15 (by decide) (fun c_15 => ?_) (fun c_15 => ?_)
    · skip
      refine lv_aload_n hx hb dX4_fault_23 rfl (lv_at hl 1 rfl) ?_
      refine k_roV (ci := 4) (q0 := 0) (As := []) (rest := []) hF (c_X4_sign l G h an tr ah ch ak ai ap n af (oE p n j) p (by omega) (by omega)) hKx hP ⟨_, rfl, rfl⟩ rfl rfl mw_4_62 mw_4_64 mw_p2_6 mw_1_5 mw_4_65 hd_X4_sign ⟨Nat.le_of_ble_eq_true rfl, Nat.le_of_ble_eq_true rfl⟩ (Rd.of hKx hZ hS) (hP.sub (ws' := [(h, .inr (4, [.ref an, .ref tr, .ref ah, .int ch, .ref ak, .ref ai, .ref ap, .int (nI n), .ref af, .int (nI (oE p n j))])), (ap, .inl (gI G, 80, .inl p))]) [0, 1] rfl) rfl hl.1 rfl (Nat.le_of_ble_eq_true rfl) dX4_fault_24 ⟨Nat.zero_le _, Nat.zero_le _⟩ ?_
      refine lv_bipush (v := nI 59) hx hb dX4_fault_27 (by decide) ?_
      refine z_ne hx hb (tgt := 36) ((sgn p n (oE p n j)).toInt) 59 dX4_fault_29 (by decide) rfl (by decide) (fun c_29 => ?_) (fun c_29 => ?_)
      · skip
        refine lv_iconst (v := nI 0) hx hb dX4_fault_36 (by decide) ?_
        refine lv_istore_n (lv' := [(1, .int (nI 0)), (0, .ref h)]) hx hb dX4_fault_37 rfl hl (by decide) rfl (fun ls hl => ?_)
        refine lv_aload_n hx hb dX4_fault_38 rfl (lv_at hl 1 rfl) ?_
        refine lv_dup hx hb dX4_fault_39 rfl ?_
        refine va_get (ci := 4) (v := .int (nI (oE p n j))) (C := RX4) (T := TX4) (N := 10) hx hb hts inGX4 hown hK hP 0 rfl rfl 9 (by decide) (hts _ mw_3_63) (fun _ h9 => h9) rfl dX4_fault_40 ?_
        refine lv_iload_n hx hb dX4_fault_43 rfl (lv_at hl 0 rfl) ?_
        refine z0_eq hx hb (tgt := 51) 0 dX4_fault_44 (by decide) (by decide) (fun c_44 => ?_) (fun c_44 => ?_)
        · skip
          refine lv_iconst (v := nI 0) hx hb dX4_fault_51 (by decide) ?_
          refine n_iadd hx hb dX4_fault_52 ?_
          refine va_put (ci := 4) (v := .int (nI (oE p n j + 0))) (ty := .int) (C := RX4) (T := TX4) (N := 10) hx hb hts inGX4 tyX4 tyX4_ok nmX4 hown hK hP hD hS 0 rfl rfl 9 (by decide) (hts _ mw_3_63) (fun _ h9 => h9) rfl (by decide +kernel) rfl rfl (Nat.le_of_ble_eq_true rfl) dX4_fault_53 (fun H locs hP hD hS => ?_)
          have hP : va_P G.1 vwCl [(h, .inr (4, [.ref an, .ref tr, .ref ah, .int ch, .ref ak, .ref ai, .ref ap, .int (nI n), .ref af, .int (nI (oE p n j + 0))])), (ap, .inl (gI G, 80, .inl p))] H := hP
          have hD : va_D A [(h, .inr (4, [.ref an, .ref tr, .ref ah, .int ch, .ref ak, .ref ai, .ref ap, .int (nI n), .ref af, .int (nI (oE p n j + 0))])), (ap, .inl (gI G, 80, .inl p))] := hD
          refine lv_goto (tgt := 7) hx hb dX4_fault_56 (by decide) ?_
          refine lv_iload_n hx hb dX4_fault_7 rfl (lv_at hl 0 rfl) ?_
          refine z0_eq hx hb (tgt := 59) 0 dX4_fault_8 (by decide) (by decide) (fun c_8 => ?_) (fun c_8 => ?_)
          · skip
            have hfb := ff_b (p := p) (n := n) (i := j) (by omega) c_15.1 c_29
            refine lv_aload_n hx hb dX4_fault_59 rfl (lv_at hl 1 rfl) ?_
            refine va_get (ci := 4) (v := .int (nI (oE p n j + 0))) (C := RX4) (T := TX4) (N := 10) hx hb hts inGX4 hown hK hP 0 rfl rfl 9 (by decide) (hts _ mw_3_63) (fun _ h9 => h9) rfl dX4_fault_60 ?_
            refine lv_aload_n hx hb dX4_fault_63 rfl (lv_at hl 1 rfl) ?_
            refine va_get (ci := 4) (v := .int (nI n)) (C := RX4) (T := TX4) (N := 10) hx hb hts inGX4 hown hK hP 0 rfl rfl 7 (by decide) (hts _ mw_3_61) (fun _ h9 => h9) rfl dX4_fault_64 ?_
            refine z_ge hx hb (tgt := 77) ((oE p n j + 0 : Nat) : Int) ((n : Nat) : Int) dX4_fault_67 (by decide) (toI (by omega)) (toI (by omega)) (fun c_67 => ?_) (fun c_67 => ?_)
            · skip
              refine lv_bipush (v := (-6)) hx hb dX4_fault_77 (by decide) ?_
              have hPj := hP.sub (ws' := [(h, .inr (4, [.ref an, .ref tr, .ref ah, .int ch, .ref ak, .ref ai, .ref ap, .int (nI n), .ref af, .int (nI (oE p n j + 0))])), (ap, .inl (gI G, 80, .inl p))]) [0, 1] rfl
              have hwj : ([(h, .inr (4, [.ref an, .ref tr, .ref ah, .int ch, .ref ak, .ref ai, .ref ap, .int (nI n), .ref af, .int (nI (oE p n j + 0))])), (ap, .inl (gI G, 80, .inl p))] : va_W) = [(h, .inr (4, [.ref an, .ref tr, .ref ah, .int ch, .ref ak, .ref ai, .ref ap, .int (nI n), .ref af, .int (nI (fW p n 0))])), (ap, .inl (gI G, 80, .inl p))] := (wlc (by rw [hW, hfb.2, Nat.add_zero]) (wlc (rfl) rfl))
              rw [hwj] at hPj
              exact e_wi hx hb hr hlk hPj hS (by rw [hV, hfb.1]; first | exact (cI_t (by omega)).symm | exact (cI_f (by omega)).symm) dX4_fault_79
            · skip
              refine lv_aload_n hx hb dX4_fault_70 rfl (lv_at hl 1 rfl) ?_
              refine va_get (ci := 4) (v := .int (nI (oE p n j + 0))) (C := RX4) (T := TX4) (N := 10) hx hb hts inGX4 hown hK hP 0 rfl rfl 9 (by decide) (hts _ mw_3_63) (fun _ h9 => h9) rfl dX4_fault_71 ?_
              refine lv_goto (tgt := 79) hx hb dX4_fault_74 (by decide) ?_
              have hPj := hP.sub (ws' := [(h, .inr (4, [.ref an, .ref tr, .ref ah, .int ch, .ref ak, .ref ai, .ref ap, .int (nI n), .ref af, .int (nI (oE p n j + 0))])), (ap, .inl (gI G, 80, .inl p))]) [0, 1] rfl
              have hwj : ([(h, .inr (4, [.ref an, .ref tr, .ref ah, .int ch, .ref ak, .ref ai, .ref ap, .int (nI n), .ref af, .int (nI (oE p n j + 0))])), (ap, .inl (gI G, 80, .inl p))] : va_W) = [(h, .inr (4, [.ref an, .ref tr, .ref ah, .int ch, .ref ak, .ref ai, .ref ap, .int (nI n), .ref af, .int (nI (fW p n 0))])), (ap, .inl (gI G, 80, .inl p))] := (wlc (by rw [hW, hfb.2, Nat.add_zero]) (wlc (rfl) rfl))
              rw [hwj] at hPj
              exact e_wi hx hb hr hlk hPj hS (by rw [hV, hfb.1]; first | exact (cI_t (by omega)).symm | exact (cI_f (by omega)).symm) dX4_fault_79
          · skip
            exact absurd c_8 (by decide)
        · skip
          exact absurd c_44 (by decide)
      · skip
        have h59 := sg_lt (p := p) (n := n) (i := oE p n j) (show 0 ≤ (sgn p n (oE p n j)).toInt by omega)
        refine lv_iconst (v := nI 1) hx hb dX4_fault_32 (by decide) ?_
        refine lv_goto (tgt := 37) hx hb dX4_fault_33 (by decide) ?_
        refine lv_istore_n (lv' := [(1, .int (nI 1)), (0, .ref h)]) hx hb dX4_fault_37 rfl hl (by decide) rfl (fun ls hl => ?_)
        refine lv_aload_n hx hb dX4_fault_38 rfl (lv_at hl 1 rfl) ?_
        refine lv_dup hx hb dX4_fault_39 rfl ?_
        refine va_get (ci := 4) (v := .int (nI (oE p n j))) (C := RX4) (T := TX4) (N := 10) hx hb hts inGX4 hown hK hP 0 rfl rfl 9 (by decide) (hts _ mw_3_63) (fun _ h9 => h9) rfl dX4_fault_40 ?_
        refine lv_iload_n hx hb dX4_fault_43 rfl (lv_at hl 0 rfl) ?_
        refine z0_eq hx hb (tgt := 51) 1 dX4_fault_44 (by decide) (by decide) (fun c_44 => ?_) (fun c_44 => ?_)
        · skip
          exact absurd c_44 (by decide)
        · skip
          refine lv_iconst (v := nI 1) hx hb dX4_fault_47 (by decide) ?_
          refine lv_goto (tgt := 52) hx hb dX4_fault_48 (by decide) ?_
          refine n_iadd hx hb dX4_fault_52 ?_
          refine va_put (ci := 4) (v := .int (nI (oE p n j + 1))) (ty := .int) (C := RX4) (T := TX4) (N := 10) hx hb hts inGX4 tyX4 tyX4_ok nmX4 hown hK hP hD hS 0 rfl rfl 9 (by decide) (hts _ mw_3_63) (fun _ h9 => h9) rfl (by decide +kernel) rfl rfl (Nat.le_of_ble_eq_true rfl) dX4_fault_53 (fun H locs hP hD hS => ?_)
          have hP : va_P G.1 vwCl [(h, .inr (4, [.ref an, .ref tr, .ref ah, .int ch, .ref ak, .ref ai, .ref ap, .int (nI n), .ref af, .int (nI (oE p n j + 1))])), (ap, .inl (gI G, 80, .inl p))] H := hP
          have hD : va_D A [(h, .inr (4, [.ref an, .ref tr, .ref ah, .int ch, .ref ak, .ref ai, .ref ap, .int (nI n), .ref af, .int (nI (oE p n j + 1))])), (ap, .inl (gI G, 80, .inl p))] := hD
          refine lv_goto (tgt := 7) hx hb dX4_fault_56 (by decide) ?_
          exact ih (oE p n j + 1) _ _ ls (by omega) ⟨(by omega), (hV.trans (fV_t hn hj ⟨c_15.1, c_29⟩).1), (hW.trans (fV_t hn hj ⟨c_15.1, c_29⟩).2), (hP.sub (ws' := [(h, .inr (4, [.ref an, .ref tr, .ref ah, .int ch, .ref ak, .ref ai, .ref ap, .int (nI n), .ref af, .int (nI (oE p n j + 1))])), (ap, .inl (gI G, 80, .inl p))]) [0, 1] rfl), (hD.sub (ws' := [(h, .inr (4, [.ref an, .ref tr, .ref ah, .int ch, .ref ak, .ref ai, .ref ap, .int (nI n), .ref af, .int (nI (oE p n j + 1))])), (ap, .inl (gI G, 80, .inl p))]) [0, 1] (by decide) rfl), hS, lv_sub hl [0, 1] rfl⟩
    · skip
      have hfa := ff_a (p := p) (n := n) (i := j) (by omega) c_15
      refine lv_aload_n hx hb dX4_fault_18 rfl (lv_at hl 1 rfl) ?_
      refine va_get (ci := 4) (v := .int (nI (oE p n j))) (C := RX4) (T := TX4) (N := 10) hx hb hts inGX4 hown hK hP 0 rfl rfl 9 (by decide) (hts _ mw_3_63) (fun _ h9 => h9) rfl dX4_fault_19 ?_
      have hPj := hP.sub (ws' := [(h, .inr (4, [.ref an, .ref tr, .ref ah, .int ch, .ref ak, .ref ai, .ref ap, .int (nI n), .ref af, .int (nI (oE p n j))])), (ap, .inl (gI G, 80, .inl p))]) [0, 1] rfl
      have hwj : ([(h, .inr (4, [.ref an, .ref tr, .ref ah, .int ch, .ref ak, .ref ai, .ref ap, .int (nI n), .ref af, .int (nI (oE p n j))])), (ap, .inl (gI G, 80, .inl p))] : va_W) = [(h, .inr (4, [.ref an, .ref tr, .ref ah, .int ch, .ref ak, .ref ai, .ref ap, .int (nI n), .ref af, .int (nI (fW p n 0))])), (ap, .inl (gI G, 80, .inl p))] := (wlc (by rw [hW, hfa.2]) (wlc (rfl) rfl))
      rw [hwj] at hPj
      exact e_wi hx hb hr hlk hPj hS ((hV.trans hfa.1).symm) dX4_fault_22
set_option maxHeartbeats 4000000 in
set_option maxRecDepth 100000 in
theorem c_X4_wipe (l : Launch) (G : gT) (sz : Nat) (h : Nat) (an : Nat) (tr : Nat) (ah : Nat) (ch : Int32) (ak : Nat) (ai : Nat) (ap : Nat) (n : Nat) (af : Nat) (sp : Int32)  : Rw l G yX4_wipe cX4_wipe 2 (some .int) 0 sz [(h, .inr (4, [.ref an, .ref tr, .ref ah, .int ch, .ref ak, .ref ai, .ref ap, .int (nI n), .ref af, .int sp]))] [.ref h] (nI n) [(h, .inr (4, [.ref an, .ref tr, .ref ah, .int ch, .ref ak, .ref ai, .ref ap, .int (nI 0), .ref af, .int sp]))] := by
  refine Rw.mk (by decide) (Nat.le_of_ble_eq_true rfl) (fun pq eq sq mq bq tq cq ls A hr hlk hF hKx hZ hA hP hD hS hl => ?_)
  have hx := hF.1
  have hb := hF.2.1
  have hml := hF.2.2.1
  have hown : sq.vm.findClass RX4 = some mq.cls := hF.2.2.2.1
  have hts : ∀ w ∈ GW, w.before _ sq = true := hF.2.2.2.2
  have hK := hKx.1
  have hl : lv_has ls 2 [(0, .ref h)] := hl
  have hP : va_P G.1 vwCl [(h, .inr (4, [.ref an, .ref tr, .ref ah, .int ch, .ref ak, .ref ai, .ref ap, .int (nI n), .ref af, .int sp]))] sq.heap := hP
  have hD : va_D A [(h, .inr (4, [.ref an, .ref tr, .ref ah, .int ch, .ref ak, .ref ai, .ref ap, .int (nI n), .ref af, .int sp]))] := hD
  refine lv_aload_n hx hb dX4_wipe_0 rfl (lv_at hl 0 rfl) ?_
  refine va_get (ci := 4) (v := .int (nI n)) (C := RX4) (T := TX4) (N := 10) hx hb hts inGX4 hown hK hP 0 rfl rfl 7 (by decide) (hts _ mw_3_61) (fun _ h9 => h9) rfl dX4_wipe_1 ?_
  refine lv_istore_n (lv' := [(1, .int (nI n)), (0, .ref h)]) hx hb dX4_wipe_4 rfl hl (by decide) rfl (fun ls hl => ?_)
  refine lv_aload_n hx hb dX4_wipe_5 rfl (lv_at hl 1 rfl) ?_
  refine lv_iconst (v := nI 0) hx hb dX4_wipe_6 (by decide) ?_
  refine va_put (ci := 4) (v := .int (nI 0)) (ty := .int) (C := RX4) (T := TX4) (N := 10) hx hb hts inGX4 tyX4 tyX4_ok nmX4 hown hK hP hD hS 0 rfl rfl 7 (by decide) (hts _ mw_3_61) (fun _ h9 => h9) rfl (by decide +kernel) rfl rfl (Nat.le_of_ble_eq_true rfl) dX4_wipe_7 (fun H locs hP hD hS => ?_)
  have hP : va_P G.1 vwCl [(h, .inr (4, [.ref an, .ref tr, .ref ah, .int ch, .ref ak, .ref ai, .ref ap, .int (nI 0), .ref af, .int sp]))] H := hP
  have hD : va_D A [(h, .inr (4, [.ref an, .ref tr, .ref ah, .int ch, .ref ak, .ref ai, .ref ap, .int (nI 0), .ref af, .int sp]))] := hD
  refine lv_iload_n hx hb dX4_wipe_10 rfl (lv_at hl 0 rfl) ?_
  have hPj := hP.sub (ws' := [(h, .inr (4, [.ref an, .ref tr, .ref ah, .int ch, .ref ak, .ref ai, .ref ap, .int (nI 0), .ref af, .int sp]))]) [0] rfl
  exact e_wi hx hb hr hlk hPj hS (rfl) dX4_wipe_11
