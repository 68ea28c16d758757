theorem hd_X4_doOrder : hdY yX4_doOrder 0 := ⟨by decide +kernel, by decide +kernel, by decide +kernel⟩
set_option maxHeartbeats 4000000 in
set_option maxRecDepth 100000 in
theorem c_X4_doOrder (l : Launch) (G : gT) (sz : Nat) (h : Nat) (an : Nat) (tr : Nat) (ah : Nat) (ch : Int32) (ak : Nat) (ai : Nat) (ap : Nat) (n : Nat) (af : Nat) (i : Nat) (p : Nat → Int32) (r0 : Nat → Int32) (q : Nat) (ow : Nat) (E : Nat) (hn : n ≤ 80) (hi : i ≤ n) (hO : oF p n i) (hdd : ¬ dgP p n (oE p n i)) (hc : cur p n q = ent p n i ow) (hCv : Cv r0) (hE : fe p n r0 (odN p n i) q = E) : Rw l G yX4_doOrder cX4_doOrder 6 (some .boolean) 9 sz [(h, .inr (4, [.ref an, .ref tr, .ref ah, .int ch, .ref ak, .ref ai, .ref ap, .int (nI n), .ref af, .int (nI i)])), (ap, .inl (gI G, 80, .inl p)), (an, .inl (gI G, 2175, .inl (run p n r0 q))), (af, .inl (gI G, 121, .inl (fun q9 => nI (fdy q9))))] [.ref h] (pI (E = q + odN p n i)) [(h, .inr (4, [.ref an, .ref tr, .ref ah, .int ch, .ref ak, .ref ai, .ref ap, .int (nI n), .ref af, .int (nI (cI (E = q + odN p n i) (oE p n i) (cE p n (cur p n E))))])), (ap, .inl (gI G, 80, .inl p)), (an, .inl (gI G, 2175, .inl (run p n r0 E))), (af, .inl (gI G, 121, .inl (fun q9 => nI (fdy q9))))] := by
  refine Rw.mk (by decide) (Nat.le_of_ble_eq_true rfl) (fun pq eq sq mq bq tq cq ls A hr hlk hF hKx hZ hA hP hD hS hl => ?_)
  have hx := hF.1
  have hb := hF.2.1
  have hml := hF.2.2.1
  have hown : sq.vm.findClass RX4 = some mq.cls := hF.2.2.2.1
  have hts : ∀ w ∈ GW, w.before _ sq = true := hF.2.2.2.2
  have hK := hKx.1
  have hl : lv_has ls 6 [(0, .ref h)] := hl
  have hP : va_P G.1 vwCl [(h, .inr (4, [.ref an, .ref tr, .ref ah, .int ch, .ref ak, .ref ai, .ref ap, .int (nI n), .ref af, .int (nI i)])), (ap, .inl (gI G, 80, .inl p)), (an, .inl (gI G, 2175, .inl (run p n r0 q))), (af, .inl (gI G, 121, .inl (fun q9 => nI (fdy q9))))] sq.heap := hP
  have hD : va_D A [(h, .inr (4, [.ref an, .ref tr, .ref ah, .int ch, .ref ak, .ref ai, .ref ap, .int (nI n), .ref af, .int (nI i)])), (ap, .inl (gI G, 80, .inl p)), (an, .inl (gI G, 2175, .inl (run p n r0 q))), (af, .inl (gI G, 121, .inl (fun q9 => nI (fdy q9))))] := hD
  refine lv_aload_n hx hb dX4_doOrder_0 rfl (lv_at hl 0 rfl) ?_
  refine k_roV (ci := 4) (q0 := 0) (As := []) (rest := []) hF (c_X4_sign l G h an tr ah ch ak ai ap n af i p (by omega) (by omega)) hKx hP ⟨_, rfl, rfl⟩ rfl rfl mw_4_62 mw_4_64 mw_p2_6 mw_1_5 mw_4_65 hd_X4_sign ⟨Nat.le_of_ble_eq_true rfl, Nat.le_of_ble_eq_true rfl⟩ (Rd.of hKx hZ hS) (hP.sub (ws' := [(h, .inr (4, [.ref an, .ref tr, .ref ah, .int ch, .ref ak, .ref ai, .ref ap, .int (nI n), .ref af, .int (nI i)])), (ap, .inl (gI G, 80, .inl p))]) [0, 1] rfl) rfl hl.1 rfl (Nat.le_of_ble_eq_true rfl) dX4_doOrder_1 ⟨Nat.zero_le _, Nat.zero_le _⟩ ?_
  refine lv_istore_n (lv' := [(1, .int (sgn p n i)), (0, .ref h)]) hx hb dX4_doOrder_4 rfl hl (by decide) rfl (fun ls hl => ?_)
  refine lv_aload_n hx hb dX4_doOrder_5 rfl (lv_at hl 1 rfl) ?_
  refine lv_dup hx hb dX4_doOrder_6 rfl ?_
  refine va_get (ci := 4) (v := .int (nI i)) (C := RX4) (T := TX4) (N := 10) hx hb hts inGX4 hown hK hP 0 rfl rfl 9 (by decide) (hts _ mw_3_63) (fun _ h9 => h9) rfl dX4_doOrder_7 ?_
  refine lv_iconst (v := nI 1) hx hb dX4_doOrder_10 (by decide) ?_
  refine n_iadd hx hb dX4_doOrder_11 ?_
  refine va_put (ci := 4) (v := .int (nI (i + 1))) (ty := .int) (C := RX4) (T := TX4) (N := 10) hx hb hts inGX4 tyX4 tyX4_ok nmX4 hown hK hP hD hS 0 rfl rfl 9 (by decide) (hts _ mw_3_63) (fun _ h9 => h9) rfl (by decide +kernel) rfl rfl (Nat.le_of_ble_eq_true rfl) dX4_doOrder_12 (fun H locs hP hD hS => ?_)
  have hP : va_P G.1 vwCl [(h, .inr (4, [.ref an, .ref tr, .ref ah, .int ch, .ref ak, .ref ai, .ref ap, .int (nI n), .ref af, .int (nI (i + 1))])), (ap, .inl (gI G, 80, .inl p)), (an, .inl (gI G, 2175, .inl (run p n r0 q))), (af, .inl (gI G, 121, .inl (fun q9 => nI (fdy q9))))] H := hP
  have hD : va_D A [(h, .inr (4, [.ref an, .ref tr, .ref ah, .int ch, .ref ak, .ref ai, .ref ap, .int (nI n), .ref af, .int (nI (i + 1))])), (ap, .inl (gI G, 80, .inl p)), (an, .inl (gI G, 2175, .inl (run p n r0 q))), (af, .inl (gI G, 121, .inl (fun q9 => nI (fdy q9))))] := hD
  refine lv_iload_n hx hb dX4_doOrder_15 rfl (lv_at hl 0 rfl) ?_
  refine lv_bipush (v := nI 112) hx hb dX4_doOrder_16 (by decide) ?_
  refine z_ne hx hb (tgt := 60) ((sgn p n i).toInt) 112 dX4_doOrder_18 (by decide) rfl (by decide) (fun c_18 => ?_) (fun c_18 => ?_)
  · skip
    have h112 : ¬ sg p n i = 112 := c_18
    have hm := oF_m hO h112
    obtain ⟨hm1, hm2, hm3⟩ := id hm
    have hi2 := sg_lt (p := p) (n := n) (i := i + 2) (by omega)
    have ho := o_r (p := p) (n := n) (i := i) hm1 hm2 hm3
    have hK2 : ¬ (sg p n i).toNat = 112 := by omega
    have hcm : cur p n q = (i + 3, (sg p n i).toNat, (sg p n (i + 1) - 97).toNat, ow) := by rw [hc, ent_m hm1]
    have hod : odN p n i = rgN p n (i + 3) := odN_m hm
    refine lv_aload_n hx hb dX4_doOrder_60 rfl (lv_at hl 1 rfl) ?_
    refine k_roV (ci := 4) (q0 := 0) (As := []) (rest := []) hF (c_X4_sign l G h an tr ah ch ak ai ap n af (i + 1) p (by omega) (by omega)) hKx hP ⟨_, rfl, rfl⟩ rfl rfl mw_4_62 mw_4_64 mw_p2_6 mw_1_5 mw_4_65 hd_X4_sign ⟨Nat.le_of_ble_eq_true rfl, Nat.le_of_ble_eq_true rfl⟩ (Rd.of hKx hZ hS) (hP.sub (ws' := [(h, .inr (4, [.ref an, .ref tr, .ref ah, .int ch, .ref ak, .ref ai, .ref ap, .int (nI n), .ref af, .int (nI (i + 1))])), (ap, .inl (gI G, 80, .inl p))]) [0, 1] rfl) rfl hl.1 rfl (Nat.le_of_ble_eq_true rfl) dX4_doOrder_61 ⟨Nat.zero_le _, Nat.zero_le _⟩ ?_
    refine lv_bipush (v := nI 97) hx hb dX4_doOrder_64 (by decide) ?_
    refine lv_isub hx hb dX4_doOrder_66 ?_
    refine lv_cv (y := nI ((sg p n (i + 1) - 97).toNat)) (sgn_sub hm2.1) ?_
    refine lv_istore_n (lv' := [(2, .int (nI ((sg p n (i + 1) - 97).toNat))), (1, .int (sgn p n i)), (0, .ref h)]) hx hb dX4_doOrder_67 rfl hl (by decide) rfl (fun ls hl => ?_)
    refine lv_aload_n hx hb dX4_doOrder_68 rfl (lv_at hl 2 rfl) ?_
    refine lv_dup hx hb dX4_doOrder_69 rfl ?_
    refine va_get (ci := 4) (v := .int (nI (i + 1))) (C := RX4) (T := TX4) (N := 10) hx hb hts inGX4 hown hK hP 0 rfl rfl 9 (by decide) (hts _ mw_3_63) (fun _ h9 => h9) rfl dX4_doOrder_70 ?_
    refine lv_iconst (v := nI 2) hx hb dX4_doOrder_73 (by decide) ?_
    refine n_iadd hx hb dX4_doOrder_74 ?_
    refine va_put (ci := 4) (v := .int (nI (i + 1 + 2))) (ty := .int) (C := RX4) (T := TX4) (N := 10) hx hb hts inGX4 tyX4 tyX4_ok nmX4 hown hK hP hD hS 0 rfl rfl 9 (by decide) (hts _ mw_3_63) (fun _ h9 => h9) rfl (by decide +kernel) rfl rfl (Nat.le_of_ble_eq_true rfl) dX4_doOrder_75 (fun H locs hP hD hS => ?_)
    have hP : va_P G.1 vwCl [(h, .inr (4, [.ref an, .ref tr, .ref ah, .int ch, .ref ak, .ref ai, .ref ap, .int (nI n), .ref af, .int (nI (i + 1 + 2))])), (ap, .inl (gI G, 80, .inl p)), (an, .inl (gI G, 2175, .inl (run p n r0 q))), (af, .inl (gI G, 121, .inl (fun q9 => nI (fdy q9))))] H := hP
    have hD : va_D A [(h, .inr (4, [.ref an, .ref tr, .ref ah, .int ch, .ref ak, .ref ai, .ref ap, .int (nI n), .ref af, .int (nI (i + 1 + 2))])), (ap, .inl (gI G, 80, .inl p)), (an, .inl (gI G, 2175, .inl (run p n r0 q))), (af, .inl (gI G, 121, .inl (fun q9 => nI (fdy q9))))] := hD
    refine lv_iconst (v := nI 1) hx hb dX4_doOrder_78 (by decide) ?_
    refine lv_istore_n (lv' := [(3, .int (nI 1)), (2, .int (nI ((sg p n (i + 1) - 97).toNat))), (1, .int (sgn p n i)), (0, .ref h)]) hx hb dX4_doOrder_79 rfl hl (by decide) rfl (fun ls hl => ?_)
    have hPj := hP.sub (ws' := [(h, .inr (4, [.ref an, .ref tr, .ref ah, .int ch, .ref ak, .ref ai, .ref ap, .int (nI n), .ref af, .int (nI (i + 1 + 2))])), (ap, .inl (gI G, 80, .inl p)), (an, .inl (gI G, 2175, .inl (run p n r0 q))), (af, .inl (gI G, 121, .inl (fun q9 => nI (fdy q9))))]) [0, 1, 2, 3] rfl
    have hDj := hD.sub (ws' := [(h, .inr (4, [.ref an, .ref tr, .ref ah, .int ch, .ref ak, .ref ai, .ref ap, .int (nI n), .ref af, .int (nI (i + 1 + 2))])), (ap, .inl (gI G, 80, .inl p)), (an, .inl (gI G, 2175, .inl (run p n r0 q))), (af, .inl (gI G, 121, .inl (fun q9 => nI (fdy q9))))]) [0, 1, 2, 3] (by decide) rfl
    have w_1 : ([(h, .inr (4, [.ref an, .ref tr, .ref ah, .int ch, .ref ak, .ref ai, .ref ap, .int (nI n), .ref af, .int (nI (i + 1 + 2))])), (ap, .inl (gI G, 80, .inl p)), (an, .inl (gI G, 2175, .inl (run p n r0 q))), (af, .inl (gI G, 121, .inl (fun q9 => nI (fdy q9))))] : va_W) = [(h, .inr (4, [.ref an, .ref tr, .ref ah, .int ch, .ref ak, .ref ai, .ref ap, .int (nI n), .ref af, .int (nI (rs p n (i + 3) 0))])), (ap, .inl (gI G, 80, .inl p)), (an, .inl (gI G, 2175, .inl (run p n r0 (q + 0)))), (af, .inl (gI G, 121, .inl (fun q9 => nI (fdy q9))))] := (wlc (rfl) (wlc (rfl) (wlc (rfl) (wlc (rfl) rfl))))
    rw [w_1] at hPj hDj
    refine wloopH [] (fun k H locs ls => (k ≤ rs p n (i + 3) k) ∧ (rs p n (i + 3) k ≤ n) ∧ (cur p n (q + k) = (rs p n (i + 3) k, (sg p n i).toNat, (sg p n (i + 1) - 97).toNat, ow)) ∧ (rgE p n (i + 3) = rgE p n (rs p n (i + 3) k)) ∧ (rgO p n (rs p n (i + 3) k)) ∧ (rgN p n (i + 3) = k + rgN p n (rs p n (i + 3) k)) ∧ (fe p n r0 (rgN p n (rs p n (i + 3) k)) (q + k) = E) ∧ va_P G.1 vwCl [(h, .inr (4, [.ref an, .ref tr, .ref ah, .int ch, .ref ak, .ref ai, .ref ap, .int (nI n), .ref af, .int (nI (rs p n (i + 3) k))])), (ap, .inl (gI G, 80, .inl p)), (an, .inl (gI G, 2175, .inl (run p n r0 (q + k)))), (af, .inl (gI G, 121, .inl (fun q9 => nI (fdy q9))))] H ∧ va_D A [(h, .inr (4, [.ref an, .ref tr, .ref ah, .int ch, .ref ak, .ref ai, .ref ap, .int (nI n), .ref af, .int (nI (rs p n (i + 3) k))])), (ap, .inl (gI G, 80, .inl p)), (an, .inl (gI G, 2175, .inl (run p n r0 (q + k)))), (af, .inl (gI G, 121, .inl (fun q9 => nI (fdy q9))))] ∧ va_S A sq.heap H locs ∧ lv_has ls 6 [(3, .int (nI 1)), (0, .ref h), (1, .int (sgn p n i)), (2, .int (nI ((sg p n (i + 1) - 97).toNat)))]) (fun k => 81 - k) ?_ 0 ⟨(Nat.zero_le _), (by show i + 3 ≤ n; omega), (hcm), (rfl), (ho.2.mp hO), ((Nat.zero_add _).symm), (by show fe p n r0 (rgN p n (i + 3)) q = E; rw [← hod]; exact hE), hPj, hDj, hS, lv_sub hl [0, 3, 2, 1] rfl⟩
    intro k ih
    intro H locs ls ⟨hkj, hj, hck, hEr, hOr, hN, hfe, hP, hD, hS, hl⟩
    have hdr : ¬ dgP p n (rgE p n (rs p n (i + 3) k)) := by rw [← hEr, ← ho.1]; exact hdd
    have hrf := rgO_rF hn hj hOr
    have hna := num_a hn hj hrf hdr
    have hnb := num_b hn hj hrf hdr
    have hne := nE_in (p := p) (n := n) hj
    have hrl := rL_in (p := p) (n := n) hj
    have hrg := rL_gt hrf.1
    have hCr := Cv_run (p := p) (n := n) hCv (q + k)
    obtain ⟨h0r, htr, -⟩ := id hCr.1.1
    have cm := c_m hck hK2
    have herq : er (cK p n (q + k)) (cS p n (q + k)) (cF p n (q + k)) (cT p n (q + k)) (run p n r0 (q + k)) = eMk (0 ≤ (((sg p n (i + 1) - 97).toNat : Nat) : Int) ∧ (((sg p n (i + 1) - 97).toNat : Nat) : Int) ≤ 15) ((nuV p n (rs p n (i + 3) k) : Nat) : Int) ((sTo p n (rs p n (i + 3) k) : Nat) : Int) ((td (run p n r0 (q + k)) : Nat) : Int) := by rw [cm.1, cm.2.1, cm.2.2.1, cm.2.2.2.1]; exact er_m hK2
    have hd0n := nuV_in hrf.1
    refine lv_iload_n hx hb dX4_doOrder_80 rfl (lv_at hl 0 rfl) ?_
    refine z0_eq hx hb (tgt := 198) 1 dX4_doOrder_81 (by decide) (by decide) (fun c_81 => ?_) (fun c_81 => ?_)
    · skip
      exact absurd c_81 (by decide)
    · skip
      refine wjoinH 119 [] (fun H locs ls => va_P G.1 vwCl [(h, .inr (4, [.ref an, .ref tr, .ref ah, .int ch, .ref ak, .ref ai, .ref ap, .int (nI n), .ref af, .int (nI (rL p n (rs p n (i + 3) k)))])), (ap, .inl (gI G, 80, .inl p)), (an, .inl (gI G, 2175, .inl (run p n r0 (q + k)))), (af, .inl (gI G, 121, .inl (fun q9 => nI (fdy q9))))] H ∧ va_D A [(h, .inr (4, [.ref an, .ref tr, .ref ah, .int ch, .ref ak, .ref ai, .ref ap, .int (nI n), .ref af, .int (nI (rL p n (rs p n (i + 3) k)))])), (ap, .inl (gI G, 80, .inl p)), (an, .inl (gI G, 2175, .inl (run p n r0 (q + k)))), (af, .inl (gI G, 121, .inl (fun q9 => nI (fdy q9))))] ∧ va_S A sq.heap H locs ∧ lv_has ls 6 [(5, .int (nI (sTo p n (rs p n (i + 3) k)))), (4, .int (nI (nuV p n (rs p n (i + 3) k)))), (0, .ref h), (1, .int (sgn p n i)), (2, .int (nI ((sg p n (i + 1) - 97).toNat)))]) ?_ (fun J119 => ?_)
      · skip
        intro H locs ls ⟨hP, hD, hS, hl⟩
        have htn : sTo p n (rs p n (i + 3) k) < 3650 := by unfold sTo; by_cases h45 : sg p n (nE p n (rs p n (i + 3) k)) = 45; (rw [cI_t h45]; exact nuV_in (hrf.2 h45)); (rw [cI_f h45]; exact hd0n)
        refine lv_aload_n hx hb dX4_doOrder_119 rfl (lv_at hl 2 rfl) ?_
        refine lv_aload_n hx hb dX4_doOrder_120 rfl (lv_at hl 2 rfl) ?_
        refine va_get (ci := 4) (v := .ref an) (C := RX4) (T := TX4) (N := 10) hx hb hts inGX4 hown hK hP 0 rfl rfl 0 (by decide) (hts _ mw_3_54) (fun _ h9 => h9) rfl dX4_doOrder_121 ?_
        refine lv_iload_n hx hb dX4_doOrder_124 rfl (lv_at hl 4 rfl) ?_
        refine lv_iload hx hb dX4_doOrder_125 (lv_at hl 1 rfl) ?_
        refine lv_iload hx hb dX4_doOrder_127 (lv_at hl 0 rfl) ?_
        refine k_roV (ci := 4) (q0 := 0) (As := [.ref an, .int (nI ((sg p n (i + 1) - 97).toNat)), .int (nI (nuV p n (rs p n (i + 3) k))), .int (nI (sTo p n (rs p n (i + 3) k)))]) (rest := []) hF (c_X4_whyNotMark l G h an tr ah ch ak ai ap (nI n) af (nI (rL p n (rs p n (i + 3) k))) an (run p n r0 (q + k)) (nI ((sg p n (i + 1) - 97).toNat)) (((sg p n (i + 1) - 97).toNat : Nat) : Int) (nI (nuV p n (rs p n (i + 3) k))) ((nuV p n (rs p n (i + 3) k) : Nat) : Int) (nI (sTo p n (rs p n (i + 3) k))) ((sTo p n (rs p n (i + 3) k) : Nat) : Int) (toI (by omega)) (toI (by omega)) (toI (by omega)) (h0r) (by omega)) hKx hP ⟨_, rfl, rfl⟩ rfl rfl mw_3_160 mw_3_162 mw_p1_13 mw_1_5 mw_3_163 hd_X4_whyNotMark ⟨Nat.le_of_ble_eq_true rfl, Nat.le_of_ble_eq_true rfl⟩ (Rd.of hKx hZ hS) (hP.sub (ws' := [(h, .inr (4, [.ref an, .ref tr, .ref ah, .int ch, .ref ak, .ref ai, .ref ap, .int (nI n), .ref af, .int (nI (rL p n (rs p n (i + 3) k)))])), (an, .inl (gI G, 2175, .inl (run p n r0 (q + k))))]) [0, 2] rfl) rfl hl.1 rfl (Nat.le_of_ble_eq_true rfl) dX4_doOrder_129 ⟨Nat.zero_le _, Nat.zero_le _⟩ ?_
        refine z0_eq hx hb (tgt := 137) ((eMk (0 ≤ (((sg p n (i + 1) - 97).toNat : Nat) : Int) ∧ (((sg p n (i + 1) - 97).toNat : Nat) : Int) ≤ 15) ((nuV p n (rs p n (i + 3) k) : Nat) : Int) ((sTo p n (rs p n (i + 3) k) : Nat) : Int) ((td (run p n r0 (q + k)) : Nat) : Int)).toInt) dX4_doOrder_132 (by decide) rfl (fun c_132 => ?_) (fun c_132 => ?_)
        · skip
          have hok : ok1 p n r0 (q + k) := by unfold ok1; rw [herq]; exact c_132
          obtain ⟨g1, g2, g3, g4, g5⟩ := eMk_ok c_132
          have hrun : run p n r0 (q + k + 1) = mko (run p n r0 (q + k)) (sg p n (i + 1) - 97).toNat (nuV p n (rs p n (i + 3) k)) (sTo p n (rs p n (i + 3) k)) (mot (nuV p n (rs p n (i + 3) k))) ((sg p n i).toNat = 109) (mot (sTo p n (rs p n (i + 3) k)) + 1 - mot (nuV p n (rs p n (i + 3) k))) := by rw [run_s, dx_m hok (by rw [cm.1]; exact hK2), cm.1, cm.2.1, cm.2.2.1, cm.2.2.2.1]
          refine lv_aload_n hx hb dX4_doOrder_137 rfl (lv_at hl 2 rfl) ?_
          refine lv_aload_n hx hb dX4_doOrder_138 rfl (lv_at hl 2 rfl) ?_
          refine va_get (ci := 4) (v := .ref an) (C := RX4) (T := TX4) (N := 10) hx hb hts inGX4 hown hK hP 0 rfl rfl 0 (by decide) (hts _ mw_3_54) (fun _ h9 => h9) rfl dX4_doOrder_139 ?_
          refine lv_iload_n hx hb dX4_doOrder_142 rfl (lv_at hl 4 rfl) ?_
          refine lv_iload hx hb dX4_doOrder_143 (lv_at hl 1 rfl) ?_
          refine lv_iload hx hb dX4_doOrder_145 (lv_at hl 0 rfl) ?_
          refine lv_iload_n hx hb dX4_doOrder_147 rfl (lv_at hl 3 rfl) ?_
          refine lv_bipush (v := nI 109) hx hb dX4_doOrder_148 (by decide) ?_
          refine z_ne hx hb (tgt := 157) ((sgn p n i).toInt) 109 dX4_doOrder_150 (by decide) rfl (by decide) (fun c_150 => ?_) (fun c_150 => ?_)
          · skip
            refine lv_iconst (v := nI 0) hx hb dX4_doOrder_157 (by decide) ?_
            refine lv_cv (y := pI ((sg p n i).toNat = 109)) (pI_f' (by have hq9 : ¬ sg p n i = 109 := c_150; omega)) ?_
            refine k_rwV (ci := 4) (q0 := 0) (As := [.ref an, .int (nI ((sg p n (i + 1) - 97).toNat)), .int (nI (nuV p n (rs p n (i + 3) k))), .int (nI (sTo p n (rs p n (i + 3) k))), .int (pI ((sg p n i).toNat = 109))]) (rest := []) (wr := [(ap, .inl (gI G, 80, .inl p))]) hF (c_X4_markOn l G _ h an tr ah ch ak ai ap (nI n) af (nI (rL p n (rs p n (i + 3) k))) an (run p n r0 (q + k)) ((sg p n (i + 1) - 97).toNat) (nuV p n (rs p n (i + 3) k)) (sTo p n (rs p n (i + 3) k)) ((sg p n i).toNat = 109) (hCr.1) (by omega) (by omega) (by omega)) ⟨_, rfl, rfl⟩ rfl rfl mw_3_175 mw_3_177 mw_p1_14 mw_1_5 mw_3_178 hd_X4_markOn ⟨Nat.le_of_ble_eq_true rfl, Nat.le_of_ble_eq_true rfl⟩ hKx hZ hS hP hD hA [0, 3, 2] [1] rfl rfl (by decide) (by decide) (by decide) (Eq.trans (b := [h, af, an]) rfl rfl) rfl hl.1 rfl (Nat.le_of_ble_eq_true rfl) dX4_doOrder_158 ⟨Nat.zero_le _, Nat.zero_le _⟩ (fun H locs hP hD hS => ?_)
            have hP : va_P G.1 vwCl [(ap, .inl (gI G, 80, .inl p)), (h, .inr (4, [.ref an, .ref tr, .ref ah, .int ch, .ref ak, .ref ai, .ref ap, .int (nI n), .ref af, .int (nI (rL p n (rs p n (i + 3) k)))])), (af, .inl (gI G, 121, .inl (fun q9 => nI (fdy q9)))), (an, .inl (gI G, 2175, .inl (mko (run p n r0 (q + k)) ((sg p n (i + 1) - 97).toNat) (nuV p n (rs p n (i + 3) k)) (sTo p n (rs p n (i + 3) k)) (mot (nuV p n (rs p n (i + 3) k))) ((sg p n i).toNat = 109) (mot (sTo p n (rs p n (i + 3) k)) + 1 - mot (nuV p n (rs p n (i + 3) k))))))] H := hP
            have hD : va_D A [(ap, .inl (gI G, 80, .inl p)), (h, .inr (4, [.ref an, .ref tr, .ref ah, .int ch, .ref ak, .ref ai, .ref ap, .int (nI n), .ref af, .int (nI (rL p n (rs p n (i + 3) k)))])), (af, .inl (gI G, 121, .inl (fun q9 => nI (fdy q9)))), (an, .inl (gI G, 2175, .inl (mko (run p n r0 (q + k)) ((sg p n (i + 1) - 97).toNat) (nuV p n (rs p n (i + 3) k)) (sTo p n (rs p n (i + 3) k)) (mot (nuV p n (rs p n (i + 3) k))) ((sg p n i).toNat = 109) (mot (sTo p n (rs p n (i + 3) k)) + 1 - mot (nuV p n (rs p n (i + 3) k))))))] := hD
            refine lv_pop hx hb dX4_doOrder_161 rfl ?_
            refine lv_aload_n hx hb dX4_doOrder_162 rfl (lv_at hl 2 rfl) ?_
            refine k_roV (ci := 4) (q0 := 1) (As := []) (rest := []) hF (c_X4_sign l G h an tr ah ch ak ai ap n af (rL p n (rs p n (i + 3) k)) p (by omega) (by omega)) hKx hP ⟨_, rfl, rfl⟩ rfl rfl mw_4_62 mw_4_64 mw_p2_6 mw_1_5 mw_4_65 hd_X4_sign ⟨Nat.le_of_ble_eq_true rfl, Nat.le_of_ble_eq_true rfl⟩ (Rd.of hKx hZ hS) (hP.sub (ws' := [(h, .inr (4, [.ref an, .ref tr, .ref ah, .int ch, .ref ak, .ref ai, .ref ap, .int (nI n), .ref af, .int (nI (rL p n (rs p n (i + 3) k)))])), (ap, .inl (gI G, 80, .inl p))]) [1, 0] rfl) rfl hl.1 rfl (Nat.le_of_ble_eq_true rfl) dX4_doOrder_163 ⟨Nat.zero_le _, Nat.zero_le _⟩ ?_
            refine lv_bipush (v := nI 44) hx hb dX4_doOrder_166 (by decide) ?_
            refine z_ne hx hb (tgt := 175) ((sgn p n (rL p n (rs p n (i + 3) k))).toInt) 44 dX4_doOrder_168 (by decide) rfl (by decide) (fun c_168 => ?_) (fun c_168 => ?_)
            · skip
              have hsp : ¬ (rF p n (rs p n (i + 3) k) ∧ sg p n (rL p n (rs p n (i + 3) k)) = 44) := fun z => c_168 z.2
              have hg := rg_f (p := p) (n := n) (j := (rs p n (i + 3) k)) (by omega) hsp
              have hn1 : rgN p n (rs p n (i + 3) k) = 1 := by rw [rgN_f hsp, cI_t hrf]
              have hE1 : E = q + k + 1 := by rw [← hfe, hn1, fe_t hok]; rfl
              have hs2 : cI (E = q + odN p n i) (oE p n i) (cE p n (cur p n E)) = rL p n (rs p n (i + 3) k) := by rw [cI_t (show E = q + odN p n i by omega), ho.1, hEr, hg.1]
              have hr2 : run p n r0 E = mko (run p n r0 (q + k)) (sg p n (i + 1) - 97).toNat (nuV p n (rs p n (i + 3) k)) (sTo p n (rs p n (i + 3) k)) (mot (nuV p n (rs p n (i + 3) k))) ((sg p n i).toNat = 109) (mot (sTo p n (rs p n (i + 3) k)) + 1 - mot (nuV p n (rs p n (i + 3) k))) := by rw [hE1, hrun]
              refine lv_iconst (v := nI 0) hx hb dX4_doOrder_175 (by decide) ?_
              refine lv_istore_n (lv' := [(3, .int (nI 0)), (5, .int (nI (sTo p n (rs p n (i + 3) k)))), (4, .int (nI (nuV p n (rs p n (i + 3) k)))), (0, .ref h), (1, .int (sgn p n i)), (2, .int (nI ((sg p n (i + 1) - 97).toNat)))]) hx hb dX4_doOrder_176 rfl hl (by decide) rfl (fun ls hl => ?_)
              refine lv_aload_n hx hb dX4_doOrder_177 rfl (lv_at hl 3 rfl) ?_
              refine lv_dup hx hb dX4_doOrder_178 rfl ?_
              refine va_get (ci := 4) (v := .int (nI (rL p n (rs p n (i + 3) k)))) (C := RX4) (T := TX4) (N := 10) hx hb hts inGX4 hown hK hP 1 rfl rfl 9 (by decide) (hts _ mw_3_63) (fun _ h9 => h9) rfl dX4_doOrder_179 ?_
              refine lv_iload_n hx hb dX4_doOrder_182 rfl (lv_at hl 0 rfl) ?_
              refine z0_eq hx hb (tgt := 190) 0 dX4_doOrder_183 (by decide) (by decide) (fun c_183 => ?_) (fun c_183 => ?_)
              · skip
                refine lv_iconst (v := nI 0) hx hb dX4_doOrder_190 (by decide) ?_
                refine n_iadd hx hb dX4_doOrder_191 ?_
                refine va_put (ci := 4) (v := .int (nI (rL p n (rs p n (i + 3) k) + 0))) (ty := .int) (C := RX4) (T := TX4) (N := 10) hx hb hts inGX4 tyX4 tyX4_ok nmX4 hown hK hP hD hS 1 rfl rfl 9 (by decide) (hts _ mw_3_63) (fun _ h9 => h9) rfl (by decide +kernel) rfl rfl (Nat.le_of_ble_eq_true rfl) dX4_doOrder_192 (fun H locs hP hD hS => ?_)
                have hP : va_P G.1 vwCl [(ap, .inl (gI G, 80, .inl p)), (h, .inr (4, [.ref an, .ref tr, .ref ah, .int ch, .ref ak, .ref ai, .ref ap, .int (nI n), .ref af, .int (nI (rL p n (rs p n (i + 3) k) + 0))])), (af, .inl (gI G, 121, .inl (fun q9 => nI (fdy q9)))), (an, .inl (gI G, 2175, .inl (mko (run p n r0 (q + k)) ((sg p n (i + 1) - 97).toNat) (nuV p n (rs p n (i + 3) k)) (sTo p n (rs p n (i + 3) k)) (mot (nuV p n (rs p n (i + 3) k))) ((sg p n i).toNat = 109) (mot (sTo p n (rs p n (i + 3) k)) + 1 - mot (nuV p n (rs p n (i + 3) k))))))] H := hP
                have hD : va_D A [(ap, .inl (gI G, 80, .inl p)), (h, .inr (4, [.ref an, .ref tr, .ref ah, .int ch, .ref ak, .ref ai, .ref ap, .int (nI n), .ref af, .int (nI (rL p n (rs p n (i + 3) k) + 0))])), (af, .inl (gI G, 121, .inl (fun q9 => nI (fdy q9)))), (an, .inl (gI G, 2175, .inl (mko (run p n r0 (q + k)) ((sg p n (i + 1) - 97).toNat) (nuV p n (rs p n (i + 3) k)) (sTo p n (rs p n (i + 3) k)) (mot (nuV p n (rs p n (i + 3) k))) ((sg p n i).toNat = 109) (mot (sTo p n (rs p n (i + 3) k)) + 1 - mot (nuV p n (rs p n (i + 3) k))))))] := hD
                refine lv_goto (tgt := 80) hx hb dX4_doOrder_195 (by decide) ?_
                refine lv_iload_n hx hb dX4_doOrder_80 rfl (lv_at hl 0 rfl) ?_
                refine z0_eq hx hb (tgt := 198) 0 dX4_doOrder_81 (by decide) (by decide) (fun c_81 => ?_) (fun c_81 => ?_)
                · skip
                  refine lv_iconst (v := nI 1) hx hb dX4_doOrder_198 (by decide) ?_
                  have hPj := hP.sub (ws' := [(h, .inr (4, [.ref an, .ref tr, .ref ah, .int ch, .ref ak, .ref ai, .ref ap, .int (nI n), .ref af, .int (nI (rL p n (rs p n (i + 3) k) + 0))])), (ap, .inl (gI G, 80, .inl p)), (an, .inl (gI G, 2175, .inl (mko (run p n r0 (q + k)) ((sg p n (i + 1) - 97).toNat) (nuV p n (rs p n (i + 3) k)) (sTo p n (rs p n (i + 3) k)) (mot (nuV p n (rs p n (i + 3) k))) ((sg p n i).toNat = 109) (mot (sTo p n (rs p n (i + 3) k)) + 1 - mot (nuV p n (rs p n (i + 3) k)))))), (af, .inl (gI G, 121, .inl (fun q9 => nI (fdy q9))))]) [1, 0, 3, 2] rfl
                  have hwj : ([(h, .inr (4, [.ref an, .ref tr, .ref ah, .int ch, .ref ak, .ref ai, .ref ap, .int (nI n), .ref af, .int (nI (rL p n (rs p n (i + 3) k) + 0))])), (ap, .inl (gI G, 80, .inl p)), (an, .inl (gI G, 2175, .inl (mko (run p n r0 (q + k)) ((sg p n (i + 1) - 97).toNat) (nuV p n (rs p n (i + 3) k)) (sTo p n (rs p n (i + 3) k)) (mot (nuV p n (rs p n (i + 3) k))) ((sg p n i).toNat = 109) (mot (sTo p n (rs p n (i + 3) k)) + 1 - mot (nuV p n (rs p n (i + 3) k)))))), (af, .inl (gI G, 121, .inl (fun q9 => nI (fdy q9))))] : va_W) = [(h, .inr (4, [.ref an, .ref tr, .ref ah, .int ch, .ref ak, .ref ai, .ref ap, .int (nI n), .ref af, .int (nI (cI (E = q + odN p n i) (oE p n i) (cE p n (cur p n E))))])), (ap, .inl (gI G, 80, .inl p)), (an, .inl (gI G, 2175, .inl (run p n r0 E))), (af, .inl (gI G, 121, .inl (fun q9 => nI (fdy q9))))] := (wlc (by rw [hs2, Nat.add_zero]) (wlc (rfl) (wlc (by rw [hr2]) (wlc (rfl) rfl))))
                  rw [hwj] at hPj
                  exact e_wz hx hb hr hlk (nz_1) hPj hS (pI_t' (by omega)) dX4_doOrder_199
                · skip
                  exact absurd c_81 (by decide)
              · skip
                exact absurd c_183 (by decide)
            · skip
              have h44 := sg_lt (p := p) (n := n) (i := rL p n (rs p n (i + 3) k)) (show 0 ≤ (sgn p n (rL p n (rs p n (i + 3) k))).toInt by omega)
              refine lv_iconst (v := nI 1) hx hb dX4_doOrder_171 (by decide) ?_
              refine lv_goto (tgt := 176) hx hb dX4_doOrder_172 (by decide) ?_
              refine lv_istore_n (lv' := [(3, .int (nI 1)), (5, .int (nI (sTo p n (rs p n (i + 3) k)))), (4, .int (nI (nuV p n (rs p n (i + 3) k)))), (0, .ref h), (1, .int (sgn p n i)), (2, .int (nI ((sg p n (i + 1) - 97).toNat)))]) hx hb dX4_doOrder_176 rfl hl (by decide) rfl (fun ls hl => ?_)
              refine lv_aload_n hx hb dX4_doOrder_177 rfl (lv_at hl 3 rfl) ?_
              refine lv_dup hx hb dX4_doOrder_178 rfl ?_
              refine va_get (ci := 4) (v := .int (nI (rL p n (rs p n (i + 3) k)))) (C := RX4) (T := TX4) (N := 10) hx hb hts inGX4 hown hK hP 1 rfl rfl 9 (by decide) (hts _ mw_3_63) (fun _ h9 => h9) rfl dX4_doOrder_179 ?_
              refine lv_iload_n hx hb dX4_doOrder_182 rfl (lv_at hl 0 rfl) ?_
              refine z0_eq hx hb (tgt := 190) 1 dX4_doOrder_183 (by decide) (by decide) (fun c_183 => ?_) (fun c_183 => ?_)
              · skip
                exact absurd c_183 (by decide)
              · skip
                refine lv_iconst (v := nI 1) hx hb dX4_doOrder_186 (by decide) ?_
                refine lv_goto (tgt := 191) hx hb dX4_doOrder_187 (by decide) ?_
                refine n_iadd hx hb dX4_doOrder_191 ?_
                refine va_put (ci := 4) (v := .int (nI (rL p n (rs p n (i + 3) k) + 1))) (ty := .int) (C := RX4) (T := TX4) (N := 10) hx hb hts inGX4 tyX4 tyX4_ok nmX4 hown hK hP hD hS 1 rfl rfl 9 (by decide) (hts _ mw_3_63) (fun _ h9 => h9) rfl (by decide +kernel) rfl rfl (Nat.le_of_ble_eq_true rfl) dX4_doOrder_192 (fun H locs hP hD hS => ?_)
                have hP : va_P G.1 vwCl [(ap, .inl (gI G, 80, .inl p)), (h, .inr (4, [.ref an, .ref tr, .ref ah, .int ch, .ref ak, .ref ai, .ref ap, .int (nI n), .ref af, .int (nI (rL p n (rs p n (i + 3) k) + 1))])), (af, .inl (gI G, 121, .inl (fun q9 => nI (fdy q9)))), (an, .inl (gI G, 2175, .inl (mko (run p n r0 (q + k)) ((sg p n (i + 1) - 97).toNat) (nuV p n (rs p n (i + 3) k)) (sTo p n (rs p n (i + 3) k)) (mot (nuV p n (rs p n (i + 3) k))) ((sg p n i).toNat = 109) (mot (sTo p n (rs p n (i + 3) k)) + 1 - mot (nuV p n (rs p n (i + 3) k))))))] H := hP
                have hD : va_D A [(ap, .inl (gI G, 80, .inl p)), (h, .inr (4, [.ref an, .ref tr, .ref ah, .int ch, .ref ak, .ref ai, .ref ap, .int (nI n), .ref af, .int (nI (rL p n (rs p n (i + 3) k) + 1))])), (af, .inl (gI G, 121, .inl (fun q9 => nI (fdy q9)))), (an, .inl (gI G, 2175, .inl (mko (run p n r0 (q + k)) ((sg p n (i + 1) - 97).toNat) (nuV p n (rs p n (i + 3) k)) (sTo p n (rs p n (i + 3) k)) (mot (nuV p n (rs p n (i + 3) k))) ((sg p n i).toNat = 109) (mot (sTo p n (rs p n (i + 3) k)) + 1 - mot (nuV p n (rs p n (i + 3) k))))))] := hD
                refine lv_goto (tgt := 80) hx hb dX4_doOrder_195 (by decide) ?_
                have hPj := hP.sub (ws' := [(h, .inr (4, [.ref an, .ref tr, .ref ah, .int ch, .ref ak, .ref ai, .ref ap, .int (nI n), .ref af, .int (nI (rL p n (rs p n (i + 3) k) + 1))])), (ap, .inl (gI G, 80, .inl p)), (an, .inl (gI G, 2175, .inl (mko (run p n r0 (q + k)) ((sg p n (i + 1) - 97).toNat) (nuV p n (rs p n (i + 3) k)) (sTo p n (rs p n (i + 3) k)) (mot (nuV p n (rs p n (i + 3) k))) ((sg p n i).toNat = 109) (mot (sTo p n (rs p n (i + 3) k)) + 1 - mot (nuV p n (rs p n (i + 3) k)))))), (af, .inl (gI G, 121, .inl (fun q9 => nI (fdy q9))))]) [1, 0, 3, 2] rfl
                have hDj := hD.sub (ws' := [(h, .inr (4, [.ref an, .ref tr, .ref ah, .int ch, .ref ak, .ref ai, .ref ap, .int (nI n), .ref af, .int (nI (rL p n (rs p n (i + 3) k) + 1))])), (ap, .inl (gI G, 80, .inl p)), (an, .inl (gI G, 2175, .inl (mko (run p n r0 (q + k)) ((sg p n (i + 1) - 97).toNat) (nuV p n (rs p n (i + 3) k)) (sTo p n (rs p n (i + 3) k)) (mot (nuV p n (rs p n (i + 3) k))) ((sg p n i).toNat = 109) (mot (sTo p n (rs p n (i + 3) k)) + 1 - mot (nuV p n (rs p n (i + 3) k)))))), (af, .inl (gI G, 121, .inl (fun q9 => nI (fdy q9))))]) [1, 0, 3, 2] (by decide) rfl
                have w_2 : ([(h, .inr (4, [.ref an, .ref tr, .ref ah, .int ch, .ref ak, .ref ai, .ref ap, .int (nI n), .ref af, .int (nI (rL p n (rs p n (i + 3) k) + 1))])), (ap, .inl (gI G, 80, .inl p)), (an, .inl (gI G, 2175, .inl (mko (run p n r0 (q + k)) ((sg p n (i + 1) - 97).toNat) (nuV p n (rs p n (i + 3) k)) (sTo p n (rs p n (i + 3) k)) (mot (nuV p n (rs p n (i + 3) k))) ((sg p n i).toNat = 109) (mot (sTo p n (rs p n (i + 3) k)) + 1 - mot (nuV p n (rs p n (i + 3) k)))))), (af, .inl (gI G, 121, .inl (fun q9 => nI (fdy q9))))] : va_W) = [(h, .inr (4, [.ref an, .ref tr, .ref ah, .int ch, .ref ak, .ref ai, .ref ap, .int (nI n), .ref af, .int (nI (rs p n (i + 3) (k + 1)))])), (ap, .inl (gI G, 80, .inl p)), (an, .inl (gI G, 2175, .inl (run p n r0 (q + (k + 1))))), (af, .inl (gI G, 121, .inl (fun q9 => nI (fdy q9))))] := (wlc (rfl) (wlc (rfl) (wlc (by rw [show run p n r0 (q + (k + 1)) = _ from hrun]) (wlc (rfl) rfl))))
                rw [w_2] at hPj hDj
                exact ih (k + 1) _ _ ls (by omega) ⟨(by show k + 1 ≤ rL p n (rs p n (i + 3) k) + 1; omega), (by show rL p n (rs p n (i + 3) k) + 1 ≤ n; omega), (cur_rn hck hK2 c_168), (hEr.trans (rg_t hn hj ⟨hrf, c_168⟩).1), ((rg_t hn hj ⟨hrf, c_168⟩).2.mp hOr), (by show _ = k + 1 + rgN p n (rL p n (rs p n (i + 3) k) + 1); have hq9 := rgN_t hn hj ⟨hrf, c_168⟩; omega), (by show fe p n r0 (rgN p n (rL p n (rs p n (i + 3) k) + 1)) (q + k + 1) = E; rw [← hfe, rgN_t hn hj ⟨hrf, c_168⟩, fe_t hok]), hPj, hDj, hS, lv_sub hl [0, 3, 4, 5] rfl⟩
          · skip
            refine lv_iconst (v := nI 1) hx hb dX4_doOrder_153 (by decide) ?_
            refine lv_cv (y := pI ((sg p n i).toNat = 109)) (pI_t' (by have hq9 : sg p n i = 109 := c_150; omega)) ?_
            refine lv_goto (tgt := 158) hx hb dX4_doOrder_154 (by decide) ?_
            refine k_rwV (ci := 4) (q0 := 0) (As := [.ref an, .int (nI ((sg p n (i + 1) - 97).toNat)), .int (nI (nuV p n (rs p n (i + 3) k))), .int (nI (sTo p n (rs p n (i + 3) k))), .int (pI ((sg p n i).toNat = 109))]) (rest := []) (wr := [(ap, .inl (gI G, 80, .inl p))]) hF (c_X4_markOn l G _ h an tr ah ch ak ai ap (nI n) af (nI (rL p n (rs p n (i + 3) k))) an (run p n r0 (q + k)) ((sg p n (i + 1) - 97).toNat) (nuV p n (rs p n (i + 3) k)) (sTo p n (rs p n (i + 3) k)) ((sg p n i).toNat = 109) (hCr.1) (by omega) (by omega) (by omega)) ⟨_, rfl, rfl⟩ rfl rfl mw_3_175 mw_3_177 mw_p1_14 mw_1_5 mw_3_178 hd_X4_markOn ⟨Nat.le_of_ble_eq_true rfl, Nat.le_of_ble_eq_true rfl⟩ hKx hZ hS hP hD hA [0, 3, 2] [1] rfl rfl (by decide) (by decide) (by decide) (Eq.trans (b := [h, af, an]) rfl rfl) rfl hl.1 rfl (Nat.le_of_ble_eq_true rfl) dX4_doOrder_158 ⟨Nat.zero_le _, Nat.zero_le _⟩ (fun H locs hP hD hS => ?_)
            have hP : va_P G.1 vwCl [(ap, .inl (gI G, 80, .inl p)), (h, .inr (4, [.ref an, .ref tr, .ref ah, .int ch, .ref ak, .ref ai, .ref ap, .int (nI n), .ref af, .int (nI (rL p n (rs p n (i + 3) k)))])), (af, .inl (gI G, 121, .inl (fun q9 => nI (fdy q9)))), (an, .inl (gI G, 2175, .inl (mko (run p n r0 (q + k)) ((sg p n (i + 1) - 97).toNat) (nuV p n (rs p n (i + 3) k)) (sTo p n (rs p n (i + 3) k)) (mot (nuV p n (rs p n (i + 3) k))) ((sg p n i).toNat = 109) (mot (sTo p n (rs p n (i + 3) k)) + 1 - mot (nuV p n (rs p n (i + 3) k))))))] H := hP
            have hD : va_D A [(ap, .inl (gI G, 80, .inl p)), (h, .inr (4, [.ref an, .ref tr, .ref ah, .int ch, .ref ak, .ref ai, .ref ap, .int (nI n), .ref af, .int (nI (rL p n (rs p n (i + 3) k)))])), (af, .inl (gI G, 121, .inl (fun q9 => nI (fdy q9)))), (an, .inl (gI G, 2175, .inl (mko (run p n r0 (q + k)) ((sg p n (i + 1) - 97).toNat) (nuV p n (rs p n (i + 3) k)) (sTo p n (rs p n (i + 3) k)) (mot (nuV p n (rs p n (i + 3) k))) ((sg p n i).toNat = 109) (mot (sTo p n (rs p n (i + 3) k)) + 1 - mot (nuV p n (rs p n (i + 3) k))))))] := hD
            refine lv_pop hx hb dX4_doOrder_161 rfl ?_
            refine lv_aload_n hx hb dX4_doOrder_162 rfl (lv_at hl 2 rfl) ?_
            refine k_roV (ci := 4) (q0 := 1) (As := []) (rest := []) hF (c_X4_sign l G h an tr ah ch ak ai ap n af (rL p n (rs p n (i + 3) k)) p (by omega) (by omega)) hKx hP ⟨_, rfl, rfl⟩ rfl rfl mw_4_62 mw_4_64 mw_p2_6 mw_1_5 mw_4_65 hd_X4_sign ⟨Nat.le_of_ble_eq_true rfl, Nat.le_of_ble_eq_true rfl⟩ (Rd.of hKx hZ hS) (hP.sub (ws' := [(h, .inr (4, [.ref an, .ref tr, .ref ah, .int ch, .ref ak, .ref ai, .ref ap, .int (nI n), .ref af, .int (nI (rL p n (rs p n (i + 3) k)))])), (ap, .inl (gI G, 80, .inl p))]) [1, 0] rfl) rfl hl.1 rfl (Nat.le_of_ble_eq_true rfl) dX4_doOrder_163 ⟨Nat.zero_le _, Nat.zero_le _⟩ ?_
            refine lv_bipush (v := nI 44) hx hb dX4_doOrder_166 (by decide) ?_
            refine z_ne hx hb (tgt := 175) ((sgn p n (rL p n (rs p n (i + 3) k))).toInt) 44 dX4_doOrder_168 (by decide) rfl (by decide) (fun c_168 => ?_) (fun c_168 => ?_)
            · skip
              have hsp : ¬ (rF p n (rs p n (i + 3) k) ∧ sg p n (rL p n (rs p n (i + 3) k)) = 44) := fun z => c_168 z.2
              have hg := rg_f (p := p) (n := n) (j := (rs p n (i + 3) k)) (by omega) hsp
              have hn1 : rgN p n (rs p n (i + 3) k) = 1 := by rw [rgN_f hsp, cI_t hrf]
              have hE1 : E = q + k + 1 := by rw [← hfe, hn1, fe_t hok]; rfl
              have hs2 : cI (E = q + odN p n i) (oE p n i) (cE p n (cur p n E)) = rL p n (rs p n (i + 3) k) := by rw [cI_t (show E = q + odN p n i by omega), ho.1, hEr, hg.1]
              have hr2 : run p n r0 E = mko (run p n r0 (q + k)) (sg p n (i + 1) - 97).toNat (nuV p n (rs p n (i + 3) k)) (sTo p n (rs p n (i + 3) k)) (mot (nuV p n (rs p n (i + 3) k))) ((sg p n i).toNat = 109) (mot (sTo p n (rs p n (i + 3) k)) + 1 - mot (nuV p n (rs p n (i + 3) k))) := by rw [hE1, hrun]
              refine lv_iconst (v := nI 0) hx hb dX4_doOrder_175 (by decide) ?_
              refine lv_istore_n (lv' := [(3, .int (nI 0)), (5, .int (nI (sTo p n (rs p n (i + 3) k)))), (4, .int (nI (nuV p n (rs p n (i + 3) k)))), (0, .ref h), (1, .int (sgn p n i)), (2, .int (nI ((sg p n (i + 1) - 97).toNat)))]) hx hb dX4_doOrder_176 rfl hl (by decide) rfl (fun ls hl => ?_)
              refine lv_aload_n hx hb dX4_doOrder_177 rfl (lv_at hl 3 rfl) ?_
              refine lv_dup hx hb dX4_doOrder_178 rfl ?_
              refine va_get (ci := 4) (v := .int (nI (rL p n (rs p n (i + 3) k)))) (C := RX4) (T := TX4) (N := 10) hx hb hts inGX4 hown hK hP 1 rfl rfl 9 (by decide) (hts _ mw_3_63) (fun _ h9 => h9) rfl dX4_doOrder_179 ?_
              refine lv_iload_n hx hb dX4_doOrder_182 rfl (lv_at hl 0 rfl) ?_
              refine z0_eq hx hb (tgt := 190) 0 dX4_doOrder_183 (by decide) (by decide) (fun c_183 => ?_) (fun c_183 => ?_)
              · skip
                refine lv_iconst (v := nI 0) hx hb dX4_doOrder_190 (by decide) ?_
                refine n_iadd hx hb dX4_doOrder_191 ?_
                refine va_put (ci := 4) (v := .int (nI (rL p n (rs p n (i + 3) k) + 0))) (ty := .int) (C := RX4) (T := TX4) (N := 10) hx hb hts inGX4 tyX4 tyX4_ok nmX4 hown hK hP hD hS 1 rfl rfl 9 (by decide) (hts _ mw_3_63) (fun _ h9 => h9) rfl (by decide +kernel) rfl rfl (Nat.le_of_ble_eq_true rfl) dX4_doOrder_192 (fun H locs hP hD hS => ?_)
                have hP : va_P G.1 vwCl [(ap, .inl (gI G, 80, .inl p)), (h, .inr (4, [.ref an, .ref tr, .ref ah, .int ch, .ref ak, .ref ai, .ref ap, .int (nI n), .ref af, .int (nI (rL p n (rs p n (i + 3) k) + 0))])), (af, .inl (gI G, 121, .inl (fun q9 => nI (fdy q9)))), (an, .inl (gI G, 2175, .inl (mko (run p n r0 (q + k)) ((sg p n (i + 1) - 97).toNat) (nuV p n (rs p n (i + 3) k)) (sTo p n (rs p n (i + 3) k)) (mot (nuV p n (rs p n (i + 3) k))) ((sg p n i).toNat = 109) (mot (sTo p n (rs p n (i + 3) k)) + 1 - mot (nuV p n (rs p n (i + 3) k))))))] H := hP
                have hD : va_D A [(ap, .inl (gI G, 80, .inl p)), (h, .inr (4, [.ref an, .ref tr, .ref ah, .int ch, .ref ak, .ref ai, .ref ap, .int (nI n), .ref af, .int (nI (rL p n (rs p n (i + 3) k) + 0))])), (af, .inl (gI G, 121, .inl (fun q9 => nI (fdy q9)))), (an, .inl (gI G, 2175, .inl (mko (run p n r0 (q + k)) ((sg p n (i + 1) - 97).toNat) (nuV p n (rs p n (i + 3) k)) (sTo p n (rs p n (i + 3) k)) (mot (nuV p n (rs p n (i + 3) k))) ((sg p n i).toNat = 109) (mot (sTo p n (rs p n (i + 3) k)) + 1 - mot (nuV p n (rs p n (i + 3) k))))))] := hD
                refine lv_goto (tgt := 80) hx hb dX4_doOrder_195 (by decide) ?_
                refine lv_iload_n hx hb dX4_doOrder_80 rfl (lv_at hl 0 rfl) ?_
                refine z0_eq hx hb (tgt := 198) 0 dX4_doOrder_81 (by decide) (by decide) (fun c_81 => ?_) (fun c_81 => ?_)
                · skip
                  refine lv_iconst (v := nI 1) hx hb dX4_doOrder_198 (by decide) ?_
                  have hPj := hP.sub (ws' := [(h, .inr (4, [.ref an, .ref tr, .ref ah, .int ch, .ref ak, .ref ai, .ref ap, .int (nI n), .ref af, .int (nI (rL p n (rs p n (i + 3) k) + 0))])), (ap, .inl (gI G, 80, .inl p)), (an, .inl (gI G, 2175, .inl (mko (run p n r0 (q + k)) ((sg p n (i + 1) - 97).toNat) (nuV p n (rs p n (i + 3) k)) (sTo p n (rs p n (i + 3) k)) (mot (nuV p n (rs p n (i + 3) k))) ((sg p n i).toNat = 109) (mot (sTo p n (rs p n (i + 3) k)) + 1 - mot (nuV p n (rs p n (i + 3) k)))))), (af, .inl (gI G, 121, .inl (fun q9 => nI (fdy q9))))]) [1, 0, 3, 2] rfl
                  have hwj : ([(h, .inr (4, [.ref an, .ref tr, .ref ah, .int ch, .ref ak, .ref ai, .ref ap, .int (nI n), .ref af, .int (nI (rL p n (rs p n (i + 3) k) + 0))])), (ap, .inl (gI G, 80, .inl p)), (an, .inl (gI G, 2175, .inl (mko (run p n r0 (q + k)) ((sg p n (i + 1) - 97).toNat) (nuV p n (rs p n (i + 3) k)) (sTo p n (rs p n (i + 3) k)) (mot (nuV p n (rs p n (i + 3) k))) ((sg p n i).toNat = 109) (mot (sTo p n (rs p n (i + 3) k)) + 1 - mot (nuV p n (rs p n (i + 3) k)))))), (af, .inl (gI G, 121, .inl (fun q9 => nI (fdy q9))))] : va_W) = [(h, .inr (4, [.ref an, .ref tr, .ref ah, .int ch, .ref ak, .ref ai, .ref ap, .int (nI n), .ref af, .int (nI (cI (E = q + odN p n i) (oE p n i) (cE p n (cur p n E))))])), (ap, .inl (gI G, 80, .inl p)), (an, .inl (gI G, 2175, .inl (run p n r0 E))), (af, .inl (gI G, 121, .inl (fun q9 => nI (fdy q9))))] := (wlc (by rw [hs2, Nat.add_zero]) (wlc (rfl) (wlc (by rw [hr2]) (wlc (rfl) rfl))))
                  rw [hwj] at hPj
                  exact e_wz hx hb hr hlk (nz_1) hPj hS (pI_t' (by omega)) dX4_doOrder_199
                · skip
                  exact absurd c_81 (by decide)
              · skip
                exact absurd c_183 (by decide)
            · skip
              have h44 := sg_lt (p := p) (n := n) (i := rL p n (rs p n (i + 3) k)) (show 0 ≤ (sgn p n (rL p n (rs p n (i + 3) k))).toInt by omega)
              refine lv_iconst (v := nI 1) hx hb dX4_doOrder_171 (by decide) ?_
              refine lv_goto (tgt := 176) hx hb dX4_doOrder_172 (by decide) ?_
              refine lv_istore_n (lv' := [(3, .int (nI 1)), (5, .int (nI (sTo p n (rs p n (i + 3) k)))), (4, .int (nI (nuV p n (rs p n (i + 3) k)))), (0, .ref h), (1, .int (sgn p n i)), (2, .int (nI ((sg p n (i + 1) - 97).toNat)))]) hx hb dX4_doOrder_176 rfl hl (by decide) rfl (fun ls hl => ?_)
              refine lv_aload_n hx hb dX4_doOrder_177 rfl (lv_at hl 3 rfl) ?_
              refine lv_dup hx hb dX4_doOrder_178 rfl ?_
              refine va_get (ci := 4) (v := .int (nI (rL p n (rs p n (i + 3) k)))) (C := RX4) (T := TX4) (N := 10) hx hb hts inGX4 hown hK hP 1 rfl rfl 9 (by decide) (hts _ mw_3_63) (fun _ h9 => h9) rfl dX4_doOrder_179 ?_
              refine lv_iload_n hx hb dX4_doOrder_182 rfl (lv_at hl 0 rfl) ?_
              refine z0_eq hx hb (tgt := 190) 1 dX4_doOrder_183 (by decide) (by decide) (fun c_183 => ?_) (fun c_183 => ?_)
              · skip
                exact absurd c_183 (by decide)
              · skip
                refine lv_iconst (v := nI 1) hx hb dX4_doOrder_186 (by decide) ?_
                refine lv_goto (tgt := 191) hx hb dX4_doOrder_187 (by decide) ?_
                refine n_iadd hx hb dX4_doOrder_191 ?_
                refine va_put (ci := 4) (v := .int (nI (rL p n (rs p n (i + 3) k) + 1))) (ty := .int) (C := RX4) (T := TX4) (N := 10) hx hb hts inGX4 tyX4 tyX4_ok nmX4 hown hK hP hD hS 1 rfl rfl 9 (by decide) (hts _ mw_3_63) (fun _ h9 => h9) rfl (by decide +kernel) rfl rfl (Nat.le_of_ble_eq_true rfl) dX4_doOrder_192 (fun H locs hP hD hS => ?_)
                have hP : va_P G.1 vwCl [(ap, .inl (gI G, 80, .inl p)), (h, .inr (4, [.ref an, .ref tr, .ref ah, .int ch, .ref ak, .ref ai, .ref ap, .int (nI n), .ref af, .int (nI (rL p n (rs p n (i + 3) k) + 1))])), (af, .inl (gI G, 121, .inl (fun q9 => nI (fdy q9)))), (an, .inl (gI G, 2175, .inl (mko (run p n r0 (q + k)) ((sg p n (i + 1) - 97).toNat) (nuV p n (rs p n (i + 3) k)) (sTo p n (rs p n (i + 3) k)) (mot (nuV p n (rs p n (i + 3) k))) ((sg p n i).toNat = 109) (mot (sTo p n (rs p n (i + 3) k)) + 1 - mot (nuV p n (rs p n (i + 3) k))))))] H := hP
                have hD : va_D A [(ap, .inl (gI G, 80, .inl p)), (h, .inr (4, [.ref an, .ref tr, .ref ah, .int ch, .ref ak, .ref ai, .ref ap, .int (nI n), .ref af, .int (nI (rL p n (rs p n (i + 3) k) + 1))])), (af, .inl (gI G, 121, .inl (fun q9 => nI (fdy q9)))), (an, .inl (gI G, 2175, .inl (mko (run p n r0 (q + k)) ((sg p n (i + 1) - 97).toNat) (nuV p n (rs p n (i + 3) k)) (sTo p n (rs p n (i + 3) k)) (mot (nuV p n (rs p n (i + 3) k))) ((sg p n i).toNat = 109) (mot (sTo p n (rs p n (i + 3) k)) + 1 - mot (nuV p n (rs p n (i + 3) k))))))] := hD
                refine lv_goto (tgt := 80) hx hb dX4_doOrder_195 (by decide) ?_
                have hPj := hP.sub (ws' := [(h, .inr (4, [.ref an, .ref tr, .ref ah, .int ch, .ref ak, .ref ai, .ref ap, .int (nI n), .ref af, .int (nI (rL p n (rs p n (i + 3) k) + 1))])), (ap, .inl (gI G, 80, .inl p)), (an, .inl (gI G, 2175, .inl (mko (run p n r0 (q + k)) ((sg p n (i + 1) - 97).toNat) (nuV p n (rs p n (i + 3) k)) (sTo p n (rs p n (i + 3) k)) (mot (nuV p n (rs p n (i + 3) k))) ((sg p n i).toNat = 109) (mot (sTo p n (rs p n (i + 3) k)) + 1 - mot (nuV p n (rs p n (i + 3) k)))))), (af, .inl (gI G, 121, .inl (fun q9 => nI (fdy q9))))]) [1, 0, 3, 2] rfl
                have hDj := hD.sub (ws' := [(h, .inr (4, [.ref an, .ref tr, .ref ah, .int ch, .ref ak, .ref ai, .ref ap, .int (nI n), .ref af, .int (nI (rL p n (rs p n (i + 3) k) + 1))])), (ap, .inl (gI G, 80, .inl p)), (an, .inl (gI G, 2175, .inl (mko (run p n r0 (q + k)) ((sg p n (i + 1) - 97).toNat) (nuV p n (rs p n (i + 3) k)) (sTo p n (rs p n (i + 3) k)) (mot (nuV p n (rs p n (i + 3) k))) ((sg p n i).toNat = 109) (mot (sTo p n (rs p n (i + 3) k)) + 1 - mot (nuV p n (rs p n (i + 3) k)))))), (af, .inl (gI G, 121, .inl (fun q9 => nI (fdy q9))))]) [1, 0, 3, 2] (by decide) rfl
                have w_3 : ([(h, .inr (4, [.ref an, .ref tr, .ref ah, .int ch, .ref ak, .ref ai, .ref ap, .int (nI n), .ref af, .int (nI (rL p n (rs p n (i + 3) k) + 1))])), (ap, .inl (gI G, 80, .inl p)), (an, .inl (gI G, 2175, .inl (mko (run p n r0 (q + k)) ((sg p n (i + 1) - 97).toNat) (nuV p n (rs p n (i + 3) k)) (sTo p n (rs p n (i + 3) k)) (mot (nuV p n (rs p n (i + 3) k))) ((sg p n i).toNat = 109) (mot (sTo p n (rs p n (i + 3) k)) + 1 - mot (nuV p n (rs p n (i + 3) k)))))), (af, .inl (gI G, 121, .inl (fun q9 => nI (fdy q9))))] : va_W) = [(h, .inr (4, [.ref an, .ref tr, .ref ah, .int ch, .ref ak, .ref ai, .ref ap, .int (nI n), .ref af, .int (nI (rs p n (i + 3) (k + 1)))])), (ap, .inl (gI G, 80, .inl p)), (an, .inl (gI G, 2175, .inl (run p n r0 (q + (k + 1))))), (af, .inl (gI G, 121, .inl (fun q9 => nI (fdy q9))))] := (wlc (rfl) (wlc (rfl) (wlc (by rw [show run p n r0 (q + (k + 1)) = _ from hrun]) (wlc (rfl) rfl))))
                rw [w_3] at hPj hDj
                exact ih (k + 1) _ _ ls (by omega) ⟨(by show k + 1 ≤ rL p n (rs p n (i + 3) k) + 1; omega), (by show rL p n (rs p n (i + 3) k) + 1 ≤ n; omega), (cur_rn hck hK2 c_168), (hEr.trans (rg_t hn hj ⟨hrf, c_168⟩).1), ((rg_t hn hj ⟨hrf, c_168⟩).2.mp hOr), (by show _ = k + 1 + rgN p n (rL p n (rs p n (i + 3) k) + 1); have hq9 := rgN_t hn hj ⟨hrf, c_168⟩; omega), (by show fe p n r0 (rgN p n (rL p n (rs p n (i + 3) k) + 1)) (q + k + 1) = E; rw [← hfe, rgN_t hn hj ⟨hrf, c_168⟩, fe_t hok]), hPj, hDj, hS, lv_sub hl [0, 3, 4, 5] rfl⟩
        · skip
          have hne : ¬ ok1 p n r0 (q + k) := by unfold ok1; rw [herq]; exact c_132
          have hn1 := rgN_1 hn hj hOr
          have hE1 : E = q + k := by rw [← hfe, show rgN p n (rs p n (i + 3) k) = (rgN p n (rs p n (i + 3) k) - 1) + 1 by omega, fe_f hne]
          have hs2 : cI (E = q + odN p n i) (oE p n i) (cE p n (cur p n E)) = rL p n (rs p n (i + 3) k) := by rw [cI_f (show ¬ E = q + odN p n i by omega), hE1, hck]; exact cE_m hK2
          have hr2 : run p n r0 E = run p n r0 (q + k) := by rw [hE1]
          refine lv_iconst (v := nI 0) hx hb dX4_doOrder_135 (by decide) ?_
          have hPj := hP.sub (ws' := [(h, .inr (4, [.ref an, .ref tr, .ref ah, .int ch, .ref ak, .ref ai, .ref ap, .int (nI n), .ref af, .int (nI (rL p n (rs p n (i + 3) k)))])), (ap, .inl (gI G, 80, .inl p)), (an, .inl (gI G, 2175, .inl (run p n r0 (q + k)))), (af, .inl (gI G, 121, .inl (fun q9 => nI (fdy q9))))]) [0, 1, 2, 3] rfl
          have hwj : ([(h, .inr (4, [.ref an, .ref tr, .ref ah, .int ch, .ref ak, .ref ai, .ref ap, .int (nI n), .ref af, .int (nI (rL p n (rs p n (i + 3) k)))])), (ap, .inl (gI G, 80, .inl p)), (an, .inl (gI G, 2175, .inl (run p n r0 (q + k)))), (af, .inl (gI G, 121, .inl (fun q9 => nI (fdy q9))))] : va_W) = [(h, .inr (4, [.ref an, .ref tr, .ref ah, .int ch, .ref ak, .ref ai, .ref ap, .int (nI n), .ref af, .int (nI (cI (E = q + odN p n i) (oE p n i) (cE p n (cur p n E))))])), (ap, .inl (gI G, 80, .inl p)), (an, .inl (gI G, 2175, .inl (run p n r0 E))), (af, .inl (gI G, 121, .inl (fun q9 => nI (fdy q9))))] := (wlc (by rw [hs2]) (wlc (rfl) (wlc (by rw [hr2]) (wlc (rfl) rfl))))
          rw [hwj] at hPj
          exact e_wz hx hb hr hlk (nz_0) hPj hS (pI_f' (by omega)) dX4_doOrder_136
      · skip
        refine lv_aload_n hx hb dX4_doOrder_84 rfl (lv_at hl 1 rfl) ?_
        refine k_rwV (ci := 4) (q0 := 0) (As := []) (rest := []) (wr := [(an, .inl (gI G, 2175, .inl (run p n r0 (q + k)))), (af, .inl (gI G, 121, .inl (fun q9 => nI (fdy q9))))]) hF (c_X4_number l G _ h an tr ah ch ak ai ap n af (rs p n (i + 3) k) p (by omega) (by omega)) ⟨_, rfl, rfl⟩ rfl rfl mw_4_66 mw_4_68 mw_p2_7 mw_1_5 mw_4_69 hd_X4_number ⟨Nat.le_of_ble_eq_true rfl, Nat.le_of_ble_eq_true rfl⟩ hKx hZ hS hP hD hA [0, 1] [2, 3] rfl rfl (by decide) (by decide) (by decide) (Eq.trans (b := [h, ap]) rfl rfl) rfl hl.1 rfl (Nat.le_of_ble_eq_true rfl) dX4_doOrder_85 ⟨Nat.zero_le _, Nat.zero_le _⟩ (fun H locs hP hD hS => ?_)
        have hP : va_P G.1 vwCl [(an, .inl (gI G, 2175, .inl (run p n r0 (q + k)))), (af, .inl (gI G, 121, .inl (fun q9 => nI (fdy q9)))), (h, .inr (4, [.ref an, .ref tr, .ref ah, .int ch, .ref ak, .ref ai, .ref ap, .int (nI n), .ref af, .int (nI (nE p n (rs p n (i + 3) k)))])), (ap, .inl (gI G, 80, .inl p))] H := hP
        have hD : va_D A [(an, .inl (gI G, 2175, .inl (run p n r0 (q + k)))), (af, .inl (gI G, 121, .inl (fun q9 => nI (fdy q9)))), (h, .inr (4, [.ref an, .ref tr, .ref ah, .int ch, .ref ak, .ref ai, .ref ap, .int (nI n), .ref af, .int (nI (nE p n (rs p n (i + 3) k)))])), (ap, .inl (gI G, 80, .inl p))] := hD
        refine lv_cv (y := nI (nuV p n (rs p n (i + 3) k))) (nR_t ⟨hrf.1, hna⟩) ?_
        refine lv_istore (lv' := [(4, .int (nI (nuV p n (rs p n (i + 3) k)))), (3, .int (nI 1)), (0, .ref h), (1, .int (sgn p n i)), (2, .int (nI ((sg p n (i + 1) - 97).toNat)))]) hx hb dX4_doOrder_88 hl (by decide) rfl (fun ls hl => ?_)
        refine lv_iload hx hb dX4_doOrder_90 (lv_at hl 0 rfl) ?_
        refine lv_istore (lv' := [(5, .int (nI (nuV p n (rs p n (i + 3) k)))), (4, .int (nI (nuV p n (rs p n (i + 3) k)))), (3, .int (nI 1)), (0, .ref h), (1, .int (sgn p n i)), (2, .int (nI ((sg p n (i + 1) - 97).toNat)))]) hx hb dX4_doOrder_92 hl (by decide) rfl (fun ls hl => ?_)
        refine lv_aload_n hx hb dX4_doOrder_94 rfl (lv_at hl 3 rfl) ?_
        refine k_roV (ci := 4) (q0 := 2) (As := []) (rest := []) hF (c_X4_sign l G h an tr ah ch ak ai ap n af (nE p n (rs p n (i + 3) k)) p (by omega) (by omega)) hKx hP ⟨_, rfl, rfl⟩ rfl rfl mw_4_62 mw_4_64 mw_p2_6 mw_1_5 mw_4_65 hd_X4_sign ⟨Nat.le_of_ble_eq_true rfl, Nat.le_of_ble_eq_true rfl⟩ (Rd.of hKx hZ hS) (hP.sub (ws' := [(h, .inr (4, [.ref an, .ref tr, .ref ah, .int ch, .ref ak, .ref ai, .ref ap, .int (nI n), .ref af, .int (nI (nE p n (rs p n (i + 3) k)))])), (ap, .inl (gI G, 80, .inl p))]) [2, 3] rfl) rfl hl.1 rfl (Nat.le_of_ble_eq_true rfl) dX4_doOrder_95 ⟨Nat.zero_le _, Nat.zero_le _⟩ ?_
        refine lv_bipush (v := nI 45) hx hb dX4_doOrder_98 (by decide) ?_
        refine z_ne hx hb (tgt := 119) ((sgn p n (nE p n (rs p n (i + 3) k))).toInt) 45 dX4_doOrder_100 (by decide) rfl (by decide) (fun c_100 => ?_) (fun c_100 => ?_)
        · skip
          have hPj := hP.sub (ws' := [(h, .inr (4, [.ref an, .ref tr, .ref ah, .int ch, .ref ak, .ref ai, .ref ap, .int (nI n), .ref af, .int (nI (nE p n (rs p n (i + 3) k)))])), (ap, .inl (gI G, 80, .inl p)), (an, .inl (gI G, 2175, .inl (run p n r0 (q + k)))), (af, .inl (gI G, 121, .inl (fun q9 => nI (fdy q9))))]) [2, 3, 0, 1] rfl
          have hDj := hD.sub (ws' := [(h, .inr (4, [.ref an, .ref tr, .ref ah, .int ch, .ref ak, .ref ai, .ref ap, .int (nI n), .ref af, .int (nI (nE p n (rs p n (i + 3) k)))])), (ap, .inl (gI G, 80, .inl p)), (an, .inl (gI G, 2175, .inl (run p n r0 (q + k)))), (af, .inl (gI G, 121, .inl (fun q9 => nI (fdy q9))))]) [2, 3, 0, 1] (by decide) rfl
          have w_4 : ([(h, .inr (4, [.ref an, .ref tr, .ref ah, .int ch, .ref ak, .ref ai, .ref ap, .int (nI n), .ref af, .int (nI (nE p n (rs p n (i + 3) k)))])), (ap, .inl (gI G, 80, .inl p)), (an, .inl (gI G, 2175, .inl (run p n r0 (q + k)))), (af, .inl (gI G, 121, .inl (fun q9 => nI (fdy q9))))] : va_W) = [(h, .inr (4, [.ref an, .ref tr, .ref ah, .int ch, .ref ak, .ref ai, .ref ap, .int (nI n), .ref af, .int (nI (rL p n (rs p n (i + 3) k)))])), (ap, .inl (gI G, 80, .inl p)), (an, .inl (gI G, 2175, .inl (run p n r0 (q + k)))), (af, .inl (gI G, 121, .inl (fun q9 => nI (fdy q9))))] := (wlc (by first | rw [rL_1 hrf.1 c_100] | rw [rL_2 hrf.1 c_100]) (wlc (rfl) (wlc (rfl) (wlc (rfl) rfl))))
          rw [w_4] at hPj hDj
          exact J119 _ _ ls ⟨hPj, hDj, hS, lv_sub hl [0, 1, 3, 4, 5] (lvc (by first | exact congrArg nI (cI_f c_100).symm | exact congrArg nI (cI_t c_100).symm) (lvr (lvr (lvr (lvr rfl)))))⟩
        · skip
          have h45 := sg_lt (p := p) (n := n) (i := nE p n (rs p n (i + 3) k)) (show 0 ≤ (sgn p n (nE p n (rs p n (i + 3) k))).toInt by omega)
          have hne2 := nE_in (p := p) (n := n) (i := nE p n (rs p n (i + 3) k) + 1) h45
          refine lv_aload_n hx hb dX4_doOrder_103 rfl (lv_at hl 3 rfl) ?_
          refine lv_dup hx hb dX4_doOrder_104 rfl ?_
          refine va_get (ci := 4) (v := .int (nI (nE p n (rs p n (i + 3) k)))) (C := RX4) (T := TX4) (N := 10) hx hb hts inGX4 hown hK hP 2 rfl rfl 9 (by decide) (hts _ mw_3_63) (fun _ h9 => h9) rfl dX4_doOrder_105 ?_
          refine lv_iconst (v := nI 1) hx hb dX4_doOrder_108 (by decide) ?_
          refine n_iadd hx hb dX4_doOrder_109 ?_
          refine va_put (ci := 4) (v := .int (nI (nE p n (rs p n (i + 3) k) + 1))) (ty := .int) (C := RX4) (T := TX4) (N := 10) hx hb hts inGX4 tyX4 tyX4_ok nmX4 hown hK hP hD hS 2 rfl rfl 9 (by decide) (hts _ mw_3_63) (fun _ h9 => h9) rfl (by decide +kernel) rfl rfl (Nat.le_of_ble_eq_true rfl) dX4_doOrder_110 (fun H locs hP hD hS => ?_)
          have hP : va_P G.1 vwCl [(an, .inl (gI G, 2175, .inl (run p n r0 (q + k)))), (af, .inl (gI G, 121, .inl (fun q9 => nI (fdy q9)))), (h, .inr (4, [.ref an, .ref tr, .ref ah, .int ch, .ref ak, .ref ai, .ref ap, .int (nI n), .ref af, .int (nI (nE p n (rs p n (i + 3) k) + 1))])), (ap, .inl (gI G, 80, .inl p))] H := hP
          have hD : va_D A [(an, .inl (gI G, 2175, .inl (run p n r0 (q + k)))), (af, .inl (gI G, 121, .inl (fun q9 => nI (fdy q9)))), (h, .inr (4, [.ref an, .ref tr, .ref ah, .int ch, .ref ak, .ref ai, .ref ap, .int (nI n), .ref af, .int (nI (nE p n (rs p n (i + 3) k) + 1))])), (ap, .inl (gI G, 80, .inl p))] := hD
          refine lv_aload_n hx hb dX4_doOrder_113 rfl (lv_at hl 3 rfl) ?_
          refine k_rwV (ci := 4) (q0 := 2) (As := []) (rest := []) (wr := [(an, .inl (gI G, 2175, .inl (run p n r0 (q + k)))), (af, .inl (gI G, 121, .inl (fun q9 => nI (fdy q9))))]) hF (c_X4_number l G _ h an tr ah ch ak ai ap n af (nE p n (rs p n (i + 3) k) + 1) p (by omega) (by omega)) ⟨_, rfl, rfl⟩ rfl rfl mw_4_66 mw_4_68 mw_p2_7 mw_1_5 mw_4_69 hd_X4_number ⟨Nat.le_of_ble_eq_true rfl, Nat.le_of_ble_eq_true rfl⟩ hKx hZ hS hP hD hA [2, 3] [0, 1] rfl rfl (by decide) (by decide) (by decide) (Eq.trans (b := [h, ap]) rfl rfl) rfl hl.1 rfl (Nat.le_of_ble_eq_true rfl) dX4_doOrder_114 ⟨Nat.zero_le _, Nat.zero_le _⟩ (fun H locs hP hD hS => ?_)
          have hP : va_P G.1 vwCl [(an, .inl (gI G, 2175, .inl (run p n r0 (q + k)))), (af, .inl (gI G, 121, .inl (fun q9 => nI (fdy q9)))), (h, .inr (4, [.ref an, .ref tr, .ref ah, .int ch, .ref ak, .ref ai, .ref ap, .int (nI n), .ref af, .int (nI (nE p n (nE p n (rs p n (i + 3) k) + 1)))])), (ap, .inl (gI G, 80, .inl p))] H := hP
          have hD : va_D A [(an, .inl (gI G, 2175, .inl (run p n r0 (q + k)))), (af, .inl (gI G, 121, .inl (fun q9 => nI (fdy q9)))), (h, .inr (4, [.ref an, .ref tr, .ref ah, .int ch, .ref ak, .ref ai, .ref ap, .int (nI n), .ref af, .int (nI (nE p n (nE p n (rs p n (i + 3) k) + 1)))])), (ap, .inl (gI G, 80, .inl p))] := hD
          refine lv_cv (y := nI (nuV p n (nE p n (rs p n (i + 3) k) + 1))) (nR_t ⟨hrf.2 c_100, hnb c_100⟩) ?_
          refine lv_istore (lv' := [(5, .int (nI (nuV p n (nE p n (rs p n (i + 3) k) + 1)))), (4, .int (nI (nuV p n (rs p n (i + 3) k)))), (3, .int (nI 1)), (0, .ref h), (1, .int (sgn p n i)), (2, .int (nI ((sg p n (i + 1) - 97).toNat)))]) hx hb dX4_doOrder_117 hl (by decide) rfl (fun ls hl => ?_)
          have hPj := hP.sub (ws' := [(h, .inr (4, [.ref an, .ref tr, .ref ah, .int ch, .ref ak, .ref ai, .ref ap, .int (nI n), .ref af, .int (nI (nE p n (nE p n (rs p n (i + 3) k) + 1)))])), (ap, .inl (gI G, 80, .inl p)), (an, .inl (gI G, 2175, .inl (run p n r0 (q + k)))), (af, .inl (gI G, 121, .inl (fun q9 => nI (fdy q9))))]) [2, 3, 0, 1] rfl
          have hDj := hD.sub (ws' := [(h, .inr (4, [.ref an, .ref tr, .ref ah, .int ch, .ref ak, .ref ai, .ref ap, .int (nI n), .ref af, .int (nI (nE p n (nE p n (rs p n (i + 3) k) + 1)))])), (ap, .inl (gI G, 80, .inl p)), (an, .inl (gI G, 2175, .inl (run p n r0 (q + k)))), (af, .inl (gI G, 121, .inl (fun q9 => nI (fdy q9))))]) [2, 3, 0, 1] (by decide) rfl
          have w_5 : ([(h, .inr (4, [.ref an, .ref tr, .ref ah, .int ch, .ref ak, .ref ai, .ref ap, .int (nI n), .ref af, .int (nI (nE p n (nE p n (rs p n (i + 3) k) + 1)))])), (ap, .inl (gI G, 80, .inl p)), (an, .inl (gI G, 2175, .inl (run p n r0 (q + k)))), (af, .inl (gI G, 121, .inl (fun q9 => nI (fdy q9))))] : va_W) = [(h, .inr (4, [.ref an, .ref tr, .ref ah, .int ch, .ref ak, .ref ai, .ref ap, .int (nI n), .ref af, .int (nI (rL p n (rs p n (i + 3) k)))])), (ap, .inl (gI G, 80, .inl p)), (an, .inl (gI G, 2175, .inl (run p n r0 (q + k)))), (af, .inl (gI G, 121, .inl (fun q9 => nI (fdy q9))))] := (wlc (by first | rw [rL_1 hrf.1 c_100] | rw [rL_2 hrf.1 c_100]) (wlc (rfl) (wlc (rfl) (wlc (rfl) rfl))))
          rw [w_5] at hPj hDj
          exact J119 _ _ ls ⟨hPj, hDj, hS, lv_sub hl [0, 1, 3, 4, 5] (lvc (by first | exact congrArg nI (cI_f c_100).symm | exact congrArg nI (cI_t c_100).symm) (lvr (lvr (lvr (lvr rfl)))))⟩
  · skip
    have h112 : sg p n i = 112 := c_18
    have hi1 := sg_lt (p := p) (n := n) (i := i) (by omega)
    have hcp : cur p n q = (i + 1, 112, 0, ow) := by rw [hc, ent_p h112]
    have ho := o_p (p := p) (n := n) (i := i) h112
    have hd1 : dgP p n (i + 1) := ho.2.mp hO
    have hnd : ¬ dgP p n (nE p n (i + 1)) := by rw [← ho.1]; exact hdd
    have hdn := nuV_in hd1
    have cp := c_p hcp
    have hod : odN p n i = 1 := by rw [odN_p h112, cI_t hd1]
    have hne2 := nE_in (p := p) (n := n) (i := i + 1) (by omega)
    have hCr := Cv_run (p := p) (n := n) hCv q
    obtain ⟨h0r, htr, -⟩ := id hCr.1.1
    have herq : er (cK p n q) (cS p n q) (cF p n q) (cT p n q) (run p n r0 q) = ePs ((nuV p n (i + 1) : Nat) : Int) ((td (run p n r0 q) : Nat) : Int) := by rw [cp.1, cp.2.2.1]; exact er_p rfl
    refine lv_aload_n hx hb dX4_doOrder_21 rfl (lv_at hl 1 rfl) ?_
    refine k_rwV (ci := 4) (q0 := 0) (As := []) (rest := []) (wr := [(an, .inl (gI G, 2175, .inl (run p n r0 q))), (af, .inl (gI G, 121, .inl (fun q9 => nI (fdy q9))))]) hF (c_X4_number l G _ h an tr ah ch ak ai ap n af (i + 1) p (by omega) (by omega)) ⟨_, rfl, rfl⟩ rfl rfl mw_4_66 mw_4_68 mw_p2_7 mw_1_5 mw_4_69 hd_X4_number ⟨Nat.le_of_ble_eq_true rfl, Nat.le_of_ble_eq_true rfl⟩ hKx hZ hS hP hD hA [0, 1] [2, 3] rfl rfl (by decide) (by decide) (by decide) (Eq.trans (b := [h, ap]) rfl rfl) rfl hl.1 rfl (Nat.le_of_ble_eq_true rfl) dX4_doOrder_22 ⟨Nat.zero_le _, Nat.zero_le _⟩ (fun H locs hP hD hS => ?_)
    have hP : va_P G.1 vwCl [(an, .inl (gI G, 2175, .inl (run p n r0 q))), (af, .inl (gI G, 121, .inl (fun q9 => nI (fdy q9)))), (h, .inr (4, [.ref an, .ref tr, .ref ah, .int ch, .ref ak, .ref ai, .ref ap, .int (nI n), .ref af, .int (nI (nE p n (i + 1)))])), (ap, .inl (gI G, 80, .inl p))] H := hP
    have hD : va_D A [(an, .inl (gI G, 2175, .inl (run p n r0 q))), (af, .inl (gI G, 121, .inl (fun q9 => nI (fdy q9)))), (h, .inr (4, [.ref an, .ref tr, .ref ah, .int ch, .ref ak, .ref ai, .ref ap, .int (nI n), .ref af, .int (nI (nE p n (i + 1)))])), (ap, .inl (gI G, 80, .inl p))] := hD
    refine lv_cv (y := nI (nuV p n (i + 1))) (nR_t ⟨hd1, hnd⟩) ?_
    refine lv_istore_n (lv' := [(2, .int (nI (nuV p n (i + 1)))), (1, .int (sgn p n i)), (0, .ref h)]) hx hb dX4_doOrder_25 rfl hl (by decide) rfl (fun ls hl => ?_)
    refine lv_aload_n hx hb dX4_doOrder_26 rfl (lv_at hl 2 rfl) ?_
    refine lv_aload_n hx hb dX4_doOrder_27 rfl (lv_at hl 2 rfl) ?_
    refine va_get (ci := 4) (v := .ref an) (C := RX4) (T := TX4) (N := 10) hx hb hts inGX4 hown hK hP 2 rfl rfl 0 (by decide) (hts _ mw_3_54) (fun _ h9 => h9) rfl dX4_doOrder_28 ?_
    refine lv_iload_n hx hb dX4_doOrder_31 rfl (lv_at hl 0 rfl) ?_
    refine k_roV (ci := 4) (q0 := 2) (As := [.ref an, .int (nI (nuV p n (i + 1)))]) (rest := []) hF (c_X4_whyNotPass l G h an tr ah ch ak ai ap (nI n) af (nI (nE p n (i + 1))) an (run p n r0 q) (nI (nuV p n (i + 1))) ((nuV p n (i + 1) : Nat) : Int) (toI (by omega)) (h0r) (by omega)) hKx hP ⟨_, rfl, rfl⟩ rfl rfl mw_3_139 mw_3_141 mw_p1_9 mw_1_5 mw_3_142 hd_X4_whyNotPass ⟨Nat.le_of_ble_eq_true rfl, Nat.le_of_ble_eq_true rfl⟩ (Rd.of hKx hZ hS) (hP.sub (ws' := [(h, .inr (4, [.ref an, .ref tr, .ref ah, .int ch, .ref ak, .ref ai, .ref ap, .int (nI n), .ref af, .int (nI (nE p n (i + 1)))])), (an, .inl (gI G, 2175, .inl (run p n r0 q)))]) [2, 0] rfl) rfl hl.1 rfl (Nat.le_of_ble_eq_true rfl) dX4_doOrder_32 ⟨Nat.zero_le _, Nat.zero_le _⟩ ?_
    refine z0_ne hx hb (tgt := 42) ((ePs ((nuV p n (i + 1) : Nat) : Int) ((td (run p n r0 q) : Nat) : Int)).toInt) dX4_doOrder_35 (by decide) rfl (fun c_35 => ?_) (fun c_35 => ?_)
    · skip
      have hne : ¬ ok1 p n r0 q := by unfold ok1; rw [herq]; exact c_35
      have hE1 : E = q := by rw [← hE, hod, fe_f hne]
      have hs2 : cI (E = q + odN p n i) (oE p n i) (cE p n (cur p n E)) = nE p n (i + 1) := by rw [cI_f (show ¬ E = q + odN p n i by omega), hE1, hcp]; exact cE_p
      have hr2 : run p n r0 E = run p n r0 q := by rw [hE1]
      refine lv_iconst (v := nI 0) hx hb dX4_doOrder_42 (by decide) ?_
      refine lv_istore_n (lv' := [(3, .int (nI 0)), (2, .int (nI (nuV p n (i + 1)))), (1, .int (sgn p n i)), (0, .ref h)]) hx hb dX4_doOrder_43 rfl hl (by decide) rfl (fun ls hl => ?_)
      refine lv_iload_n hx hb dX4_doOrder_44 rfl (lv_at hl 0 rfl) ?_
      refine z0_eq hx hb (tgt := 58) 0 dX4_doOrder_45 (by decide) (by decide) (fun c_45 => ?_) (fun c_45 => ?_)
      · skip
        refine lv_iload_n hx hb dX4_doOrder_58 rfl (lv_at hl 0 rfl) ?_
        have hPj := hP.sub (ws' := [(h, .inr (4, [.ref an, .ref tr, .ref ah, .int ch, .ref ak, .ref ai, .ref ap, .int (nI n), .ref af, .int (nI (nE p n (i + 1)))])), (ap, .inl (gI G, 80, .inl p)), (an, .inl (gI G, 2175, .inl (run p n r0 q))), (af, .inl (gI G, 121, .inl (fun q9 => nI (fdy q9))))]) [2, 3, 0, 1] rfl
        have hwj : ([(h, .inr (4, [.ref an, .ref tr, .ref ah, .int ch, .ref ak, .ref ai, .ref ap, .int (nI n), .ref af, .int (nI (nE p n (i + 1)))])), (ap, .inl (gI G, 80, .inl p)), (an, .inl (gI G, 2175, .inl (run p n r0 q))), (af, .inl (gI G, 121, .inl (fun q9 => nI (fdy q9))))] : va_W) = [(h, .inr (4, [.ref an, .ref tr, .ref ah, .int ch, .ref ak, .ref ai, .ref ap, .int (nI n), .ref af, .int (nI (cI (E = q + odN p n i) (oE p n i) (cE p n (cur p n E))))])), (ap, .inl (gI G, 80, .inl p)), (an, .inl (gI G, 2175, .inl (run p n r0 E))), (af, .inl (gI G, 121, .inl (fun q9 => nI (fdy q9))))] := (wlc (by rw [hs2]) (wlc (rfl) (wlc (by rw [hr2]) (wlc (rfl) rfl))))
        rw [hwj] at hPj
        exact e_wz hx hb hr hlk (nz_0) hPj hS (by first | exact pI_t' (by omega) | exact pI_f' (by omega)) dX4_doOrder_59
      · skip
        exact absurd c_45 (by decide)
    · skip
      have hok : ok1 p n r0 q := by unfold ok1; rw [herq]; exact c_35
      have hE1 : E = q + 1 := by rw [← hE, hod, fe_t hok]; rfl
      have hs2 : cI (E = q + odN p n i) (oE p n i) (cE p n (cur p n E)) = nE p n (i + 1) := by rw [cI_t (show E = q + odN p n i by omega)]; exact ho.1
      have hr2 : run p n r0 E = psk (run p n r0 q) (nuV p n (i + 1)) 120 := by rw [hE1, run_s, dx_p hok cp.1, cp.2.2.1]
      obtain ⟨g1, g2, g3⟩ := ePs_ok c_35
      refine lv_iconst (v := nI 1) hx hb dX4_doOrder_38 (by decide) ?_
      refine lv_goto (tgt := 43) hx hb dX4_doOrder_39 (by decide) ?_
      refine lv_istore_n (lv' := [(3, .int (nI 1)), (2, .int (nI (nuV p n (i + 1)))), (1, .int (sgn p n i)), (0, .ref h)]) hx hb dX4_doOrder_43 rfl hl (by decide) rfl (fun ls hl => ?_)
      refine lv_iload_n hx hb dX4_doOrder_44 rfl (lv_at hl 0 rfl) ?_
      refine z0_eq hx hb (tgt := 58) 1 dX4_doOrder_45 (by decide) (by decide) (fun c_45 => ?_) (fun c_45 => ?_)
      · skip
        exact absurd c_45 (by decide)
      · skip
        refine lv_aload_n hx hb dX4_doOrder_48 rfl (lv_at hl 3 rfl) ?_
        refine lv_aload_n hx hb dX4_doOrder_49 rfl (lv_at hl 3 rfl) ?_
        refine va_get (ci := 4) (v := .ref an) (C := RX4) (T := TX4) (N := 10) hx hb hts inGX4 hown hK hP 2 rfl rfl 0 (by decide) (hts _ mw_3_54) (fun _ h9 => h9) rfl dX4_doOrder_50 ?_
        refine lv_iload_n hx hb dX4_doOrder_53 rfl (lv_at hl 1 rfl) ?_
        refine k_rwV (ci := 4) (q0 := 2) (As := [.ref an, .int (nI (nuV p n (i + 1)))]) (rest := []) (wr := [(ap, .inl (gI G, 80, .inl p))]) hF (c_X4_passOn l G _ h an tr ah ch ak ai ap (nI n) af (nI (nE p n (i + 1))) an (run p n r0 q) (nuV p n (i + 1)) (hCr.1) (by omega) (by omega)) ⟨_, rfl, rfl⟩ rfl rfl mw_3_144 mw_3_146 mw_p1_10 mw_1_5 mw_3_147 hd_X4_passOn ⟨Nat.le_of_ble_eq_true rfl, Nat.le_of_ble_eq_true rfl⟩ hKx hZ hS hP hD hA [2, 1, 0] [3] rfl rfl (by decide) (by decide) (by decide) (Eq.trans (b := [h, af, an]) rfl rfl) rfl hl.1 rfl (Nat.le_of_ble_eq_true rfl) dX4_doOrder_54 ⟨Nat.zero_le _, Nat.zero_le _⟩ (fun H locs hP hD hS => ?_)
        have hP : va_P G.1 vwCl [(ap, .inl (gI G, 80, .inl p)), (h, .inr (4, [.ref an, .ref tr, .ref ah, .int ch, .ref ak, .ref ai, .ref ap, .int (nI n), .ref af, .int (nI (nE p n (i + 1)))])), (af, .inl (gI G, 121, .inl (fun q9 => nI (fdy q9)))), (an, .inl (gI G, 2175, .inl (psk (run p n r0 q) (nuV p n (i + 1)) 120)))] H := hP
        have hD : va_D A [(ap, .inl (gI G, 80, .inl p)), (h, .inr (4, [.ref an, .ref tr, .ref ah, .int ch, .ref ak, .ref ai, .ref ap, .int (nI n), .ref af, .int (nI (nE p n (i + 1)))])), (af, .inl (gI G, 121, .inl (fun q9 => nI (fdy q9)))), (an, .inl (gI G, 2175, .inl (psk (run p n r0 q) (nuV p n (i + 1)) 120)))] := hD
        refine lv_pop hx hb dX4_doOrder_57 rfl ?_
        refine lv_iload_n hx hb dX4_doOrder_58 rfl (lv_at hl 0 rfl) ?_
        have hPj := hP.sub (ws' := [(h, .inr (4, [.ref an, .ref tr, .ref ah, .int ch, .ref ak, .ref ai, .ref ap, .int (nI n), .ref af, .int (nI (nE p n (i + 1)))])), (ap, .inl (gI G, 80, .inl p)), (an, .inl (gI G, 2175, .inl (psk (run p n r0 q) (nuV p n (i + 1)) 120))), (af, .inl (gI G, 121, .inl (fun q9 => nI (fdy q9))))]) [1, 0, 3, 2] rfl
        have hwj : ([(h, .inr (4, [.ref an, .ref tr, .ref ah, .int ch, .ref ak, .ref ai, .ref ap, .int (nI n), .ref af, .int (nI (nE p n (i + 1)))])), (ap, .inl (gI G, 80, .inl p)), (an, .inl (gI G, 2175, .inl (psk (run p n r0 q) (nuV p n (i + 1)) 120))), (af, .inl (gI G, 121, .inl (fun q9 => nI (fdy q9))))] : va_W) = [(h, .inr (4, [.ref an, .ref tr, .ref ah, .int ch, .ref ak, .ref ai, .ref ap, .int (nI n), .ref af, .int (nI (cI (E = q + odN p n i) (oE p n i) (cE p n (cur p n E))))])), (ap, .inl (gI G, 80, .inl p)), (an, .inl (gI G, 2175, .inl (run p n r0 E))), (af, .inl (gI G, 121, .inl (fun q9 => nI (fdy q9))))] := (wlc (by rw [hs2]) (wlc (rfl) (wlc (by rw [hr2]) (wlc (rfl) rfl))))
        rw [hwj] at hPj
        exact e_wz hx hb hr hlk (nz_1) hPj hS (by first | exact pI_t' (by omega) | exact pI_f' (by omega)) dX4_doOrder_59
