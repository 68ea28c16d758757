theorem hd_X4_marks : hdY yX4_marks 3 := ⟨by decide +kernel, by decide +kernel, by decide +kernel⟩
theorem hd_X4_isMarked : hdY yX4_isMarked 2 := ⟨by decide +kernel, by decide +kernel, by decide +kernel⟩
theorem hd_X4_both : hdY yX4_both 4 := ⟨by decide +kernel, by decide +kernel, by decide +kernel⟩
theorem hd_X4_crowded : hdY yX4_crowded 3 := ⟨by decide +kernel, by decide +kernel, by decide +kernel⟩
set_option maxHeartbeats 4000000 in
set_option maxRecDepth 100000 in
theorem c_X4_marks_k (l : Launch) (G : gT) (sz : Nat) (h : Nat) (an : Nat) (tr : Nat) (ah : Nat) (ch : Int32) (ak : Nat) (ai : Nat) (ap : Nat) (sy : Int32) (af : Nat) (sp : Int32) (r : Nat → Int32) (s : Nat) (f : Nat) (t : Nat) (hB : Br r) (hs : s < 16) (hft : f ≤ t) (ht : t < 3650) : Rw l G yX4_marks cX4_marks 8 (some .int) 8 sz [(h, .inr (4, [.ref an, .ref tr, .ref ah, .int ch, .ref ak, .ref ai, .ref ap, .int sy, .ref af, .int sp])), (af, .inl (gI G, 121, .inl (fun q9 => nI (fdy q9)))), (an, .inl (gI G, 2175, .inl r))] [.ref h, .int (nI s), .int (nI f), .int (nI t)] (nI (ctm r s f t (mot f) (mot t + 1 - mot f))) [(h, .inr (4, [.ref an, .ref tr, .ref ah, .int ch, .ref ak, .ref ai, .ref ap, .int sy, .ref af, .int sp])), (af, .inl (gI G, 121, .inl (fun q9 => nI (fdy q9)))), (an, .inl (gI G, 2175, .inl (mks r f t (mot f) (mot t + 1 - mot f))))] := by
  refine Rw.mk (by decide) (Nat.le_of_ble_eq_true rfl) (fun pq eq sq mq bq tq cq ls A hr hlk hF hKx hZ hA hP hD hS hl => ?_)
  have hx := hF.1
  have hb := hF.2.1
  have hml := hF.2.2.1
  have hown : sq.vm.findClass RX4 = some mq.cls := hF.2.2.2.1
  have hts : ∀ w ∈ GW, w.before _ sq = true := hF.2.2.2.2
  have hK := hKx.1
  have hl : lv_has ls 8 [(0, .ref h), (1, .int (nI s)), (2, .int (nI f)), (3, .int (nI t))] := hl
  have hP : va_P G.1 vwCl [(h, .inr (4, [.ref an, .ref tr, .ref ah, .int ch, .ref ak, .ref ai, .ref ap, .int sy, .ref af, .int sp])), (af, .inl (gI G, 121, .inl (fun q9 => nI (fdy q9)))), (an, .inl (gI G, 2175, .inl r))] sq.heap := hP
  have hD : va_D A [(h, .inr (4, [.ref an, .ref tr, .ref ah, .int ch, .ref ak, .ref ai, .ref ap, .int sy, .ref af, .int sp])), (af, .inl (gI G, 121, .inl (fun q9 => nI (fdy q9)))), (an, .inl (gI G, 2175, .inl r))] := hD
  have hmf := mot_mono ht hft
  have hmt := mot_row ht
  have hf : f < 3650 := by omega
  refine lv_iload_n hx hb dX4_marks_0 rfl (lv_at hl 1 rfl) ?_
  refine k_roS (As := [.int (nI s)]) (rest := []) hF (c_X4_isSubject l G (nI s) ((s : Nat) : Int) (toI (by omega))) mw_3_164 mw_3_165 mw_1_5 mw_3_166 hd_X4_isSubject ⟨Nat.le_of_ble_eq_true rfl, Nat.le_of_ble_eq_true rfl⟩ (Rd.of hKx hZ hS) (hP.sub (ws' := []) [] rfl) rfl hl.1 rfl (Nat.le_of_ble_eq_true rfl) dX4_marks_1 ⟨Nat.zero_le _, Nat.zero_le _⟩ ?_
  refine lv_iload_n hx hb dX4_marks_4 rfl (lv_at hl 2 rfl) ?_
  refine lv_iload_n hx hb dX4_marks_5 rfl (lv_at hl 3 rfl) ?_
  refine k_roS (As := [.int (pI (0 ≤ ((s : Nat) : Int) ∧ ((s : Nat) : Int) ≤ 15)), .int (nI f), .int (nI t)]) (rest := []) hF (c_X4_whyNotDays l G (0 ≤ ((s : Nat) : Int) ∧ ((s : Nat) : Int) ≤ 15) (nI f) ((f : Nat) : Int) (nI t) ((t : Nat) : Int) (toI (by omega)) (toI (by omega))) mw_3_168 mw_3_169 mw_1_5 mw_3_170 hd_X4_whyNotDays ⟨Nat.le_of_ble_eq_true rfl, Nat.le_of_ble_eq_true rfl⟩ (Rd.of hKx hZ hS) (hP.sub (ws' := []) [] rfl) rfl hl.1 rfl (Nat.le_of_ble_eq_true rfl) dX4_marks_6 ⟨Nat.zero_le _, Nat.zero_le _⟩ ?_
  refine lv_cv (y := nI 0) (eDy_0 (by omega) (by omega)) ?_
  refine lv_istore (lv' := [(4, .int (nI 0)), (0, .ref h), (1, .int (nI s)), (2, .int (nI f)), (3, .int (nI t))]) hx hb dX4_marks_9 hl (by decide) rfl (fun ls hl => ?_)
  refine lv_iload hx hb dX4_marks_11 (lv_at hl 0 rfl) ?_
  refine z0_eq hx hb (tgt := 19) 0 dX4_marks_13 (by decide) (by decide) (fun c_13 => ?_) (fun c_13 => ?_)
  · skip
    refine lv_iconst (v := nI 0) hx hb dX4_marks_19 (by decide) ?_
    refine lv_istore (lv' := [(5, .int (nI 0)), (4, .int (nI 0)), (0, .ref h), (1, .int (nI s)), (2, .int (nI f)), (3, .int (nI t))]) hx hb dX4_marks_20 hl (by decide) rfl (fun ls hl => ?_)
    refine lv_aload_n hx hb dX4_marks_22 rfl (lv_at hl 2 rfl) ?_
    refine lv_iload_n hx hb dX4_marks_23 rfl (lv_at hl 4 rfl) ?_
    refine k_roV (ci := 4) (q0 := 0) (As := [.int (nI f)]) (rest := []) hF (c_X4_monthOf l G h an tr ah ch ak ai ap sy af sp f (by omega)) hKx hP ⟨_, rfl, rfl⟩ rfl rfl mw_3_148 mw_3_150 mw_p1_11 mw_1_5 mw_3_151 hd_X4_monthOf ⟨Nat.le_of_ble_eq_true rfl, Nat.le_of_ble_eq_true rfl⟩ (Rd.of hKx hZ hS) (hP.sub (ws' := [(h, .inr (4, [.ref an, .ref tr, .ref ah, .int ch, .ref ak, .ref ai, .ref ap, .int sy, .ref af, .int sp])), (af, .inl (gI G, 121, .inl (fun q9 => nI (fdy q9))))]) [0, 1] rfl) rfl hl.1 rfl (Nat.le_of_ble_eq_true rfl) dX4_marks_24 ⟨Nat.zero_le _, Nat.zero_le _⟩ ?_
    refine lv_istore (lv' := [(6, .int (nI (mot f))), (5, .int (nI 0)), (4, .int (nI 0)), (0, .ref h), (1, .int (nI s)), (2, .int (nI f)), (3, .int (nI t))]) hx hb dX4_marks_27 hl (by decide) rfl (fun ls hl => ?_)
    have hPj := hP.sub (ws' := [(h, .inr (4, [.ref an, .ref tr, .ref ah, .int ch, .ref ak, .ref ai, .ref ap, .int sy, .ref af, .int sp])), (af, .inl (gI G, 121, .inl (fun q9 => nI (fdy q9)))), (an, .inl (gI G, 2175, .inl r))]) [0, 1, 2] rfl
    have hDj := hD.sub (ws' := [(h, .inr (4, [.ref an, .ref tr, .ref ah, .int ch, .ref ak, .ref ai, .ref ap, .int sy, .ref af, .int sp])), (af, .inl (gI G, 121, .inl (fun q9 => nI (fdy q9)))), (an, .inl (gI G, 2175, .inl r))]) [0, 1, 2] (by decide) rfl
    have hwj : ([(h, .inr (4, [.ref an, .ref tr, .ref ah, .int ch, .ref ak, .ref ai, .ref ap, .int sy, .ref af, .int sp])), (af, .inl (gI G, 121, .inl (fun q9 => nI (fdy q9)))), (an, .inl (gI G, 2175, .inl r))] : va_W) = [(h, .inr (4, [.ref an, .ref tr, .ref ah, .int ch, .ref ak, .ref ai, .ref ap, .int sy, .ref af, .int sp])), (af, .inl (gI G, 121, .inl (fun q9 => nI (fdy q9)))), (an, .inl (gI G, 2175, .inl (mks r f t (mot f) 0)))] := (wlc (rfl) (wlc (rfl) (wlc (rfl) rfl)))
    rw [hwj] at hPj hDj
    refine wloopH [] (fun j H locs ls => (j ≤ mot t + 1 - mot f) ∧ va_P G.1 vwCl [(h, .inr (4, [.ref an, .ref tr, .ref ah, .int ch, .ref ak, .ref ai, .ref ap, .int sy, .ref af, .int sp])), (af, .inl (gI G, 121, .inl (fun q9 => nI (fdy q9)))), (an, .inl (gI G, 2175, .inl (mks r f t (mot f) j)))] H ∧ va_D A [(h, .inr (4, [.ref an, .ref tr, .ref ah, .int ch, .ref ak, .ref ai, .ref ap, .int sy, .ref af, .int sp])), (af, .inl (gI G, 121, .inl (fun q9 => nI (fdy q9)))), (an, .inl (gI G, 2175, .inl (mks r f t (mot f) j)))] ∧ va_S A sq.heap H locs ∧ lv_has ls 8 [(6, .int (nI (mot f + j))), (5, .int (nI (ctm r s f t (mot f) j))), (0, .ref h), (1, .int (nI s)), (2, .int (nI f)), (3, .int (nI t))]) (fun j => (mot t + 1 - mot f) - j) ?_ 0 ⟨(by omega), hPj, hDj, hS, lv_sub hl [0, 1, 3, 4, 5, 6] (lvc (by first | rfl | exact congrArg nI (by omega)) (lvc (by first | rfl | exact congrArg nI (by omega)) (lvr (lvr (lvr (lvr rfl))))))⟩
    intro j ih
    intro H locs ls ⟨hj, hP, hD, hS, hl⟩
    refine lv_iload hx hb dX4_marks_29 (lv_at hl 0 rfl) ?_
    refine lv_aload_n hx hb dX4_marks_31 rfl (lv_at hl 2 rfl) ?_
    refine lv_iload_n hx hb dX4_marks_32 rfl (lv_at hl 5 rfl) ?_
    refine k_roV (ci := 4) (q0 := 0) (As := [.int (nI t)]) (rest := [.int (nI (mot f + j))]) hF (c_X4_monthOf l G h an tr ah ch ak ai ap sy af sp t (by omega)) hKx hP ⟨_, rfl, rfl⟩ rfl rfl mw_3_148 mw_3_150 mw_p1_11 mw_1_5 mw_3_151 hd_X4_monthOf ⟨Nat.le_of_ble_eq_true rfl, Nat.le_of_ble_eq_true rfl⟩ (Rd.of hKx hZ hS) (hP.sub (ws' := [(h, .inr (4, [.ref an, .ref tr, .ref ah, .int ch, .ref ak, .ref ai, .ref ap, .int sy, .ref af, .int sp])), (af, .inl (gI G, 121, .inl (fun q9 => nI (fdy q9))))]) [0, 1] rfl) rfl hl.1 rfl (Nat.le_of_ble_eq_true rfl) dX4_marks_33 ⟨Nat.zero_le _, Nat.zero_le _⟩ ?_
    refine z_gt hx hb (tgt := 98) ((mot f + j : Nat) : Int) ((mot t : Nat) : Int) dX4_marks_36 (by decide) (toI (by omega)) (toI (by omega)) (fun c_36 => ?_) (fun c_36 => ?_)
    · skip
      have hj2 : j = mot t + 1 - mot f := by omega
      subst hj2
      refine lv_iload hx hb dX4_marks_98 (lv_at hl 1 rfl) ?_
      have hPj := hP.sub (ws' := [(h, .inr (4, [.ref an, .ref tr, .ref ah, .int ch, .ref ak, .ref ai, .ref ap, .int sy, .ref af, .int sp])), (af, .inl (gI G, 121, .inl (fun q9 => nI (fdy q9)))), (an, .inl (gI G, 2175, .inl (mks r f t (mot f) (mot t + 1 - mot f))))]) [0, 1, 2] rfl
      exact e_wi hx hb hr hlk hPj hS (rfl) dX4_marks_100
    · skip
      refine wjoinH 70 [] (fun H locs ls => va_P G.1 vwCl [(h, .inr (4, [.ref an, .ref tr, .ref ah, .int ch, .ref ak, .ref ai, .ref ap, .int sy, .ref af, .int sp])), (af, .inl (gI G, 121, .inl (fun q9 => nI (fdy q9)))), (an, .inl (gI G, 2175, .inl (mks r f t (mot f) (j + 1))))] H ∧ va_D A [(h, .inr (4, [.ref an, .ref tr, .ref ah, .int ch, .ref ak, .ref ai, .ref ap, .int sy, .ref af, .int sp])), (af, .inl (gI G, 121, .inl (fun q9 => nI (fdy q9)))), (an, .inl (gI G, 2175, .inl (mks r f t (mot f) (j + 1))))] ∧ va_S A sq.heap H locs ∧ lv_has ls 8 [(7, .int (mnt (mot f + j) f t)), (6, .int (nI (mot f + j))), (5, .int (nI (ctm r s f t (mot f) j))), (0, .ref h), (1, .int (nI s)), (2, .int (nI f)), (3, .int (nI t))]) ?_ (fun J70 => ?_)
      · skip
        intro H locs ls ⟨hP, hD, hS, hl⟩
        refine lv_iload hx hb dX4_marks_70 (lv_at hl 2 rfl) ?_
        refine lv_aload_n hx hb dX4_marks_72 rfl (lv_at hl 3 rfl) ?_
        refine va_get (ci := 4) (v := .ref an) (C := RX4) (T := TX4) (N := 10) hx hb hts inGX4 hown hK hP 0 rfl rfl 0 (by decide) (hts _ mw_3_54) (fun _ h9 => h9) rfl dX4_marks_73 ?_
        refine lv_iload hx hb dX4_marks_76 (lv_at hl 1 rfl) ?_
        refine lv_iload_n hx hb dX4_marks_78 rfl (lv_at hl 4 rfl) ?_
        refine k_roS (As := [.int (nI (mot f + j)), .int (nI s)]) (rest := [.ref an, .int (nI (ctm r s f t (mot f) j))]) hF (c_X4_at l G (mot f + j) s) mw_3_117 mw_3_118 mw_1_5 mw_3_119 hd_X4_at ⟨Nat.le_of_ble_eq_true rfl, Nat.le_of_ble_eq_true rfl⟩ (Rd.of hKx hZ hS) (hP.sub (ws' := []) [] rfl) rfl hl.1 rfl (Nat.le_of_ble_eq_true rfl) dX4_marks_79 ⟨Nat.zero_le _, Nat.zero_le _⟩ ?_
        refine n_iald hx hb hK hP 2 0 rfl rfl (by omega) (by omega) dX4_marks_82 ?_
        refine lv_cv (y := r (255 + 16 * (mot f + j) + s)) (by rw [Nat.add_assoc 255]; exact mks_mk hB (j + 1) (by omega)) ?_
        refine lv_iload hx hb dX4_marks_83 (lv_at hl 0 rfl) ?_
        refine lv_iand hx hb dX4_marks_85 ?_
        refine k_roS (As := [.int ((r (255 + 16 * (mot f + j) + s)) &&& (mnt (mot f + j) f t))]) (rest := [.int (nI (ctm r s f t (mot f) j))]) hF (c_X4_ones l G ((r (255 + 16 * (mot f + j) + s)) &&& (mnt (mot f + j) f t))) mw_3_120 mw_3_121 mw_1_5 mw_3_122 hd_X4_ones ⟨Nat.le_of_ble_eq_true rfl, Nat.le_of_ble_eq_true rfl⟩ (Rd.of hKx hZ hS) (hP.sub (ws' := []) [] rfl) rfl hl.1 rfl (Nat.le_of_ble_eq_true rfl) dX4_marks_86 ⟨Nat.zero_le _, Nat.zero_le _⟩ ?_
        refine n_iadd hx hb dX4_marks_89 ?_
        refine lv_istore (lv' := [(5, .int (nI (ctm r s f t (mot f) j + ons ((r (255 + 16 * (mot f + j) + s)) &&& (mnt (mot f + j) f t))))), (7, .int (mnt (mot f + j) f t)), (6, .int (nI (mot f + j))), (0, .ref h), (1, .int (nI s)), (2, .int (nI f)), (3, .int (nI t))]) hx hb dX4_marks_90 hl (by decide) rfl (fun ls hl => ?_)
        refine lv_iinc (v := nI (mot f + j + 1)) (lv' := [(6, .int (nI (mot f + j + 1))), (5, .int (nI (ctm r s f t (mot f) j + ons ((r (255 + 16 * (mot f + j) + s)) &&& (mnt (mot f + j) f t))))), (7, .int (mnt (mot f + j) f t)), (0, .ref h), (1, .int (nI s)), (2, .int (nI f)), (3, .int (nI t))]) hx hb dX4_marks_92 hl (k := 2) rfl (nI_add _ _) (by decide) rfl (fun ls hl => ?_)
        refine lv_goto (tgt := 29) hx hb dX4_marks_95 (by decide) ?_
        exact ih (j + 1) _ _ ls (by omega) ⟨(by omega), (hP.sub (ws' := [(h, .inr (4, [.ref an, .ref tr, .ref ah, .int ch, .ref ak, .ref ai, .ref ap, .int sy, .ref af, .int sp])), (af, .inl (gI G, 121, .inl (fun q9 => nI (fdy q9)))), (an, .inl (gI G, 2175, .inl (mks r f t (mot f) (j + 1))))]) [0, 1, 2] rfl), (hD.sub (ws' := [(h, .inr (4, [.ref an, .ref tr, .ref ah, .int ch, .ref ak, .ref ai, .ref ap, .int sy, .ref af, .int sp])), (af, .inl (gI G, 121, .inl (fun q9 => nI (fdy q9)))), (an, .inl (gI G, 2175, .inl (mks r f t (mot f) (j + 1))))]) [0, 1, 2] (by decide) rfl), hS, lv_sub hl [0, 1, 3, 4, 5, 6] (lvc (by first | rfl | exact congrArg nI (by omega)) (lvc (by first | rfl | exact congrArg nI (by omega)) (lvr (lvr (lvr (lvr rfl))))))⟩
      · skip
        refine lv_aload_n hx hb dX4_marks_39 rfl (lv_at hl 2 rfl) ?_
        refine lv_iload hx hb dX4_marks_40 (lv_at hl 0 rfl) ?_
        refine lv_iload_n hx hb dX4_marks_42 rfl (lv_at hl 4 rfl) ?_
        refine lv_iload_n hx hb dX4_marks_43 rfl (lv_at hl 5 rfl) ?_
        refine k_roV (ci := 4) (q0 := 0) (As := [.int (nI (mot f + j)), .int (nI f), .int (nI t)]) (rest := []) hF (c_X4_meant l G h an tr ah ch ak ai ap sy af sp (mot f + j) f t (by omega) (by omega) (by omega)) hKx hP ⟨_, rfl, rfl⟩ rfl rfl mw_3_179 mw_3_181 mw_p1_15 mw_1_5 mw_3_182 hd_X4_meant ⟨Nat.le_of_ble_eq_true rfl, Nat.le_of_ble_eq_true rfl⟩ (Rd.of hKx hZ hS) (hP.sub (ws' := [(h, .inr (4, [.ref an, .ref tr, .ref ah, .int ch, .ref ak, .ref ai, .ref ap, .int sy, .ref af, .int sp])), (af, .inl (gI G, 121, .inl (fun q9 => nI (fdy q9))))]) [0, 1] rfl) rfl hl.1 rfl (Nat.le_of_ble_eq_true rfl) dX4_marks_44 ⟨Nat.zero_le _, Nat.zero_le _⟩ ?_
        refine lv_istore (lv' := [(7, .int (mnt (mot f + j) f t)), (6, .int (nI (mot f + j))), (5, .int (nI (ctm r s f t (mot f) j))), (0, .ref h), (1, .int (nI s)), (2, .int (nI f)), (3, .int (nI t))]) hx hb dX4_marks_47 hl (by decide) rfl (fun ls hl => ?_)
        refine lv_iload hx hb dX4_marks_49 (lv_at hl 0 rfl) ?_
        refine lv_aload_n hx hb dX4_marks_51 rfl (lv_at hl 3 rfl) ?_
        refine lv_iload hx hb dX4_marks_52 (lv_at hl 1 rfl) ?_
        refine k_roV (ci := 4) (q0 := 0) (As := [.int (nI (mot f + j))]) (rest := [.int (mnt (mot f + j) f t)]) hF (c_X4_whole l G h an tr ah ch ak ai ap sy af sp (mot f + j) (by omega)) hKx hP ⟨_, rfl, rfl⟩ rfl rfl mw_3_208 mw_3_210 mw_p2_2 mw_1_5 mw_3_211 hd_X4_whole ⟨Nat.le_of_ble_eq_true rfl, Nat.le_of_ble_eq_true rfl⟩ (Rd.of hKx hZ hS) (hP.sub (ws' := [(h, .inr (4, [.ref an, .ref tr, .ref ah, .int ch, .ref ak, .ref ai, .ref ap, .int sy, .ref af, .int sp])), (af, .inl (gI G, 121, .inl (fun q9 => nI (fdy q9))))]) [0, 1] rfl) rfl hl.1 rfl (Nat.le_of_ble_eq_true rfl) dX4_marks_54 ⟨Nat.zero_le _, Nat.zero_le _⟩ ?_
        refine z_eq hx hb (tgt := 70) ((mnt (mot f + j) f t).toInt) ((mnt (mot f + j) 0 3649).toInt) dX4_marks_57 (by decide) rfl rfl (fun c_57 => ?_) (fun c_57 => ?_)
        · skip
          have w_2 : ([(h, .inr (4, [.ref an, .ref tr, .ref ah, .int ch, .ref ak, .ref ai, .ref ap, .int sy, .ref af, .int sp])), (af, .inl (gI G, 121, .inl (fun q9 => nI (fdy q9)))), (an, .inl (gI G, 2175, .inl (mks r f t (mot f) j)))] : va_W) = [(h, .inr (4, [.ref an, .ref tr, .ref ah, .int ch, .ref ak, .ref ai, .ref ap, .int sy, .ref af, .int sp])), (af, .inl (gI G, 121, .inl (fun q9 => nI (fdy q9)))), (an, .inl (gI G, 2175, .inl (mks r f t (mot f) (j + 1))))] := (wlc (rfl) (wlc (rfl) (wlc (wli (by first | exact mks_f c_57 | exact mks_t c_57)) rfl)))
          have hPj := hP.sub (ws' := [(h, .inr (4, [.ref an, .ref tr, .ref ah, .int ch, .ref ak, .ref ai, .ref ap, .int sy, .ref af, .int sp])), (af, .inl (gI G, 121, .inl (fun q9 => nI (fdy q9)))), (an, .inl (gI G, 2175, .inl (mks r f t (mot f) j)))]) [0, 1, 2] rfl
          have hDj := hD.sub (ws' := [(h, .inr (4, [.ref an, .ref tr, .ref ah, .int ch, .ref ak, .ref ai, .ref ap, .int sy, .ref af, .int sp])), (af, .inl (gI G, 121, .inl (fun q9 => nI (fdy q9)))), (an, .inl (gI G, 2175, .inl (mks r f t (mot f) j)))]) [0, 1, 2] (by decide) rfl
          rw [w_2] at hPj hDj
          exact J70 _ _ ls ⟨hPj, hDj, hS, lv_sub hl [0, 1, 2, 3, 4, 5, 6] rfl⟩
        · skip
          refine lv_aload_n hx hb dX4_marks_60 rfl (lv_at hl 3 rfl) ?_
          refine lv_aload_n hx hb dX4_marks_61 rfl (lv_at hl 3 rfl) ?_
          refine va_get (ci := 4) (v := .ref an) (C := RX4) (T := TX4) (N := 10) hx hb hts inGX4 hown hK hP 0 rfl rfl 0 (by decide) (hts _ mw_3_54) (fun _ h9 => h9) rfl dX4_marks_62 ?_
          refine lv_iload hx hb dX4_marks_65 (lv_at hl 1 rfl) ?_
          refine k_rvV (ci := 4) (q0 := 0) (As := [.ref an, .int (nI (mot f + j))]) (rest := []) (wr := []) hF (c_X4_look l G _ h an tr ah ch ak ai ap sy af sp an (mks r f t (mot f) j) (mot f + j) (by omega) ((Br_mks hB j (by omega)).b (by omega))) ⟨_, rfl, rfl⟩ rfl rfl mw_3_212 mw_3_214 mw_p2_3 mw_1_5 mw_3_215 hd_X4_look ⟨Nat.le_of_ble_eq_true rfl, Nat.le_of_ble_eq_true rfl⟩ hKx hZ hS hP hD hA [0, 1, 2] [] rfl rfl (by decide) (by decide) (by decide) rfl rfl hl.1 rfl (Nat.le_of_ble_eq_true rfl) dX4_marks_67 ⟨Nat.zero_le _, Nat.zero_le _⟩ (fun H locs hP hD hS => ?_)
          have hP : va_P G.1 vwCl [(h, .inr (4, [.ref an, .ref tr, .ref ah, .int ch, .ref ak, .ref ai, .ref ap, .int sy, .ref af, .int sp])), (af, .inl (gI G, 121, .inl (fun q9 => nI (fdy q9)))), (an, .inl (gI G, 2175, .inl (lok (mks r f t (mot f) j) (mot f + j))))] H := hP
          have hD : va_D A [(h, .inr (4, [.ref an, .ref tr, .ref ah, .int ch, .ref ak, .ref ai, .ref ap, .int sy, .ref af, .int sp])), (af, .inl (gI G, 121, .inl (fun q9 => nI (fdy q9)))), (an, .inl (gI G, 2175, .inl (lok (mks r f t (mot f) j) (mot f + j))))] := hD
          have w_3 : ([(h, .inr (4, [.ref an, .ref tr, .ref ah, .int ch, .ref ak, .ref ai, .ref ap, .int sy, .ref af, .int sp])), (af, .inl (gI G, 121, .inl (fun q9 => nI (fdy q9)))), (an, .inl (gI G, 2175, .inl (lok (mks r f t (mot f) j) (mot f + j))))] : va_W) = [(h, .inr (4, [.ref an, .ref tr, .ref ah, .int ch, .ref ak, .ref ai, .ref ap, .int sy, .ref af, .int sp])), (af, .inl (gI G, 121, .inl (fun q9 => nI (fdy q9)))), (an, .inl (gI G, 2175, .inl (mks r f t (mot f) (j + 1))))] := (wlc (rfl) (wlc (rfl) (wlc (wli (by first | exact mks_f c_57 | exact mks_t c_57)) rfl)))
          have hPj := hP.sub (ws' := [(h, .inr (4, [.ref an, .ref tr, .ref ah, .int ch, .ref ak, .ref ai, .ref ap, .int sy, .ref af, .int sp])), (af, .inl (gI G, 121, .inl (fun q9 => nI (fdy q9)))), (an, .inl (gI G, 2175, .inl (lok (mks r f t (mot f) j) (mot f + j))))]) [0, 1, 2] rfl
          have hDj := hD.sub (ws' := [(h, .inr (4, [.ref an, .ref tr, .ref ah, .int ch, .ref ak, .ref ai, .ref ap, .int sy, .ref af, .int sp])), (af, .inl (gI G, 121, .inl (fun q9 => nI (fdy q9)))), (an, .inl (gI G, 2175, .inl (lok (mks r f t (mot f) j) (mot f + j))))]) [0, 1, 2] (by decide) rfl
          rw [w_3] at hPj hDj
          exact J70 _ _ ls ⟨hPj, hDj, hS, lv_sub hl [0, 1, 2, 3, 4, 5, 6] rfl⟩
  · skip
    exact absurd c_13 (by decide)
set_option maxHeartbeats 4000000 in
set_option maxRecDepth 100000 in
theorem c_X4_marks_e (l : Launch) (G : gT) (h : Nat) (an : Nat) (tr : Nat) (ah : Nat) (ch : Int32) (ak : Nat) (ai : Nat) (ap : Nat) (sy : Int32) (af : Nat) (sp : Int32) (w : Int32) (S0 : Int) (x : Int32) (F : Int) (y : Int32) (T : Int) (hw1 : w.toInt = S0) (hF1 : x.toInt = F) (hT1 : y.toInt = T) (he : ¬ (eDy (0 ≤ S0 ∧ S0 ≤ 15) F T).toInt = 0) : Ro l G yX4_marks cX4_marks 8 (some .int) 9 [] [.ref h, .int w, .int x, .int y] (eDy (0 ≤ S0 ∧ S0 ≤ 15) F T) := by
  refine Ro.mk (by decide) (Nat.le_of_ble_eq_true rfl) (fun pq eq sq mq bq tq cq ls hr hlk hF hKx hZ hP hl => ?_)
  have hx := hF.1
  have hb := hF.2.1
  have hml := hF.2.2.1
  have hown : sq.vm.findClass RX4 = some mq.cls := hF.2.2.2.1
  have hts : ∀ w ∈ GW, w.before _ sq = true := hF.2.2.2.2
  have hK := hKx.1
  have hl : lv_has ls 8 [(0, .ref h), (1, .int w), (2, .int x), (3, .int y)] := hl
  have hS : va_S (fun _ => False) sq.heap sq.heap [] := va_S.rf
  have hP : va_P G.1 vwCl [] sq.heap := hP
  refine lv_iload_n hx hb dX4_marks_0 rfl (lv_at hl 1 rfl) ?_
  refine k_roS (As := [.int w]) (rest := []) hF (c_X4_isSubject l G w S0 hw1) mw_3_164 mw_3_165 mw_1_5 mw_3_166 hd_X4_isSubject ⟨Nat.le_of_ble_eq_true rfl, Nat.le_of_ble_eq_true rfl⟩ (Rd.of hKx hZ hS) (hP.sub (ws' := []) [] rfl) rfl hl.1 rfl (Nat.le_of_ble_eq_true rfl) dX4_marks_1 ⟨Nat.zero_le _, Nat.zero_le _⟩ ?_
  refine lv_iload_n hx hb dX4_marks_4 rfl (lv_at hl 2 rfl) ?_
  refine lv_iload_n hx hb dX4_marks_5 rfl (lv_at hl 3 rfl) ?_
  refine k_roS (As := [.int (pI (0 ≤ S0 ∧ S0 ≤ 15)), .int x, .int y]) (rest := []) hF (c_X4_whyNotDays l G (0 ≤ S0 ∧ S0 ≤ 15) x F y T hF1 hT1) mw_3_168 mw_3_169 mw_1_5 mw_3_170 hd_X4_whyNotDays ⟨Nat.le_of_ble_eq_true rfl, Nat.le_of_ble_eq_true rfl⟩ (Rd.of hKx hZ hS) (hP.sub (ws' := []) [] rfl) rfl hl.1 rfl (Nat.le_of_ble_eq_true rfl) dX4_marks_6 ⟨Nat.zero_le _, Nat.zero_le _⟩ ?_
  refine lv_istore (lv' := [(4, .int (eDy (0 ≤ S0 ∧ S0 ≤ 15) F T)), (0, .ref h), (1, .int w), (2, .int x), (3, .int y)]) hx hb dX4_marks_9 hl (by decide) rfl (fun ls hl => ?_)
  refine lv_iload hx hb dX4_marks_11 (lv_at hl 0 rfl) ?_
  refine z0_eq hx hb (tgt := 19) ((eDy (0 ≤ S0 ∧ S0 ≤ 15) F T).toInt) dX4_marks_13 (by decide) rfl (fun c_13 => ?_) (fun c_13 => ?_)
  · skip
    exact absurd c_13 he
  · skip
    refine lv_iload hx hb dX4_marks_16 (lv_at hl 0 rfl) ?_
    exact e_ri hx hb hr hlk (rfl) dX4_marks_18
set_option maxHeartbeats 4000000 in
set_option maxRecDepth 100000 in
theorem c_X4_isMarked_k (l : Launch) (G : gT) (sz : Nat) (h : Nat) (an : Nat) (tr : Nat) (ah : Nat) (ch : Int32) (ak : Nat) (ai : Nat) (ap : Nat) (sy : Int32) (af : Nat) (sp : Int32) (r : Nat → Int32) (s : Nat) (d : Nat) (hB : Br r) (hs : s < 16) (hd : d < 3650) : Rw l G yX4_isMarked cX4_isMarked 4 (some .int) 8 sz [(h, .inr (4, [.ref an, .ref tr, .ref ah, .int ch, .ref ak, .ref ai, .ref ap, .int sy, .ref af, .int sp])), (af, .inl (gI G, 121, .inl (fun q9 => nI (fdy q9)))), (an, .inl (gI G, 2175, .inl r))] [.ref h, .int (nI s), .int (nI d)] (nI (bn (r (255 + 16 * mot d + s)) (d - fdy (mot d)))) [(h, .inr (4, [.ref an, .ref tr, .ref ah, .int ch, .ref ak, .ref ai, .ref ap, .int sy, .ref af, .int sp])), (af, .inl (gI G, 121, .inl (fun q9 => nI (fdy q9)))), (an, .inl (gI G, 2175, .inl (lok r (mot d))))] := by
  refine Rw.mk (by decide) (Nat.le_of_ble_eq_true rfl) (fun pq eq sq mq bq tq cq ls A hr hlk hF hKx hZ hA hP hD hS hl => ?_)
  have hx := hF.1
  have hb := hF.2.1
  have hml := hF.2.2.1
  have hown : sq.vm.findClass RX4 = some mq.cls := hF.2.2.2.1
  have hts : ∀ w ∈ GW, w.before _ sq = true := hF.2.2.2.2
  have hK := hKx.1
  have hl : lv_has ls 4 [(0, .ref h), (1, .int (nI s)), (2, .int (nI d))] := hl
  have hP : va_P G.1 vwCl [(h, .inr (4, [.ref an, .ref tr, .ref ah, .int ch, .ref ak, .ref ai, .ref ap, .int sy, .ref af, .int sp])), (af, .inl (gI G, 121, .inl (fun q9 => nI (fdy q9)))), (an, .inl (gI G, 2175, .inl r))] sq.heap := hP
  have hD : va_D A [(h, .inr (4, [.ref an, .ref tr, .ref ah, .int ch, .ref ak, .ref ai, .ref ap, .int sy, .ref af, .int sp])), (af, .inl (gI G, 121, .inl (fun q9 => nI (fdy q9)))), (an, .inl (gI G, 2175, .inl r))] := hD
  have hm0 := mot_row hd
  have hm1 := fdy_succ (mot d)
  have hm2 := dys_in (mot d)
  refine lv_iload_n hx hb dX4_isMarked_0 rfl (lv_at hl 1 rfl) ?_
  refine k_roS (As := [.int (nI s)]) (rest := []) hF (c_X4_isSubject l G (nI s) ((s : Nat) : Int) (toI (by omega))) mw_3_164 mw_3_165 mw_1_5 mw_3_166 hd_X4_isSubject ⟨Nat.le_of_ble_eq_true rfl, Nat.le_of_ble_eq_true rfl⟩ (Rd.of hKx hZ hS) (hP.sub (ws' := []) [] rfl) rfl hl.1 rfl (Nat.le_of_ble_eq_true rfl) dX4_isMarked_1 ⟨Nat.zero_le _, Nat.zero_le _⟩ ?_
  refine p0_eq hx hb (tgt := 14) dX4_isMarked_4 (by decide) (fun c_4 => ?_) (fun c_4 => ?_)
  · skip
    exact absurd c_4 (by omega)
  · skip
    refine lv_iload_n hx hb dX4_isMarked_7 rfl (lv_at hl 2 rfl) ?_
    refine k_roS (As := [.int (nI d)]) (rest := []) hF (c_X4_isDay l G (nI d) ((d : Nat) : Int) (toI (by omega))) mw_3_171 mw_3_172 mw_1_5 mw_3_173 hd_X4_isDay ⟨Nat.le_of_ble_eq_true rfl, Nat.le_of_ble_eq_true rfl⟩ (Rd.of hKx hZ hS) (hP.sub (ws' := []) [] rfl) rfl hl.1 rfl (Nat.le_of_ble_eq_true rfl) dX4_isMarked_8 ⟨Nat.zero_le _, Nat.zero_le _⟩ ?_
    refine p0_ne hx hb (tgt := 16) dX4_isMarked_11 (by decide) (fun c_11 => ?_) (fun c_11 => ?_)
    · skip
      refine lv_aload_n hx hb dX4_isMarked_16 rfl (lv_at hl 0 rfl) ?_
      refine lv_iload_n hx hb dX4_isMarked_17 rfl (lv_at hl 2 rfl) ?_
      refine k_roV (ci := 4) (q0 := 0) (As := [.int (nI d)]) (rest := []) hF (c_X4_monthOf l G h an tr ah ch ak ai ap sy af sp d (by omega)) hKx hP ⟨_, rfl, rfl⟩ rfl rfl mw_3_148 mw_3_150 mw_p1_11 mw_1_5 mw_3_151 hd_X4_monthOf ⟨Nat.le_of_ble_eq_true rfl, Nat.le_of_ble_eq_true rfl⟩ (Rd.of hKx hZ hS) (hP.sub (ws' := [(h, .inr (4, [.ref an, .ref tr, .ref ah, .int ch, .ref ak, .ref ai, .ref ap, .int sy, .ref af, .int sp])), (af, .inl (gI G, 121, .inl (fun q9 => nI (fdy q9))))]) [0, 1] rfl) rfl hl.1 rfl (Nat.le_of_ble_eq_true rfl) dX4_isMarked_18 ⟨Nat.zero_le _, Nat.zero_le _⟩ ?_
      refine lv_istore_n (lv' := [(3, .int (nI (mot d))), (0, .ref h), (1, .int (nI s)), (2, .int (nI d))]) hx hb dX4_isMarked_21 rfl hl (by decide) rfl (fun ls hl => ?_)
      refine lv_aload_n hx hb dX4_isMarked_22 rfl (lv_at hl 1 rfl) ?_
      refine lv_aload_n hx hb dX4_isMarked_23 rfl (lv_at hl 1 rfl) ?_
      refine va_get (ci := 4) (v := .ref an) (C := RX4) (T := TX4) (N := 10) hx hb hts inGX4 hown hK hP 0 rfl rfl 0 (by decide) (hts _ mw_3_54) (fun _ h9 => h9) rfl dX4_isMarked_24 ?_
      refine lv_iload_n hx hb dX4_isMarked_27 rfl (lv_at hl 0 rfl) ?_
      refine k_rvV (ci := 4) (q0 := 0) (As := [.ref an, .int (nI (mot d))]) (rest := []) (wr := []) hF (c_X4_look l G _ h an tr ah ch ak ai ap sy af sp an r (mot d) (by omega) (hB.b (by omega))) ⟨_, rfl, rfl⟩ rfl rfl mw_3_212 mw_3_214 mw_p2_3 mw_1_5 mw_3_215 hd_X4_look ⟨Nat.le_of_ble_eq_true rfl, Nat.le_of_ble_eq_true rfl⟩ hKx hZ hS hP hD hA [0, 1, 2] [] rfl rfl (by decide) (by decide) (by decide) rfl rfl hl.1 rfl (Nat.le_of_ble_eq_true rfl) dX4_isMarked_28 ⟨Nat.zero_le _, Nat.zero_le _⟩ (fun H locs hP hD hS => ?_)
      have hP : va_P G.1 vwCl [(h, .inr (4, [.ref an, .ref tr, .ref ah, .int ch, .ref ak, .ref ai, .ref ap, .int sy, .ref af, .int sp])), (af, .inl (gI G, 121, .inl (fun q9 => nI (fdy q9)))), (an, .inl (gI G, 2175, .inl (lok r (mot d))))] H := hP
      have hD : va_D A [(h, .inr (4, [.ref an, .ref tr, .ref ah, .int ch, .ref ak, .ref ai, .ref ap, .int sy, .ref af, .int sp])), (af, .inl (gI G, 121, .inl (fun q9 => nI (fdy q9)))), (an, .inl (gI G, 2175, .inl (lok r (mot d))))] := hD
      refine lv_aload_n hx hb dX4_isMarked_31 rfl (lv_at hl 1 rfl) ?_
      refine va_get (ci := 4) (v := .ref an) (C := RX4) (T := TX4) (N := 10) hx hb hts inGX4 hown hK hP 0 rfl rfl 0 (by decide) (hts _ mw_3_54) (fun _ h9 => h9) rfl dX4_isMarked_32 ?_
      refine lv_iload_n hx hb dX4_isMarked_35 rfl (lv_at hl 0 rfl) ?_
      refine lv_iload_n hx hb dX4_isMarked_36 rfl (lv_at hl 2 rfl) ?_
      refine k_roS (As := [.int (nI (mot d)), .int (nI s)]) (rest := [.ref an]) hF (c_X4_at l G (mot d) s) mw_3_117 mw_3_118 mw_1_5 mw_3_119 hd_X4_at ⟨Nat.le_of_ble_eq_true rfl, Nat.le_of_ble_eq_true rfl⟩ (Rd.of hKx hZ hS) (hP.sub (ws' := []) [] rfl) rfl hl.1 rfl (Nat.le_of_ble_eq_true rfl) dX4_isMarked_37 ⟨Nat.zero_le _, Nat.zero_le _⟩ ?_
      refine n_iald hx hb hK hP 2 0 rfl rfl (by omega) (by omega) dX4_isMarked_40 ?_
      refine lv_cv (y := r (255 + 16 * mot d + s)) (by rw [Nat.add_assoc 255]; exact lok_mk (hB.b (by omega)) (by omega)) ?_
      refine lv_iload_n hx hb dX4_isMarked_41 rfl (lv_at hl 3 rfl) ?_
      refine lv_aload_n hx hb dX4_isMarked_42 rfl (lv_at hl 1 rfl) ?_
      refine va_get (ci := 4) (v := .ref af) (C := RX4) (T := TX4) (N := 10) hx hb hts inGX4 hown hK hP 0 rfl rfl 8 (by decide) (hts _ mw_3_62) (fun _ h9 => h9) rfl dX4_isMarked_43 ?_
      refine lv_iload_n hx hb dX4_isMarked_46 rfl (lv_at hl 0 rfl) ?_
      refine n_iald hx hb hK hP 1 0 rfl rfl (by omega) (by omega) dX4_isMarked_47 ?_
      refine n_isub hx hb (by omega) dX4_isMarked_48 ?_
      refine lv_ishr hx hb dX4_isMarked_49 ?_
      refine lv_iconst (v := nI 1) hx hb dX4_isMarked_50 (by decide) ?_
      refine lv_iand hx hb dX4_isMarked_51 ?_
      refine lv_cv (y := nI (bn (r (255 + 16 * mot d + s)) (d - fdy (mot d)))) (b_sra (by omega)) ?_
      have hPj := hP.sub (ws' := [(h, .inr (4, [.ref an, .ref tr, .ref ah, .int ch, .ref ak, .ref ai, .ref ap, .int sy, .ref af, .int sp])), (af, .inl (gI G, 121, .inl (fun q9 => nI (fdy q9)))), (an, .inl (gI G, 2175, .inl (lok r (mot d))))]) [0, 1, 2] rfl
      exact e_wi hx hb hr hlk hPj hS (rfl) dX4_isMarked_52
    · skip
      exact absurd c_11 (by omega)
set_option maxHeartbeats 4000000 in
set_option maxRecDepth 100000 in
theorem c_X4_isMarked_e (l : Launch) (G : gT) (h : Nat) (an : Nat) (tr : Nat) (ah : Nat) (ch : Int32) (ak : Nat) (ai : Nat) (ap : Nat) (sy : Int32) (af : Nat) (sp : Int32) (w : Int32) (S0 : Int) (x : Int32) (F : Int) (hw1 : w.toInt = S0) (hF1 : x.toInt = F) (he : ¬ ((0 ≤ S0 ∧ S0 ≤ 15) ∧ (0 ≤ F ∧ F ≤ 3649))) : Ro l G yX4_isMarked cX4_isMarked 4 (some .int) 9 [] [.ref h, .int w, .int x] (-1) := by
  refine Ro.mk (by decide) (Nat.le_of_ble_eq_true rfl) (fun pq eq sq mq bq tq cq ls hr hlk hF hKx hZ hP hl => ?_)
  have hx := hF.1
  have hb := hF.2.1
  have hml := hF.2.2.1
  have hown : sq.vm.findClass RX4 = some mq.cls := hF.2.2.2.1
  have hts : ∀ w ∈ GW, w.before _ sq = true := hF.2.2.2.2
  have hK := hKx.1
  have hl : lv_has ls 4 [(0, .ref h), (1, .int w), (2, .int x)] := hl
  have hS : va_S (fun _ => False) sq.heap sq.heap [] := va_S.rf
  have hP : va_P G.1 vwCl [] sq.heap := hP
  refine lv_iload_n hx hb dX4_isMarked_0 rfl (lv_at hl 1 rfl) ?_
  refine k_roS (As := [.int w]) (rest := []) hF (c_X4_isSubject l G w S0 hw1) mw_3_164 mw_3_165 mw_1_5 mw_3_166 hd_X4_isSubject ⟨Nat.le_of_ble_eq_true rfl, Nat.le_of_ble_eq_true rfl⟩ (Rd.of hKx hZ hS) (hP.sub (ws' := []) [] rfl) rfl hl.1 rfl (Nat.le_of_ble_eq_true rfl) dX4_isMarked_1 ⟨Nat.zero_le _, Nat.zero_le _⟩ ?_
  refine p0_eq hx hb (tgt := 14) dX4_isMarked_4 (by decide) (fun c_4 => ?_) (fun c_4 => ?_)
  · skip
    refine lv_iconst (v := (-1)) hx hb dX4_isMarked_14 (by decide) ?_
    exact e_ri hx hb hr hlk (rfl) dX4_isMarked_15
  · skip
    refine lv_iload_n hx hb dX4_isMarked_7 rfl (lv_at hl 2 rfl) ?_
    refine k_roS (As := [.int x]) (rest := []) hF (c_X4_isDay l G x F hF1) mw_3_171 mw_3_172 mw_1_5 mw_3_173 hd_X4_isDay ⟨Nat.le_of_ble_eq_true rfl, Nat.le_of_ble_eq_true rfl⟩ (Rd.of hKx hZ hS) (hP.sub (ws' := []) [] rfl) rfl hl.1 rfl (Nat.le_of_ble_eq_true rfl) dX4_isMarked_8 ⟨Nat.zero_le _, Nat.zero_le _⟩ ?_
    refine p0_ne hx hb (tgt := 16) dX4_isMarked_11 (by decide) (fun c_11 => ?_) (fun c_11 => ?_)
    · skip
      exact absurd c_11 (by omega)
    · skip
      refine lv_iconst (v := (-1)) hx hb dX4_isMarked_14 (by decide) ?_
      exact e_ri hx hb hr hlk (rfl) dX4_isMarked_15
set_option maxHeartbeats 4000000 in
set_option maxRecDepth 100000 in
theorem c_X4_both_k (l : Launch) (G : gT) (sz : Nat) (h : Nat) (an : Nat) (tr : Nat) (ah : Nat) (ch : Int32) (ak : Nat) (ai : Nat) (ap : Nat) (sy : Int32) (af : Nat) (sp : Int32) (r : Nat → Int32) (s : Nat) (o : Nat) (f : Nat) (t : Nat) (hB : Br r) (hs : s < 16) (ho : o < 16) (hft : f ≤ t) (ht : t < 3650) : Rw l G yX4_both cX4_both 8 (some .int) 8 sz [(h, .inr (4, [.ref an, .ref tr, .ref ah, .int ch, .ref ak, .ref ai, .ref ap, .int sy, .ref af, .int sp])), (af, .inl (gI G, 121, .inl (fun q9 => nI (fdy q9)))), (an, .inl (gI G, 2175, .inl r))] [.ref h, .int (nI s), .int (nI o), .int (nI f), .int (nI t)] (nI (ctb r s o f t (mot f) (mot t + 1 - mot f))) [(h, .inr (4, [.ref an, .ref tr, .ref ah, .int ch, .ref ak, .ref ai, .ref ap, .int sy, .ref af, .int sp])), (af, .inl (gI G, 121, .inl (fun q9 => nI (fdy q9)))), (an, .inl (gI G, 2175, .inl (lkk r (mot f) (mot t + 1 - mot f))))] := by
  refine Rw.mk (by decide) (Nat.le_of_ble_eq_true rfl) (fun pq eq sq mq bq tq cq ls A hr hlk hF hKx hZ hA hP hD hS hl => ?_)
  have hx := hF.1
  have hb := hF.2.1
  have hml := hF.2.2.1
  have hown : sq.vm.findClass RX4 = some mq.cls := hF.2.2.2.1
  have hts : ∀ w ∈ GW, w.before _ sq = true := hF.2.2.2.2
  have hK := hKx.1
  have hl : lv_has ls 8 [(0, .ref h), (1, .int (nI s)), (2, .int (nI o)), (3, .int (nI f)), (4, .int (nI t))] := hl
  have hP : va_P G.1 vwCl [(h, .inr (4, [.ref an, .ref tr, .ref ah, .int ch, .ref ak, .ref ai, .ref ap, .int sy, .ref af, .int sp])), (af, .inl (gI G, 121, .inl (fun q9 => nI (fdy q9)))), (an, .inl (gI G, 2175, .inl r))] sq.heap := hP
  have hD : va_D A [(h, .inr (4, [.ref an, .ref tr, .ref ah, .int ch, .ref ak, .ref ai, .ref ap, .int sy, .ref af, .int sp])), (af, .inl (gI G, 121, .inl (fun q9 => nI (fdy q9)))), (an, .inl (gI G, 2175, .inl r))] := hD
  have hmf := mot_mono ht hft
  have hmt := mot_row ht
  have hf : f < 3650 := by omega
  refine lv_iload_n hx hb dX4_both_0 rfl (lv_at hl 1 rfl) ?_
  refine k_roS (As := [.int (nI s)]) (rest := []) hF (c_X4_isSubject l G (nI s) ((s : Nat) : Int) (toI (by omega))) mw_3_164 mw_3_165 mw_1_5 mw_3_166 hd_X4_isSubject ⟨Nat.le_of_ble_eq_true rfl, Nat.le_of_ble_eq_true rfl⟩ (Rd.of hKx hZ hS) (hP.sub (ws' := []) [] rfl) rfl hl.1 rfl (Nat.le_of_ble_eq_true rfl) dX4_both_1 ⟨Nat.zero_le _, Nat.zero_le _⟩ ?_
  refine p0_eq hx hb (tgt := 18) dX4_both_4 (by decide) (fun c_4 => ?_) (fun c_4 => ?_)
  · skip
    exact absurd c_4 (by omega)
  · skip
    refine lv_iload_n hx hb dX4_both_7 rfl (lv_at hl 2 rfl) ?_
    refine k_roS (As := [.int (nI o)]) (rest := []) hF (c_X4_isSubject l G (nI o) ((o : Nat) : Int) (toI (by omega))) mw_3_164 mw_3_165 mw_1_5 mw_3_166 hd_X4_isSubject ⟨Nat.le_of_ble_eq_true rfl, Nat.le_of_ble_eq_true rfl⟩ (Rd.of hKx hZ hS) (hP.sub (ws' := []) [] rfl) rfl hl.1 rfl (Nat.le_of_ble_eq_true rfl) dX4_both_8 ⟨Nat.zero_le _, Nat.zero_le _⟩ ?_
    refine p0_eq hx hb (tgt := 18) dX4_both_11 (by decide) (fun c_11 => ?_) (fun c_11 => ?_)
    · skip
      exact absurd c_11 (by omega)
    · skip
      refine lv_iconst (v := nI 1) hx hb dX4_both_14 (by decide) ?_
      refine lv_cv (y := pI True) (pI_t' trivial) ?_
      refine lv_goto (tgt := 19) hx hb dX4_both_15 (by decide) ?_
      refine lv_iload_n hx hb dX4_both_19 rfl (lv_at hl 3 rfl) ?_
      refine lv_iload hx hb dX4_both_20 (lv_at hl 4 rfl) ?_
      refine k_roS (As := [.int (pI True), .int (nI f), .int (nI t)]) (rest := []) hF (c_X4_whyNotDays l G True (nI f) ((f : Nat) : Int) (nI t) ((t : Nat) : Int) (toI (by omega)) (toI (by omega))) mw_3_168 mw_3_169 mw_1_5 mw_3_170 hd_X4_whyNotDays ⟨Nat.le_of_ble_eq_true rfl, Nat.le_of_ble_eq_true rfl⟩ (Rd.of hKx hZ hS) (hP.sub (ws' := []) [] rfl) rfl hl.1 rfl (Nat.le_of_ble_eq_true rfl) dX4_both_22 ⟨Nat.zero_le _, Nat.zero_le _⟩ ?_
      refine lv_cv (y := nI 0) (eDy_0 (by first | trivial | omega) (by omega)) ?_
      refine lv_istore (lv' := [(5, .int (nI 0)), (0, .ref h), (1, .int (nI s)), (2, .int (nI o)), (3, .int (nI f)), (4, .int (nI t))]) hx hb dX4_both_25 hl (by decide) rfl (fun ls hl => ?_)
      refine lv_iload hx hb dX4_both_27 (lv_at hl 0 rfl) ?_
      refine z0_eq hx hb (tgt := 35) 0 dX4_both_29 (by decide) (by decide) (fun c_29 => ?_) (fun c_29 => ?_)
      · skip
        refine lv_iconst (v := nI 0) hx hb dX4_both_35 (by decide) ?_
        refine lv_istore (lv' := [(6, .int (nI 0)), (5, .int (nI 0)), (0, .ref h), (1, .int (nI s)), (2, .int (nI o)), (3, .int (nI f)), (4, .int (nI t))]) hx hb dX4_both_36 hl (by decide) rfl (fun ls hl => ?_)
        refine lv_aload_n hx hb dX4_both_38 rfl (lv_at hl 2 rfl) ?_
        refine lv_iload_n hx hb dX4_both_39 rfl (lv_at hl 5 rfl) ?_
        refine k_roV (ci := 4) (q0 := 0) (As := [.int (nI f)]) (rest := []) hF (c_X4_monthOf l G h an tr ah ch ak ai ap sy af sp f (by omega)) hKx hP ⟨_, rfl, rfl⟩ rfl rfl mw_3_148 mw_3_150 mw_p1_11 mw_1_5 mw_3_151 hd_X4_monthOf ⟨Nat.le_of_ble_eq_true rfl, Nat.le_of_ble_eq_true rfl⟩ (Rd.of hKx hZ hS) (hP.sub (ws' := [(h, .inr (4, [.ref an, .ref tr, .ref ah, .int ch, .ref ak, .ref ai, .ref ap, .int sy, .ref af, .int sp])), (af, .inl (gI G, 121, .inl (fun q9 => nI (fdy q9))))]) [0, 1] rfl) rfl hl.1 rfl (Nat.le_of_ble_eq_true rfl) dX4_both_40 ⟨Nat.zero_le _, Nat.zero_le _⟩ ?_
        refine lv_istore (lv' := [(7, .int (nI (mot f))), (6, .int (nI 0)), (5, .int (nI 0)), (0, .ref h), (1, .int (nI s)), (2, .int (nI o)), (3, .int (nI f)), (4, .int (nI t))]) hx hb dX4_both_43 hl (by decide) rfl (fun ls hl => ?_)
        have hPj := hP.sub (ws' := [(h, .inr (4, [.ref an, .ref tr, .ref ah, .int ch, .ref ak, .ref ai, .ref ap, .int sy, .ref af, .int sp])), (af, .inl (gI G, 121, .inl (fun q9 => nI (fdy q9)))), (an, .inl (gI G, 2175, .inl r))]) [0, 1, 2] rfl
        have hDj := hD.sub (ws' := [(h, .inr (4, [.ref an, .ref tr, .ref ah, .int ch, .ref ak, .ref ai, .ref ap, .int sy, .ref af, .int sp])), (af, .inl (gI G, 121, .inl (fun q9 => nI (fdy q9)))), (an, .inl (gI G, 2175, .inl r))]) [0, 1, 2] (by decide) rfl
        have hwj : ([(h, .inr (4, [.ref an, .ref tr, .ref ah, .int ch, .ref ak, .ref ai, .ref ap, .int sy, .ref af, .int sp])), (af, .inl (gI G, 121, .inl (fun q9 => nI (fdy q9)))), (an, .inl (gI G, 2175, .inl r))] : va_W) = [(h, .inr (4, [.ref an, .ref tr, .ref ah, .int ch, .ref ak, .ref ai, .ref ap, .int sy, .ref af, .int sp])), (af, .inl (gI G, 121, .inl (fun q9 => nI (fdy q9)))), (an, .inl (gI G, 2175, .inl (lkk r (mot f) 0)))] := (wlc (rfl) (wlc (rfl) (wlc (rfl) rfl)))
        rw [hwj] at hPj hDj
        refine wloopH [] (fun j H locs ls => (j ≤ mot t + 1 - mot f) ∧ va_P G.1 vwCl [(h, .inr (4, [.ref an, .ref tr, .ref ah, .int ch, .ref ak, .ref ai, .ref ap, .int sy, .ref af, .int sp])), (af, .inl (gI G, 121, .inl (fun q9 => nI (fdy q9)))), (an, .inl (gI G, 2175, .inl (lkk r (mot f) j)))] H ∧ va_D A [(h, .inr (4, [.ref an, .ref tr, .ref ah, .int ch, .ref ak, .ref ai, .ref ap, .int sy, .ref af, .int sp])), (af, .inl (gI G, 121, .inl (fun q9 => nI (fdy q9)))), (an, .inl (gI G, 2175, .inl (lkk r (mot f) j)))] ∧ va_S A sq.heap H locs ∧ lv_has ls 8 [(7, .int (nI (mot f + j))), (6, .int (nI (ctb r s o f t (mot f) j))), (0, .ref h), (1, .int (nI s)), (2, .int (nI o)), (3, .int (nI f)), (4, .int (nI t))]) (fun j => (mot t + 1 - mot f) - j) ?_ 0 ⟨(by omega), hPj, hDj, hS, lv_sub hl [0, 1, 3, 4, 5, 6, 7] (lvc (by first | rfl | exact congrArg nI (by omega)) (lvc (by first | rfl | exact congrArg nI (by omega)) (lvr (lvr (lvr (lvr (lvr rfl)))))))⟩
        intro j ih
        intro H locs ls ⟨hj, hP, hD, hS, hl⟩
        refine lv_iload hx hb dX4_both_45 (lv_at hl 0 rfl) ?_
        refine lv_aload_n hx hb dX4_both_47 rfl (lv_at hl 2 rfl) ?_
        refine lv_iload hx hb dX4_both_48 (lv_at hl 6 rfl) ?_
        refine k_roV (ci := 4) (q0 := 0) (As := [.int (nI t)]) (rest := [.int (nI (mot f + j))]) hF (c_X4_monthOf l G h an tr ah ch ak ai ap sy af sp t (by omega)) hKx hP ⟨_, rfl, rfl⟩ rfl rfl mw_3_148 mw_3_150 mw_p1_11 mw_1_5 mw_3_151 hd_X4_monthOf ⟨Nat.le_of_ble_eq_true rfl, Nat.le_of_ble_eq_true rfl⟩ (Rd.of hKx hZ hS) (hP.sub (ws' := [(h, .inr (4, [.ref an, .ref tr, .ref ah, .int ch, .ref ak, .ref ai, .ref ap, .int sy, .ref af, .int sp])), (af, .inl (gI G, 121, .inl (fun q9 => nI (fdy q9))))]) [0, 1] rfl) rfl hl.1 rfl (Nat.le_of_ble_eq_true rfl) dX4_both_50 ⟨Nat.zero_le _, Nat.zero_le _⟩ ?_
        refine z_gt hx hb (tgt := 113) ((mot f + j : Nat) : Int) ((mot t : Nat) : Int) dX4_both_53 (by decide) (toI (by omega)) (toI (by omega)) (fun c_53 => ?_) (fun c_53 => ?_)
        · skip
          have hj2 : j = mot t + 1 - mot f := by omega
          subst hj2
          refine lv_iload hx hb dX4_both_113 (lv_at hl 1 rfl) ?_
          have hPj := hP.sub (ws' := [(h, .inr (4, [.ref an, .ref tr, .ref ah, .int ch, .ref ak, .ref ai, .ref ap, .int sy, .ref af, .int sp])), (af, .inl (gI G, 121, .inl (fun q9 => nI (fdy q9)))), (an, .inl (gI G, 2175, .inl (lkk r (mot f) (mot t + 1 - mot f))))]) [0, 1, 2] rfl
          exact e_wi hx hb hr hlk hPj hS (rfl) dX4_both_115
        · skip
          refine lv_aload_n hx hb dX4_both_56 rfl (lv_at hl 2 rfl) ?_
          refine lv_aload_n hx hb dX4_both_57 rfl (lv_at hl 2 rfl) ?_
          refine va_get (ci := 4) (v := .ref an) (C := RX4) (T := TX4) (N := 10) hx hb hts inGX4 hown hK hP 0 rfl rfl 0 (by decide) (hts _ mw_3_54) (fun _ h9 => h9) rfl dX4_both_58 ?_
          refine lv_iload hx hb dX4_both_61 (lv_at hl 0 rfl) ?_
          refine k_rvV (ci := 4) (q0 := 0) (As := [.ref an, .int (nI (mot f + j))]) (rest := []) (wr := []) hF (c_X4_look l G _ h an tr ah ch ak ai ap sy af sp an (lkk r (mot f) j) (mot f + j) (by omega) ((Br_lkk hB j (by omega)).b (by omega))) ⟨_, rfl, rfl⟩ rfl rfl mw_3_212 mw_3_214 mw_p2_3 mw_1_5 mw_3_215 hd_X4_look ⟨Nat.le_of_ble_eq_true rfl, Nat.le_of_ble_eq_true rfl⟩ hKx hZ hS hP hD hA [0, 1, 2] [] rfl rfl (by decide) (by decide) (by decide) rfl rfl hl.1 rfl (Nat.le_of_ble_eq_true rfl) dX4_both_63 ⟨Nat.zero_le _, Nat.zero_le _⟩ (fun H locs hP hD hS => ?_)
          have hP : va_P G.1 vwCl [(h, .inr (4, [.ref an, .ref tr, .ref ah, .int ch, .ref ak, .ref ai, .ref ap, .int sy, .ref af, .int sp])), (af, .inl (gI G, 121, .inl (fun q9 => nI (fdy q9)))), (an, .inl (gI G, 2175, .inl (lok (lkk r (mot f) j) (mot f + j))))] H := hP
          have hD : va_D A [(h, .inr (4, [.ref an, .ref tr, .ref ah, .int ch, .ref ak, .ref ai, .ref ap, .int sy, .ref af, .int sp])), (af, .inl (gI G, 121, .inl (fun q9 => nI (fdy q9)))), (an, .inl (gI G, 2175, .inl (lok (lkk r (mot f) j) (mot f + j))))] := hD
          have hw_1 : ([(h, .inr (4, [.ref an, .ref tr, .ref ah, .int ch, .ref ak, .ref ai, .ref ap, .int sy, .ref af, .int sp])), (af, .inl (gI G, 121, .inl (fun q9 => nI (fdy q9)))), (an, .inl (gI G, 2175, .inl (lok (lkk r (mot f) j) (mot f + j))))] : va_W) = [(h, .inr (4, [.ref an, .ref tr, .ref ah, .int ch, .ref ak, .ref ai, .ref ap, .int sy, .ref af, .int sp])), (af, .inl (gI G, 121, .inl (fun q9 => nI (fdy q9)))), (an, .inl (gI G, 2175, .inl (lkk r (mot f) (j + 1))))] := (wlc rfl (wlc rfl (wlc (wli (rfl)) rfl)))
          rw [hw_1] at hP hD
          refine lv_iload hx hb dX4_both_66 (lv_at hl 1 rfl) ?_
          refine lv_aload_n hx hb dX4_both_68 rfl (lv_at hl 2 rfl) ?_
          refine va_get (ci := 4) (v := .ref an) (C := RX4) (T := TX4) (N := 10) hx hb hts inGX4 hown hK hP 0 rfl rfl 0 (by decide) (hts _ mw_3_54) (fun _ h9 => h9) rfl dX4_both_69 ?_
          refine lv_iload hx hb dX4_both_72 (lv_at hl 0 rfl) ?_
          refine lv_iload_n hx hb dX4_both_74 rfl (lv_at hl 3 rfl) ?_
          refine k_roS (As := [.int (nI (mot f + j)), .int (nI s)]) (rest := [.ref an, .int (nI (ctb r s o f t (mot f) j))]) hF (c_X4_at l G (mot f + j) s) mw_3_117 mw_3_118 mw_1_5 mw_3_119 hd_X4_at ⟨Nat.le_of_ble_eq_true rfl, Nat.le_of_ble_eq_true rfl⟩ (Rd.of hKx hZ hS) (hP.sub (ws' := []) [] rfl) rfl hl.1 rfl (Nat.le_of_ble_eq_true rfl) dX4_both_75 ⟨Nat.zero_le _, Nat.zero_le _⟩ ?_
          refine n_iald hx hb hK hP 2 0 rfl rfl (by omega) (by omega) dX4_both_78 ?_
          refine lv_cv (y := r (255 + 16 * (mot f + j) + s)) (by rw [Nat.add_assoc 255]; exact lkk_mk hB (j + 1) (by omega)) ?_
          refine lv_aload_n hx hb dX4_both_79 rfl (lv_at hl 2 rfl) ?_
          refine va_get (ci := 4) (v := .ref an) (C := RX4) (T := TX4) (N := 10) hx hb hts inGX4 hown hK hP 0 rfl rfl 0 (by decide) (hts _ mw_3_54) (fun _ h9 => h9) rfl dX4_both_80 ?_
          refine lv_iload hx hb dX4_both_83 (lv_at hl 0 rfl) ?_
          refine lv_iload_n hx hb dX4_both_85 rfl (lv_at hl 4 rfl) ?_
          refine k_roS (As := [.int (nI (mot f + j)), .int (nI o)]) (rest := [.ref an, .int (r (255 + 16 * (mot f + j) + s)), .int (nI (ctb r s o f t (mot f) j))]) hF (c_X4_at l G (mot f + j) o) mw_3_117 mw_3_118 mw_1_5 mw_3_119 hd_X4_at ⟨Nat.le_of_ble_eq_true rfl, Nat.le_of_ble_eq_true rfl⟩ (Rd.of hKx hZ hS) (hP.sub (ws' := []) [] rfl) rfl hl.1 rfl (Nat.le_of_ble_eq_true rfl) dX4_both_86 ⟨Nat.zero_le _, Nat.zero_le _⟩ ?_
          refine n_iald hx hb hK hP 2 0 rfl rfl (by omega) (by omega) dX4_both_89 ?_
          refine lv_cv (y := r (255 + 16 * (mot f + j) + o)) (by rw [Nat.add_assoc 255]; exact lkk_mk hB (j + 1) (by omega)) ?_
          refine lv_iand hx hb dX4_both_90 ?_
          refine lv_aload_n hx hb dX4_both_91 rfl (lv_at hl 2 rfl) ?_
          refine lv_iload hx hb dX4_both_92 (lv_at hl 0 rfl) ?_
          refine lv_iload_n hx hb dX4_both_94 rfl (lv_at hl 5 rfl) ?_
          refine lv_iload hx hb dX4_both_95 (lv_at hl 6 rfl) ?_
          refine k_roV (ci := 4) (q0 := 0) (As := [.int (nI (mot f + j)), .int (nI f), .int (nI t)]) (rest := [.int ((r (255 + 16 * (mot f + j) + s)) &&& (r (255 + 16 * (mot f + j) + o))), .int (nI (ctb r s o f t (mot f) j))]) hF (c_X4_meant l G h an tr ah ch ak ai ap sy af sp (mot f + j) f t (by omega) (by omega) (by omega)) hKx hP ⟨_, rfl, rfl⟩ rfl rfl mw_3_179 mw_3_181 mw_p1_15 mw_1_5 mw_3_182 hd_X4_meant ⟨Nat.le_of_ble_eq_true rfl, Nat.le_of_ble_eq_true rfl⟩ (Rd.of hKx hZ hS) (hP.sub (ws' := [(h, .inr (4, [.ref an, .ref tr, .ref ah, .int ch, .ref ak, .ref ai, .ref ap, .int sy, .ref af, .int sp])), (af, .inl (gI G, 121, .inl (fun q9 => nI (fdy q9))))]) [0, 1] rfl) rfl hl.1 rfl (Nat.le_of_ble_eq_true rfl) dX4_both_97 ⟨Nat.zero_le _, Nat.zero_le _⟩ ?_
          refine lv_iand hx hb dX4_both_100 ?_
          refine k_roS (As := [.int (((r (255 + 16 * (mot f + j) + s)) &&& (r (255 + 16 * (mot f + j) + o))) &&& (mnt (mot f + j) f t))]) (rest := [.int (nI (ctb r s o f t (mot f) j))]) hF (c_X4_ones l G (((r (255 + 16 * (mot f + j) + s)) &&& (r (255 + 16 * (mot f + j) + o))) &&& (mnt (mot f + j) f t))) mw_3_120 mw_3_121 mw_1_5 mw_3_122 hd_X4_ones ⟨Nat.le_of_ble_eq_true rfl, Nat.le_of_ble_eq_true rfl⟩ (Rd.of hKx hZ hS) (hP.sub (ws' := []) [] rfl) rfl hl.1 rfl (Nat.le_of_ble_eq_true rfl) dX4_both_101 ⟨Nat.zero_le _, Nat.zero_le _⟩ ?_
          refine n_iadd hx hb dX4_both_104 ?_
          refine lv_istore (lv' := [(6, .int (nI (ctb r s o f t (mot f) j + ons (((r (255 + 16 * (mot f + j) + s)) &&& (r (255 + 16 * (mot f + j) + o))) &&& (mnt (mot f + j) f t))))), (7, .int (nI (mot f + j))), (0, .ref h), (1, .int (nI s)), (2, .int (nI o)), (3, .int (nI f)), (4, .int (nI t))]) hx hb dX4_both_105 hl (by decide) rfl (fun ls hl => ?_)
          refine lv_iinc (v := nI (mot f + j + 1)) (lv' := [(7, .int (nI (mot f + j + 1))), (6, .int (nI (ctb r s o f t (mot f) j + ons (((r (255 + 16 * (mot f + j) + s)) &&& (r (255 + 16 * (mot f + j) + o))) &&& (mnt (mot f + j) f t))))), (0, .ref h), (1, .int (nI s)), (2, .int (nI o)), (3, .int (nI f)), (4, .int (nI t))]) hx hb dX4_both_107 hl (k := 1) rfl (nI_add _ _) (by decide) rfl (fun ls hl => ?_)
          refine lv_goto (tgt := 45) hx hb dX4_both_110 (by decide) ?_
          exact ih (j + 1) _ _ ls (by omega) ⟨(by omega), (hP.sub (ws' := [(h, .inr (4, [.ref an, .ref tr, .ref ah, .int ch, .ref ak, .ref ai, .ref ap, .int sy, .ref af, .int sp])), (af, .inl (gI G, 121, .inl (fun q9 => nI (fdy q9)))), (an, .inl (gI G, 2175, .inl (lkk r (mot f) (j + 1))))]) [0, 1, 2] rfl), (hD.sub (ws' := [(h, .inr (4, [.ref an, .ref tr, .ref ah, .int ch, .ref ak, .ref ai, .ref ap, .int sy, .ref af, .int sp])), (af, .inl (gI G, 121, .inl (fun q9 => nI (fdy q9)))), (an, .inl (gI G, 2175, .inl (lkk r (mot f) (j + 1))))]) [0, 1, 2] (by decide) rfl), hS, lv_sub hl [0, 1, 2, 3, 4, 5, 6] (lvc (by first | rfl | exact congrArg nI (by omega)) (lvc (by first | rfl | exact congrArg nI (by omega)) (lvr (lvr (lvr (lvr (lvr rfl)))))))⟩
      · skip
        exact absurd c_29 (by decide)
set_option maxHeartbeats 4000000 in
set_option maxRecDepth 100000 in
theorem c_X4_both_e (l : Launch) (G : gT) (h : Nat) (an : Nat) (tr : Nat) (ah : Nat) (ch : Int32) (ak : Nat) (ai : Nat) (ap : Nat) (sy : Int32) (af : Nat) (sp : Int32) (w : Int32) (S0 : Int) (v : Int32) (O : Int) (x : Int32) (F : Int) (y : Int32) (T : Int) (hw1 : w.toInt = S0) (hv1 : v.toInt = O) (hF1 : x.toInt = F) (hT1 : y.toInt = T) (he : ¬ (eDy ((0 ≤ S0 ∧ S0 ≤ 15) ∧ (0 ≤ O ∧ O ≤ 15)) F T).toInt = 0) : Ro l G yX4_both cX4_both 8 (some .int) 9 [] [.ref h, .int w, .int v, .int x, .int y] (eDy ((0 ≤ S0 ∧ S0 ≤ 15) ∧ (0 ≤ O ∧ O ≤ 15)) F T) := by
  refine Ro.mk (by decide) (Nat.le_of_ble_eq_true rfl) (fun pq eq sq mq bq tq cq ls hr hlk hF hKx hZ hP hl => ?_)
  have hx := hF.1
  have hb := hF.2.1
  have hml := hF.2.2.1
  have hown : sq.vm.findClass RX4 = some mq.cls := hF.2.2.2.1
  have hts : ∀ w ∈ GW, w.before _ sq = true := hF.2.2.2.2
  have hK := hKx.1
  have hl : lv_has ls 8 [(0, .ref h), (1, .int w), (2, .int v), (3, .int x), (4, .int y)] := hl
  have hS : va_S (fun _ => False) sq.heap sq.heap [] := va_S.rf
  have hP : va_P G.1 vwCl [] sq.heap := hP
  refine lv_iload_n hx hb dX4_both_0 rfl (lv_at hl 1 rfl) ?_
  refine k_roS (As := [.int w]) (rest := []) hF (c_X4_isSubject l G w S0 hw1) mw_3_164 mw_3_165 mw_1_5 mw_3_166 hd_X4_isSubject ⟨Nat.le_of_ble_eq_true rfl, Nat.le_of_ble_eq_true rfl⟩ (Rd.of hKx hZ hS) (hP.sub (ws' := []) [] rfl) rfl hl.1 rfl (Nat.le_of_ble_eq_true rfl) dX4_both_1 ⟨Nat.zero_le _, Nat.zero_le _⟩ ?_
  refine p0_eq hx hb (tgt := 18) dX4_both_4 (by decide) (fun c_4 => ?_) (fun c_4 => ?_)
  · skip
    refine lv_iconst (v := nI 0) hx hb dX4_both_18 (by decide) ?_
    refine lv_cv (y := pI ((0 ≤ S0 ∧ S0 ≤ 15) ∧ (0 ≤ O ∧ O ≤ 15))) (pI_f' (by omega)) ?_
    refine lv_iload_n hx hb dX4_both_19 rfl (lv_at hl 3 rfl) ?_
    refine lv_iload hx hb dX4_both_20 (lv_at hl 4 rfl) ?_
    refine k_roS (As := [.int (pI ((0 ≤ S0 ∧ S0 ≤ 15) ∧ (0 ≤ O ∧ O ≤ 15))), .int x, .int y]) (rest := []) hF (c_X4_whyNotDays l G ((0 ≤ S0 ∧ S0 ≤ 15) ∧ (0 ≤ O ∧ O ≤ 15)) x F y T hF1 hT1) mw_3_168 mw_3_169 mw_1_5 mw_3_170 hd_X4_whyNotDays ⟨Nat.le_of_ble_eq_true rfl, Nat.le_of_ble_eq_true rfl⟩ (Rd.of hKx hZ hS) (hP.sub (ws' := []) [] rfl) rfl hl.1 rfl (Nat.le_of_ble_eq_true rfl) dX4_both_22 ⟨Nat.zero_le _, Nat.zero_le _⟩ ?_
    refine lv_istore (lv' := [(5, .int (eDy ((0 ≤ S0 ∧ S0 ≤ 15) ∧ (0 ≤ O ∧ O ≤ 15)) F T)), (0, .ref h), (1, .int w), (2, .int v), (3, .int x), (4, .int y)]) hx hb dX4_both_25 hl (by decide) rfl (fun ls hl => ?_)
    refine lv_iload hx hb dX4_both_27 (lv_at hl 0 rfl) ?_
    refine z0_eq hx hb (tgt := 35) ((eDy ((0 ≤ S0 ∧ S0 ≤ 15) ∧ (0 ≤ O ∧ O ≤ 15)) F T).toInt) dX4_both_29 (by decide) rfl (fun c_29 => ?_) (fun c_29 => ?_)
    · skip
      exact absurd c_29 he
    · skip
      refine lv_iload hx hb dX4_both_32 (lv_at hl 0 rfl) ?_
      exact e_ri hx hb hr hlk (rfl) dX4_both_34
  · skip
    refine lv_iload_n hx hb dX4_both_7 rfl (lv_at hl 2 rfl) ?_
    refine k_roS (As := [.int v]) (rest := []) hF (c_X4_isSubject l G v O hv1) mw_3_164 mw_3_165 mw_1_5 mw_3_166 hd_X4_isSubject ⟨Nat.le_of_ble_eq_true rfl, Nat.le_of_ble_eq_true rfl⟩ (Rd.of hKx hZ hS) (hP.sub (ws' := []) [] rfl) rfl hl.1 rfl (Nat.le_of_ble_eq_true rfl) dX4_both_8 ⟨Nat.zero_le _, Nat.zero_le _⟩ ?_
    refine p0_eq hx hb (tgt := 18) dX4_both_11 (by decide) (fun c_11 => ?_) (fun c_11 => ?_)
    · skip
      refine lv_iconst (v := nI 0) hx hb dX4_both_18 (by decide) ?_
      refine lv_cv (y := pI ((0 ≤ S0 ∧ S0 ≤ 15) ∧ (0 ≤ O ∧ O ≤ 15))) (pI_f' (by omega)) ?_
      refine lv_iload_n hx hb dX4_both_19 rfl (lv_at hl 3 rfl) ?_
      refine lv_iload hx hb dX4_both_20 (lv_at hl 4 rfl) ?_
      refine k_roS (As := [.int (pI ((0 ≤ S0 ∧ S0 ≤ 15) ∧ (0 ≤ O ∧ O ≤ 15))), .int x, .int y]) (rest := []) hF (c_X4_whyNotDays l G ((0 ≤ S0 ∧ S0 ≤ 15) ∧ (0 ≤ O ∧ O ≤ 15)) x F y T hF1 hT1) mw_3_168 mw_3_169 mw_1_5 mw_3_170 hd_X4_whyNotDays ⟨Nat.le_of_ble_eq_true rfl, Nat.le_of_ble_eq_true rfl⟩ (Rd.of hKx hZ hS) (hP.sub (ws' := []) [] rfl) rfl hl.1 rfl (Nat.le_of_ble_eq_true rfl) dX4_both_22 ⟨Nat.zero_le _, Nat.zero_le _⟩ ?_
      refine lv_istore (lv' := [(5, .int (eDy ((0 ≤ S0 ∧ S0 ≤ 15) ∧ (0 ≤ O ∧ O ≤ 15)) F T)), (0, .ref h), (1, .int w), (2, .int v), (3, .int x), (4, .int y)]) hx hb dX4_both_25 hl (by decide) rfl (fun ls hl => ?_)
      refine lv_iload hx hb dX4_both_27 (lv_at hl 0 rfl) ?_
      refine z0_eq hx hb (tgt := 35) ((eDy ((0 ≤ S0 ∧ S0 ≤ 15) ∧ (0 ≤ O ∧ O ≤ 15)) F T).toInt) dX4_both_29 (by decide) rfl (fun c_29 => ?_) (fun c_29 => ?_)
      · skip
        exact absurd c_29 he
      · skip
        refine lv_iload hx hb dX4_both_32 (lv_at hl 0 rfl) ?_
        exact e_ri hx hb hr hlk (rfl) dX4_both_34
    · skip
      refine lv_iconst (v := nI 1) hx hb dX4_both_14 (by decide) ?_
      refine lv_cv (y := pI ((0 ≤ S0 ∧ S0 ≤ 15) ∧ (0 ≤ O ∧ O ≤ 15))) (pI_t' (by omega)) ?_
      refine lv_goto (tgt := 19) hx hb dX4_both_15 (by decide) ?_
      refine lv_iload_n hx hb dX4_both_19 rfl (lv_at hl 3 rfl) ?_
      refine lv_iload hx hb dX4_both_20 (lv_at hl 4 rfl) ?_
      refine k_roS (As := [.int (pI ((0 ≤ S0 ∧ S0 ≤ 15) ∧ (0 ≤ O ∧ O ≤ 15))), .int x, .int y]) (rest := []) hF (c_X4_whyNotDays l G ((0 ≤ S0 ∧ S0 ≤ 15) ∧ (0 ≤ O ∧ O ≤ 15)) x F y T hF1 hT1) mw_3_168 mw_3_169 mw_1_5 mw_3_170 hd_X4_whyNotDays ⟨Nat.le_of_ble_eq_true rfl, Nat.le_of_ble_eq_true rfl⟩ (Rd.of hKx hZ hS) (hP.sub (ws' := []) [] rfl) rfl hl.1 rfl (Nat.le_of_ble_eq_true rfl) dX4_both_22 ⟨Nat.zero_le _, Nat.zero_le _⟩ ?_
      refine lv_istore (lv' := [(5, .int (eDy ((0 ≤ S0 ∧ S0 ≤ 15) ∧ (0 ≤ O ∧ O ≤ 15)) F T)), (0, .ref h), (1, .int w), (2, .int v), (3, .int x), (4, .int y)]) hx hb dX4_both_25 hl (by decide) rfl (fun ls hl => ?_)
      refine lv_iload hx hb dX4_both_27 (lv_at hl 0 rfl) ?_
      refine z0_eq hx hb (tgt := 35) ((eDy ((0 ≤ S0 ∧ S0 ≤ 15) ∧ (0 ≤ O ∧ O ≤ 15)) F T).toInt) dX4_both_29 (by decide) rfl (fun c_29 => ?_) (fun c_29 => ?_)
      · skip
        exact absurd c_29 he
      · skip
        refine lv_iload hx hb dX4_both_32 (lv_at hl 0 rfl) ?_
        exact e_ri hx hb hr hlk (rfl) dX4_both_34
set_option maxHeartbeats 4000000 in
set_option maxRecDepth 100000 in
theorem c_X4_crowded_e (l : Launch) (G : gT) (h : Nat) (an : Nat) (tr : Nat) (ah : Nat) (ch : Int32) (ak : Nat) (ai : Nat) (ap : Nat) (sy : Int32) (af : Nat) (sp : Int32) (w : Int32) (S0 : Int) (x : Int32) (F : Int) (y : Int32) (T : Int) (hw1 : w.toInt = S0) (hF1 : x.toInt = F) (hT1 : y.toInt = T) (he : ¬ ((0 ≤ F ∧ F ≤ 3649) ∧ (0 ≤ T ∧ T ≤ 3649) ∧ (1 ≤ S0 ∧ S0 ≤ 16) ∧ F ≤ T)) : Ro l G yX4_crowded cX4_crowded 10 (some .int) 9 [] [.ref h, .int w, .int x, .int y] (eCr S0 F T) := by
  refine Ro.mk (by decide) (Nat.le_of_ble_eq_true rfl) (fun pq eq sq mq bq tq cq ls hr hlk hF hKx hZ hP hl => ?_)
  have hx := hF.1
  have hb := hF.2.1
  have hml := hF.2.2.1
  have hown : sq.vm.findClass RX4 = some mq.cls := hF.2.2.2.1
  have hts : ∀ w ∈ GW, w.before _ sq = true := hF.2.2.2.2
  have hK := hKx.1
  have hl : lv_has ls 10 [(0, .ref h), (1, .int w), (2, .int x), (3, .int y)] := hl
  have hS : va_S (fun _ => False) sq.heap sq.heap [] := va_S.rf
  have hP : va_P G.1 vwCl [] sq.heap := hP
  refine lv_iload_n hx hb dX4_crowded_0 rfl (lv_at hl 2 rfl) ?_
  refine k_roS (As := [.int x]) (rest := []) hF (c_X4_isDay l G x F hF1) mw_3_171 mw_3_172 mw_1_5 mw_3_173 hd_X4_isDay ⟨Nat.le_of_ble_eq_true rfl, Nat.le_of_ble_eq_true rfl⟩ (Rd.of hKx hZ hS) (hP.sub (ws' := []) [] rfl) rfl hl.1 rfl (Nat.le_of_ble_eq_true rfl) dX4_crowded_1 ⟨Nat.zero_le _, Nat.zero_le _⟩ ?_
  refine p0_eq hx hb (tgt := 14) dX4_crowded_4 (by decide) (fun c_4 => ?_) (fun c_4 => ?_)
  · skip
    refine lv_iconst (v := (-1)) hx hb dX4_crowded_14 (by decide) ?_
    exact e_ri hx hb hr hlk ((eCr_1 (by omega)).symm) dX4_crowded_15
  · skip
    refine lv_iload_n hx hb dX4_crowded_7 rfl (lv_at hl 3 rfl) ?_
    refine k_roS (As := [.int y]) (rest := []) hF (c_X4_isDay l G y T hT1) mw_3_171 mw_3_172 mw_1_5 mw_3_173 hd_X4_isDay ⟨Nat.le_of_ble_eq_true rfl, Nat.le_of_ble_eq_true rfl⟩ (Rd.of hKx hZ hS) (hP.sub (ws' := []) [] rfl) rfl hl.1 rfl (Nat.le_of_ble_eq_true rfl) dX4_crowded_8 ⟨Nat.zero_le _, Nat.zero_le _⟩ ?_
    refine p0_ne hx hb (tgt := 16) dX4_crowded_11 (by decide) (fun c_11 => ?_) (fun c_11 => ?_)
    · skip
      refine lv_iload_n hx hb dX4_crowded_16 rfl (lv_at hl 1 rfl) ?_
      refine lv_i2l (v := w.toInt64) hx hb dX4_crowded_17 rfl ?_
      refine lv_lconst (v := 1) hx hb dX4_crowded_18 (by decide) ?_
      refine lv_ldc2 (v := 16) hx hb hown (hts _ mw_3_228) dX4_crowded_19 ?_
      refine k_roS (As := [.long w.toInt64, .long 1, .long 16]) (rest := []) hF (c_X4_in l G w.toInt64 1 16 S0 1 16 (l64 hw1) (by decide) (by decide)) mw_3_91 mw_3_92 mw_1_5 mw_3_93 hd_X4_in ⟨Nat.le_of_ble_eq_true rfl, Nat.le_of_ble_eq_true rfl⟩ (Rd.of hKx hZ hS) (hP.sub (ws' := []) [] rfl) rfl hl.1 rfl (Nat.le_of_ble_eq_true rfl) dX4_crowded_22 ⟨Nat.zero_le _, Nat.zero_le _⟩ ?_
      refine p0_eq hx hb (tgt := 33) dX4_crowded_25 (by decide) (fun c_25 => ?_) (fun c_25 => ?_)
      · skip
        refine lv_bipush (v := (-2)) hx hb dX4_crowded_33 (by decide) ?_
        exact e_ri hx hb hr hlk ((eCr_2 (by omega) (by omega)).symm) dX4_crowded_35
      · skip
        refine lv_iload_n hx hb dX4_crowded_28 rfl (lv_at hl 3 rfl) ?_
        refine lv_iload_n hx hb dX4_crowded_29 rfl (lv_at hl 2 rfl) ?_
        refine z_ge hx hb (tgt := 36) T F dX4_crowded_30 (by decide) hT1 hF1 (fun c_30 => ?_) (fun c_30 => ?_)
        · skip
          exact absurd c_30 (by omega)
        · skip
          refine lv_bipush (v := (-2)) hx hb dX4_crowded_33 (by decide) ?_
          exact e_ri hx hb hr hlk ((eCr_2 (by omega) (by omega)).symm) dX4_crowded_35
    · skip
      refine lv_iconst (v := (-1)) hx hb dX4_crowded_14 (by decide) ?_
      exact e_ri hx hb hr hlk ((eCr_1 (by omega)).symm) dX4_crowded_15
set_option maxHeartbeats 4000000 in
set_option maxRecDepth 100000 in
theorem c_X4_crowded_k (l : Launch) (G : gT) (sz : Nat) (h : Nat) (an : Nat) (tr : Nat) (ah : Nat) (ch : Int32) (ak : Nat) (ai : Nat) (ap : Nat) (sy : Int32) (af : Nat) (sp : Int32) (r : Nat → Int32) (L0 : Nat) (f : Nat) (t : Nat) (hB : Br r) (hL : 1 ≤ L0 ∧ L0 ≤ 16) (hft : f ≤ t) (ht : t < 3650) : Rw l G yX4_crowded cX4_crowded 10 (some .int) 8 sz [(h, .inr (4, [.ref an, .ref tr, .ref ah, .int ch, .ref ak, .ref ai, .ref ap, .int sy, .ref af, .int sp])), (af, .inl (gI G, 121, .inl (fun q9 => nI (fdy q9)))), (an, .inl (gI G, 2175, .inl r))] [.ref h, .int (nI L0), .int (nI f), .int (nI t)] (nI (ctc r ((L0 : Nat) : Int) f t (mot f) (mot t + 1 - mot f))) [(h, .inr (4, [.ref an, .ref tr, .ref ah, .int ch, .ref ak, .ref ai, .ref ap, .int sy, .ref af, .int sp])), (af, .inl (gI G, 121, .inl (fun q9 => nI (fdy q9)))), (an, .inl (gI G, 2175, .inl (lkk r (mot f) (mot t + 1 - mot f))))] := by
  refine Rw.mk (by decide) (Nat.le_of_ble_eq_true rfl) (fun pq eq sq mq bq tq cq ls A hr hlk hF hKx hZ hA hP hD hS hl => ?_)
  have hx := hF.1
  have hb := hF.2.1
  have hml := hF.2.2.1
  have hown : sq.vm.findClass RX4 = some mq.cls := hF.2.2.2.1
  have hts : ∀ w ∈ GW, w.before _ sq = true := hF.2.2.2.2
  have hK := hKx.1
  have hl : lv_has ls 10 [(0, .ref h), (1, .int (nI L0)), (2, .int (nI f)), (3, .int (nI t))] := hl
  have hP : va_P G.1 vwCl [(h, .inr (4, [.ref an, .ref tr, .ref ah, .int ch, .ref ak, .ref ai, .ref ap, .int sy, .ref af, .int sp])), (af, .inl (gI G, 121, .inl (fun q9 => nI (fdy q9)))), (an, .inl (gI G, 2175, .inl r))] sq.heap := hP
  have hD : va_D A [(h, .inr (4, [.ref an, .ref tr, .ref ah, .int ch, .ref ak, .ref ai, .ref ap, .int sy, .ref af, .int sp])), (af, .inl (gI G, 121, .inl (fun q9 => nI (fdy q9)))), (an, .inl (gI G, 2175, .inl r))] := hD
  have hmf := mot_mono ht hft
  have hmt := mot_row ht
  have hf : f < 3650 := by omega
  refine lv_iload_n hx hb dX4_crowded_0 rfl (lv_at hl 2 rfl) ?_
  refine k_roS (As := [.int (nI f)]) (rest := []) hF (c_X4_isDay l G (nI f) ((f : Nat) : Int) (toI (by omega))) mw_3_171 mw_3_172 mw_1_5 mw_3_173 hd_X4_isDay ⟨Nat.le_of_ble_eq_true rfl, Nat.le_of_ble_eq_true rfl⟩ (Rd.of hKx hZ hS) (hP.sub (ws' := []) [] rfl) rfl hl.1 rfl (Nat.le_of_ble_eq_true rfl) dX4_crowded_1 ⟨Nat.zero_le _, Nat.zero_le _⟩ ?_
  refine p0_eq hx hb (tgt := 14) dX4_crowded_4 (by decide) (fun c_4 => ?_) (fun c_4 => ?_)
  · skip
    exact absurd c_4 (by omega)
  · skip
    refine lv_iload_n hx hb dX4_crowded_7 rfl (lv_at hl 3 rfl) ?_
    refine k_roS (As := [.int (nI t)]) (rest := []) hF (c_X4_isDay l G (nI t) ((t : Nat) : Int) (toI (by omega))) mw_3_171 mw_3_172 mw_1_5 mw_3_173 hd_X4_isDay ⟨Nat.le_of_ble_eq_true rfl, Nat.le_of_ble_eq_true rfl⟩ (Rd.of hKx hZ hS) (hP.sub (ws' := []) [] rfl) rfl hl.1 rfl (Nat.le_of_ble_eq_true rfl) dX4_crowded_8 ⟨Nat.zero_le _, Nat.zero_le _⟩ ?_
    refine p0_ne hx hb (tgt := 16) dX4_crowded_11 (by decide) (fun c_11 => ?_) (fun c_11 => ?_)
    · skip
      refine lv_iload_n hx hb dX4_crowded_16 rfl (lv_at hl 1 rfl) ?_
      refine lv_i2l (v := (nI L0).toInt64) hx hb dX4_crowded_17 rfl ?_
      refine lv_lconst (v := 1) hx hb dX4_crowded_18 (by decide) ?_
      refine lv_ldc2 (v := 16) hx hb hown (hts _ mw_3_228) dX4_crowded_19 ?_
      refine k_roS (As := [.long ((nI L0).toInt64), .long 1, .long 16]) (rest := []) hF (c_X4_in l G ((nI L0).toInt64) 1 16 ((L0 : Nat) : Int) 1 16 (l64 (toI (by omega))) (by decide) (by decide)) mw_3_91 mw_3_92 mw_1_5 mw_3_93 hd_X4_in ⟨Nat.le_of_ble_eq_true rfl, Nat.le_of_ble_eq_true rfl⟩ (Rd.of hKx hZ hS) (hP.sub (ws' := []) [] rfl) rfl hl.1 rfl (Nat.le_of_ble_eq_true rfl) dX4_crowded_22 ⟨Nat.zero_le _, Nat.zero_le _⟩ ?_
      refine p0_eq hx hb (tgt := 33) dX4_crowded_25 (by decide) (fun c_25 => ?_) (fun c_25 => ?_)
      · skip
        exact absurd c_25 (by omega)
      · skip
        refine lv_iload_n hx hb dX4_crowded_28 rfl (lv_at hl 3 rfl) ?_
        refine lv_iload_n hx hb dX4_crowded_29 rfl (lv_at hl 2 rfl) ?_
        refine z_ge hx hb (tgt := 36) ((t : Nat) : Int) ((f : Nat) : Int) dX4_crowded_30 (by decide) (toI (by omega)) (toI (by omega)) (fun c_30 => ?_) (fun c_30 => ?_)
        · skip
          refine lv_iconst (v := nI 0) hx hb dX4_crowded_36 (by decide) ?_
          refine lv_istore (lv' := [(4, .int (nI 0)), (0, .ref h), (1, .int (nI L0)), (2, .int (nI f)), (3, .int (nI t))]) hx hb dX4_crowded_37 hl (by decide) rfl (fun ls hl => ?_)
          refine lv_aload_n hx hb dX4_crowded_39 rfl (lv_at hl 1 rfl) ?_
          refine lv_iload_n hx hb dX4_crowded_40 rfl (lv_at hl 3 rfl) ?_
          refine k_roV (ci := 4) (q0 := 0) (As := [.int (nI f)]) (rest := []) hF (c_X4_monthOf l G h an tr ah ch ak ai ap sy af sp f (by omega)) hKx hP ⟨_, rfl, rfl⟩ rfl rfl mw_3_148 mw_3_150 mw_p1_11 mw_1_5 mw_3_151 hd_X4_monthOf ⟨Nat.le_of_ble_eq_true rfl, Nat.le_of_ble_eq_true rfl⟩ (Rd.of hKx hZ hS) (hP.sub (ws' := [(h, .inr (4, [.ref an, .ref tr, .ref ah, .int ch, .ref ak, .ref ai, .ref ap, .int sy, .ref af, .int sp])), (af, .inl (gI G, 121, .inl (fun q9 => nI (fdy q9))))]) [0, 1] rfl) rfl hl.1 rfl (Nat.le_of_ble_eq_true rfl) dX4_crowded_41 ⟨Nat.zero_le _, Nat.zero_le _⟩ ?_
          refine lv_istore (lv' := [(5, .int (nI (mot f))), (4, .int (nI 0)), (0, .ref h), (1, .int (nI L0)), (2, .int (nI f)), (3, .int (nI t))]) hx hb dX4_crowded_44 hl (by decide) rfl (fun ls hl => ?_)
          have hPj := hP.sub (ws' := [(h, .inr (4, [.ref an, .ref tr, .ref ah, .int ch, .ref ak, .ref ai, .ref ap, .int sy, .ref af, .int sp])), (af, .inl (gI G, 121, .inl (fun q9 => nI (fdy q9)))), (an, .inl (gI G, 2175, .inl r))]) [0, 1, 2] rfl
          have hDj := hD.sub (ws' := [(h, .inr (4, [.ref an, .ref tr, .ref ah, .int ch, .ref ak, .ref ai, .ref ap, .int sy, .ref af, .int sp])), (af, .inl (gI G, 121, .inl (fun q9 => nI (fdy q9)))), (an, .inl (gI G, 2175, .inl r))]) [0, 1, 2] (by decide) rfl
          have hwj : ([(h, .inr (4, [.ref an, .ref tr, .ref ah, .int ch, .ref ak, .ref ai, .ref ap, .int sy, .ref af, .int sp])), (af, .inl (gI G, 121, .inl (fun q9 => nI (fdy q9)))), (an, .inl (gI G, 2175, .inl r))] : va_W) = [(h, .inr (4, [.ref an, .ref tr, .ref ah, .int ch, .ref ak, .ref ai, .ref ap, .int sy, .ref af, .int sp])), (af, .inl (gI G, 121, .inl (fun q9 => nI (fdy q9)))), (an, .inl (gI G, 2175, .inl (lkk r (mot f) 0)))] := (wlc (rfl) (wlc (rfl) (wlc (rfl) rfl)))
          rw [hwj] at hPj hDj
          refine wloopH [] (fun j H locs ls => (j ≤ mot t + 1 - mot f) ∧ va_P G.1 vwCl [(h, .inr (4, [.ref an, .ref tr, .ref ah, .int ch, .ref ak, .ref ai, .ref ap, .int sy, .ref af, .int sp])), (af, .inl (gI G, 121, .inl (fun q9 => nI (fdy q9)))), (an, .inl (gI G, 2175, .inl (lkk r (mot f) j)))] H ∧ va_D A [(h, .inr (4, [.ref an, .ref tr, .ref ah, .int ch, .ref ak, .ref ai, .ref ap, .int sy, .ref af, .int sp])), (af, .inl (gI G, 121, .inl (fun q9 => nI (fdy q9)))), (an, .inl (gI G, 2175, .inl (lkk r (mot f) j)))] ∧ va_S A sq.heap H locs ∧ lv_has ls 10 [(5, .int (nI (mot f + j))), (4, .int (nI (ctc r ((L0 : Nat) : Int) f t (mot f) j))), (0, .ref h), (1, .int (nI L0)), (2, .int (nI f)), (3, .int (nI t))]) (fun j => (mot t + 1 - mot f) - j) ?_ 0 ⟨(by omega), hPj, hDj, hS, lv_sub hl [0, 1, 2, 3, 4, 5] (lvc (by first | rfl | exact congrArg nI (by omega)) (lvc (by first | rfl | exact congrArg nI (by omega)) (lvr (lvr (lvr (lvr rfl))))))⟩
          intro j ihj
          intro H locs ls ⟨hj, hP, hD, hS, hl⟩
          refine lv_iload hx hb dX4_crowded_46 (lv_at hl 0 rfl) ?_
          refine lv_aload_n hx hb dX4_crowded_48 rfl (lv_at hl 2 rfl) ?_
          refine lv_iload_n hx hb dX4_crowded_49 rfl (lv_at hl 5 rfl) ?_
          refine k_roV (ci := 4) (q0 := 0) (As := [.int (nI t)]) (rest := [.int (nI (mot f + j))]) hF (c_X4_monthOf l G h an tr ah ch ak ai ap sy af sp t (by omega)) hKx hP ⟨_, rfl, rfl⟩ rfl rfl mw_3_148 mw_3_150 mw_p1_11 mw_1_5 mw_3_151 hd_X4_monthOf ⟨Nat.le_of_ble_eq_true rfl, Nat.le_of_ble_eq_true rfl⟩ (Rd.of hKx hZ hS) (hP.sub (ws' := [(h, .inr (4, [.ref an, .ref tr, .ref ah, .int ch, .ref ak, .ref ai, .ref ap, .int sy, .ref af, .int sp])), (af, .inl (gI G, 121, .inl (fun q9 => nI (fdy q9))))]) [0, 1] rfl) rfl hl.1 rfl (Nat.le_of_ble_eq_true rfl) dX4_crowded_50 ⟨Nat.zero_le _, Nat.zero_le _⟩ ?_
          refine z_gt hx hb (tgt := 170) ((mot f + j : Nat) : Int) ((mot t : Nat) : Int) dX4_crowded_53 (by decide) (toI (by omega)) (toI (by omega)) (fun c_53 => ?_) (fun c_53 => ?_)
          · skip
            have hj2 : j = mot t + 1 - mot f := by omega
            subst hj2
            refine lv_iload hx hb dX4_crowded_170 (lv_at hl 1 rfl) ?_
            have hPj := hP.sub (ws' := [(h, .inr (4, [.ref an, .ref tr, .ref ah, .int ch, .ref ak, .ref ai, .ref ap, .int sy, .ref af, .int sp])), (af, .inl (gI G, 121, .inl (fun q9 => nI (fdy q9)))), (an, .inl (gI G, 2175, .inl (lkk r (mot f) (mot t + 1 - mot f))))]) [0, 1, 2] rfl
            exact e_wi hx hb hr hlk hPj hS (rfl) dX4_crowded_172
          · skip
            refine lv_aload_n hx hb dX4_crowded_56 rfl (lv_at hl 2 rfl) ?_
            refine lv_aload_n hx hb dX4_crowded_57 rfl (lv_at hl 2 rfl) ?_
            refine va_get (ci := 4) (v := .ref an) (C := RX4) (T := TX4) (N := 10) hx hb hts inGX4 hown hK hP 0 rfl rfl 0 (by decide) (hts _ mw_3_54) (fun _ h9 => h9) rfl dX4_crowded_58 ?_
            refine lv_iload hx hb dX4_crowded_61 (lv_at hl 0 rfl) ?_
            refine k_rvV (ci := 4) (q0 := 0) (As := [.ref an, .int (nI (mot f + j))]) (rest := []) (wr := []) hF (c_X4_look l G _ h an tr ah ch ak ai ap sy af sp an (lkk r (mot f) j) (mot f + j) (by omega) ((Br_lkk hB j (by omega)).b (by omega))) ⟨_, rfl, rfl⟩ rfl rfl mw_3_212 mw_3_214 mw_p2_3 mw_1_5 mw_3_215 hd_X4_look ⟨Nat.le_of_ble_eq_true rfl, Nat.le_of_ble_eq_true rfl⟩ hKx hZ hS hP hD hA [0, 1, 2] [] rfl rfl (by decide) (by decide) (by decide) rfl rfl hl.1 rfl (Nat.le_of_ble_eq_true rfl) dX4_crowded_63 ⟨Nat.zero_le _, Nat.zero_le _⟩ (fun H locs hP hD hS => ?_)
            have hP : va_P G.1 vwCl [(h, .inr (4, [.ref an, .ref tr, .ref ah, .int ch, .ref ak, .ref ai, .ref ap, .int sy, .ref af, .int sp])), (af, .inl (gI G, 121, .inl (fun q9 => nI (fdy q9)))), (an, .inl (gI G, 2175, .inl (lok (lkk r (mot f) j) (mot f + j))))] H := hP
            have hD : va_D A [(h, .inr (4, [.ref an, .ref tr, .ref ah, .int ch, .ref ak, .ref ai, .ref ap, .int sy, .ref af, .int sp])), (af, .inl (gI G, 121, .inl (fun q9 => nI (fdy q9)))), (an, .inl (gI G, 2175, .inl (lok (lkk r (mot f) j) (mot f + j))))] := hD
            have hw_1 : ([(h, .inr (4, [.ref an, .ref tr, .ref ah, .int ch, .ref ak, .ref ai, .ref ap, .int sy, .ref af, .int sp])), (af, .inl (gI G, 121, .inl (fun q9 => nI (fdy q9)))), (an, .inl (gI G, 2175, .inl (lok (lkk r (mot f) j) (mot f + j))))] : va_W) = [(h, .inr (4, [.ref an, .ref tr, .ref ah, .int ch, .ref ak, .ref ai, .ref ap, .int sy, .ref af, .int sp])), (af, .inl (gI G, 121, .inl (fun q9 => nI (fdy q9)))), (an, .inl (gI G, 2175, .inl (lkk r (mot f) (j + 1))))] := (wlc rfl (wlc rfl (wlc (wli (rfl)) rfl)))
            rw [hw_1] at hP hD
            refine lv_aload_n hx hb dX4_crowded_66 rfl (lv_at hl 2 rfl) ?_
            refine lv_iload hx hb dX4_crowded_67 (lv_at hl 0 rfl) ?_
            refine lv_iload_n hx hb dX4_crowded_69 rfl (lv_at hl 4 rfl) ?_
            refine lv_iload_n hx hb dX4_crowded_70 rfl (lv_at hl 5 rfl) ?_
            refine k_roV (ci := 4) (q0 := 0) (As := [.int (nI (mot f + j)), .int (nI f), .int (nI t)]) (rest := []) hF (c_X4_meant l G h an tr ah ch ak ai ap sy af sp (mot f + j) f t (by omega) (by omega) (by omega)) hKx hP ⟨_, rfl, rfl⟩ rfl rfl mw_3_179 mw_3_181 mw_p1_15 mw_1_5 mw_3_182 hd_X4_meant ⟨Nat.le_of_ble_eq_true rfl, Nat.le_of_ble_eq_true rfl⟩ (Rd.of hKx hZ hS) (hP.sub (ws' := [(h, .inr (4, [.ref an, .ref tr, .ref ah, .int ch, .ref ak, .ref ai, .ref ap, .int sy, .ref af, .int sp])), (af, .inl (gI G, 121, .inl (fun q9 => nI (fdy q9))))]) [0, 1] rfl) rfl hl.1 rfl (Nat.le_of_ble_eq_true rfl) dX4_crowded_71 ⟨Nat.zero_le _, Nat.zero_le _⟩ ?_
            refine lv_istore (lv' := [(6, .int (mnt (mot f + j) f t)), (5, .int (nI (mot f + j))), (4, .int (nI (ctc r ((L0 : Nat) : Int) f t (mot f) j))), (0, .ref h), (1, .int (nI L0)), (2, .int (nI f)), (3, .int (nI t))]) hx hb dX4_crowded_74 hl (by decide) rfl (fun ls hl => ?_)
            refine lv_iconst (v := nI 0) hx hb dX4_crowded_76 (by decide) ?_
            refine lv_istore (lv' := [(7, .int (nI 0)), (6, .int (mnt (mot f + j) f t)), (5, .int (nI (mot f + j))), (4, .int (nI (ctc r ((L0 : Nat) : Int) f t (mot f) j))), (0, .ref h), (1, .int (nI L0)), (2, .int (nI f)), (3, .int (nI t))]) hx hb dX4_crowded_77 hl (by decide) rfl (fun ls hl => ?_)
            have hPj := hP.sub (ws' := [(h, .inr (4, [.ref an, .ref tr, .ref ah, .int ch, .ref ak, .ref ai, .ref ap, .int sy, .ref af, .int sp])), (af, .inl (gI G, 121, .inl (fun q9 => nI (fdy q9)))), (an, .inl (gI G, 2175, .inl (lkk r (mot f) (j + 1))))]) [0, 1, 2] rfl
            have hDj := hD.sub (ws' := [(h, .inr (4, [.ref an, .ref tr, .ref ah, .int ch, .ref ak, .ref ai, .ref ap, .int sy, .ref af, .int sp])), (af, .inl (gI G, 121, .inl (fun q9 => nI (fdy q9)))), (an, .inl (gI G, 2175, .inl (lkk r (mot f) (j + 1))))]) [0, 1, 2] (by decide) rfl
            refine wloopH [] (fun k H locs ls => (k ≤ dys (mot f + j)) ∧ va_P G.1 vwCl [(h, .inr (4, [.ref an, .ref tr, .ref ah, .int ch, .ref ak, .ref ai, .ref ap, .int sy, .ref af, .int sp])), (af, .inl (gI G, 121, .inl (fun q9 => nI (fdy q9)))), (an, .inl (gI G, 2175, .inl (lkk r (mot f) (j + 1))))] H ∧ va_D A [(h, .inr (4, [.ref an, .ref tr, .ref ah, .int ch, .ref ak, .ref ai, .ref ap, .int sy, .ref af, .int sp])), (af, .inl (gI G, 121, .inl (fun q9 => nI (fdy q9)))), (an, .inl (gI G, 2175, .inl (lkk r (mot f) (j + 1))))] ∧ va_S A sq.heap H locs ∧ lv_has ls 10 [(7, .int (nI k)), (6, .int (mnt (mot f + j) f t)), (5, .int (nI (mot f + j))), (4, .int (nI (ctc r ((L0 : Nat) : Int) f t (mot f) j + cdk r ((L0 : Nat) : Int) (mot f + j) f t k))), (0, .ref h), (1, .int (nI L0)), (2, .int (nI f)), (3, .int (nI t))]) (fun k => dys (mot f + j) - k) ?_ 0 ⟨(by omega), hPj, hDj, hS, lv_sub hl [0, 1, 2, 3, 4, 5, 6, 7] (lvr (lvr (lvr (lvc (by first | rfl | exact congrArg nI (by omega)) (lvr (lvr (lvr (lvr rfl))))))))⟩
            intro k ihk
            intro H locs ls ⟨hk, hP, hD, hS, hl⟩
            have hdy := dys_in (mot f + j)
            refine lv_iload hx hb dX4_crowded_79 (lv_at hl 0 rfl) ?_
            refine lv_aload_n hx hb dX4_crowded_81 rfl (lv_at hl 4 rfl) ?_
            refine lv_iload hx hb dX4_crowded_82 (lv_at hl 2 rfl) ?_
            refine k_roV (ci := 4) (q0 := 0) (As := [.int (nI (mot f + j))]) (rest := [.int (nI k)]) hF (c_X4_daysOf l G h an tr ah ch ak ai ap sy af sp (mot f + j) (by omega)) hKx hP ⟨_, rfl, rfl⟩ rfl rfl mw_3_183 mw_3_185 mw_p2_0 mw_1_5 mw_3_186 hd_X4_daysOf ⟨Nat.le_of_ble_eq_true rfl, Nat.le_of_ble_eq_true rfl⟩ (Rd.of hKx hZ hS) (hP.sub (ws' := [(h, .inr (4, [.ref an, .ref tr, .ref ah, .int ch, .ref ak, .ref ai, .ref ap, .int sy, .ref af, .int sp])), (af, .inl (gI G, 121, .inl (fun q9 => nI (fdy q9))))]) [0, 1] rfl) rfl hl.1 rfl (Nat.le_of_ble_eq_true rfl) dX4_crowded_84 ⟨Nat.zero_le _, Nat.zero_le _⟩ ?_
            refine z_ge hx hb (tgt := 164) ((k : Nat) : Int) ((dys (mot f + j) : Nat) : Int) dX4_crowded_87 (by decide) (toI (by omega)) (toI (by omega)) (fun c_87 => ?_) (fun c_87 => ?_)
            · skip
              refine lv_iinc (v := nI (mot f + j + 1)) (lv' := [(5, .int (nI (mot f + j + 1))), (7, .int (nI k)), (6, .int (mnt (mot f + j) f t)), (4, .int (nI (ctc r ((L0 : Nat) : Int) f t (mot f) j + cdk r ((L0 : Nat) : Int) (mot f + j) f t k))), (0, .ref h), (1, .int (nI L0)), (2, .int (nI f)), (3, .int (nI t))]) hx hb dX4_crowded_164 hl (k := 2) rfl (nI_add _ _) (by decide) rfl (fun ls hl => ?_)
              refine lv_goto (tgt := 46) hx hb dX4_crowded_167 (by decide) ?_
              exact ihj (j + 1) _ _ ls (by omega) ⟨(by omega), (hP.sub (ws' := [(h, .inr (4, [.ref an, .ref tr, .ref ah, .int ch, .ref ak, .ref ai, .ref ap, .int sy, .ref af, .int sp])), (af, .inl (gI G, 121, .inl (fun q9 => nI (fdy q9)))), (an, .inl (gI G, 2175, .inl (lkk r (mot f) (j + 1))))]) [0, 1, 2] rfl), (hD.sub (ws' := [(h, .inr (4, [.ref an, .ref tr, .ref ah, .int ch, .ref ak, .ref ai, .ref ap, .int sy, .ref af, .int sp])), (af, .inl (gI G, 121, .inl (fun q9 => nI (fdy q9)))), (an, .inl (gI G, 2175, .inl (lkk r (mot f) (j + 1))))]) [0, 1, 2] (by decide) rfl), hS, lv_sub hl [0, 3, 4, 5, 6, 7] (lvc (by first | rfl | exact congrArg nI (by omega)) (lvc (by rw [show k = dys (mot f + j) by omega]; rfl) (lvr (lvr (lvr (lvr rfl))))))⟩
            · skip
              refine lv_iconst (v := nI 0) hx hb dX4_crowded_90 (by decide) ?_
              refine lv_istore (lv' := [(8, .int (nI 0)), (7, .int (nI k)), (6, .int (mnt (mot f + j) f t)), (5, .int (nI (mot f + j))), (4, .int (nI (ctc r ((L0 : Nat) : Int) f t (mot f) j + cdk r ((L0 : Nat) : Int) (mot f + j) f t k))), (0, .ref h), (1, .int (nI L0)), (2, .int (nI f)), (3, .int (nI t))]) hx hb dX4_crowded_91 hl (by decide) rfl (fun ls hl => ?_)
              refine lv_iconst (v := nI 0) hx hb dX4_crowded_93 (by decide) ?_
              refine lv_istore (lv' := [(9, .int (nI 0)), (8, .int (nI 0)), (7, .int (nI k)), (6, .int (mnt (mot f + j) f t)), (5, .int (nI (mot f + j))), (4, .int (nI (ctc r ((L0 : Nat) : Int) f t (mot f) j + cdk r ((L0 : Nat) : Int) (mot f + j) f t k))), (0, .ref h), (1, .int (nI L0)), (2, .int (nI f)), (3, .int (nI t))]) hx hb dX4_crowded_94 hl (by decide) rfl (fun ls hl => ?_)
              have hPj := hP.sub (ws' := [(h, .inr (4, [.ref an, .ref tr, .ref ah, .int ch, .ref ak, .ref ai, .ref ap, .int sy, .ref af, .int sp])), (af, .inl (gI G, 121, .inl (fun q9 => nI (fdy q9)))), (an, .inl (gI G, 2175, .inl (lkk r (mot f) (j + 1))))]) [0, 1, 2] rfl
              have hDj := hD.sub (ws' := [(h, .inr (4, [.ref an, .ref tr, .ref ah, .int ch, .ref ak, .ref ai, .ref ap, .int sy, .ref af, .int sp])), (af, .inl (gI G, 121, .inl (fun q9 => nI (fdy q9)))), (an, .inl (gI G, 2175, .inl (lkk r (mot f) (j + 1))))]) [0, 1, 2] (by decide) rfl
              refine wloopH [] (fun q H locs ls => (q ≤ 16) ∧ va_P G.1 vwCl [(h, .inr (4, [.ref an, .ref tr, .ref ah, .int ch, .ref ak, .ref ai, .ref ap, .int sy, .ref af, .int sp])), (af, .inl (gI G, 121, .inl (fun q9 => nI (fdy q9)))), (an, .inl (gI G, 2175, .inl (lkk r (mot f) (j + 1))))] H ∧ va_D A [(h, .inr (4, [.ref an, .ref tr, .ref ah, .int ch, .ref ak, .ref ai, .ref ap, .int sy, .ref af, .int sp])), (af, .inl (gI G, 121, .inl (fun q9 => nI (fdy q9)))), (an, .inl (gI G, 2175, .inl (lkk r (mot f) (j + 1))))] ∧ va_S A sq.heap H locs ∧ lv_has ls 10 [(9, .int (nI q)), (8, .int (nI (sbo r (mot f + j) k q))), (7, .int (nI k)), (6, .int (mnt (mot f + j) f t)), (5, .int (nI (mot f + j))), (4, .int (nI (ctc r ((L0 : Nat) : Int) f t (mot f) j + cdk r ((L0 : Nat) : Int) (mot f + j) f t k))), (0, .ref h), (1, .int (nI L0)), (2, .int (nI f)), (3, .int (nI t))]) (fun q => 16 - q) ?_ 0 ⟨(by omega), hPj, hDj, hS, lv_sub hl [0, 1, 2, 3, 4, 5, 6, 7, 8, 9] (lvr (lvc (by first | rfl | exact congrArg nI (by omega)) (lvr (lvr (lvr (lvr (lvr (lvr (lvr (lvr rfl))))))))))⟩
              intro q ihq
              intro H locs ls ⟨hq, hP, hD, hS, hl⟩
              refine lv_iload hx hb dX4_crowded_96 (lv_at hl 0 rfl) ?_
              refine lv_bipush (v := nI 16) hx hb dX4_crowded_98 (by decide) ?_
              refine z_ge hx hb (tgt := 131) ((q : Nat) : Int) 16 dX4_crowded_100 (by decide) (toI (by omega)) (by decide) (fun c_100 => ?_) (fun c_100 => ?_)
              · skip
                have hq2 : q = 16 := by omega
                subst hq2
                have hsb := sbo_le r (mot f + j) k 16
                have hbb := bn_le (mnt (mot f + j) f t) k
                refine lv_iload hx hb dX4_crowded_131 (lv_at hl 5 rfl) ?_
                refine lv_iload hx hb dX4_crowded_133 (lv_at hl 3 rfl) ?_
                refine lv_iload hx hb dX4_crowded_135 (lv_at hl 2 rfl) ?_
                refine lv_ishr hx hb dX4_crowded_137 ?_
                refine lv_iconst (v := nI 1) hx hb dX4_crowded_138 (by decide) ?_
                refine lv_iand hx hb dX4_crowded_139 ?_
                refine lv_cv (y := nI (bn (mnt (mot f + j) f t) k)) (b_sra (by omega)) ?_
                refine lv_iconst (v := nI 1) hx hb dX4_crowded_140 (by decide) ?_
                refine z_ne hx hb (tgt := 154) ((bn (mnt (mot f + j) f t) k : Nat) : Int) 1 dX4_crowded_141 (by decide) (toI (by omega)) (by decide) (fun c_141 => ?_) (fun c_141 => ?_)
                · skip
                  refine lv_iconst (v := nI 0) hx hb dX4_crowded_154 (by decide) ?_
                  refine n_iadd hx hb dX4_crowded_155 ?_
                  refine lv_istore (lv' := [(4, .int (nI (ctc r ((L0 : Nat) : Int) f t (mot f) j + cdk r ((L0 : Nat) : Int) (mot f + j) f t k + 0))), (9, .int (nI 16)), (8, .int (nI (sbo r (mot f + j) k 16))), (7, .int (nI k)), (6, .int (mnt (mot f + j) f t)), (5, .int (nI (mot f + j))), (0, .ref h), (1, .int (nI L0)), (2, .int (nI f)), (3, .int (nI t))]) hx hb dX4_crowded_156 hl (by decide) rfl (fun ls hl => ?_)
                  refine lv_iinc (v := nI (k + 1)) (lv' := [(7, .int (nI (k + 1))), (4, .int (nI (ctc r ((L0 : Nat) : Int) f t (mot f) j + cdk r ((L0 : Nat) : Int) (mot f + j) f t k + 0))), (9, .int (nI 16)), (8, .int (nI (sbo r (mot f + j) k 16))), (6, .int (mnt (mot f + j) f t)), (5, .int (nI (mot f + j))), (0, .ref h), (1, .int (nI L0)), (2, .int (nI f)), (3, .int (nI t))]) hx hb dX4_crowded_158 hl (k := 3) rfl (nI_add _ _) (by decide) rfl (fun ls hl => ?_)
                  refine lv_goto (tgt := 79) hx hb dX4_crowded_161 (by decide) ?_
                  exact ihk (k + 1) _ _ ls (by omega) ⟨(by omega), (hP.sub (ws' := [(h, .inr (4, [.ref an, .ref tr, .ref ah, .int ch, .ref ak, .ref ai, .ref ap, .int sy, .ref af, .int sp])), (af, .inl (gI G, 121, .inl (fun q9 => nI (fdy q9)))), (an, .inl (gI G, 2175, .inl (lkk r (mot f) (j + 1))))]) [0, 1, 2] rfl), (hD.sub (ws' := [(h, .inr (4, [.ref an, .ref tr, .ref ah, .int ch, .ref ak, .ref ai, .ref ap, .int sy, .ref af, .int sp])), (af, .inl (gI G, 121, .inl (fun q9 => nI (fdy q9)))), (an, .inl (gI G, 2175, .inl (lkk r (mot f) (j + 1))))]) [0, 1, 2] (by decide) rfl), hS, lv_sub hl [0, 4, 5, 1, 6, 7, 8, 9] (lvr (lvr (lvr (lvc (congrArg nI (by show _ = _ + (_ + _); first | rw [cI_t (by omega)]; omega | rw [cI_f (by omega)]; omega)) (lvr (lvr (lvr (lvr rfl))))))))⟩
                · skip
                  refine lv_iload hx hb dX4_crowded_144 (lv_at hl 1 rfl) ?_
                  refine lv_iload_n hx hb dX4_crowded_146 rfl (lv_at hl 7 rfl) ?_
                  refine z_lt hx hb (tgt := 154) ((sbo r (mot f + j) k 16 : Nat) : Int) ((L0 : Nat) : Int) dX4_crowded_147 (by decide) (toI (by omega)) (toI (by omega)) (fun c_147 => ?_) (fun c_147 => ?_)
                  · skip
                    refine lv_iconst (v := nI 0) hx hb dX4_crowded_154 (by decide) ?_
                    refine n_iadd hx hb dX4_crowded_155 ?_
                    refine lv_istore (lv' := [(4, .int (nI (ctc r ((L0 : Nat) : Int) f t (mot f) j + cdk r ((L0 : Nat) : Int) (mot f + j) f t k + 0))), (9, .int (nI 16)), (8, .int (nI (sbo r (mot f + j) k 16))), (7, .int (nI k)), (6, .int (mnt (mot f + j) f t)), (5, .int (nI (mot f + j))), (0, .ref h), (1, .int (nI L0)), (2, .int (nI f)), (3, .int (nI t))]) hx hb dX4_crowded_156 hl (by decide) rfl (fun ls hl => ?_)
                    refine lv_iinc (v := nI (k + 1)) (lv' := [(7, .int (nI (k + 1))), (4, .int (nI (ctc r ((L0 : Nat) : Int) f t (mot f) j + cdk r ((L0 : Nat) : Int) (mot f + j) f t k + 0))), (9, .int (nI 16)), (8, .int (nI (sbo r (mot f + j) k 16))), (6, .int (mnt (mot f + j) f t)), (5, .int (nI (mot f + j))), (0, .ref h), (1, .int (nI L0)), (2, .int (nI f)), (3, .int (nI t))]) hx hb dX4_crowded_158 hl (k := 3) rfl (nI_add _ _) (by decide) rfl (fun ls hl => ?_)
                    refine lv_goto (tgt := 79) hx hb dX4_crowded_161 (by decide) ?_
                    exact ihk (k + 1) _ _ ls (by omega) ⟨(by omega), (hP.sub (ws' := [(h, .inr (4, [.ref an, .ref tr, .ref ah, .int ch, .ref ak, .ref ai, .ref ap, .int sy, .ref af, .int sp])), (af, .inl (gI G, 121, .inl (fun q9 => nI (fdy q9)))), (an, .inl (gI G, 2175, .inl (lkk r (mot f) (j + 1))))]) [0, 1, 2] rfl), (hD.sub (ws' := [(h, .inr (4, [.ref an, .ref tr, .ref ah, .int ch, .ref ak, .ref ai, .ref ap, .int sy, .ref af, .int sp])), (af, .inl (gI G, 121, .inl (fun q9 => nI (fdy q9)))), (an, .inl (gI G, 2175, .inl (lkk r (mot f) (j + 1))))]) [0, 1, 2] (by decide) rfl), hS, lv_sub hl [0, 4, 5, 1, 6, 7, 8, 9] (lvr (lvr (lvr (lvc (congrArg nI (by show _ = _ + (_ + _); first | rw [cI_t (by omega)]; omega | rw [cI_f (by omega)]; omega)) (lvr (lvr (lvr (lvr rfl))))))))⟩
                  · skip
                    refine lv_iconst (v := nI 1) hx hb dX4_crowded_150 (by decide) ?_
                    refine lv_goto (tgt := 155) hx hb dX4_crowded_151 (by decide) ?_
                    refine n_iadd hx hb dX4_crowded_155 ?_
                    refine lv_istore (lv' := [(4, .int (nI (ctc r ((L0 : Nat) : Int) f t (mot f) j + cdk r ((L0 : Nat) : Int) (mot f + j) f t k + 1))), (9, .int (nI 16)), (8, .int (nI (sbo r (mot f + j) k 16))), (7, .int (nI k)), (6, .int (mnt (mot f + j) f t)), (5, .int (nI (mot f + j))), (0, .ref h), (1, .int (nI L0)), (2, .int (nI f)), (3, .int (nI t))]) hx hb dX4_crowded_156 hl (by decide) rfl (fun ls hl => ?_)
                    refine lv_iinc (v := nI (k + 1)) (lv' := [(7, .int (nI (k + 1))), (4, .int (nI (ctc r ((L0 : Nat) : Int) f t (mot f) j + cdk r ((L0 : Nat) : Int) (mot f + j) f t k + 1))), (9, .int (nI 16)), (8, .int (nI (sbo r (mot f + j) k 16))), (6, .int (mnt (mot f + j) f t)), (5, .int (nI (mot f + j))), (0, .ref h), (1, .int (nI L0)), (2, .int (nI f)), (3, .int (nI t))]) hx hb dX4_crowded_158 hl (k := 3) rfl (nI_add _ _) (by decide) rfl (fun ls hl => ?_)
                    refine lv_goto (tgt := 79) hx hb dX4_crowded_161 (by decide) ?_
                    exact ihk (k + 1) _ _ ls (by omega) ⟨(by omega), (hP.sub (ws' := [(h, .inr (4, [.ref an, .ref tr, .ref ah, .int ch, .ref ak, .ref ai, .ref ap, .int sy, .ref af, .int sp])), (af, .inl (gI G, 121, .inl (fun q9 => nI (fdy q9)))), (an, .inl (gI G, 2175, .inl (lkk r (mot f) (j + 1))))]) [0, 1, 2] rfl), (hD.sub (ws' := [(h, .inr (4, [.ref an, .ref tr, .ref ah, .int ch, .ref ak, .ref ai, .ref ap, .int sy, .ref af, .int sp])), (af, .inl (gI G, 121, .inl (fun q9 => nI (fdy q9)))), (an, .inl (gI G, 2175, .inl (lkk r (mot f) (j + 1))))]) [0, 1, 2] (by decide) rfl), hS, lv_sub hl [0, 4, 5, 1, 6, 7, 8, 9] (lvr (lvr (lvr (lvc (congrArg nI (by show _ = _ + (_ + _); first | rw [cI_t (by omega)]; omega | rw [cI_f (by omega)]; omega)) (lvr (lvr (lvr (lvr rfl))))))))⟩
              · skip
                refine lv_iload hx hb dX4_crowded_103 (lv_at hl 1 rfl) ?_
                refine lv_aload_n hx hb dX4_crowded_105 rfl (lv_at hl 6 rfl) ?_
                refine va_get (ci := 4) (v := .ref an) (C := RX4) (T := TX4) (N := 10) hx hb hts inGX4 hown hK hP 0 rfl rfl 0 (by decide) (hts _ mw_3_54) (fun _ h9 => h9) rfl dX4_crowded_106 ?_
                refine lv_iload hx hb dX4_crowded_109 (lv_at hl 4 rfl) ?_
                refine lv_iload hx hb dX4_crowded_111 (lv_at hl 0 rfl) ?_
                refine k_roS (As := [.int (nI (mot f + j)), .int (nI q)]) (rest := [.ref an, .int (nI (sbo r (mot f + j) k q))]) hF (c_X4_at l G (mot f + j) q) mw_3_117 mw_3_118 mw_1_5 mw_3_119 hd_X4_at ⟨Nat.le_of_ble_eq_true rfl, Nat.le_of_ble_eq_true rfl⟩ (Rd.of hKx hZ hS) (hP.sub (ws' := []) [] rfl) rfl hl.1 rfl (Nat.le_of_ble_eq_true rfl) dX4_crowded_113 ⟨Nat.zero_le _, Nat.zero_le _⟩ ?_
                refine n_iald hx hb hK hP 2 0 rfl rfl (by omega) (by omega) dX4_crowded_116 ?_
                refine lv_cv (y := r (255 + 16 * (mot f + j) + q)) (by rw [Nat.add_assoc 255]; exact lkk_mk hB (j + 1) (by omega)) ?_
                refine lv_iload hx hb dX4_crowded_117 (lv_at hl 2 rfl) ?_
                refine lv_ishr hx hb dX4_crowded_119 ?_
                refine lv_iconst (v := nI 1) hx hb dX4_crowded_120 (by decide) ?_
                refine lv_iand hx hb dX4_crowded_121 ?_
                refine lv_cv (y := nI (bn (r (255 + 16 * (mot f + j) + q)) k)) (b_sra (by omega)) ?_
                refine n_iadd hx hb dX4_crowded_122 ?_
                refine lv_istore (lv' := [(8, .int (nI (sbo r (mot f + j) k q + bn (r (255 + 16 * (mot f + j) + q)) k))), (9, .int (nI q)), (7, .int (nI k)), (6, .int (mnt (mot f + j) f t)), (5, .int (nI (mot f + j))), (4, .int (nI (ctc r ((L0 : Nat) : Int) f t (mot f) j + cdk r ((L0 : Nat) : Int) (mot f + j) f t k))), (0, .ref h), (1, .int (nI L0)), (2, .int (nI f)), (3, .int (nI t))]) hx hb dX4_crowded_123 hl (by decide) rfl (fun ls hl => ?_)
                refine lv_iinc (v := nI (q + 1)) (lv' := [(9, .int (nI (q + 1))), (8, .int (nI (sbo r (mot f + j) k q + bn (r (255 + 16 * (mot f + j) + q)) k))), (7, .int (nI k)), (6, .int (mnt (mot f + j) f t)), (5, .int (nI (mot f + j))), (4, .int (nI (ctc r ((L0 : Nat) : Int) f t (mot f) j + cdk r ((L0 : Nat) : Int) (mot f + j) f t k))), (0, .ref h), (1, .int (nI L0)), (2, .int (nI f)), (3, .int (nI t))]) hx hb dX4_crowded_125 hl (k := 1) rfl (nI_add _ _) (by decide) rfl (fun ls hl => ?_)
                refine lv_goto (tgt := 96) hx hb dX4_crowded_128 (by decide) ?_
                exact ihq (q + 1) _ _ ls (by omega) ⟨(by omega), (hP.sub (ws' := [(h, .inr (4, [.ref an, .ref tr, .ref ah, .int ch, .ref ak, .ref ai, .ref ap, .int sy, .ref af, .int sp])), (af, .inl (gI G, 121, .inl (fun q9 => nI (fdy q9)))), (an, .inl (gI G, 2175, .inl (lkk r (mot f) (j + 1))))]) [0, 1, 2] rfl), (hD.sub (ws' := [(h, .inr (4, [.ref an, .ref tr, .ref ah, .int ch, .ref ak, .ref ai, .ref ap, .int sy, .ref af, .int sp])), (af, .inl (gI G, 121, .inl (fun q9 => nI (fdy q9)))), (an, .inl (gI G, 2175, .inl (lkk r (mot f) (j + 1))))]) [0, 1, 2] (by decide) rfl), hS, lv_sub hl [0, 1, 2, 3, 4, 5, 6, 7, 8, 9] (lvr (lvc (by first | rfl | exact congrArg nI (by omega)) (lvr (lvr (lvr (lvr (lvr (lvr (lvr (lvr rfl))))))))))⟩
        · skip
          exact absurd c_30 (by omega)
    · skip
      exact absurd c_11 (by omega)
