theorem hd_X4_longest : hdY yX4_longest 4 := ⟨by decide +kernel, by decide +kernel, by decide +kernel⟩
theorem hd_X4_nextMark : hdY yX4_nextMark 2 := ⟨by decide +kernel, by decide +kernel, by decide +kernel⟩
theorem hd_X4_subjectsIn : hdY yX4_subjectsIn 2 := ⟨by decide +kernel, by decide +kernel, by decide +kernel⟩
theorem hd_X4_ofMonth : hdY yX4_ofMonth 2 := ⟨by decide +kernel, by decide +kernel, by decide +kernel⟩
theorem hd_X4_inMonth : hdY yX4_inMonth 2 := ⟨by decide +kernel, by decide +kernel, by decide +kernel⟩
theorem hd_X4_dayOf : hdY yX4_dayOf 3 := ⟨by decide +kernel, by decide +kernel, by decide +kernel⟩
theorem hd_X4_dateOf : hdY yX4_dateOf 2 := ⟨by decide +kernel, by decide +kernel, by decide +kernel⟩
theorem hd_X4_count : hdY yX4_count 1 := ⟨by decide +kernel, by decide +kernel, by decide +kernel⟩
theorem hd_X4_sizeAs : hdY yX4_sizeAs 2 := ⟨by decide +kernel, by decide +kernel, by decide +kernel⟩
set_option maxHeartbeats 4000000 in
set_option maxRecDepth 100000 in
theorem c_X4_longest_k (l : Launch) (G : gT) (sz : Nat) (h : Nat) (an : Nat) (tr : Nat) (ah : Nat) (ch : Int32) (ak : Nat) (ai : Nat) (ap : Nat) (sy : Int32) (af : Nat) (sp : Int32) (r : Nat → Int32) (s : Nat) (f : Nat) (t : Nat) (w : Nat) (hB : Br r) (hs : s < 16) (hft : f ≤ t) (ht : t < 3650) (hw : w ≤ 1) : Rw l G yX4_longest cX4_longest 11 (some .int) 8 sz [(h, .inr (4, [.ref an, .ref tr, .ref ah, .int ch, .ref ak, .ref ai, .ref ap, .int sy, .ref af, .int sp])), (af, .inl (gI G, 121, .inl (fun q9 => nI (fdy q9)))), (an, .inl (gI G, 2175, .inl r))] [.ref h, .int (nI s), .int (nI f), .int (nI t), .int (nI w)] (lgs r s f t w) [(h, .inr (4, [.ref an, .ref tr, .ref ah, .int ch, .ref ak, .ref ai, .ref ap, .int sy, .ref af, .int sp])), (af, .inl (gI G, 121, .inl (fun q9 => nI (fdy q9)))), (an, .inl (gI G, 2175, .inl (lmk r s (mot f) (mot t + 1 - mot f))))] := by
  refine Rw.mk (by decide) (Nat.le_of_ble_eq_true rfl) (fun pq eq sq mq bq tq cq ls A hr hlk hF hKx hZ hA hP hD hS hl => ?_)
  have hx := hF.1
  have hb := hF.2.1
  have hml := hF.2.2.1
  have hown : sq.vm.findClass RX4 = some mq.cls := hF.2.2.2.1
  have hts : ∀ w ∈ GW, w.before _ sq = true := hF.2.2.2.2
  have hK := hKx.1
  have hl : lv_has ls 11 [(0, .ref h), (1, .int (nI s)), (2, .int (nI f)), (3, .int (nI t)), (4, .int (nI w))] := hl
  have hP : va_P G.1 vwCl [(h, .inr (4, [.ref an, .ref tr, .ref ah, .int ch, .ref ak, .ref ai, .ref ap, .int sy, .ref af, .int sp])), (af, .inl (gI G, 121, .inl (fun q9 => nI (fdy q9)))), (an, .inl (gI G, 2175, .inl r))] sq.heap := hP
  have hD : va_D A [(h, .inr (4, [.ref an, .ref tr, .ref ah, .int ch, .ref ak, .ref ai, .ref ap, .int sy, .ref af, .int sp])), (af, .inl (gI G, 121, .inl (fun q9 => nI (fdy q9)))), (an, .inl (gI G, 2175, .inl r))] := hD
  have hmf := mot_mono ht hft
  have hmt := mot_row ht
  have hf : f < 3650 := by omega
  have hff := mot_row hf
  have hf0 : fdy (mot f) - f = 0 := by omega
  refine lv_iload_n hx hb dX4_longest_0 rfl (lv_at hl 1 rfl) ?_
  refine k_roS (As := [.int (nI s)]) (rest := []) hF (c_X4_isSubject l G (nI s) ((s : Nat) : Int) (toI (by omega))) mw_3_164 mw_3_165 mw_1_5 mw_3_166 hd_X4_isSubject ⟨Nat.le_of_ble_eq_true rfl, Nat.le_of_ble_eq_true rfl⟩ (Rd.of hKx hZ hS) (hP.sub (ws' := []) [] rfl) rfl hl.1 rfl (Nat.le_of_ble_eq_true rfl) dX4_longest_1 ⟨Nat.zero_le _, Nat.zero_le _⟩ ?_
  refine p0_eq hx hb (tgt := 21) dX4_longest_4 (by decide) (fun c_4 => ?_) (fun c_4 => ?_)
  · skip
    exact absurd c_4 (by omega)
  · skip
    refine lv_iload_n hx hb dX4_longest_7 rfl (lv_at hl 2 rfl) ?_
    refine k_roS (As := [.int (nI f)]) (rest := []) hF (c_X4_isDay l G (nI f) ((f : Nat) : Int) (toI (by omega))) mw_3_171 mw_3_172 mw_1_5 mw_3_173 hd_X4_isDay ⟨Nat.le_of_ble_eq_true rfl, Nat.le_of_ble_eq_true rfl⟩ (Rd.of hKx hZ hS) (hP.sub (ws' := []) [] rfl) rfl hl.1 rfl (Nat.le_of_ble_eq_true rfl) dX4_longest_8 ⟨Nat.zero_le _, Nat.zero_le _⟩ ?_
    refine p0_eq hx hb (tgt := 21) dX4_longest_11 (by decide) (fun c_11 => ?_) (fun c_11 => ?_)
    · skip
      exact absurd c_11 (by omega)
    · skip
      refine lv_iload_n hx hb dX4_longest_14 rfl (lv_at hl 3 rfl) ?_
      refine k_roS (As := [.int (nI t)]) (rest := []) hF (c_X4_isDay l G (nI t) ((t : Nat) : Int) (toI (by omega))) mw_3_171 mw_3_172 mw_1_5 mw_3_173 hd_X4_isDay ⟨Nat.le_of_ble_eq_true rfl, Nat.le_of_ble_eq_true rfl⟩ (Rd.of hKx hZ hS) (hP.sub (ws' := []) [] rfl) rfl hl.1 rfl (Nat.le_of_ble_eq_true rfl) dX4_longest_15 ⟨Nat.zero_le _, Nat.zero_le _⟩ ?_
      refine p0_ne hx hb (tgt := 23) dX4_longest_18 (by decide) (fun c_18 => ?_) (fun c_18 => ?_)
      · skip
        refine lv_iload hx hb dX4_longest_23 (lv_at hl 4 rfl) ?_
        refine lv_i2l (v := (nI w).toInt64) hx hb dX4_longest_25 rfl ?_
        refine lv_lconst (v := 0) hx hb dX4_longest_26 (by decide) ?_
        refine lv_lconst (v := 1) hx hb dX4_longest_27 (by decide) ?_
        refine k_roS (As := [.long ((nI w).toInt64), .long 0, .long 1]) (rest := []) hF (c_X4_in l G ((nI w).toInt64) 0 1 ((w : Nat) : Int) 0 1 (l64 (toI (by omega))) (by decide) (by decide)) mw_3_91 mw_3_92 mw_1_5 mw_3_93 hd_X4_in ⟨Nat.le_of_ble_eq_true rfl, Nat.le_of_ble_eq_true rfl⟩ (Rd.of hKx hZ hS) (hP.sub (ws' := []) [] rfl) rfl hl.1 rfl (Nat.le_of_ble_eq_true rfl) dX4_longest_28 ⟨Nat.zero_le _, Nat.zero_le _⟩ ?_
        refine p0_eq hx hb (tgt := 39) dX4_longest_31 (by decide) (fun c_31 => ?_) (fun c_31 => ?_)
        · skip
          exact absurd c_31 (by omega)
        · skip
          refine lv_iload_n hx hb dX4_longest_34 rfl (lv_at hl 3 rfl) ?_
          refine lv_iload_n hx hb dX4_longest_35 rfl (lv_at hl 2 rfl) ?_
          refine z_ge hx hb (tgt := 42) ((t : Nat) : Int) ((f : Nat) : Int) dX4_longest_36 (by decide) (toI (by omega)) (toI (by omega)) (fun c_36 => ?_) (fun c_36 => ?_)
          · skip
            refine lv_iconst (v := nI 0) hx hb dX4_longest_42 (by decide) ?_
            refine lv_istore (lv' := [(5, .int (nI 0)), (0, .ref h), (1, .int (nI s)), (2, .int (nI f)), (3, .int (nI t)), (4, .int (nI w))]) hx hb dX4_longest_43 hl (by decide) rfl (fun ls hl => ?_)
            refine lv_bipush (v := (-6)) hx hb dX4_longest_45 (by decide) ?_
            refine lv_istore (lv' := [(6, .int (-6)), (5, .int (nI 0)), (0, .ref h), (1, .int (nI s)), (2, .int (nI f)), (3, .int (nI t)), (4, .int (nI w))]) hx hb dX4_longest_47 hl (by decide) rfl (fun ls hl => ?_)
            refine lv_iconst (v := nI 0) hx hb dX4_longest_49 (by decide) ?_
            refine lv_istore (lv' := [(7, .int (nI 0)), (6, .int (-6)), (5, .int (nI 0)), (0, .ref h), (1, .int (nI s)), (2, .int (nI f)), (3, .int (nI t)), (4, .int (nI w))]) hx hb dX4_longest_50 hl (by decide) rfl (fun ls hl => ?_)
            refine lv_aload_n hx hb dX4_longest_52 rfl (lv_at hl 3 rfl) ?_
            refine lv_iload_n hx hb dX4_longest_53 rfl (lv_at hl 5 rfl) ?_
            refine k_roV (ci := 4) (q0 := 0) (As := [.int (nI f)]) (rest := []) hF (c_X4_monthOf l G h an tr ah ch ak ai ap sy af sp f (by omega)) hKx hP ⟨_, rfl, rfl⟩ rfl rfl mw_3_148 mw_3_150 mw_p1_11 mw_1_5 mw_3_151 hd_X4_monthOf ⟨Nat.le_of_ble_eq_true rfl, Nat.le_of_ble_eq_true rfl⟩ (Rd.of hKx hZ hS) (hP.sub (ws' := [(h, .inr (4, [.ref an, .ref tr, .ref ah, .int ch, .ref ak, .ref ai, .ref ap, .int sy, .ref af, .int sp])), (af, .inl (gI G, 121, .inl (fun q9 => nI (fdy q9))))]) [0, 1] rfl) rfl hl.1 rfl (Nat.le_of_ble_eq_true rfl) dX4_longest_54 ⟨Nat.zero_le _, Nat.zero_le _⟩ ?_
            refine lv_istore (lv' := [(8, .int (nI (mot f))), (7, .int (nI 0)), (6, .int (-6)), (5, .int (nI 0)), (0, .ref h), (1, .int (nI s)), (2, .int (nI f)), (3, .int (nI t)), (4, .int (nI w))]) hx hb dX4_longest_57 hl (by decide) rfl (fun ls hl => ?_)
            have hPj := hP.sub (ws' := [(h, .inr (4, [.ref an, .ref tr, .ref ah, .int ch, .ref ak, .ref ai, .ref ap, .int sy, .ref af, .int sp])), (af, .inl (gI G, 121, .inl (fun q9 => nI (fdy q9)))), (an, .inl (gI G, 2175, .inl r))]) [0, 1, 2] rfl
            have hDj := hD.sub (ws' := [(h, .inr (4, [.ref an, .ref tr, .ref ah, .int ch, .ref ak, .ref ai, .ref ap, .int sy, .ref af, .int sp])), (af, .inl (gI G, 121, .inl (fun q9 => nI (fdy q9)))), (an, .inl (gI G, 2175, .inl r))]) [0, 1, 2] (by decide) rfl
            have hwj : ([(h, .inr (4, [.ref an, .ref tr, .ref ah, .int ch, .ref ak, .ref ai, .ref ap, .int sy, .ref af, .int sp])), (af, .inl (gI G, 121, .inl (fun q9 => nI (fdy q9)))), (an, .inl (gI G, 2175, .inl r))] : va_W) = [(h, .inr (4, [.ref an, .ref tr, .ref ah, .int ch, .ref ak, .ref ai, .ref ap, .int sy, .ref af, .int sp])), (af, .inl (gI G, 121, .inl (fun q9 => nI (fdy q9)))), (an, .inl (gI G, 2175, .inl (lmk r s (mot f) 0)))] := (wlc (rfl) (wlc (rfl) (wlc (rfl) rfl)))
            rw [hwj] at hPj hDj
            refine wloopH [] (fun j H locs ls => (j ≤ mot t + 1 - mot f) ∧ va_P G.1 vwCl [(h, .inr (4, [.ref an, .ref tr, .ref ah, .int ch, .ref ak, .ref ai, .ref ap, .int sy, .ref af, .int sp])), (af, .inl (gI G, 121, .inl (fun q9 => nI (fdy q9)))), (an, .inl (gI G, 2175, .inl (lmk r s (mot f) j)))] H ∧ va_D A [(h, .inr (4, [.ref an, .ref tr, .ref ah, .int ch, .ref ak, .ref ai, .ref ap, .int sy, .ref af, .int sp])), (af, .inl (gI G, 121, .inl (fun q9 => nI (fdy q9)))), (an, .inl (gI G, 2175, .inl (lmk r s (mot f) j)))] ∧ va_S A sq.heap H locs ∧ lv_has ls 11 [(8, .int (nI (mot f + j))), (7, .int (nI (lgr r s f t (fdy (mot f + j) - f)))), (6, .int (lgf r s f t (fdy (mot f + j) - f))), (5, .int (nI (lgb r s f t (fdy (mot f + j) - f)))), (0, .ref h), (1, .int (nI s)), (2, .int (nI f)), (3, .int (nI t)), (4, .int (nI w))]) (fun j => (mot t + 1 - mot f) - j) ?_ 0 ⟨(by omega), hPj, hDj, hS, lv_sub hl [0, 1, 2, 3, 4, 5, 6, 7, 8] (lvc (by first | rfl | exact congrArg nI (by omega)) (lvc (by rw [Nat.add_zero, hf0]; rfl) (lvc (by rw [Nat.add_zero, hf0]; rfl) (lvc (by rw [Nat.add_zero, hf0]; rfl) (lvr (lvr (lvr (lvr (lvr rfl)))))))))⟩
            intro j ihj
            intro H locs ls ⟨hj, hP, hD, hS, hl⟩
            refine lv_iload hx hb dX4_longest_59 (lv_at hl 0 rfl) ?_
            refine lv_aload_n hx hb dX4_longest_61 rfl (lv_at hl 4 rfl) ?_
            refine lv_iload_n hx hb dX4_longest_62 rfl (lv_at hl 7 rfl) ?_
            refine k_roV (ci := 4) (q0 := 0) (As := [.int (nI t)]) (rest := [.int (nI (mot f + j))]) hF (c_X4_monthOf l G h an tr ah ch ak ai ap sy af sp t (by omega)) hKx hP ⟨_, rfl, rfl⟩ rfl rfl mw_3_148 mw_3_150 mw_p1_11 mw_1_5 mw_3_151 hd_X4_monthOf ⟨Nat.le_of_ble_eq_true rfl, Nat.le_of_ble_eq_true rfl⟩ (Rd.of hKx hZ hS) (hP.sub (ws' := [(h, .inr (4, [.ref an, .ref tr, .ref ah, .int ch, .ref ak, .ref ai, .ref ap, .int sy, .ref af, .int sp])), (af, .inl (gI G, 121, .inl (fun q9 => nI (fdy q9))))]) [0, 1] rfl) rfl hl.1 rfl (Nat.le_of_ble_eq_true rfl) dX4_longest_63 ⟨Nat.zero_le _, Nat.zero_le _⟩ ?_
            refine z_gt hx hb (tgt := 207) ((mot f + j : Nat) : Int) ((mot t : Nat) : Int) dX4_longest_66 (by decide) (toI (by omega)) (toI (by omega)) (fun c_66 => ?_) (fun c_66 => ?_)
            · skip
              have hj2 : j = mot t + 1 - mot f := by omega
              subst hj2
              have hle := lg_end (r := r) (s := s) (f := f) (t := t) (fdy (mot f + (mot t + 1 - mot f)) - f) (by rw [show mot f + (mot t + 1 - mot f) = mot t + 1 by omega]; omega) hft
              refine lv_iload hx hb dX4_longest_207 (lv_at hl 8 rfl) ?_
              refine z0_ne hx hb (tgt := 217) ((w : Nat) : Int) dX4_longest_209 (by decide) (toI (by omega)) (fun c_209 => ?_) (fun c_209 => ?_)
              · skip
                refine lv_iload hx hb dX4_longest_217 (lv_at hl 2 rfl) ?_
                have hPj := hP.sub (ws' := [(h, .inr (4, [.ref an, .ref tr, .ref ah, .int ch, .ref ak, .ref ai, .ref ap, .int sy, .ref af, .int sp])), (af, .inl (gI G, 121, .inl (fun q9 => nI (fdy q9)))), (an, .inl (gI G, 2175, .inl (lmk r s (mot f) (mot t + 1 - mot f))))]) [0, 1, 2] rfl
                exact e_wi hx hb hr hlk hPj hS (by unfold lgs; first | (rw [if_pos (show w = 0 by omega), hle.1]; done) | (rw [if_neg (show ¬ w = 0 by omega), hle.2]; done)) dX4_longest_219
              · skip
                refine lv_iload hx hb dX4_longest_212 (lv_at hl 3 rfl) ?_
                refine lv_goto (tgt := 219) hx hb dX4_longest_214 (by decide) ?_
                have hPj := hP.sub (ws' := [(h, .inr (4, [.ref an, .ref tr, .ref ah, .int ch, .ref ak, .ref ai, .ref ap, .int sy, .ref af, .int sp])), (af, .inl (gI G, 121, .inl (fun q9 => nI (fdy q9)))), (an, .inl (gI G, 2175, .inl (lmk r s (mot f) (mot t + 1 - mot f))))]) [0, 1, 2] rfl
                exact e_wi hx hb hr hlk hPj hS (by unfold lgs; first | (rw [if_pos (show w = 0 by omega), hle.1]; done) | (rw [if_neg (show ¬ w = 0 by omega), hle.2]; done)) dX4_longest_219
            · skip
              refine wjoinH 93 [] (fun H locs ls => va_P G.1 vwCl [(h, .inr (4, [.ref an, .ref tr, .ref ah, .int ch, .ref ak, .ref ai, .ref ap, .int sy, .ref af, .int sp])), (af, .inl (gI G, 121, .inl (fun q9 => nI (fdy q9)))), (an, .inl (gI G, 2175, .inl (lmk r s (mot f) (j + 1))))] H ∧ va_D A [(h, .inr (4, [.ref an, .ref tr, .ref ah, .int ch, .ref ak, .ref ai, .ref ap, .int sy, .ref af, .int sp])), (af, .inl (gI G, 121, .inl (fun q9 => nI (fdy q9)))), (an, .inl (gI G, 2175, .inl (lmk r s (mot f) (j + 1))))] ∧ va_S A sq.heap H locs ∧ lv_has ls 11 [(8, .int (nI (mot f + j))), (7, .int (nI (lgr r s f t (fdy (mot f + j) - f)))), (6, .int (lgf r s f t (fdy (mot f + j) - f))), (5, .int (nI (lgb r s f t (fdy (mot f + j) - f)))), (0, .ref h), (1, .int (nI s)), (2, .int (nI f)), (3, .int (nI t)), (4, .int (nI w))]) ?_ (fun J93 => ?_)
              · skip
                intro H locs ls ⟨hP, hD, hS, hl⟩
                refine lv_aload_n hx hb dX4_longest_93 rfl (lv_at hl 4 rfl) ?_
                refine va_get (ci := 4) (v := .ref an) (C := RX4) (T := TX4) (N := 10) hx hb hts inGX4 hown hK hP 0 rfl rfl 0 (by decide) (hts _ mw_3_54) (fun _ h9 => h9) rfl dX4_longest_94 ?_
                refine lv_iload hx hb dX4_longest_97 (lv_at hl 0 rfl) ?_
                refine lv_iload_n hx hb dX4_longest_99 rfl (lv_at hl 5 rfl) ?_
                refine k_roS (As := [.int (nI (mot f + j)), .int (nI s)]) (rest := [.ref an]) hF (c_X4_at l G (mot f + j) s) mw_3_117 mw_3_118 mw_1_5 mw_3_119 hd_X4_at ⟨Nat.le_of_ble_eq_true rfl, Nat.le_of_ble_eq_true rfl⟩ (Rd.of hKx hZ hS) (hP.sub (ws' := []) [] rfl) rfl hl.1 rfl (Nat.le_of_ble_eq_true rfl) dX4_longest_100 ⟨Nat.zero_le _, Nat.zero_le _⟩ ?_
                refine n_iald hx hb hK hP 2 0 rfl rfl (by omega) (by omega) dX4_longest_103 ?_
                refine lv_cv (y := r (255 + 16 * (mot f + j) + s)) (by rw [Nat.add_assoc 255]; exact lmk_mk hB (j + 1) (by omega)) ?_
                refine lv_aload_n hx hb dX4_longest_104 rfl (lv_at hl 4 rfl) ?_
                refine lv_iload hx hb dX4_longest_105 (lv_at hl 0 rfl) ?_
                refine lv_iload_n hx hb dX4_longest_107 rfl (lv_at hl 6 rfl) ?_
                refine lv_iload_n hx hb dX4_longest_108 rfl (lv_at hl 7 rfl) ?_
                refine k_roV (ci := 4) (q0 := 0) (As := [.int (nI (mot f + j)), .int (nI f), .int (nI t)]) (rest := [.int (r (255 + 16 * (mot f + j) + s))]) hF (c_X4_meant l G h an tr ah ch ak ai ap sy af sp (mot f + j) f t (by omega) (by omega) (by omega)) hKx hP ⟨_, rfl, rfl⟩ rfl rfl mw_3_179 mw_3_181 mw_p1_15 mw_1_5 mw_3_182 hd_X4_meant ⟨Nat.le_of_ble_eq_true rfl, Nat.le_of_ble_eq_true rfl⟩ (Rd.of hKx hZ hS) (hP.sub (ws' := [(h, .inr (4, [.ref an, .ref tr, .ref ah, .int ch, .ref ak, .ref ai, .ref ap, .int sy, .ref af, .int sp])), (af, .inl (gI G, 121, .inl (fun q9 => nI (fdy q9))))]) [0, 1] rfl) rfl hl.1 rfl (Nat.le_of_ble_eq_true rfl) dX4_longest_109 ⟨Nat.zero_le _, Nat.zero_le _⟩ ?_
                refine lv_iand hx hb dX4_longest_112 ?_
                refine lv_istore (lv' := [(9, .int ((r (255 + 16 * (mot f + j) + s)) &&& (mnt (mot f + j) f t))), (8, .int (nI (mot f + j))), (7, .int (nI (lgr r s f t (fdy (mot f + j) - f)))), (6, .int (lgf r s f t (fdy (mot f + j) - f))), (5, .int (nI (lgb r s f t (fdy (mot f + j) - f)))), (0, .ref h), (1, .int (nI s)), (2, .int (nI f)), (3, .int (nI t)), (4, .int (nI w))]) hx hb dX4_longest_113 hl (by decide) rfl (fun ls hl => ?_)
                refine lv_iconst (v := nI 0) hx hb dX4_longest_115 (by decide) ?_
                refine lv_istore (lv' := [(10, .int (nI 0)), (9, .int ((r (255 + 16 * (mot f + j) + s)) &&& (mnt (mot f + j) f t))), (8, .int (nI (mot f + j))), (7, .int (nI (lgr r s f t (fdy (mot f + j) - f)))), (6, .int (lgf r s f t (fdy (mot f + j) - f))), (5, .int (nI (lgb r s f t (fdy (mot f + j) - f)))), (0, .ref h), (1, .int (nI s)), (2, .int (nI f)), (3, .int (nI t)), (4, .int (nI w))]) hx hb dX4_longest_116 hl (by decide) rfl (fun ls hl => ?_)
                have hPj := hP.sub (ws' := [(h, .inr (4, [.ref an, .ref tr, .ref ah, .int ch, .ref ak, .ref ai, .ref ap, .int sy, .ref af, .int sp])), (af, .inl (gI G, 121, .inl (fun q9 => nI (fdy q9)))), (an, .inl (gI G, 2175, .inl (lmk r s (mot f) (j + 1))))]) [0, 1, 2] rfl
                have hDj := hD.sub (ws' := [(h, .inr (4, [.ref an, .ref tr, .ref ah, .int ch, .ref ak, .ref ai, .ref ap, .int sy, .ref af, .int sp])), (af, .inl (gI G, 121, .inl (fun q9 => nI (fdy q9)))), (an, .inl (gI G, 2175, .inl (lmk r s (mot f) (j + 1))))]) [0, 1, 2] (by decide) rfl
                refine wloopH [] (fun k H locs ls => (k ≤ dys (mot f + j)) ∧ va_P G.1 vwCl [(h, .inr (4, [.ref an, .ref tr, .ref ah, .int ch, .ref ak, .ref ai, .ref ap, .int sy, .ref af, .int sp])), (af, .inl (gI G, 121, .inl (fun q9 => nI (fdy q9)))), (an, .inl (gI G, 2175, .inl (lmk r s (mot f) (j + 1))))] H ∧ va_D A [(h, .inr (4, [.ref an, .ref tr, .ref ah, .int ch, .ref ak, .ref ai, .ref ap, .int sy, .ref af, .int sp])), (af, .inl (gI G, 121, .inl (fun q9 => nI (fdy q9)))), (an, .inl (gI G, 2175, .inl (lmk r s (mot f) (j + 1))))] ∧ va_S A sq.heap H locs ∧ lv_has ls 11 [(10, .int (nI k)), (9, .int (r (255 + 16 * (mot f + j) + s) &&& mnt (mot f + j) f t)), (8, .int (nI (mot f + j))), (7, .int (nI (lgr r s f t (fdy (mot f + j) + k - f)))), (6, .int (lgf r s f t (fdy (mot f + j) + k - f))), (5, .int (nI (lgb r s f t (fdy (mot f + j) + k - f)))), (0, .ref h), (1, .int (nI s)), (2, .int (nI f)), (3, .int (nI t)), (4, .int (nI w))]) (fun k => dys (mot f + j) - k) ?_ 0 ⟨(by omega), hPj, hDj, hS, lv_sub hl [0, 1, 2, 3, 4, 5, 6, 7, 8, 9, 10] rfl⟩
                intro k ihk
                intro H locs ls ⟨hk, hP, hD, hS, hl⟩
                have hdy := dys_in (mot f + j)
                have hfl := fdy_lt' (m := mot f + j) (by omega)
                refine lv_iload hx hb dX4_longest_118 (lv_at hl 0 rfl) ?_
                refine lv_aload_n hx hb dX4_longest_120 rfl (lv_at hl 6 rfl) ?_
                refine lv_iload hx hb dX4_longest_121 (lv_at hl 2 rfl) ?_
                refine k_roV (ci := 4) (q0 := 0) (As := [.int (nI (mot f + j))]) (rest := [.int (nI k)]) hF (c_X4_daysOf l G h an tr ah ch ak ai ap sy af sp (mot f + j) (by omega)) hKx hP ⟨_, rfl, rfl⟩ rfl rfl mw_3_183 mw_3_185 mw_p2_0 mw_1_5 mw_3_186 hd_X4_daysOf ⟨Nat.le_of_ble_eq_true rfl, Nat.le_of_ble_eq_true rfl⟩ (Rd.of hKx hZ hS) (hP.sub (ws' := [(h, .inr (4, [.ref an, .ref tr, .ref ah, .int ch, .ref ak, .ref ai, .ref ap, .int sy, .ref af, .int sp])), (af, .inl (gI G, 121, .inl (fun q9 => nI (fdy q9))))]) [0, 1] rfl) rfl hl.1 rfl (Nat.le_of_ble_eq_true rfl) dX4_longest_123 ⟨Nat.zero_le _, Nat.zero_le _⟩ ?_
                refine z_ge hx hb (tgt := 201) ((k : Nat) : Int) ((dys (mot f + j) : Nat) : Int) dX4_longest_126 (by decide) (toI (by omega)) (toI (by omega)) (fun c_126 => ?_) (fun c_126 => ?_)
                · skip
                  refine lv_iinc (v := nI (mot f + j + 1)) (lv' := [(8, .int (nI (mot f + j + 1))), (10, .int (nI k)), (9, .int (r (255 + 16 * (mot f + j) + s) &&& mnt (mot f + j) f t)), (7, .int (nI (lgr r s f t (fdy (mot f + j) + k - f)))), (6, .int (lgf r s f t (fdy (mot f + j) + k - f))), (5, .int (nI (lgb r s f t (fdy (mot f + j) + k - f)))), (0, .ref h), (1, .int (nI s)), (2, .int (nI f)), (3, .int (nI t)), (4, .int (nI w))]) hx hb dX4_longest_201 hl (k := 2) rfl (nI_add _ _) (by decide) rfl (fun ls hl => ?_)
                  refine lv_goto (tgt := 59) hx hb dX4_longest_204 (by decide) ?_
                  exact ihj (j + 1) _ _ ls (by omega) ⟨(by omega), (hP.sub (ws' := [(h, .inr (4, [.ref an, .ref tr, .ref ah, .int ch, .ref ak, .ref ai, .ref ap, .int sy, .ref af, .int sp])), (af, .inl (gI G, 121, .inl (fun q9 => nI (fdy q9)))), (an, .inl (gI G, 2175, .inl (lmk r s (mot f) (j + 1))))]) [0, 1, 2] rfl), (hD.sub (ws' := [(h, .inr (4, [.ref an, .ref tr, .ref ah, .int ch, .ref ak, .ref ai, .ref ap, .int sy, .ref af, .int sp])), (af, .inl (gI G, 121, .inl (fun q9 => nI (fdy q9)))), (an, .inl (gI G, 2175, .inl (lmk r s (mot f) (j + 1))))]) [0, 1, 2] (by decide) rfl), hS, lv_sub hl [0, 3, 4, 5, 6, 7, 8, 9, 10] (lvc (by first | rfl | exact congrArg nI (by omega)) (lvc (by rw [show fdy (mot f + j) + k - f = fdy (mot f + (j + 1)) - f by rw [← Nat.add_assoc, fdy_succ]; omega]) (lvc (by rw [show fdy (mot f + j) + k - f = fdy (mot f + (j + 1)) - f by rw [← Nat.add_assoc, fdy_succ]; omega]) (lvc (by rw [show fdy (mot f + j) + k - f = fdy (mot f + (j + 1)) - f by rw [← Nat.add_assoc, fdy_succ]; omega]) (lvr (lvr (lvr (lvr (lvr rfl)))))))))⟩
                · skip
                  have hst := lg_step (r := r) (s := s) (f := f) (t := t) (m := mot f + j) (k := k) (by omega) (by omega)
                  have hbn := bn_le (r (255 + 16 * (mot f + j) + s) &&& mnt (mot f + j) f t) k
                  have hlr := lgr_le r s f t (fdy (mot f + j) + k - f)
                  have hlr1 := lgr_le r s f t (fdy (mot f + j) + (k + 1) - f)
                  have hlb := lgb_le r s f t (fdy (mot f + j) + k - f)
                  refine lv_iload hx hb dX4_longest_129 (lv_at hl 1 rfl) ?_
                  refine lv_iload hx hb dX4_longest_131 (lv_at hl 0 rfl) ?_
                  refine lv_ishr hx hb dX4_longest_133 ?_
                  refine lv_iconst (v := nI 1) hx hb dX4_longest_134 (by decide) ?_
                  refine lv_iand hx hb dX4_longest_135 ?_
                  refine lv_cv (y := nI (bn (r (255 + 16 * (mot f + j) + s) &&& mnt (mot f + j) f t) k)) (b_sra (by omega)) ?_
                  refine lv_iconst (v := nI 1) hx hb dX4_longest_136 (by decide) ?_
                  refine z_ne hx hb (tgt := 147) ((bn (r (255 + 16 * (mot f + j) + s) &&& mnt (mot f + j) f t) k : Nat) : Int) 1 dX4_longest_137 (by decide) (toI (by omega)) (by decide) (fun c_137 => ?_) (fun c_137 => ?_)
                  · skip
                    refine lv_iconst (v := nI 0) hx hb dX4_longest_147 (by decide) ?_
                    refine lv_cv (y := nI (lgr r s f t (fdy (mot f + j) + (k + 1) - f))) (congrArg nI (hst.2.1 (by omega)).symm) ?_
                    refine lv_istore (lv' := [(7, .int (nI (lgr r s f t (fdy (mot f + j) + (k + 1) - f)))), (10, .int (nI k)), (9, .int (r (255 + 16 * (mot f + j) + s) &&& mnt (mot f + j) f t)), (8, .int (nI (mot f + j))), (6, .int (lgf r s f t (fdy (mot f + j) + k - f))), (5, .int (nI (lgb r s f t (fdy (mot f + j) + k - f)))), (0, .ref h), (1, .int (nI s)), (2, .int (nI f)), (3, .int (nI t)), (4, .int (nI w))]) hx hb dX4_longest_148 hl (by decide) rfl (fun ls hl => ?_)
                    refine lv_iload hx hb dX4_longest_150 (lv_at hl 0 rfl) ?_
                    refine lv_iload hx hb dX4_longest_152 (lv_at hl 5 rfl) ?_
                    refine z_le hx hb (tgt := 175) ((lgr r s f t (fdy (mot f + j) + (k + 1) - f) : Nat) : Int) ((lgb r s f t (fdy (mot f + j) + k - f) : Nat) : Int) dX4_longest_154 (by decide) (toI (by omega)) (toI (by omega)) (fun c_154 => ?_) (fun c_154 => ?_)
                    · skip
                      refine lv_iload hx hb dX4_longest_175 (lv_at hl 4 rfl) ?_
                      refine lv_cv (y := lgf r s f t (fdy (mot f + j) + (k + 1) - f)) ((hst.2.2.2 (by omega)).2.symm) ?_
                      refine lv_istore (lv' := [(6, .int (lgf r s f t (fdy (mot f + j) + (k + 1) - f))), (7, .int (nI (lgr r s f t (fdy (mot f + j) + (k + 1) - f)))), (10, .int (nI k)), (9, .int (r (255 + 16 * (mot f + j) + s) &&& mnt (mot f + j) f t)), (8, .int (nI (mot f + j))), (5, .int (nI (lgb r s f t (fdy (mot f + j) + k - f)))), (0, .ref h), (1, .int (nI s)), (2, .int (nI f)), (3, .int (nI t)), (4, .int (nI w))]) hx hb dX4_longest_177 hl (by decide) rfl (fun ls hl => ?_)
                      refine lv_iload hx hb dX4_longest_179 (lv_at hl 1 rfl) ?_
                      refine lv_iload hx hb dX4_longest_181 (lv_at hl 5 rfl) ?_
                      refine z_le hx hb (tgt := 191) ((lgr r s f t (fdy (mot f + j) + (k + 1) - f) : Nat) : Int) ((lgb r s f t (fdy (mot f + j) + k - f) : Nat) : Int) dX4_longest_183 (by decide) (toI (by omega)) (toI (by omega)) (fun c_183 => ?_) (fun c_183 => ?_)
                      · skip
                        refine lv_iload hx hb dX4_longest_191 (lv_at hl 5 rfl) ?_
                        refine lv_cv (y := nI (lgb r s f t (fdy (mot f + j) + (k + 1) - f))) (congrArg nI (hst.2.2.2 (by omega)).1.symm) ?_
                        refine lv_istore (lv' := [(5, .int (nI (lgb r s f t (fdy (mot f + j) + (k + 1) - f)))), (6, .int (lgf r s f t (fdy (mot f + j) + (k + 1) - f))), (7, .int (nI (lgr r s f t (fdy (mot f + j) + (k + 1) - f)))), (10, .int (nI k)), (9, .int (r (255 + 16 * (mot f + j) + s) &&& mnt (mot f + j) f t)), (8, .int (nI (mot f + j))), (0, .ref h), (1, .int (nI s)), (2, .int (nI f)), (3, .int (nI t)), (4, .int (nI w))]) hx hb dX4_longest_193 hl (by decide) rfl (fun ls hl => ?_)
                        refine lv_iinc (v := nI (k + 1)) (lv' := [(10, .int (nI (k + 1))), (5, .int (nI (lgb r s f t (fdy (mot f + j) + (k + 1) - f)))), (6, .int (lgf r s f t (fdy (mot f + j) + (k + 1) - f))), (7, .int (nI (lgr r s f t (fdy (mot f + j) + (k + 1) - f)))), (9, .int (r (255 + 16 * (mot f + j) + s) &&& mnt (mot f + j) f t)), (8, .int (nI (mot f + j))), (0, .ref h), (1, .int (nI s)), (2, .int (nI f)), (3, .int (nI t)), (4, .int (nI w))]) hx hb dX4_longest_195 hl (k := 3) rfl (nI_add _ _) (by decide) rfl (fun ls hl => ?_)
                        refine lv_goto (tgt := 118) hx hb dX4_longest_198 (by decide) ?_
                        exact ihk (k + 1) _ _ ls (by omega) ⟨(by omega), (hP.sub (ws' := [(h, .inr (4, [.ref an, .ref tr, .ref ah, .int ch, .ref ak, .ref ai, .ref ap, .int sy, .ref af, .int sp])), (af, .inl (gI G, 121, .inl (fun q9 => nI (fdy q9)))), (an, .inl (gI G, 2175, .inl (lmk r s (mot f) (j + 1))))]) [0, 1, 2] rfl), (hD.sub (ws' := [(h, .inr (4, [.ref an, .ref tr, .ref ah, .int ch, .ref ak, .ref ai, .ref ap, .int sy, .ref af, .int sp])), (af, .inl (gI G, 121, .inl (fun q9 => nI (fdy q9)))), (an, .inl (gI G, 2175, .inl (lmk r s (mot f) (j + 1))))]) [0, 1, 2] (by decide) rfl), hS, lv_sub hl [0, 4, 5, 3, 2, 1, 6, 7, 8, 9, 10] rfl⟩
                      · skip
                        refine lv_iload hx hb dX4_longest_186 (lv_at hl 1 rfl) ?_
                        refine lv_cv (y := nI (lgb r s f t (fdy (mot f + j) + (k + 1) - f))) (congrArg nI (hst.2.2.1 (by omega)).1.symm) ?_
                        refine lv_goto (tgt := 193) hx hb dX4_longest_188 (by decide) ?_
                        refine lv_istore (lv' := [(5, .int (nI (lgb r s f t (fdy (mot f + j) + (k + 1) - f)))), (6, .int (lgf r s f t (fdy (mot f + j) + (k + 1) - f))), (7, .int (nI (lgr r s f t (fdy (mot f + j) + (k + 1) - f)))), (10, .int (nI k)), (9, .int (r (255 + 16 * (mot f + j) + s) &&& mnt (mot f + j) f t)), (8, .int (nI (mot f + j))), (0, .ref h), (1, .int (nI s)), (2, .int (nI f)), (3, .int (nI t)), (4, .int (nI w))]) hx hb dX4_longest_193 hl (by decide) rfl (fun ls hl => ?_)
                        refine lv_iinc (v := nI (k + 1)) (lv' := [(10, .int (nI (k + 1))), (5, .int (nI (lgb r s f t (fdy (mot f + j) + (k + 1) - f)))), (6, .int (lgf r s f t (fdy (mot f + j) + (k + 1) - f))), (7, .int (nI (lgr r s f t (fdy (mot f + j) + (k + 1) - f)))), (9, .int (r (255 + 16 * (mot f + j) + s) &&& mnt (mot f + j) f t)), (8, .int (nI (mot f + j))), (0, .ref h), (1, .int (nI s)), (2, .int (nI f)), (3, .int (nI t)), (4, .int (nI w))]) hx hb dX4_longest_195 hl (k := 3) rfl (nI_add _ _) (by decide) rfl (fun ls hl => ?_)
                        refine lv_goto (tgt := 118) hx hb dX4_longest_198 (by decide) ?_
                        exact ihk (k + 1) _ _ ls (by omega) ⟨(by omega), (hP.sub (ws' := [(h, .inr (4, [.ref an, .ref tr, .ref ah, .int ch, .ref ak, .ref ai, .ref ap, .int sy, .ref af, .int sp])), (af, .inl (gI G, 121, .inl (fun q9 => nI (fdy q9)))), (an, .inl (gI G, 2175, .inl (lmk r s (mot f) (j + 1))))]) [0, 1, 2] rfl), (hD.sub (ws' := [(h, .inr (4, [.ref an, .ref tr, .ref ah, .int ch, .ref ak, .ref ai, .ref ap, .int sy, .ref af, .int sp])), (af, .inl (gI G, 121, .inl (fun q9 => nI (fdy q9)))), (an, .inl (gI G, 2175, .inl (lmk r s (mot f) (j + 1))))]) [0, 1, 2] (by decide) rfl), hS, lv_sub hl [0, 4, 5, 3, 2, 1, 6, 7, 8, 9, 10] rfl⟩
                    · skip
                      refine lv_aload_n hx hb dX4_longest_157 rfl (lv_at hl 6 rfl) ?_
                      refine va_get (ci := 4) (v := .ref af) (C := RX4) (T := TX4) (N := 10) hx hb hts inGX4 hown hK hP 0 rfl rfl 8 (by decide) (hts _ mw_3_62) (fun _ h9 => h9) rfl dX4_longest_158 ?_
                      refine lv_iload hx hb dX4_longest_161 (lv_at hl 3 rfl) ?_
                      refine n_iald hx hb hK hP 1 0 rfl rfl (by omega) (by omega) dX4_longest_163 ?_
                      refine lv_iload hx hb dX4_longest_164 (lv_at hl 1 rfl) ?_
                      refine n_iadd hx hb dX4_longest_166 ?_
                      refine lv_iload hx hb dX4_longest_167 (lv_at hl 0 rfl) ?_
                      refine lv_isub hx hb dX4_longest_169 ?_
                      refine lv_iconst (v := nI 1) hx hb dX4_longest_170 (by decide) ?_
                      refine lv_iadd hx hb dX4_longest_171 ?_
                      refine lv_cv (y := lgf r s f t (fdy (mot f + j) + (k + 1) - f)) ((sub_add1 (by omega)).trans (hst.2.2.1 (by omega)).2.symm) ?_
                      refine lv_goto (tgt := 177) hx hb dX4_longest_172 (by decide) ?_
                      refine lv_istore (lv' := [(6, .int (lgf r s f t (fdy (mot f + j) + (k + 1) - f))), (7, .int (nI (lgr r s f t (fdy (mot f + j) + (k + 1) - f)))), (10, .int (nI k)), (9, .int (r (255 + 16 * (mot f + j) + s) &&& mnt (mot f + j) f t)), (8, .int (nI (mot f + j))), (5, .int (nI (lgb r s f t (fdy (mot f + j) + k - f)))), (0, .ref h), (1, .int (nI s)), (2, .int (nI f)), (3, .int (nI t)), (4, .int (nI w))]) hx hb dX4_longest_177 hl (by decide) rfl (fun ls hl => ?_)
                      refine lv_iload hx hb dX4_longest_179 (lv_at hl 1 rfl) ?_
                      refine lv_iload hx hb dX4_longest_181 (lv_at hl 5 rfl) ?_
                      refine z_le hx hb (tgt := 191) ((lgr r s f t (fdy (mot f + j) + (k + 1) - f) : Nat) : Int) ((lgb r s f t (fdy (mot f + j) + k - f) : Nat) : Int) dX4_longest_183 (by decide) (toI (by omega)) (toI (by omega)) (fun c_183 => ?_) (fun c_183 => ?_)
                      · skip
                        refine lv_iload hx hb dX4_longest_191 (lv_at hl 5 rfl) ?_
                        refine lv_cv (y := nI (lgb r s f t (fdy (mot f + j) + (k + 1) - f))) (congrArg nI (hst.2.2.2 (by omega)).1.symm) ?_
                        refine lv_istore (lv' := [(5, .int (nI (lgb r s f t (fdy (mot f + j) + (k + 1) - f)))), (6, .int (lgf r s f t (fdy (mot f + j) + (k + 1) - f))), (7, .int (nI (lgr r s f t (fdy (mot f + j) + (k + 1) - f)))), (10, .int (nI k)), (9, .int (r (255 + 16 * (mot f + j) + s) &&& mnt (mot f + j) f t)), (8, .int (nI (mot f + j))), (0, .ref h), (1, .int (nI s)), (2, .int (nI f)), (3, .int (nI t)), (4, .int (nI w))]) hx hb dX4_longest_193 hl (by decide) rfl (fun ls hl => ?_)
                        refine lv_iinc (v := nI (k + 1)) (lv' := [(10, .int (nI (k + 1))), (5, .int (nI (lgb r s f t (fdy (mot f + j) + (k + 1) - f)))), (6, .int (lgf r s f t (fdy (mot f + j) + (k + 1) - f))), (7, .int (nI (lgr r s f t (fdy (mot f + j) + (k + 1) - f)))), (9, .int (r (255 + 16 * (mot f + j) + s) &&& mnt (mot f + j) f t)), (8, .int (nI (mot f + j))), (0, .ref h), (1, .int (nI s)), (2, .int (nI f)), (3, .int (nI t)), (4, .int (nI w))]) hx hb dX4_longest_195 hl (k := 3) rfl (nI_add _ _) (by decide) rfl (fun ls hl => ?_)
                        refine lv_goto (tgt := 118) hx hb dX4_longest_198 (by decide) ?_
                        exact ihk (k + 1) _ _ ls (by omega) ⟨(by omega), (hP.sub (ws' := [(h, .inr (4, [.ref an, .ref tr, .ref ah, .int ch, .ref ak, .ref ai, .ref ap, .int sy, .ref af, .int sp])), (af, .inl (gI G, 121, .inl (fun q9 => nI (fdy q9)))), (an, .inl (gI G, 2175, .inl (lmk r s (mot f) (j + 1))))]) [0, 1, 2] rfl), (hD.sub (ws' := [(h, .inr (4, [.ref an, .ref tr, .ref ah, .int ch, .ref ak, .ref ai, .ref ap, .int sy, .ref af, .int sp])), (af, .inl (gI G, 121, .inl (fun q9 => nI (fdy q9)))), (an, .inl (gI G, 2175, .inl (lmk r s (mot f) (j + 1))))]) [0, 1, 2] (by decide) rfl), hS, lv_sub hl [0, 4, 5, 3, 2, 1, 6, 7, 8, 9, 10] rfl⟩
                      · skip
                        refine lv_iload hx hb dX4_longest_186 (lv_at hl 1 rfl) ?_
                        refine lv_cv (y := nI (lgb r s f t (fdy (mot f + j) + (k + 1) - f))) (congrArg nI (hst.2.2.1 (by omega)).1.symm) ?_
                        refine lv_goto (tgt := 193) hx hb dX4_longest_188 (by decide) ?_
                        refine lv_istore (lv' := [(5, .int (nI (lgb r s f t (fdy (mot f + j) + (k + 1) - f)))), (6, .int (lgf r s f t (fdy (mot f + j) + (k + 1) - f))), (7, .int (nI (lgr r s f t (fdy (mot f + j) + (k + 1) - f)))), (10, .int (nI k)), (9, .int (r (255 + 16 * (mot f + j) + s) &&& mnt (mot f + j) f t)), (8, .int (nI (mot f + j))), (0, .ref h), (1, .int (nI s)), (2, .int (nI f)), (3, .int (nI t)), (4, .int (nI w))]) hx hb dX4_longest_193 hl (by decide) rfl (fun ls hl => ?_)
                        refine lv_iinc (v := nI (k + 1)) (lv' := [(10, .int (nI (k + 1))), (5, .int (nI (lgb r s f t (fdy (mot f + j) + (k + 1) - f)))), (6, .int (lgf r s f t (fdy (mot f + j) + (k + 1) - f))), (7, .int (nI (lgr r s f t (fdy (mot f + j) + (k + 1) - f)))), (9, .int (r (255 + 16 * (mot f + j) + s) &&& mnt (mot f + j) f t)), (8, .int (nI (mot f + j))), (0, .ref h), (1, .int (nI s)), (2, .int (nI f)), (3, .int (nI t)), (4, .int (nI w))]) hx hb dX4_longest_195 hl (k := 3) rfl (nI_add _ _) (by decide) rfl (fun ls hl => ?_)
                        refine lv_goto (tgt := 118) hx hb dX4_longest_198 (by decide) ?_
                        exact ihk (k + 1) _ _ ls (by omega) ⟨(by omega), (hP.sub (ws' := [(h, .inr (4, [.ref an, .ref tr, .ref ah, .int ch, .ref ak, .ref ai, .ref ap, .int sy, .ref af, .int sp])), (af, .inl (gI G, 121, .inl (fun q9 => nI (fdy q9)))), (an, .inl (gI G, 2175, .inl (lmk r s (mot f) (j + 1))))]) [0, 1, 2] rfl), (hD.sub (ws' := [(h, .inr (4, [.ref an, .ref tr, .ref ah, .int ch, .ref ak, .ref ai, .ref ap, .int sy, .ref af, .int sp])), (af, .inl (gI G, 121, .inl (fun q9 => nI (fdy q9)))), (an, .inl (gI G, 2175, .inl (lmk r s (mot f) (j + 1))))]) [0, 1, 2] (by decide) rfl), hS, lv_sub hl [0, 4, 5, 3, 2, 1, 6, 7, 8, 9, 10] rfl⟩
                  · skip
                    refine lv_iload hx hb dX4_longest_140 (lv_at hl 3 rfl) ?_
                    refine lv_iconst (v := nI 1) hx hb dX4_longest_142 (by decide) ?_
                    refine n_iadd hx hb dX4_longest_143 ?_
                    refine lv_cv (y := nI (lgr r s f t (fdy (mot f + j) + (k + 1) - f))) (congrArg nI (hst.1 (by omega)).symm) ?_
                    refine lv_goto (tgt := 148) hx hb dX4_longest_144 (by decide) ?_
                    refine lv_istore (lv' := [(7, .int (nI (lgr r s f t (fdy (mot f + j) + (k + 1) - f)))), (10, .int (nI k)), (9, .int (r (255 + 16 * (mot f + j) + s) &&& mnt (mot f + j) f t)), (8, .int (nI (mot f + j))), (6, .int (lgf r s f t (fdy (mot f + j) + k - f))), (5, .int (nI (lgb r s f t (fdy (mot f + j) + k - f)))), (0, .ref h), (1, .int (nI s)), (2, .int (nI f)), (3, .int (nI t)), (4, .int (nI w))]) hx hb dX4_longest_148 hl (by decide) rfl (fun ls hl => ?_)
                    refine lv_iload hx hb dX4_longest_150 (lv_at hl 0 rfl) ?_
                    refine lv_iload hx hb dX4_longest_152 (lv_at hl 5 rfl) ?_
                    refine z_le hx hb (tgt := 175) ((lgr r s f t (fdy (mot f + j) + (k + 1) - f) : Nat) : Int) ((lgb r s f t (fdy (mot f + j) + k - f) : Nat) : Int) dX4_longest_154 (by decide) (toI (by omega)) (toI (by omega)) (fun c_154 => ?_) (fun c_154 => ?_)
                    · skip
                      refine lv_iload hx hb dX4_longest_175 (lv_at hl 4 rfl) ?_
                      refine lv_cv (y := lgf r s f t (fdy (mot f + j) + (k + 1) - f)) ((hst.2.2.2 (by omega)).2.symm) ?_
                      refine lv_istore (lv' := [(6, .int (lgf r s f t (fdy (mot f + j) + (k + 1) - f))), (7, .int (nI (lgr r s f t (fdy (mot f + j) + (k + 1) - f)))), (10, .int (nI k)), (9, .int (r (255 + 16 * (mot f + j) + s) &&& mnt (mot f + j) f t)), (8, .int (nI (mot f + j))), (5, .int (nI (lgb r s f t (fdy (mot f + j) + k - f)))), (0, .ref h), (1, .int (nI s)), (2, .int (nI f)), (3, .int (nI t)), (4, .int (nI w))]) hx hb dX4_longest_177 hl (by decide) rfl (fun ls hl => ?_)
                      refine lv_iload hx hb dX4_longest_179 (lv_at hl 1 rfl) ?_
                      refine lv_iload hx hb dX4_longest_181 (lv_at hl 5 rfl) ?_
                      refine z_le hx hb (tgt := 191) ((lgr r s f t (fdy (mot f + j) + (k + 1) - f) : Nat) : Int) ((lgb r s f t (fdy (mot f + j) + k - f) : Nat) : Int) dX4_longest_183 (by decide) (toI (by omega)) (toI (by omega)) (fun c_183 => ?_) (fun c_183 => ?_)
                      · skip
                        refine lv_iload hx hb dX4_longest_191 (lv_at hl 5 rfl) ?_
                        refine lv_cv (y := nI (lgb r s f t (fdy (mot f + j) + (k + 1) - f))) (congrArg nI (hst.2.2.2 (by omega)).1.symm) ?_
                        refine lv_istore (lv' := [(5, .int (nI (lgb r s f t (fdy (mot f + j) + (k + 1) - f)))), (6, .int (lgf r s f t (fdy (mot f + j) + (k + 1) - f))), (7, .int (nI (lgr r s f t (fdy (mot f + j) + (k + 1) - f)))), (10, .int (nI k)), (9, .int (r (255 + 16 * (mot f + j) + s) &&& mnt (mot f + j) f t)), (8, .int (nI (mot f + j))), (0, .ref h), (1, .int (nI s)), (2, .int (nI f)), (3, .int (nI t)), (4, .int (nI w))]) hx hb dX4_longest_193 hl (by decide) rfl (fun ls hl => ?_)
                        refine lv_iinc (v := nI (k + 1)) (lv' := [(10, .int (nI (k + 1))), (5, .int (nI (lgb r s f t (fdy (mot f + j) + (k + 1) - f)))), (6, .int (lgf r s f t (fdy (mot f + j) + (k + 1) - f))), (7, .int (nI (lgr r s f t (fdy (mot f + j) + (k + 1) - f)))), (9, .int (r (255 + 16 * (mot f + j) + s) &&& mnt (mot f + j) f t)), (8, .int (nI (mot f + j))), (0, .ref h), (1, .int (nI s)), (2, .int (nI f)), (3, .int (nI t)), (4, .int (nI w))]) hx hb dX4_longest_195 hl (k := 3) rfl (nI_add _ _) (by decide) rfl (fun ls hl => ?_)
                        refine lv_goto (tgt := 118) hx hb dX4_longest_198 (by decide) ?_
                        exact ihk (k + 1) _ _ ls (by omega) ⟨(by omega), (hP.sub (ws' := [(h, .inr (4, [.ref an, .ref tr, .ref ah, .int ch, .ref ak, .ref ai, .ref ap, .int sy, .ref af, .int sp])), (af, .inl (gI G, 121, .inl (fun q9 => nI (fdy q9)))), (an, .inl (gI G, 2175, .inl (lmk r s (mot f) (j + 1))))]) [0, 1, 2] rfl), (hD.sub (ws' := [(h, .inr (4, [.ref an, .ref tr, .ref ah, .int ch, .ref ak, .ref ai, .ref ap, .int sy, .ref af, .int sp])), (af, .inl (gI G, 121, .inl (fun q9 => nI (fdy q9)))), (an, .inl (gI G, 2175, .inl (lmk r s (mot f) (j + 1))))]) [0, 1, 2] (by decide) rfl), hS, lv_sub hl [0, 4, 5, 3, 2, 1, 6, 7, 8, 9, 10] rfl⟩
                      · skip
                        refine lv_iload hx hb dX4_longest_186 (lv_at hl 1 rfl) ?_
                        refine lv_cv (y := nI (lgb r s f t (fdy (mot f + j) + (k + 1) - f))) (congrArg nI (hst.2.2.1 (by omega)).1.symm) ?_
                        refine lv_goto (tgt := 193) hx hb dX4_longest_188 (by decide) ?_
                        refine lv_istore (lv' := [(5, .int (nI (lgb r s f t (fdy (mot f + j) + (k + 1) - f)))), (6, .int (lgf r s f t (fdy (mot f + j) + (k + 1) - f))), (7, .int (nI (lgr r s f t (fdy (mot f + j) + (k + 1) - f)))), (10, .int (nI k)), (9, .int (r (255 + 16 * (mot f + j) + s) &&& mnt (mot f + j) f t)), (8, .int (nI (mot f + j))), (0, .ref h), (1, .int (nI s)), (2, .int (nI f)), (3, .int (nI t)), (4, .int (nI w))]) hx hb dX4_longest_193 hl (by decide) rfl (fun ls hl => ?_)
                        refine lv_iinc (v := nI (k + 1)) (lv' := [(10, .int (nI (k + 1))), (5, .int (nI (lgb r s f t (fdy (mot f + j) + (k + 1) - f)))), (6, .int (lgf r s f t (fdy (mot f + j) + (k + 1) - f))), (7, .int (nI (lgr r s f t (fdy (mot f + j) + (k + 1) - f)))), (9, .int (r (255 + 16 * (mot f + j) + s) &&& mnt (mot f + j) f t)), (8, .int (nI (mot f + j))), (0, .ref h), (1, .int (nI s)), (2, .int (nI f)), (3, .int (nI t)), (4, .int (nI w))]) hx hb dX4_longest_195 hl (k := 3) rfl (nI_add _ _) (by decide) rfl (fun ls hl => ?_)
                        refine lv_goto (tgt := 118) hx hb dX4_longest_198 (by decide) ?_
                        exact ihk (k + 1) _ _ ls (by omega) ⟨(by omega), (hP.sub (ws' := [(h, .inr (4, [.ref an, .ref tr, .ref ah, .int ch, .ref ak, .ref ai, .ref ap, .int sy, .ref af, .int sp])), (af, .inl (gI G, 121, .inl (fun q9 => nI (fdy q9)))), (an, .inl (gI G, 2175, .inl (lmk r s (mot f) (j + 1))))]) [0, 1, 2] rfl), (hD.sub (ws' := [(h, .inr (4, [.ref an, .ref tr, .ref ah, .int ch, .ref ak, .ref ai, .ref ap, .int sy, .ref af, .int sp])), (af, .inl (gI G, 121, .inl (fun q9 => nI (fdy q9)))), (an, .inl (gI G, 2175, .inl (lmk r s (mot f) (j + 1))))]) [0, 1, 2] (by decide) rfl), hS, lv_sub hl [0, 4, 5, 3, 2, 1, 6, 7, 8, 9, 10] rfl⟩
                    · skip
                      refine lv_aload_n hx hb dX4_longest_157 rfl (lv_at hl 6 rfl) ?_
                      refine va_get (ci := 4) (v := .ref af) (C := RX4) (T := TX4) (N := 10) hx hb hts inGX4 hown hK hP 0 rfl rfl 8 (by decide) (hts _ mw_3_62) (fun _ h9 => h9) rfl dX4_longest_158 ?_
                      refine lv_iload hx hb dX4_longest_161 (lv_at hl 3 rfl) ?_
                      refine n_iald hx hb hK hP 1 0 rfl rfl (by omega) (by omega) dX4_longest_163 ?_
                      refine lv_iload hx hb dX4_longest_164 (lv_at hl 1 rfl) ?_
                      refine n_iadd hx hb dX4_longest_166 ?_
                      refine lv_iload hx hb dX4_longest_167 (lv_at hl 0 rfl) ?_
                      refine lv_isub hx hb dX4_longest_169 ?_
                      refine lv_iconst (v := nI 1) hx hb dX4_longest_170 (by decide) ?_
                      refine lv_iadd hx hb dX4_longest_171 ?_
                      refine lv_cv (y := lgf r s f t (fdy (mot f + j) + (k + 1) - f)) ((sub_add1 (by omega)).trans (hst.2.2.1 (by omega)).2.symm) ?_
                      refine lv_goto (tgt := 177) hx hb dX4_longest_172 (by decide) ?_
                      refine lv_istore (lv' := [(6, .int (lgf r s f t (fdy (mot f + j) + (k + 1) - f))), (7, .int (nI (lgr r s f t (fdy (mot f + j) + (k + 1) - f)))), (10, .int (nI k)), (9, .int (r (255 + 16 * (mot f + j) + s) &&& mnt (mot f + j) f t)), (8, .int (nI (mot f + j))), (5, .int (nI (lgb r s f t (fdy (mot f + j) + k - f)))), (0, .ref h), (1, .int (nI s)), (2, .int (nI f)), (3, .int (nI t)), (4, .int (nI w))]) hx hb dX4_longest_177 hl (by decide) rfl (fun ls hl => ?_)
                      refine lv_iload hx hb dX4_longest_179 (lv_at hl 1 rfl) ?_
                      refine lv_iload hx hb dX4_longest_181 (lv_at hl 5 rfl) ?_
                      refine z_le hx hb (tgt := 191) ((lgr r s f t (fdy (mot f + j) + (k + 1) - f) : Nat) : Int) ((lgb r s f t (fdy (mot f + j) + k - f) : Nat) : Int) dX4_longest_183 (by decide) (toI (by omega)) (toI (by omega)) (fun c_183 => ?_) (fun c_183 => ?_)
                      · skip
                        refine lv_iload hx hb dX4_longest_191 (lv_at hl 5 rfl) ?_
                        refine lv_cv (y := nI (lgb r s f t (fdy (mot f + j) + (k + 1) - f))) (congrArg nI (hst.2.2.2 (by omega)).1.symm) ?_
                        refine lv_istore (lv' := [(5, .int (nI (lgb r s f t (fdy (mot f + j) + (k + 1) - f)))), (6, .int (lgf r s f t (fdy (mot f + j) + (k + 1) - f))), (7, .int (nI (lgr r s f t (fdy (mot f + j) + (k + 1) - f)))), (10, .int (nI k)), (9, .int (r (255 + 16 * (mot f + j) + s) &&& mnt (mot f + j) f t)), (8, .int (nI (mot f + j))), (0, .ref h), (1, .int (nI s)), (2, .int (nI f)), (3, .int (nI t)), (4, .int (nI w))]) hx hb dX4_longest_193 hl (by decide) rfl (fun ls hl => ?_)
                        refine lv_iinc (v := nI (k + 1)) (lv' := [(10, .int (nI (k + 1))), (5, .int (nI (lgb r s f t (fdy (mot f + j) + (k + 1) - f)))), (6, .int (lgf r s f t (fdy (mot f + j) + (k + 1) - f))), (7, .int (nI (lgr r s f t (fdy (mot f + j) + (k + 1) - f)))), (9, .int (r (255 + 16 * (mot f + j) + s) &&& mnt (mot f + j) f t)), (8, .int (nI (mot f + j))), (0, .ref h), (1, .int (nI s)), (2, .int (nI f)), (3, .int (nI t)), (4, .int (nI w))]) hx hb dX4_longest_195 hl (k := 3) rfl (nI_add _ _) (by decide) rfl (fun ls hl => ?_)
                        refine lv_goto (tgt := 118) hx hb dX4_longest_198 (by decide) ?_
                        exact ihk (k + 1) _ _ ls (by omega) ⟨(by omega), (hP.sub (ws' := [(h, .inr (4, [.ref an, .ref tr, .ref ah, .int ch, .ref ak, .ref ai, .ref ap, .int sy, .ref af, .int sp])), (af, .inl (gI G, 121, .inl (fun q9 => nI (fdy q9)))), (an, .inl (gI G, 2175, .inl (lmk r s (mot f) (j + 1))))]) [0, 1, 2] rfl), (hD.sub (ws' := [(h, .inr (4, [.ref an, .ref tr, .ref ah, .int ch, .ref ak, .ref ai, .ref ap, .int sy, .ref af, .int sp])), (af, .inl (gI G, 121, .inl (fun q9 => nI (fdy q9)))), (an, .inl (gI G, 2175, .inl (lmk r s (mot f) (j + 1))))]) [0, 1, 2] (by decide) rfl), hS, lv_sub hl [0, 4, 5, 3, 2, 1, 6, 7, 8, 9, 10] rfl⟩
                      · skip
                        refine lv_iload hx hb dX4_longest_186 (lv_at hl 1 rfl) ?_
                        refine lv_cv (y := nI (lgb r s f t (fdy (mot f + j) + (k + 1) - f))) (congrArg nI (hst.2.2.1 (by omega)).1.symm) ?_
                        refine lv_goto (tgt := 193) hx hb dX4_longest_188 (by decide) ?_
                        refine lv_istore (lv' := [(5, .int (nI (lgb r s f t (fdy (mot f + j) + (k + 1) - f)))), (6, .int (lgf r s f t (fdy (mot f + j) + (k + 1) - f))), (7, .int (nI (lgr r s f t (fdy (mot f + j) + (k + 1) - f)))), (10, .int (nI k)), (9, .int (r (255 + 16 * (mot f + j) + s) &&& mnt (mot f + j) f t)), (8, .int (nI (mot f + j))), (0, .ref h), (1, .int (nI s)), (2, .int (nI f)), (3, .int (nI t)), (4, .int (nI w))]) hx hb dX4_longest_193 hl (by decide) rfl (fun ls hl => ?_)
                        refine lv_iinc (v := nI (k + 1)) (lv' := [(10, .int (nI (k + 1))), (5, .int (nI (lgb r s f t (fdy (mot f + j) + (k + 1) - f)))), (6, .int (lgf r s f t (fdy (mot f + j) + (k + 1) - f))), (7, .int (nI (lgr r s f t (fdy (mot f + j) + (k + 1) - f)))), (9, .int (r (255 + 16 * (mot f + j) + s) &&& mnt (mot f + j) f t)), (8, .int (nI (mot f + j))), (0, .ref h), (1, .int (nI s)), (2, .int (nI f)), (3, .int (nI t)), (4, .int (nI w))]) hx hb dX4_longest_195 hl (k := 3) rfl (nI_add _ _) (by decide) rfl (fun ls hl => ?_)
                        refine lv_goto (tgt := 118) hx hb dX4_longest_198 (by decide) ?_
                        exact ihk (k + 1) _ _ ls (by omega) ⟨(by omega), (hP.sub (ws' := [(h, .inr (4, [.ref an, .ref tr, .ref ah, .int ch, .ref ak, .ref ai, .ref ap, .int sy, .ref af, .int sp])), (af, .inl (gI G, 121, .inl (fun q9 => nI (fdy q9)))), (an, .inl (gI G, 2175, .inl (lmk r s (mot f) (j + 1))))]) [0, 1, 2] rfl), (hD.sub (ws' := [(h, .inr (4, [.ref an, .ref tr, .ref ah, .int ch, .ref ak, .ref ai, .ref ap, .int sy, .ref af, .int sp])), (af, .inl (gI G, 121, .inl (fun q9 => nI (fdy q9)))), (an, .inl (gI G, 2175, .inl (lmk r s (mot f) (j + 1))))]) [0, 1, 2] (by decide) rfl), hS, lv_sub hl [0, 4, 5, 3, 2, 1, 6, 7, 8, 9, 10] rfl⟩
              · skip
                refine lv_aload_n hx hb dX4_longest_69 rfl (lv_at hl 4 rfl) ?_
                refine va_get (ci := 4) (v := .ref an) (C := RX4) (T := TX4) (N := 10) hx hb hts inGX4 hown hK hP 0 rfl rfl 0 (by decide) (hts _ mw_3_54) (fun _ h9 => h9) rfl dX4_longest_70 ?_
                refine lv_iload hx hb dX4_longest_73 (lv_at hl 0 rfl) ?_
                refine lv_iload_n hx hb dX4_longest_75 rfl (lv_at hl 5 rfl) ?_
                refine k_roS (As := [.int (nI (mot f + j)), .int (nI s)]) (rest := [.ref an]) hF (c_X4_at l G (mot f + j) s) mw_3_117 mw_3_118 mw_1_5 mw_3_119 hd_X4_at ⟨Nat.le_of_ble_eq_true rfl, Nat.le_of_ble_eq_true rfl⟩ (Rd.of hKx hZ hS) (hP.sub (ws' := []) [] rfl) rfl hl.1 rfl (Nat.le_of_ble_eq_true rfl) dX4_longest_76 ⟨Nat.zero_le _, Nat.zero_le _⟩ ?_
                refine n_iald hx hb hK hP 2 0 rfl rfl (by omega) (by omega) dX4_longest_79 ?_
                refine lv_cv (y := r (255 + 16 * (mot f + j) + s)) (by rw [Nat.add_assoc 255]; exact lmk_mk hB j (by omega)) ?_
                refine z0_eq hx hb (tgt := 93) ((r (255 + 16 * (mot f + j) + s)).toInt) dX4_longest_80 (by decide) rfl (fun c_80 => ?_) (fun c_80 => ?_)
                · skip
                  have w_10 : ([(h, .inr (4, [.ref an, .ref tr, .ref ah, .int ch, .ref ak, .ref ai, .ref ap, .int sy, .ref af, .int sp])), (af, .inl (gI G, 121, .inl (fun q9 => nI (fdy q9)))), (an, .inl (gI G, 2175, .inl (lmk r s (mot f) j)))] : va_W) = [(h, .inr (4, [.ref an, .ref tr, .ref ah, .int ch, .ref ak, .ref ai, .ref ap, .int sy, .ref af, .int sp])), (af, .inl (gI G, 121, .inl (fun q9 => nI (fdy q9)))), (an, .inl (gI G, 2175, .inl (lmk r s (mot f) (j + 1))))] := (wlc (rfl) (wlc (rfl) (wlc (wli (by first | exact lmk_f c_80 | exact lmk_t c_80)) rfl)))
                  have hPj := hP.sub (ws' := [(h, .inr (4, [.ref an, .ref tr, .ref ah, .int ch, .ref ak, .ref ai, .ref ap, .int sy, .ref af, .int sp])), (af, .inl (gI G, 121, .inl (fun q9 => nI (fdy q9)))), (an, .inl (gI G, 2175, .inl (lmk r s (mot f) j)))]) [0, 1, 2] rfl
                  have hDj := hD.sub (ws' := [(h, .inr (4, [.ref an, .ref tr, .ref ah, .int ch, .ref ak, .ref ai, .ref ap, .int sy, .ref af, .int sp])), (af, .inl (gI G, 121, .inl (fun q9 => nI (fdy q9)))), (an, .inl (gI G, 2175, .inl (lmk r s (mot f) j)))]) [0, 1, 2] (by decide) rfl
                  rw [w_10] at hPj hDj
                  exact J93 _ _ ls ⟨hPj, hDj, hS, lv_sub hl [0, 1, 2, 3, 4, 5, 6, 7, 8] rfl⟩
                · skip
                  refine lv_aload_n hx hb dX4_longest_83 rfl (lv_at hl 4 rfl) ?_
                  refine lv_aload_n hx hb dX4_longest_84 rfl (lv_at hl 4 rfl) ?_
                  refine va_get (ci := 4) (v := .ref an) (C := RX4) (T := TX4) (N := 10) hx hb hts inGX4 hown hK hP 0 rfl rfl 0 (by decide) (hts _ mw_3_54) (fun _ h9 => h9) rfl dX4_longest_85 ?_
                  refine lv_iload hx hb dX4_longest_88 (lv_at hl 0 rfl) ?_
                  refine k_rvV (ci := 4) (q0 := 0) (As := [.ref an, .int (nI (mot f + j))]) (rest := []) (wr := []) hF (c_X4_look l G _ h an tr ah ch ak ai ap sy af sp an (lmk r s (mot f) j) (mot f + j) (by omega) ((Br_lmk hB j (by omega)).b (by omega))) ⟨_, rfl, rfl⟩ rfl rfl mw_3_212 mw_3_214 mw_p2_3 mw_1_5 mw_3_215 hd_X4_look ⟨Nat.le_of_ble_eq_true rfl, Nat.le_of_ble_eq_true rfl⟩ hKx hZ hS hP hD hA [0, 1, 2] [] rfl rfl (by decide) (by decide) (by decide) rfl rfl hl.1 rfl (Nat.le_of_ble_eq_true rfl) dX4_longest_90 ⟨Nat.zero_le _, Nat.zero_le _⟩ (fun H locs hP hD hS => ?_)
                  have hP : va_P G.1 vwCl [(h, .inr (4, [.ref an, .ref tr, .ref ah, .int ch, .ref ak, .ref ai, .ref ap, .int sy, .ref af, .int sp])), (af, .inl (gI G, 121, .inl (fun q9 => nI (fdy q9)))), (an, .inl (gI G, 2175, .inl (lok (lmk r s (mot f) j) (mot f + j))))] H := hP
                  have hD : va_D A [(h, .inr (4, [.ref an, .ref tr, .ref ah, .int ch, .ref ak, .ref ai, .ref ap, .int sy, .ref af, .int sp])), (af, .inl (gI G, 121, .inl (fun q9 => nI (fdy q9)))), (an, .inl (gI G, 2175, .inl (lok (lmk r s (mot f) j) (mot f + j))))] := hD
                  have w_11 : ([(h, .inr (4, [.ref an, .ref tr, .ref ah, .int ch, .ref ak, .ref ai, .ref ap, .int sy, .ref af, .int sp])), (af, .inl (gI G, 121, .inl (fun q9 => nI (fdy q9)))), (an, .inl (gI G, 2175, .inl (lok (lmk r s (mot f) j) (mot f + j))))] : va_W) = [(h, .inr (4, [.ref an, .ref tr, .ref ah, .int ch, .ref ak, .ref ai, .ref ap, .int sy, .ref af, .int sp])), (af, .inl (gI G, 121, .inl (fun q9 => nI (fdy q9)))), (an, .inl (gI G, 2175, .inl (lmk r s (mot f) (j + 1))))] := (wlc (rfl) (wlc (rfl) (wlc (wli (by first | exact lmk_f c_80 | exact lmk_t c_80)) rfl)))
                  have hPj := hP.sub (ws' := [(h, .inr (4, [.ref an, .ref tr, .ref ah, .int ch, .ref ak, .ref ai, .ref ap, .int sy, .ref af, .int sp])), (af, .inl (gI G, 121, .inl (fun q9 => nI (fdy q9)))), (an, .inl (gI G, 2175, .inl (lok (lmk r s (mot f) j) (mot f + j))))]) [0, 1, 2] rfl
                  have hDj := hD.sub (ws' := [(h, .inr (4, [.ref an, .ref tr, .ref ah, .int ch, .ref ak, .ref ai, .ref ap, .int sy, .ref af, .int sp])), (af, .inl (gI G, 121, .inl (fun q9 => nI (fdy q9)))), (an, .inl (gI G, 2175, .inl (lok (lmk r s (mot f) j) (mot f + j))))]) [0, 1, 2] (by decide) rfl
                  rw [w_11] at hPj hDj
                  exact J93 _ _ ls ⟨hPj, hDj, hS, lv_sub hl [0, 1, 2, 3, 4, 5, 6, 7, 8] rfl⟩
          · skip
            exact absurd c_36 (by omega)
      · skip
        exact absurd c_18 (by omega)
set_option maxHeartbeats 4000000 in
set_option maxRecDepth 100000 in
theorem c_X4_longest_e (l : Launch) (G : gT) (h : Nat) (an : Nat) (tr : Nat) (ah : Nat) (ch : Int32) (ak : Nat) (ai : Nat) (ap : Nat) (sy : Int32) (af : Nat) (sp : Int32) (w : Int32) (S0 : Int) (x : Int32) (F : Int) (y : Int32) (T : Int) (v : Int32) (X : Int) (hw1 : w.toInt = S0) (hF1 : x.toInt = F) (hT1 : y.toInt = T) (hv1 : v.toInt = X) (he : ¬ ((0 ≤ S0 ∧ S0 ≤ 15) ∧ (0 ≤ F ∧ F ≤ 3649) ∧ (0 ≤ T ∧ T ≤ 3649) ∧ (0 ≤ X ∧ X ≤ 1) ∧ F ≤ T)) : Ro l G yX4_longest cX4_longest 11 (some .int) 9 [] [.ref h, .int w, .int x, .int y, .int v] (eLo S0 F T X) := by
  refine Ro.mk (by decide) (Nat.le_of_ble_eq_true rfl) (fun pq eq sq mq bq tq cq ls hr hlk hF hKx hZ hP hl => ?_)
  have hx := hF.1
  have hb := hF.2.1
  have hml := hF.2.2.1
  have hown : sq.vm.findClass RX4 = some mq.cls := hF.2.2.2.1
  have hts : ∀ w ∈ GW, w.before _ sq = true := hF.2.2.2.2
  have hK := hKx.1
  have hl : lv_has ls 11 [(0, .ref h), (1, .int w), (2, .int x), (3, .int y), (4, .int v)] := hl
  have hS : va_S (fun _ => False) sq.heap sq.heap [] := va_S.rf
  have hP : va_P G.1 vwCl [] sq.heap := hP
  refine lv_iload_n hx hb dX4_longest_0 rfl (lv_at hl 1 rfl) ?_
  refine k_roS (As := [.int w]) (rest := []) hF (c_X4_isSubject l G w S0 hw1) mw_3_164 mw_3_165 mw_1_5 mw_3_166 hd_X4_isSubject ⟨Nat.le_of_ble_eq_true rfl, Nat.le_of_ble_eq_true rfl⟩ (Rd.of hKx hZ hS) (hP.sub (ws' := []) [] rfl) rfl hl.1 rfl (Nat.le_of_ble_eq_true rfl) dX4_longest_1 ⟨Nat.zero_le _, Nat.zero_le _⟩ ?_
  refine p0_eq hx hb (tgt := 21) dX4_longest_4 (by decide) (fun c_4 => ?_) (fun c_4 => ?_)
  · skip
    refine lv_iconst (v := (-1)) hx hb dX4_longest_21 (by decide) ?_
    exact e_ri hx hb hr hlk ((eLo_1 (by omega)).symm) dX4_longest_22
  · skip
    refine lv_iload_n hx hb dX4_longest_7 rfl (lv_at hl 2 rfl) ?_
    refine k_roS (As := [.int x]) (rest := []) hF (c_X4_isDay l G x F hF1) mw_3_171 mw_3_172 mw_1_5 mw_3_173 hd_X4_isDay ⟨Nat.le_of_ble_eq_true rfl, Nat.le_of_ble_eq_true rfl⟩ (Rd.of hKx hZ hS) (hP.sub (ws' := []) [] rfl) rfl hl.1 rfl (Nat.le_of_ble_eq_true rfl) dX4_longest_8 ⟨Nat.zero_le _, Nat.zero_le _⟩ ?_
    refine p0_eq hx hb (tgt := 21) dX4_longest_11 (by decide) (fun c_11 => ?_) (fun c_11 => ?_)
    · skip
      refine lv_iconst (v := (-1)) hx hb dX4_longest_21 (by decide) ?_
      exact e_ri hx hb hr hlk ((eLo_1 (by omega)).symm) dX4_longest_22
    · skip
      refine lv_iload_n hx hb dX4_longest_14 rfl (lv_at hl 3 rfl) ?_
      refine k_roS (As := [.int y]) (rest := []) hF (c_X4_isDay l G y T hT1) mw_3_171 mw_3_172 mw_1_5 mw_3_173 hd_X4_isDay ⟨Nat.le_of_ble_eq_true rfl, Nat.le_of_ble_eq_true rfl⟩ (Rd.of hKx hZ hS) (hP.sub (ws' := []) [] rfl) rfl hl.1 rfl (Nat.le_of_ble_eq_true rfl) dX4_longest_15 ⟨Nat.zero_le _, Nat.zero_le _⟩ ?_
      refine p0_ne hx hb (tgt := 23) dX4_longest_18 (by decide) (fun c_18 => ?_) (fun c_18 => ?_)
      · skip
        refine lv_iload hx hb dX4_longest_23 (lv_at hl 4 rfl) ?_
        refine lv_i2l (v := v.toInt64) hx hb dX4_longest_25 rfl ?_
        refine lv_lconst (v := 0) hx hb dX4_longest_26 (by decide) ?_
        refine lv_lconst (v := 1) hx hb dX4_longest_27 (by decide) ?_
        refine k_roS (As := [.long v.toInt64, .long 0, .long 1]) (rest := []) hF (c_X4_in l G v.toInt64 0 1 X 0 1 (l64 hv1) (by decide) (by decide)) mw_3_91 mw_3_92 mw_1_5 mw_3_93 hd_X4_in ⟨Nat.le_of_ble_eq_true rfl, Nat.le_of_ble_eq_true rfl⟩ (Rd.of hKx hZ hS) (hP.sub (ws' := []) [] rfl) rfl hl.1 rfl (Nat.le_of_ble_eq_true rfl) dX4_longest_28 ⟨Nat.zero_le _, Nat.zero_le _⟩ ?_
        refine p0_eq hx hb (tgt := 39) dX4_longest_31 (by decide) (fun c_31 => ?_) (fun c_31 => ?_)
        · skip
          refine lv_bipush (v := (-2)) hx hb dX4_longest_39 (by decide) ?_
          exact e_ri hx hb hr hlk ((eLo_2 (by omega) (by omega)).symm) dX4_longest_41
        · skip
          refine lv_iload_n hx hb dX4_longest_34 rfl (lv_at hl 3 rfl) ?_
          refine lv_iload_n hx hb dX4_longest_35 rfl (lv_at hl 2 rfl) ?_
          refine z_ge hx hb (tgt := 42) T F dX4_longest_36 (by decide) hT1 hF1 (fun c_36 => ?_) (fun c_36 => ?_)
          · skip
            exact absurd c_36 (by omega)
          · skip
            refine lv_bipush (v := (-2)) hx hb dX4_longest_39 (by decide) ?_
            exact e_ri hx hb hr hlk ((eLo_2 (by omega) (by omega)).symm) dX4_longest_41
      · skip
        refine lv_iconst (v := (-1)) hx hb dX4_longest_21 (by decide) ?_
        exact e_ri hx hb hr hlk ((eLo_1 (by omega)).symm) dX4_longest_22
set_option maxHeartbeats 4000000 in
set_option maxRecDepth 100000 in
theorem c_X4_nextMark_k (l : Launch) (G : gT) (sz : Nat) (h : Nat) (an : Nat) (tr : Nat) (ah : Nat) (ch : Int32) (ak : Nat) (ai : Nat) (ap : Nat) (sy : Int32) (af : Nat) (sp : Int32) (r : Nat → Int32) (s : Nat) (d : Nat) (hB : Br r) (hs : s < 16) (hd : d < 3650) : Rw l G yX4_nextMark cX4_nextMark 6 (some .int) 8 sz [(h, .inr (4, [.ref an, .ref tr, .ref ah, .int ch, .ref ak, .ref ai, .ref ap, .int sy, .ref af, .int sp])), (af, .inl (gI G, 121, .inl (fun q9 => nI (fdy q9)))), (an, .inl (gI G, 2175, .inl r))] [.ref h, .int (nI s), .int (nI d)] (nxr r s d) [(h, .inr (4, [.ref an, .ref tr, .ref ah, .int ch, .ref ak, .ref ai, .ref ap, .int sy, .ref af, .int sp])), (af, .inl (gI G, 121, .inl (fun q9 => nI (fdy q9)))), (an, .inl (gI G, 2175, .inl (lmk r s (mot d) (nxc r s d))))] := by
  refine Rw.mk (by decide) (Nat.le_of_ble_eq_true rfl) (fun pq eq sq mq bq tq cq ls A hr hlk hF hKx hZ hA hP hD hS hl => ?_)
  have hx := hF.1
  have hb := hF.2.1
  have hml := hF.2.2.1
  have hown : sq.vm.findClass RX4 = some mq.cls := hF.2.2.2.1
  have hts : ∀ w ∈ GW, w.before _ sq = true := hF.2.2.2.2
  have hK := hKx.1
  have hl : lv_has ls 6 [(0, .ref h), (1, .int (nI s)), (2, .int (nI d))] := hl
  have hP : va_P G.1 vwCl [(h, .inr (4, [.ref an, .ref tr, .ref ah, .int ch, .ref ak, .ref ai, .ref ap, .int sy, .ref af, .int sp])), (af, .inl (gI G, 121, .inl (fun q9 => nI (fdy q9)))), (an, .inl (gI G, 2175, .inl r))] sq.heap := hP
  have hD : va_D A [(h, .inr (4, [.ref an, .ref tr, .ref ah, .int ch, .ref ak, .ref ai, .ref ap, .int sy, .ref af, .int sp])), (af, .inl (gI G, 121, .inl (fun q9 => nI (fdy q9)))), (an, .inl (gI G, 2175, .inl r))] := hD
  have hm0 := mot_row hd
  refine lv_iload_n hx hb dX4_nextMark_0 rfl (lv_at hl 1 rfl) ?_
  refine k_roS (As := [.int (nI s)]) (rest := []) hF (c_X4_isSubject l G (nI s) ((s : Nat) : Int) (toI (by omega))) mw_3_164 mw_3_165 mw_1_5 mw_3_166 hd_X4_isSubject ⟨Nat.le_of_ble_eq_true rfl, Nat.le_of_ble_eq_true rfl⟩ (Rd.of hKx hZ hS) (hP.sub (ws' := []) [] rfl) rfl hl.1 rfl (Nat.le_of_ble_eq_true rfl) dX4_nextMark_1 ⟨Nat.zero_le _, Nat.zero_le _⟩ ?_
  refine p0_eq hx hb (tgt := 14) dX4_nextMark_4 (by decide) (fun c_4 => ?_) (fun c_4 => ?_)
  · skip
    exact absurd c_4 (by omega)
  · skip
    refine lv_iload_n hx hb dX4_nextMark_7 rfl (lv_at hl 2 rfl) ?_
    refine k_roS (As := [.int (nI d)]) (rest := []) hF (c_X4_isDay l G (nI d) ((d : Nat) : Int) (toI (by omega))) mw_3_171 mw_3_172 mw_1_5 mw_3_173 hd_X4_isDay ⟨Nat.le_of_ble_eq_true rfl, Nat.le_of_ble_eq_true rfl⟩ (Rd.of hKx hZ hS) (hP.sub (ws' := []) [] rfl) rfl hl.1 rfl (Nat.le_of_ble_eq_true rfl) dX4_nextMark_8 ⟨Nat.zero_le _, Nat.zero_le _⟩ ?_
    refine p0_ne hx hb (tgt := 16) dX4_nextMark_11 (by decide) (fun c_11 => ?_) (fun c_11 => ?_)
    · skip
      refine lv_aload_n hx hb dX4_nextMark_16 rfl (lv_at hl 0 rfl) ?_
      refine lv_iload_n hx hb dX4_nextMark_17 rfl (lv_at hl 2 rfl) ?_
      refine k_roV (ci := 4) (q0 := 0) (As := [.int (nI d)]) (rest := []) hF (c_X4_monthOf l G h an tr ah ch ak ai ap sy af sp d (by omega)) hKx hP ⟨_, rfl, rfl⟩ rfl rfl mw_3_148 mw_3_150 mw_p1_11 mw_1_5 mw_3_151 hd_X4_monthOf ⟨Nat.le_of_ble_eq_true rfl, Nat.le_of_ble_eq_true rfl⟩ (Rd.of hKx hZ hS) (hP.sub (ws' := [(h, .inr (4, [.ref an, .ref tr, .ref ah, .int ch, .ref ak, .ref ai, .ref ap, .int sy, .ref af, .int sp])), (af, .inl (gI G, 121, .inl (fun q9 => nI (fdy q9))))]) [0, 1] rfl) rfl hl.1 rfl (Nat.le_of_ble_eq_true rfl) dX4_nextMark_18 ⟨Nat.zero_le _, Nat.zero_le _⟩ ?_
      refine lv_istore_n (lv' := [(3, .int (nI (mot d))), (0, .ref h), (1, .int (nI s)), (2, .int (nI d))]) hx hb dX4_nextMark_21 rfl hl (by decide) rfl (fun ls hl => ?_)
      have hPj := hP.sub (ws' := [(h, .inr (4, [.ref an, .ref tr, .ref ah, .int ch, .ref ak, .ref ai, .ref ap, .int sy, .ref af, .int sp])), (af, .inl (gI G, 121, .inl (fun q9 => nI (fdy q9)))), (an, .inl (gI G, 2175, .inl r))]) [0, 1, 2] rfl
      have hDj := hD.sub (ws' := [(h, .inr (4, [.ref an, .ref tr, .ref ah, .int ch, .ref ak, .ref ai, .ref ap, .int sy, .ref af, .int sp])), (af, .inl (gI G, 121, .inl (fun q9 => nI (fdy q9)))), (an, .inl (gI G, 2175, .inl r))]) [0, 1, 2] (by decide) rfl
      have hwj : ([(h, .inr (4, [.ref an, .ref tr, .ref ah, .int ch, .ref ak, .ref ai, .ref ap, .int sy, .ref af, .int sp])), (af, .inl (gI G, 121, .inl (fun q9 => nI (fdy q9)))), (an, .inl (gI G, 2175, .inl r))] : va_W) = [(h, .inr (4, [.ref an, .ref tr, .ref ah, .int ch, .ref ak, .ref ai, .ref ap, .int sy, .ref af, .int sp])), (af, .inl (gI G, 121, .inl (fun q9 => nI (fdy q9)))), (an, .inl (gI G, 2175, .inl (lmk r s (mot d) 0)))] := (wlc (rfl) (wlc (rfl) (wlc (rfl) rfl)))
      rw [hwj] at hPj hDj
      refine wloopH [] (fun j H locs ls => (mot d + j ≤ 120) ∧ (nxJ r s d = nxn r s d (120 - (mot d + j)) (mot d + j) + j) ∧ va_P G.1 vwCl [(h, .inr (4, [.ref an, .ref tr, .ref ah, .int ch, .ref ak, .ref ai, .ref ap, .int sy, .ref af, .int sp])), (af, .inl (gI G, 121, .inl (fun q9 => nI (fdy q9)))), (an, .inl (gI G, 2175, .inl (lmk r s (mot d) j)))] H ∧ va_D A [(h, .inr (4, [.ref an, .ref tr, .ref ah, .int ch, .ref ak, .ref ai, .ref ap, .int sy, .ref af, .int sp])), (af, .inl (gI G, 121, .inl (fun q9 => nI (fdy q9)))), (an, .inl (gI G, 2175, .inl (lmk r s (mot d) j)))] ∧ va_S A sq.heap H locs ∧ lv_has ls 6 [(3, .int (nI (mot d + j))), (0, .ref h), (1, .int (nI s)), (2, .int (nI d))]) (fun j => 120 - (mot d + j)) ?_ 0 ⟨(by omega), (rfl), hPj, hDj, hS, lv_sub hl [0, 1, 2, 3] (lvc (by first | rfl | exact congrArg nI (by omega)) (lvr (lvr (lvr rfl))))⟩
      intro j ihj
      intro H locs ls ⟨hj, hJ, hP, hD, hS, hl⟩
      refine lv_iload_n hx hb dX4_nextMark_22 rfl (lv_at hl 0 rfl) ?_
      refine lv_bipush (v := nI 120) hx hb dX4_nextMark_23 (by decide) ?_
      refine z_ge hx hb (tgt := 118) ((mot d + j : Nat) : Int) 120 dX4_nextMark_25 (by decide) (toI (by omega)) (by decide) (fun c_25 => ?_) (fun c_25 => ?_)
      · skip
        have hJ2 : nxJ r s d = j := by rw [hJ, show 120 - (mot d + j) = 0 by omega]; exact Nat.zero_add j
        have hcc : nxc r s d = j := by unfold nxc; rw [hJ2, if_neg (by omega)]
        refine lv_bipush (v := (-6)) hx hb dX4_nextMark_118 (by decide) ?_
        have hPj := hP.sub (ws' := [(h, .inr (4, [.ref an, .ref tr, .ref ah, .int ch, .ref ak, .ref ai, .ref ap, .int sy, .ref af, .int sp])), (af, .inl (gI G, 121, .inl (fun q9 => nI (fdy q9)))), (an, .inl (gI G, 2175, .inl (lmk r s (mot d) j)))]) [0, 1, 2] rfl
        have hwj : ([(h, .inr (4, [.ref an, .ref tr, .ref ah, .int ch, .ref ak, .ref ai, .ref ap, .int sy, .ref af, .int sp])), (af, .inl (gI G, 121, .inl (fun q9 => nI (fdy q9)))), (an, .inl (gI G, 2175, .inl (lmk r s (mot d) j)))] : va_W) = [(h, .inr (4, [.ref an, .ref tr, .ref ah, .int ch, .ref ak, .ref ai, .ref ap, .int sy, .ref af, .int sp])), (af, .inl (gI G, 121, .inl (fun q9 => nI (fdy q9)))), (an, .inl (gI G, 2175, .inl (lmk r s (mot d) (nxc r s d))))] := (wlc (rfl) (wlc (rfl) (wlc (wli (by rw [hcc])) rfl)))
        rw [hwj] at hPj
        exact e_wi hx hb hr hlk hPj hS (by unfold nxr; rw [hJ2, if_neg (by omega)]) dX4_nextMark_120
      · skip
        refine lv_aload_n hx hb dX4_nextMark_28 rfl (lv_at hl 1 rfl) ?_
        refine va_get (ci := 4) (v := .ref an) (C := RX4) (T := TX4) (N := 10) hx hb hts inGX4 hown hK hP 0 rfl rfl 0 (by decide) (hts _ mw_3_54) (fun _ h9 => h9) rfl dX4_nextMark_29 ?_
        refine lv_iload_n hx hb dX4_nextMark_32 rfl (lv_at hl 0 rfl) ?_
        refine lv_iload_n hx hb dX4_nextMark_33 rfl (lv_at hl 2 rfl) ?_
        refine k_roS (As := [.int (nI (mot d + j)), .int (nI s)]) (rest := [.ref an]) hF (c_X4_at l G (mot d + j) s) mw_3_117 mw_3_118 mw_1_5 mw_3_119 hd_X4_at ⟨Nat.le_of_ble_eq_true rfl, Nat.le_of_ble_eq_true rfl⟩ (Rd.of hKx hZ hS) (hP.sub (ws' := []) [] rfl) rfl hl.1 rfl (Nat.le_of_ble_eq_true rfl) dX4_nextMark_34 ⟨Nat.zero_le _, Nat.zero_le _⟩ ?_
        refine n_iald hx hb hK hP 2 0 rfl rfl (by omega) (by omega) dX4_nextMark_37 ?_
        refine lv_cv (y := r (255 + 16 * (mot d + j) + s)) (by rw [Nat.add_assoc 255]; exact lmk_mk hB j (by omega)) ?_
        refine z0_eq hx hb (tgt := 112) ((r (255 + 16 * (mot d + j) + s)).toInt) dX4_nextMark_38 (by decide) rfl (fun c_38 => ?_) (fun c_38 => ?_)
        · skip
          refine lv_iinc (v := nI (mot d + j + 1)) (lv' := [(3, .int (nI (mot d + j + 1))), (0, .ref h), (1, .int (nI s)), (2, .int (nI d))]) hx hb dX4_nextMark_112 hl (k := 0) rfl (nI_add _ _) (by decide) rfl (fun ls hl => ?_)
          refine lv_goto (tgt := 22) hx hb dX4_nextMark_115 (by decide) ?_
          have w_1 : ([(h, .inr (4, [.ref an, .ref tr, .ref ah, .int ch, .ref ak, .ref ai, .ref ap, .int sy, .ref af, .int sp])), (af, .inl (gI G, 121, .inl (fun q9 => nI (fdy q9)))), (an, .inl (gI G, 2175, .inl (lmk r s (mot d) j)))] : va_W) = [(h, .inr (4, [.ref an, .ref tr, .ref ah, .int ch, .ref ak, .ref ai, .ref ap, .int sy, .ref af, .int sp])), (af, .inl (gI G, 121, .inl (fun q9 => nI (fdy q9)))), (an, .inl (gI G, 2175, .inl (lmk r s (mot d) (j + 1))))] := (wlc (rfl) (wlc (rfl) (wlc (by first | rfl | exact wli (lmk_f c_38)) rfl)))
          have hPj := hP.sub (ws' := [(h, .inr (4, [.ref an, .ref tr, .ref ah, .int ch, .ref ak, .ref ai, .ref ap, .int sy, .ref af, .int sp])), (af, .inl (gI G, 121, .inl (fun q9 => nI (fdy q9)))), (an, .inl (gI G, 2175, .inl (lmk r s (mot d) j)))]) [0, 1, 2] rfl
          have hDj := hD.sub (ws' := [(h, .inr (4, [.ref an, .ref tr, .ref ah, .int ch, .ref ak, .ref ai, .ref ap, .int sy, .ref af, .int sp])), (af, .inl (gI G, 121, .inl (fun q9 => nI (fdy q9)))), (an, .inl (gI G, 2175, .inl (lmk r s (mot d) j)))]) [0, 1, 2] (by decide) rfl
          rw [w_1] at hPj hDj
          exact ihj (j + 1) _ _ ls (by omega) ⟨(by omega), (by rw [hJ, nxn_f (by omega) (by first | exact fsk_z c_38 _ _ | exact hsk.trans (fsk_e (by omega)))]; show _ = nxn r s d (120 - (mot d + j + 1)) (mot d + j + 1) + (j + 1); omega), hPj, hDj, hS, lv_sub hl [0, 1, 2, 3] (lvc (by first | rfl | exact congrArg nI (by omega)) (lvr (lvr (lvr rfl))))⟩
        · skip
          refine lv_aload_n hx hb dX4_nextMark_41 rfl (lv_at hl 1 rfl) ?_
          refine lv_aload_n hx hb dX4_nextMark_42 rfl (lv_at hl 1 rfl) ?_
          refine va_get (ci := 4) (v := .ref an) (C := RX4) (T := TX4) (N := 10) hx hb hts inGX4 hown hK hP 0 rfl rfl 0 (by decide) (hts _ mw_3_54) (fun _ h9 => h9) rfl dX4_nextMark_43 ?_
          refine lv_iload_n hx hb dX4_nextMark_46 rfl (lv_at hl 0 rfl) ?_
          refine k_rvV (ci := 4) (q0 := 0) (As := [.ref an, .int (nI (mot d + j))]) (rest := []) (wr := []) hF (c_X4_look l G _ h an tr ah ch ak ai ap sy af sp an (lmk r s (mot d) j) (mot d + j) (by omega) ((Br_lmk hB j (by omega)).b (by omega))) ⟨_, rfl, rfl⟩ rfl rfl mw_3_212 mw_3_214 mw_p2_3 mw_1_5 mw_3_215 hd_X4_look ⟨Nat.le_of_ble_eq_true rfl, Nat.le_of_ble_eq_true rfl⟩ hKx hZ hS hP hD hA [0, 1, 2] [] rfl rfl (by decide) (by decide) (by decide) rfl rfl hl.1 rfl (Nat.le_of_ble_eq_true rfl) dX4_nextMark_47 ⟨Nat.zero_le _, Nat.zero_le _⟩ (fun H locs hP hD hS => ?_)
          have hP : va_P G.1 vwCl [(h, .inr (4, [.ref an, .ref tr, .ref ah, .int ch, .ref ak, .ref ai, .ref ap, .int sy, .ref af, .int sp])), (af, .inl (gI G, 121, .inl (fun q9 => nI (fdy q9)))), (an, .inl (gI G, 2175, .inl (lok (lmk r s (mot d) j) (mot d + j))))] H := hP
          have hD : va_D A [(h, .inr (4, [.ref an, .ref tr, .ref ah, .int ch, .ref ak, .ref ai, .ref ap, .int sy, .ref af, .int sp])), (af, .inl (gI G, 121, .inl (fun q9 => nI (fdy q9)))), (an, .inl (gI G, 2175, .inl (lok (lmk r s (mot d) j) (mot d + j))))] := hD
          have hw_2 : ([(h, .inr (4, [.ref an, .ref tr, .ref ah, .int ch, .ref ak, .ref ai, .ref ap, .int sy, .ref af, .int sp])), (af, .inl (gI G, 121, .inl (fun q9 => nI (fdy q9)))), (an, .inl (gI G, 2175, .inl (lok (lmk r s (mot d) j) (mot d + j))))] : va_W) = [(h, .inr (4, [.ref an, .ref tr, .ref ah, .int ch, .ref ak, .ref ai, .ref ap, .int sy, .ref af, .int sp])), (af, .inl (gI G, 121, .inl (fun q9 => nI (fdy q9)))), (an, .inl (gI G, 2175, .inl (lmk r s (mot d) (j + 1))))] := (wlc rfl (wlc rfl (wlc (wli (lmk_t c_38)) rfl)))
          rw [hw_2] at hP hD
          refine lv_aload_n hx hb dX4_nextMark_50 rfl (lv_at hl 1 rfl) ?_
          refine va_get (ci := 4) (v := .ref an) (C := RX4) (T := TX4) (N := 10) hx hb hts inGX4 hown hK hP 0 rfl rfl 0 (by decide) (hts _ mw_3_54) (fun _ h9 => h9) rfl dX4_nextMark_51 ?_
          refine lv_iload_n hx hb dX4_nextMark_54 rfl (lv_at hl 0 rfl) ?_
          refine lv_iload_n hx hb dX4_nextMark_55 rfl (lv_at hl 2 rfl) ?_
          refine k_roS (As := [.int (nI (mot d + j)), .int (nI s)]) (rest := [.ref an]) hF (c_X4_at l G (mot d + j) s) mw_3_117 mw_3_118 mw_1_5 mw_3_119 hd_X4_at ⟨Nat.le_of_ble_eq_true rfl, Nat.le_of_ble_eq_true rfl⟩ (Rd.of hKx hZ hS) (hP.sub (ws' := []) [] rfl) rfl hl.1 rfl (Nat.le_of_ble_eq_true rfl) dX4_nextMark_56 ⟨Nat.zero_le _, Nat.zero_le _⟩ ?_
          refine n_iald hx hb hK hP 2 0 rfl rfl (by omega) (by omega) dX4_nextMark_59 ?_
          refine lv_cv (y := r (255 + 16 * (mot d + j) + s)) (by rw [Nat.add_assoc 255]; exact lmk_mk hB (j + 1) (by omega)) ?_
          refine lv_aload_n hx hb dX4_nextMark_60 rfl (lv_at hl 1 rfl) ?_
          refine lv_iload_n hx hb dX4_nextMark_61 rfl (lv_at hl 0 rfl) ?_
          refine lv_iload_n hx hb dX4_nextMark_62 rfl (lv_at hl 3 rfl) ?_
          refine lv_sipush (v := nI 3649) hx hb dX4_nextMark_63 (by decide) ?_
          refine k_roV (ci := 4) (q0 := 0) (As := [.int (nI (mot d + j)), .int (nI d), .int (nI 3649)]) (rest := [.int (r (255 + 16 * (mot d + j) + s))]) hF (c_X4_meant l G h an tr ah ch ak ai ap sy af sp (mot d + j) d 3649 (by omega) (by omega) (by omega)) hKx hP ⟨_, rfl, rfl⟩ rfl rfl mw_3_179 mw_3_181 mw_p1_15 mw_1_5 mw_3_182 hd_X4_meant ⟨Nat.le_of_ble_eq_true rfl, Nat.le_of_ble_eq_true rfl⟩ (Rd.of hKx hZ hS) (hP.sub (ws' := [(h, .inr (4, [.ref an, .ref tr, .ref ah, .int ch, .ref ak, .ref ai, .ref ap, .int sy, .ref af, .int sp])), (af, .inl (gI G, 121, .inl (fun q9 => nI (fdy q9))))]) [0, 1] rfl) rfl hl.1 rfl (Nat.le_of_ble_eq_true rfl) dX4_nextMark_66 ⟨Nat.zero_le _, Nat.zero_le _⟩ ?_
          refine lv_iand hx hb dX4_nextMark_69 ?_
          refine lv_istore (lv' := [(4, .int ((r (255 + 16 * (mot d + j) + s)) &&& (mnt (mot d + j) d 3649))), (3, .int (nI (mot d + j))), (0, .ref h), (1, .int (nI s)), (2, .int (nI d))]) hx hb dX4_nextMark_70 hl (by decide) rfl (fun ls hl => ?_)
          refine lv_iconst (v := nI 0) hx hb dX4_nextMark_72 (by decide) ?_
          refine lv_istore (lv' := [(5, .int (nI 0)), (4, .int ((r (255 + 16 * (mot d + j) + s)) &&& (mnt (mot d + j) d 3649))), (3, .int (nI (mot d + j))), (0, .ref h), (1, .int (nI s)), (2, .int (nI d))]) hx hb dX4_nextMark_73 hl (by decide) rfl (fun ls hl => ?_)
          have hPj := hP.sub (ws' := [(h, .inr (4, [.ref an, .ref tr, .ref ah, .int ch, .ref ak, .ref ai, .ref ap, .int sy, .ref af, .int sp])), (af, .inl (gI G, 121, .inl (fun q9 => nI (fdy q9)))), (an, .inl (gI G, 2175, .inl (lmk r s (mot d) (j + 1))))]) [0, 1, 2] rfl
          have hDj := hD.sub (ws' := [(h, .inr (4, [.ref an, .ref tr, .ref ah, .int ch, .ref ak, .ref ai, .ref ap, .int sy, .ref af, .int sp])), (af, .inl (gI G, 121, .inl (fun q9 => nI (fdy q9)))), (an, .inl (gI G, 2175, .inl (lmk r s (mot d) (j + 1))))]) [0, 1, 2] (by decide) rfl
          refine wloopH [] (fun k H locs ls => (k ≤ dys (mot d + j)) ∧ (fsm r s (mot d + j) d = fsk r s (mot d + j) d (dys (mot d + j) - k) k) ∧ va_P G.1 vwCl [(h, .inr (4, [.ref an, .ref tr, .ref ah, .int ch, .ref ak, .ref ai, .ref ap, .int sy, .ref af, .int sp])), (af, .inl (gI G, 121, .inl (fun q9 => nI (fdy q9)))), (an, .inl (gI G, 2175, .inl (lmk r s (mot d) (j + 1))))] H ∧ va_D A [(h, .inr (4, [.ref an, .ref tr, .ref ah, .int ch, .ref ak, .ref ai, .ref ap, .int sy, .ref af, .int sp])), (af, .inl (gI G, 121, .inl (fun q9 => nI (fdy q9)))), (an, .inl (gI G, 2175, .inl (lmk r s (mot d) (j + 1))))] ∧ va_S A sq.heap H locs ∧ lv_has ls 6 [(5, .int (nI k)), (4, .int (r (255 + 16 * (mot d + j) + s) &&& mnt (mot d + j) d 3649)), (3, .int (nI (mot d + j))), (0, .ref h), (1, .int (nI s)), (2, .int (nI d))]) (fun k => dys (mot d + j) - k) ?_ 0 ⟨(by omega), (rfl), hPj, hDj, hS, lv_sub hl [0, 1, 2, 3, 4, 5] rfl⟩
          intro k ihk
          intro H locs ls ⟨hk, hsk, hP, hD, hS, hl⟩
          have hdy := dys_in (mot d + j)
          have hfl := fdy_lt' (m := mot d + j) (by omega)
          refine lv_iload hx hb dX4_nextMark_75 (lv_at hl 0 rfl) ?_
          refine lv_aload_n hx hb dX4_nextMark_77 rfl (lv_at hl 3 rfl) ?_
          refine lv_iload_n hx hb dX4_nextMark_78 rfl (lv_at hl 2 rfl) ?_
          refine k_roV (ci := 4) (q0 := 0) (As := [.int (nI (mot d + j))]) (rest := [.int (nI k)]) hF (c_X4_daysOf l G h an tr ah ch ak ai ap sy af sp (mot d + j) (by omega)) hKx hP ⟨_, rfl, rfl⟩ rfl rfl mw_3_183 mw_3_185 mw_p2_0 mw_1_5 mw_3_186 hd_X4_daysOf ⟨Nat.le_of_ble_eq_true rfl, Nat.le_of_ble_eq_true rfl⟩ (Rd.of hKx hZ hS) (hP.sub (ws' := [(h, .inr (4, [.ref an, .ref tr, .ref ah, .int ch, .ref ak, .ref ai, .ref ap, .int sy, .ref af, .int sp])), (af, .inl (gI G, 121, .inl (fun q9 => nI (fdy q9))))]) [0, 1] rfl) rfl hl.1 rfl (Nat.le_of_ble_eq_true rfl) dX4_nextMark_79 ⟨Nat.zero_le _, Nat.zero_le _⟩ ?_
          refine z_ge hx hb (tgt := 112) ((k : Nat) : Int) ((dys (mot d + j) : Nat) : Int) dX4_nextMark_82 (by decide) (toI (by omega)) (toI (by omega)) (fun c_82 => ?_) (fun c_82 => ?_)
          · skip
            refine lv_iinc (v := nI (mot d + j + 1)) (lv' := [(3, .int (nI (mot d + j + 1))), (5, .int (nI k)), (4, .int (r (255 + 16 * (mot d + j) + s) &&& mnt (mot d + j) d 3649)), (0, .ref h), (1, .int (nI s)), (2, .int (nI d))]) hx hb dX4_nextMark_112 hl (k := 2) rfl (nI_add _ _) (by decide) rfl (fun ls hl => ?_)
            refine lv_goto (tgt := 22) hx hb dX4_nextMark_115 (by decide) ?_
            exact ihj (j + 1) _ _ ls (by omega) ⟨(by omega), (by rw [hJ, nxn_f (by omega) (by first | exact fsk_z c_38 _ _ | exact hsk.trans (fsk_e (by omega)))]; show _ = nxn r s d (120 - (mot d + j + 1)) (mot d + j + 1) + (j + 1); omega), (hP.sub (ws' := [(h, .inr (4, [.ref an, .ref tr, .ref ah, .int ch, .ref ak, .ref ai, .ref ap, .int sy, .ref af, .int sp])), (af, .inl (gI G, 121, .inl (fun q9 => nI (fdy q9)))), (an, .inl (gI G, 2175, .inl (lmk r s (mot d) (j + 1))))]) [0, 1, 2] rfl), (hD.sub (ws' := [(h, .inr (4, [.ref an, .ref tr, .ref ah, .int ch, .ref ak, .ref ai, .ref ap, .int sy, .ref af, .int sp])), (af, .inl (gI G, 121, .inl (fun q9 => nI (fdy q9)))), (an, .inl (gI G, 2175, .inl (lmk r s (mot d) (j + 1))))]) [0, 1, 2] (by decide) rfl), hS, lv_sub hl [0, 3, 4, 5] (lvc (by first | rfl | exact congrArg nI (by omega)) (lvr (lvr (lvr rfl))))⟩
          · skip
            have hbi : bn (r (255 + 16 * (mot d + j) + s) &&& mnt (mot d + j) d 3649) k = 1 ↔ (bt (r (255 + 16 * (mot d + j) + s)) k = true ∧ d ≤ fdy (mot d + j) + k) := by
              rw [bn_and, bn_mnt (by omega), bn_1]; exact ⟨fun z => ⟨z.1, z.2.1⟩, fun z => ⟨z.1, z.2, by omega⟩⟩
            have hbl := bn_le (r (255 + 16 * (mot d + j) + s) &&& mnt (mot d + j) d 3649) k
            refine lv_iload hx hb dX4_nextMark_85 (lv_at hl 1 rfl) ?_
            refine lv_iload hx hb dX4_nextMark_87 (lv_at hl 0 rfl) ?_
            refine lv_ishr hx hb dX4_nextMark_89 ?_
            refine lv_iconst (v := nI 1) hx hb dX4_nextMark_90 (by decide) ?_
            refine lv_iand hx hb dX4_nextMark_91 ?_
            refine lv_cv (y := nI (bn (r (255 + 16 * (mot d + j) + s) &&& mnt (mot d + j) d 3649) k)) (b_sra (by omega)) ?_
            refine lv_iconst (v := nI 1) hx hb dX4_nextMark_92 (by decide) ?_
            refine z_ne hx hb (tgt := 106) ((bn (r (255 + 16 * (mot d + j) + s) &&& mnt (mot d + j) d 3649) k : Nat) : Int) 1 dX4_nextMark_93 (by decide) (toI (by omega)) (by decide) (fun c_93 => ?_) (fun c_93 => ?_)
            · skip
              refine lv_iinc (v := nI (k + 1)) (lv' := [(5, .int (nI (k + 1))), (4, .int (r (255 + 16 * (mot d + j) + s) &&& mnt (mot d + j) d 3649)), (3, .int (nI (mot d + j))), (0, .ref h), (1, .int (nI s)), (2, .int (nI d))]) hx hb dX4_nextMark_106 hl (k := 0) rfl (nI_add _ _) (by decide) rfl (fun ls hl => ?_)
              refine lv_goto (tgt := 75) hx hb dX4_nextMark_109 (by decide) ?_
              exact ihk (k + 1) _ _ ls (by omega) ⟨(by omega), (hsk.trans (fsk_f (by omega) (fun z => c_93 (by rw [hbi.mpr z]; rfl)))), (hP.sub (ws' := [(h, .inr (4, [.ref an, .ref tr, .ref ah, .int ch, .ref ak, .ref ai, .ref ap, .int sy, .ref af, .int sp])), (af, .inl (gI G, 121, .inl (fun q9 => nI (fdy q9)))), (an, .inl (gI G, 2175, .inl (lmk r s (mot d) (j + 1))))]) [0, 1, 2] rfl), (hD.sub (ws' := [(h, .inr (4, [.ref an, .ref tr, .ref ah, .int ch, .ref ak, .ref ai, .ref ap, .int sy, .ref af, .int sp])), (af, .inl (gI G, 121, .inl (fun q9 => nI (fdy q9)))), (an, .inl (gI G, 2175, .inl (lmk r s (mot d) (j + 1))))]) [0, 1, 2] (by decide) rfl), hS, lv_sub hl [0, 1, 2, 3, 4, 5] rfl⟩
            · skip
              have hfs := hsk.trans (fsk_t (by omega) (hbi.mp (by omega)))
              have hJ2 : nxJ r s d = j := by rw [hJ, nxn_t (by omega) (by rw [hfs]; exact nI_ne6 (by omega))]; omega
              have hcc : nxc r s d = j + 1 := by unfold nxc; rw [hJ2, if_pos (by omega)]
              refine lv_aload_n hx hb dX4_nextMark_96 rfl (lv_at hl 3 rfl) ?_
              refine va_get (ci := 4) (v := .ref af) (C := RX4) (T := TX4) (N := 10) hx hb hts inGX4 hown hK hP 0 rfl rfl 8 (by decide) (hts _ mw_3_62) (fun _ h9 => h9) rfl dX4_nextMark_97 ?_
              refine lv_iload_n hx hb dX4_nextMark_100 rfl (lv_at hl 2 rfl) ?_
              refine n_iald hx hb hK hP 1 0 rfl rfl (by omega) (by omega) dX4_nextMark_101 ?_
              refine lv_iload hx hb dX4_nextMark_102 (lv_at hl 0 rfl) ?_
              refine n_iadd hx hb dX4_nextMark_104 ?_
              have hPj := hP.sub (ws' := [(h, .inr (4, [.ref an, .ref tr, .ref ah, .int ch, .ref ak, .ref ai, .ref ap, .int sy, .ref af, .int sp])), (af, .inl (gI G, 121, .inl (fun q9 => nI (fdy q9)))), (an, .inl (gI G, 2175, .inl (lmk r s (mot d) (j + 1))))]) [0, 1, 2] rfl
              have hwj : ([(h, .inr (4, [.ref an, .ref tr, .ref ah, .int ch, .ref ak, .ref ai, .ref ap, .int sy, .ref af, .int sp])), (af, .inl (gI G, 121, .inl (fun q9 => nI (fdy q9)))), (an, .inl (gI G, 2175, .inl (lmk r s (mot d) (j + 1))))] : va_W) = [(h, .inr (4, [.ref an, .ref tr, .ref ah, .int ch, .ref ak, .ref ai, .ref ap, .int sy, .ref af, .int sp])), (af, .inl (gI G, 121, .inl (fun q9 => nI (fdy q9)))), (an, .inl (gI G, 2175, .inl (lmk r s (mot d) (nxc r s d))))] := (wlc (rfl) (wlc (rfl) (wlc (wli (by rw [hcc])) rfl)))
              rw [hwj] at hPj
              exact e_wi hx hb hr hlk hPj hS (by unfold nxr; rw [hJ2, if_pos (by omega), hfs]) dX4_nextMark_105
    · skip
      exact absurd c_11 (by omega)
set_option maxHeartbeats 4000000 in
set_option maxRecDepth 100000 in
theorem c_X4_nextMark_e (l : Launch) (G : gT) (h : Nat) (an : Nat) (tr : Nat) (ah : Nat) (ch : Int32) (ak : Nat) (ai : Nat) (ap : Nat) (sy : Int32) (af : Nat) (sp : Int32) (w : Int32) (S0 : Int) (x : Int32) (F : Int) (hw1 : w.toInt = S0) (hF1 : x.toInt = F) (he : ¬ ((0 ≤ S0 ∧ S0 ≤ 15) ∧ (0 ≤ F ∧ F ≤ 3649))) : Ro l G yX4_nextMark cX4_nextMark 6 (some .int) 9 [] [.ref h, .int w, .int x] (-1) := by
  refine Ro.mk (by decide) (Nat.le_of_ble_eq_true rfl) (fun pq eq sq mq bq tq cq ls hr hlk hF hKx hZ hP hl => ?_)
  have hx := hF.1
  have hb := hF.2.1
  have hml := hF.2.2.1
  have hown : sq.vm.findClass RX4 = some mq.cls := hF.2.2.2.1
  have hts : ∀ w ∈ GW, w.before _ sq = true := hF.2.2.2.2
  have hK := hKx.1
  have hl : lv_has ls 6 [(0, .ref h), (1, .int w), (2, .int x)] := hl
  have hS : va_S (fun _ => False) sq.heap sq.heap [] := va_S.rf
  have hP : va_P G.1 vwCl [] sq.heap := hP
  refine lv_iload_n hx hb dX4_nextMark_0 rfl (lv_at hl 1 rfl) ?_
  refine k_roS (As := [.int w]) (rest := []) hF (c_X4_isSubject l G w S0 hw1) mw_3_164 mw_3_165 mw_1_5 mw_3_166 hd_X4_isSubject ⟨Nat.le_of_ble_eq_true rfl, Nat.le_of_ble_eq_true rfl⟩ (Rd.of hKx hZ hS) (hP.sub (ws' := []) [] rfl) rfl hl.1 rfl (Nat.le_of_ble_eq_true rfl) dX4_nextMark_1 ⟨Nat.zero_le _, Nat.zero_le _⟩ ?_
  refine p0_eq hx hb (tgt := 14) dX4_nextMark_4 (by decide) (fun c_4 => ?_) (fun c_4 => ?_)
  · skip
    refine lv_iconst (v := (-1)) hx hb dX4_nextMark_14 (by decide) ?_
    exact e_ri hx hb hr hlk (rfl) dX4_nextMark_15
  · skip
    refine lv_iload_n hx hb dX4_nextMark_7 rfl (lv_at hl 2 rfl) ?_
    refine k_roS (As := [.int x]) (rest := []) hF (c_X4_isDay l G x F hF1) mw_3_171 mw_3_172 mw_1_5 mw_3_173 hd_X4_isDay ⟨Nat.le_of_ble_eq_true rfl, Nat.le_of_ble_eq_true rfl⟩ (Rd.of hKx hZ hS) (hP.sub (ws' := []) [] rfl) rfl hl.1 rfl (Nat.le_of_ble_eq_true rfl) dX4_nextMark_8 ⟨Nat.zero_le _, Nat.zero_le _⟩ ?_
    refine p0_ne hx hb (tgt := 16) dX4_nextMark_11 (by decide) (fun c_11 => ?_) (fun c_11 => ?_)
    · skip
      exact absurd c_11 (by omega)
    · skip
      refine lv_iconst (v := (-1)) hx hb dX4_nextMark_14 (by decide) ?_
      exact e_ri hx hb hr hlk (rfl) dX4_nextMark_15
set_option maxHeartbeats 4000000 in
set_option maxRecDepth 100000 in
theorem c_X4_subjectsIn (l : Launch) (G : gT) (a : Nat) (r : Nat → Int32) (m : Nat) (hm : m < 120) : Ro l G yX4_subjectsIn cX4_subjectsIn 4 (some .int) 1 [(a, .inl (gI G, 2175, .inl r))] [.ref a, .int (nI m)] (subk r m 16) := by
  refine Ro.mk (by decide) (Nat.le_of_ble_eq_true rfl) (fun pq eq sq mq bq tq cq ls hr hlk hF hKx hZ hP hl => ?_)
  have hx := hF.1
  have hb := hF.2.1
  have hml := hF.2.2.1
  have hown : sq.vm.findClass RX4 = some mq.cls := hF.2.2.2.1
  have hts : ∀ w ∈ GW, w.before _ sq = true := hF.2.2.2.2
  have hK := hKx.1
  have hl : lv_has ls 4 [(0, .ref a), (1, .int (nI m))] := hl
  have hS : va_S (fun _ => False) sq.heap sq.heap [] := va_S.rf
  have hP : va_P G.1 vwCl [(a, .inl (gI G, 2175, .inl r))] sq.heap := hP
  refine lv_iconst (v := nI 0) hx hb dX4_subjectsIn_0 (by decide) ?_
  refine lv_istore_n (lv' := [(2, .int (nI 0)), (0, .ref a), (1, .int (nI m))]) hx hb dX4_subjectsIn_1 rfl hl (by decide) rfl (fun ls hl => ?_)
  refine lv_iconst (v := nI 0) hx hb dX4_subjectsIn_2 (by decide) ?_
  refine lv_istore_n (lv' := [(3, .int (nI 0)), (2, .int (nI 0)), (0, .ref a), (1, .int (nI m))]) hx hb dX4_subjectsIn_3 rfl hl (by decide) rfl (fun ls hl => ?_)
  refine wloop (n := 0) [] (fun k ls => (k ≤ 16) ∧ lv_has ls 4 [(3, .int (nI k)), (2, .int (subk r m k)), (0, .ref a), (1, .int (nI m))]) (fun k => 16 - k) ?_ 0 ⟨(by omega), lv_sub hl [0, 1, 2, 3] rfl⟩
  intro k ih
  intro ls ⟨hk, hl⟩
  refine lv_iload_n hx hb dX4_subjectsIn_4 rfl (lv_at hl 0 rfl) ?_
  refine lv_bipush (v := nI 16) hx hb dX4_subjectsIn_5 (by decide) ?_
  refine z_ge hx hb (tgt := 36) ((k : Nat) : Int) 16 dX4_subjectsIn_7 (by decide) (toI (by omega)) (by decide) (fun c_7 => ?_) (fun c_7 => ?_)
  · skip
    have hk2 : k = 16 := by omega
    subst hk2
    refine lv_iload_n hx hb dX4_subjectsIn_36 rfl (lv_at hl 1 rfl) ?_
    exact e_ri hx hb hr hlk (rfl) dX4_subjectsIn_37
  · skip
    refine lv_iload_n hx hb dX4_subjectsIn_10 rfl (lv_at hl 1 rfl) ?_
    refine lv_aload_n hx hb dX4_subjectsIn_11 rfl (lv_at hl 2 rfl) ?_
    refine lv_iload_n hx hb dX4_subjectsIn_12 rfl (lv_at hl 3 rfl) ?_
    refine lv_iload_n hx hb dX4_subjectsIn_13 rfl (lv_at hl 0 rfl) ?_
    refine k_roS (As := [.int (nI m), .int (nI k)]) (rest := [.ref a, .int (subk r m k)]) hF (c_X4_at l G m k) mw_3_117 mw_3_118 mw_1_5 mw_3_119 hd_X4_at ⟨Nat.le_of_ble_eq_true rfl, Nat.le_of_ble_eq_true rfl⟩ (Rd.of hKx hZ hS) (hP.sub (ws' := []) [] rfl) rfl hl.1 rfl (Nat.le_of_ble_eq_true rfl) dX4_subjectsIn_14 ⟨Nat.zero_le _, Nat.zero_le _⟩ ?_
    refine n_iald hx hb hK hP 0 0 rfl rfl (by omega) (by omega) dX4_subjectsIn_17 ?_
    refine z0_eq hx hb (tgt := 27) ((r (255 + 16 * m + k)).toInt) dX4_subjectsIn_18 (by decide) rfl (fun c_18 => ?_) (fun c_18 => ?_)
    · skip
      refine lv_iconst (v := nI 0) hx hb dX4_subjectsIn_27 (by decide) ?_
      refine lv_ior hx hb dX4_subjectsIn_28 ?_
      refine lv_istore_n (lv' := [(2, .int ((subk r m k) ||| (nI 0))), (3, .int (nI k)), (0, .ref a), (1, .int (nI m))]) hx hb dX4_subjectsIn_29 rfl hl (by decide) rfl (fun ls hl => ?_)
      refine lv_iinc (v := nI (k + 1)) (lv' := [(3, .int (nI (k + 1))), (2, .int ((subk r m k) ||| (nI 0))), (0, .ref a), (1, .int (nI m))]) hx hb dX4_subjectsIn_30 hl (k := 1) rfl (nI_add _ _) (by decide) rfl (fun ls hl => ?_)
      refine lv_goto (tgt := 4) hx hb dX4_subjectsIn_33 (by decide) ?_
      exact ih (k + 1) ls (by omega) ⟨(by omega), lv_sub hl [0, 1, 2, 3] (lvr (lvc (by first | exact subk_t c_18 | exact subk_f c_18) (lvr (lvr rfl))))⟩
    · skip
      refine lv_iconst (v := nI 1) hx hb dX4_subjectsIn_21 (by decide) ?_
      refine lv_iload_n hx hb dX4_subjectsIn_22 rfl (lv_at hl 0 rfl) ?_
      refine lv_ishl hx hb dX4_subjectsIn_23 ?_
      refine lv_goto (tgt := 28) hx hb dX4_subjectsIn_24 (by decide) ?_
      refine lv_ior hx hb dX4_subjectsIn_28 ?_
      refine lv_istore_n (lv' := [(2, .int ((subk r m k) ||| ((nI 1) <<< ((nI k) &&& 31)))), (3, .int (nI k)), (0, .ref a), (1, .int (nI m))]) hx hb dX4_subjectsIn_29 rfl hl (by decide) rfl (fun ls hl => ?_)
      refine lv_iinc (v := nI (k + 1)) (lv' := [(3, .int (nI (k + 1))), (2, .int ((subk r m k) ||| ((nI 1) <<< ((nI k) &&& 31)))), (0, .ref a), (1, .int (nI m))]) hx hb dX4_subjectsIn_30 hl (k := 1) rfl (nI_add _ _) (by decide) rfl (fun ls hl => ?_)
      refine lv_goto (tgt := 4) hx hb dX4_subjectsIn_33 (by decide) ?_
      exact ih (k + 1) ls (by omega) ⟨(by omega), lv_sub hl [0, 1, 2, 3] (lvr (lvc (by first | exact subk_t c_18 | exact subk_f c_18) (lvr (lvr rfl))))⟩
set_option maxHeartbeats 4000000 in
set_option maxRecDepth 100000 in
theorem c_X4_ofMonth_k (l : Launch) (G : gT) (h : Nat) (an : Nat) (tr : Nat) (ah : Nat) (ch : Int32) (ak : Nat) (ai : Nat) (ap : Nat) (sy : Int32) (af : Nat) (sp : Int32) (r : Nat → Int32) (m : Nat) (x : Int32) (X : Int) (hB : Br r) (hm : m < 120) (hX : x.toInt = X) : Ro l G yX4_ofMonth cX4_ofMonth 3 (some .int) 8 [(h, .inr (4, [.ref an, .ref tr, .ref ah, .int ch, .ref ak, .ref ai, .ref ap, .int sy, .ref af, .int sp])), (af, .inl (gI G, 121, .inl (fun q9 => nI (fdy q9)))), (an, .inl (gI G, 2175, .inl r))] [.ref h, .int (nI m), .int x] (omv r m X) := by
  refine Ro.mk (by decide) (Nat.le_of_ble_eq_true rfl) (fun pq eq sq mq bq tq cq ls hr hlk hF hKx hZ hP hl => ?_)
  have hx := hF.1
  have hb := hF.2.1
  have hml := hF.2.2.1
  have hown : sq.vm.findClass RX4 = some mq.cls := hF.2.2.2.1
  have hts : ∀ w ∈ GW, w.before _ sq = true := hF.2.2.2.2
  have hK := hKx.1
  have hl : lv_has ls 3 [(0, .ref h), (1, .int (nI m)), (2, .int x)] := hl
  have hS : va_S (fun _ => False) sq.heap sq.heap [] := va_S.rf
  have hP : va_P G.1 vwCl [(h, .inr (4, [.ref an, .ref tr, .ref ah, .int ch, .ref ak, .ref ai, .ref ap, .int sy, .ref af, .int sp])), (af, .inl (gI G, 121, .inl (fun q9 => nI (fdy q9)))), (an, .inl (gI G, 2175, .inl r))] sq.heap := hP
  obtain ⟨h0, ht0, h1, hkp, h2, ho, h6, hc, hRx⟩ := id hB.1
  have hmi : mIn r m ≤ 496 := mIk_le r m 16
  refine lv_iload_n hx hb dX4_ofMonth_0 rfl (lv_at hl 1 rfl) ?_
  refine k_roS (As := [.int (nI m)]) (rest := []) hF (c_X4_isMonth l G (nI m) ((m : Nat) : Int) (toI (by omega))) mw_4_1 mw_4_2 mw_1_5 mw_4_3 hd_X4_isMonth ⟨Nat.le_of_ble_eq_true rfl, Nat.le_of_ble_eq_true rfl⟩ (Rd.of hKx hZ hS) (hP.sub (ws' := []) [] rfl) rfl hl.1 rfl (Nat.le_of_ble_eq_true rfl) dX4_ofMonth_1 ⟨Nat.zero_le _, Nat.zero_le _⟩ ?_
  refine p0_ne hx hb (tgt := 9) dX4_ofMonth_4 (by decide) (fun c_4 => ?_) (fun c_4 => ?_)
  · skip
    refine lv_iload_n hx hb dX4_ofMonth_9 rfl (lv_at hl 2 rfl) ?_
    have sw_10 : x.toInt = X := hX
    rcases (show (X < 0 ∨ 9 < X) ∨ X = 0 ∨ X = 1 ∨ X = 2 ∨ X = 3 ∨ X = 4 ∨ X = 5 ∨ X = 6 ∨ X = 7 ∨ X = 8 ∨ X = 9 by omega) with c_10 | c_10 | c_10 | c_10 | c_10 | c_10 | c_10 | c_10 | c_10 | c_10 | c_10
    · skip
      refine lv_tableOut (tgt := 207) hx hb dX4_ofMonth_10 (by rw [sw_10]; exact c_10) (by decide) ?_
      refine lv_bipush (v := (-2)) hx hb dX4_ofMonth_207 (by decide) ?_
      exact e_ri hx hb hr hlk (by unfold omv; rw [if_neg (by omega), if_neg (by omega), if_neg (by omega), if_neg (by omega), if_neg (by omega), if_neg (by omega), if_neg (by omega), if_neg (by omega), if_neg (by omega), if_neg (by omega)]) dX4_ofMonth_209
    · skip
      refine lv_tableIn (tgt := 64) hx hb dX4_ofMonth_10 (by rw [sw_10, c_10]; decide) (by rw [sw_10, c_10]; decide) (by rw [sw_10, c_10]; rfl) (by decide) ?_
      refine lv_aload_n hx hb dX4_ofMonth_64 rfl (lv_at hl 0 rfl) ?_
      refine va_get (ci := 4) (v := .ref af) (C := RX4) (T := TX4) (N := 10) hx hb hts inGX4 hown hK hP 0 rfl rfl 8 (by decide) (hts _ mw_3_62) (fun _ h9 => h9) rfl dX4_ofMonth_65 ?_
      refine lv_iload_n hx hb dX4_ofMonth_68 rfl (lv_at hl 1 rfl) ?_
      refine n_iald hx hb hK hP 1 0 rfl rfl (by omega) (by omega) dX4_ofMonth_69 ?_
      exact e_ri hx hb hr hlk (by subst c_10; rfl) dX4_ofMonth_70
    · skip
      refine lv_tableIn (tgt := 71) hx hb dX4_ofMonth_10 (by rw [sw_10, c_10]; decide) (by rw [sw_10, c_10]; decide) (by rw [sw_10, c_10]; rfl) (by decide) ?_
      refine lv_aload_n hx hb dX4_ofMonth_71 rfl (lv_at hl 0 rfl) ?_
      refine lv_iload_n hx hb dX4_ofMonth_72 rfl (lv_at hl 1 rfl) ?_
      refine k_roV (ci := 4) (q0 := 0) (As := [.int (nI m)]) (rest := []) hF (c_X4_daysOf l G h an tr ah ch ak ai ap sy af sp m (by omega)) hKx hP ⟨_, rfl, rfl⟩ rfl rfl mw_3_183 mw_3_185 mw_p2_0 mw_1_5 mw_3_186 hd_X4_daysOf ⟨Nat.le_of_ble_eq_true rfl, Nat.le_of_ble_eq_true rfl⟩ (Rd.of hKx hZ hS) (hP.sub (ws' := [(h, .inr (4, [.ref an, .ref tr, .ref ah, .int ch, .ref ak, .ref ai, .ref ap, .int sy, .ref af, .int sp])), (af, .inl (gI G, 121, .inl (fun q9 => nI (fdy q9))))]) [0, 1] rfl) rfl hl.1 rfl (Nat.le_of_ble_eq_true rfl) dX4_ofMonth_73 ⟨Nat.zero_le _, Nat.zero_le _⟩ ?_
      exact e_ri hx hb hr hlk (by subst c_10; rfl) dX4_ofMonth_76
    · skip
      refine lv_tableIn (tgt := 77) hx hb dX4_ofMonth_10 (by rw [sw_10, c_10]; decide) (by rw [sw_10, c_10]; decide) (by rw [sw_10, c_10]; rfl) (by decide) ?_
      refine lv_aload_n hx hb dX4_ofMonth_77 rfl (lv_at hl 0 rfl) ?_
      refine lv_aload_n hx hb dX4_ofMonth_78 rfl (lv_at hl 0 rfl) ?_
      refine va_get (ci := 4) (v := .ref an) (C := RX4) (T := TX4) (N := 10) hx hb hts inGX4 hown hK hP 0 rfl rfl 0 (by decide) (hts _ mw_3_54) (fun _ h9 => h9) rfl dX4_ofMonth_79 ?_
      refine lv_iload_n hx hb dX4_ofMonth_82 rfl (lv_at hl 1 rfl) ?_
      refine k_roV (ci := 4) (q0 := 0) (As := [.ref an, .int (nI m)]) (rest := []) hF (c_X4_isOld l G h an tr ah ch ak ai ap sy af sp an r m (by omega) (hB.b (by omega))) hKx hP ⟨_, rfl, rfl⟩ rfl rfl mw_3_152 mw_3_154 mw_p1_12 mw_1_5 mw_3_155 hd_X4_isOld ⟨Nat.le_of_ble_eq_true rfl, Nat.le_of_ble_eq_true rfl⟩ (Rd.of hKx hZ hS) (hP.sub (ws' := [(h, .inr (4, [.ref an, .ref tr, .ref ah, .int ch, .ref ak, .ref ai, .ref ap, .int sy, .ref af, .int sp])), (af, .inl (gI G, 121, .inl (fun q9 => nI (fdy q9)))), (an, .inl (gI G, 2175, .inl r))]) [0, 1, 2] rfl) rfl hl.1 rfl (Nat.le_of_ble_eq_true rfl) dX4_ofMonth_83 ⟨Nat.zero_le _, Nat.zero_le _⟩ ?_
      refine p0_eq hx hb (tgt := 93) dX4_ofMonth_86 (by decide) (fun c_86 => ?_) (fun c_86 => ?_)
      · skip
        refine lv_iconst (v := nI 0) hx hb dX4_ofMonth_93 (by decide) ?_
        exact e_ri hx hb hr hlk (by subst c_10; first | exact pI_t' (by omega) | exact pI_f' (by omega)) dX4_ofMonth_94
      · skip
        refine lv_iconst (v := nI 1) hx hb dX4_ofMonth_89 (by decide) ?_
        refine lv_goto (tgt := 94) hx hb dX4_ofMonth_90 (by decide) ?_
        exact e_ri hx hb hr hlk (by subst c_10; first | exact pI_t' (by omega) | exact pI_f' (by omega)) dX4_ofMonth_94
    · skip
      refine lv_tableIn (tgt := 95) hx hb dX4_ofMonth_10 (by rw [sw_10, c_10]; decide) (by rw [sw_10, c_10]; decide) (by rw [sw_10, c_10]; rfl) (by decide) ?_
      refine lv_aload_n hx hb dX4_ofMonth_95 rfl (lv_at hl 0 rfl) ?_
      refine va_get (ci := 4) (v := .ref an) (C := RX4) (T := TX4) (N := 10) hx hb hts inGX4 hown hK hP 0 rfl rfl 0 (by decide) (hts _ mw_3_54) (fun _ h9 => h9) rfl dX4_ofMonth_96 ?_
      refine lv_iload_n hx hb dX4_ofMonth_99 rfl (lv_at hl 1 rfl) ?_
      refine k_roS (As := [.ref an, .int (nI m)]) (rest := []) hF (c_X4_placeOf l G an r m (by omega) (by omega) (by omega)) mw_3_197 mw_3_198 mw_1_5 mw_3_199 hd_X4_placeOf ⟨Nat.le_of_ble_eq_true rfl, Nat.le_of_ble_eq_true rfl⟩ (Rd.of hKx hZ hS) (hP.sub (ws' := [(an, .inl (gI G, 2175, .inl r))]) [2] rfl) rfl hl.1 rfl (Nat.le_of_ble_eq_true rfl) dX4_ofMonth_100 ⟨Nat.zero_le _, Nat.zero_le _⟩ ?_
      refine lv_bipush (v := (-6)) hx hb dX4_ofMonth_103 (by decide) ?_
      refine z_eq hx hb (tgt := 112) ((plo r m).toInt) (-6) dX4_ofMonth_105 (by decide) rfl (by decide) (fun c_105 => ?_) (fun c_105 => ?_)
      · skip
        refine lv_iconst (v := nI 0) hx hb dX4_ofMonth_112 (by decide) ?_
        exact e_ri hx hb hr hlk (by subst c_10; first | exact pI_t' (fun z => c_105 (congrArg Int32.toInt z)) | exact pI_f' (fun z => z (Int32.toInt_inj.mp c_105))) dX4_ofMonth_113
      · skip
        refine lv_iconst (v := nI 1) hx hb dX4_ofMonth_108 (by decide) ?_
        refine lv_goto (tgt := 113) hx hb dX4_ofMonth_109 (by decide) ?_
        exact e_ri hx hb hr hlk (by subst c_10; first | exact pI_t' (fun z => c_105 (congrArg Int32.toInt z)) | exact pI_f' (fun z => z (Int32.toInt_inj.mp c_105))) dX4_ofMonth_113
    · skip
      refine lv_tableIn (tgt := 114) hx hb dX4_ofMonth_10 (by rw [sw_10, c_10]; decide) (by rw [sw_10, c_10]; decide) (by rw [sw_10, c_10]; rfl) (by decide) ?_
      refine lv_aload_n hx hb dX4_ofMonth_114 rfl (lv_at hl 0 rfl) ?_
      refine va_get (ci := 4) (v := .ref an) (C := RX4) (T := TX4) (N := 10) hx hb hts inGX4 hown hK hP 0 rfl rfl 0 (by decide) (hts _ mw_3_54) (fun _ h9 => h9) rfl dX4_ofMonth_115 ?_
      refine lv_bipush (v := nI 15) hx hb dX4_ofMonth_118 (by decide) ?_
      refine lv_iload_n hx hb dX4_ofMonth_120 rfl (lv_at hl 1 rfl) ?_
      refine n_iadd hx hb dX4_ofMonth_121 ?_
      refine n_iald hx hb hK hP 2 0 rfl rfl (by omega) (by omega) dX4_ofMonth_122 ?_
      refine z0_ne hx hb (tgt := 130) ((r (15 + m)).toInt) dX4_ofMonth_123 (by decide) rfl (fun c_123 => ?_) (fun c_123 => ?_)
      · skip
        refine lv_aload_n hx hb dX4_ofMonth_130 rfl (lv_at hl 0 rfl) ?_
        refine va_get (ci := 4) (v := .ref an) (C := RX4) (T := TX4) (N := 10) hx hb hts inGX4 hown hK hP 0 rfl rfl 0 (by decide) (hts _ mw_3_54) (fun _ h9 => h9) rfl dX4_ofMonth_131 ?_
        refine lv_bipush (v := nI 15) hx hb dX4_ofMonth_134 (by decide) ?_
        refine lv_iload_n hx hb dX4_ofMonth_136 rfl (lv_at hl 1 rfl) ?_
        refine n_iadd hx hb dX4_ofMonth_137 ?_
        refine n_iald hx hb hK hP 2 0 rfl rfl (by omega) (by omega) dX4_ofMonth_138 ?_
        refine lv_iconst (v := nI 1) hx hb dX4_ofMonth_139 (by decide) ?_
        refine lv_isub hx hb dX4_ofMonth_140 ?_
        exact e_ri hx hb hr hlk (by subst c_10; first | exact (show nI 4 = if (r (15 + m)).toInt = 0 then nI 4 else r (15 + m) - nI 1 from (if_pos c_123).symm) | exact (show r (15 + m) - nI 1 = if (r (15 + m)).toInt = 0 then nI 4 else r (15 + m) - nI 1 from (if_neg c_123).symm)) dX4_ofMonth_141
      · skip
        refine lv_iconst (v := nI 4) hx hb dX4_ofMonth_126 (by decide) ?_
        refine lv_goto (tgt := 141) hx hb dX4_ofMonth_127 (by decide) ?_
        exact e_ri hx hb hr hlk (by subst c_10; first | exact (show nI 4 = if (r (15 + m)).toInt = 0 then nI 4 else r (15 + m) - nI 1 from (if_pos c_123).symm) | exact (show r (15 + m) - nI 1 = if (r (15 + m)).toInt = 0 then nI 4 else r (15 + m) - nI 1 from (if_neg c_123).symm)) dX4_ofMonth_141
    · skip
      refine lv_tableIn (tgt := 142) hx hb dX4_ofMonth_10 (by rw [sw_10, c_10]; decide) (by rw [sw_10, c_10]; decide) (by rw [sw_10, c_10]; rfl) (by decide) ?_
      refine lv_aload_n hx hb dX4_ofMonth_142 rfl (lv_at hl 0 rfl) ?_
      refine va_get (ci := 4) (v := .ref an) (C := RX4) (T := TX4) (N := 10) hx hb hts inGX4 hown hK hP 0 rfl rfl 0 (by decide) (hts _ mw_3_54) (fun _ h9 => h9) rfl dX4_ofMonth_143 ?_
      refine lv_iload_n hx hb dX4_ofMonth_146 rfl (lv_at hl 1 rfl) ?_
      refine k_roS (As := [.ref an, .int (nI m)]) (rest := []) hF (c_X4_sizeOf l G an r m (by omega)) mw_3_132 mw_3_133 mw_1_5 mw_3_134 hd_X4_sizeOf ⟨Nat.le_of_ble_eq_true rfl, Nat.le_of_ble_eq_true rfl⟩ (Rd.of hKx hZ hS) (hP.sub (ws' := [(an, .inl (gI G, 2175, .inl r))]) [2] rfl) rfl hl.1 rfl (Nat.le_of_ble_eq_true rfl) dX4_ofMonth_147 ⟨Nat.zero_le _, Nat.zero_le _⟩ ?_
      exact e_ri hx hb hr hlk (by subst c_10; rfl) dX4_ofMonth_150
    · skip
      refine lv_tableIn (tgt := 151) hx hb dX4_ofMonth_10 (by rw [sw_10, c_10]; decide) (by rw [sw_10, c_10]; decide) (by rw [sw_10, c_10]; rfl) (by decide) ?_
      refine lv_aload_n hx hb dX4_ofMonth_151 rfl (lv_at hl 0 rfl) ?_
      refine va_get (ci := 4) (v := .ref an) (C := RX4) (T := TX4) (N := 10) hx hb hts inGX4 hown hK hP 0 rfl rfl 0 (by decide) (hts _ mw_3_54) (fun _ h9 => h9) rfl dX4_ofMonth_152 ?_
      refine lv_bipush (v := nI 15) hx hb dX4_ofMonth_155 (by decide) ?_
      refine lv_iload_n hx hb dX4_ofMonth_157 rfl (lv_at hl 1 rfl) ?_
      refine n_iadd hx hb dX4_ofMonth_158 ?_
      refine n_iald hx hb hK hP 2 0 rfl rfl (by omega) (by omega) dX4_ofMonth_159 ?_
      refine lv_iconst (v := nI 2) hx hb dX4_ofMonth_160 (by decide) ?_
      refine z_ne hx hb (tgt := 177) ((r (15 + m)).toInt) 2 dX4_ofMonth_161 (by decide) rfl (by decide) (fun c_161 => ?_) (fun c_161 => ?_)
      · skip
        refine lv_bipush (v := (-6)) hx hb dX4_ofMonth_177 (by decide) ?_
        exact e_ri hx hb hr hlk (by subst c_10; first | exact (show r (135 + m) = if (r (15 + m)).toInt = 2 then r (135 + m) else -6 from (if_pos c_161).symm) | exact (show (-6 : Int32) = if (r (15 + m)).toInt = 2 then r (135 + m) else -6 from (if_neg c_161).symm)) dX4_ofMonth_179
      · skip
        refine lv_aload_n hx hb dX4_ofMonth_164 rfl (lv_at hl 0 rfl) ?_
        refine va_get (ci := 4) (v := .ref an) (C := RX4) (T := TX4) (N := 10) hx hb hts inGX4 hown hK hP 0 rfl rfl 0 (by decide) (hts _ mw_3_54) (fun _ h9 => h9) rfl dX4_ofMonth_165 ?_
        refine lv_sipush (v := nI 135) hx hb dX4_ofMonth_168 (by decide) ?_
        refine lv_iload_n hx hb dX4_ofMonth_171 rfl (lv_at hl 1 rfl) ?_
        refine n_iadd hx hb dX4_ofMonth_172 ?_
        refine n_iald hx hb hK hP 2 0 rfl rfl (by omega) (by omega) dX4_ofMonth_173 ?_
        refine lv_goto (tgt := 179) hx hb dX4_ofMonth_174 (by decide) ?_
        exact e_ri hx hb hr hlk (by subst c_10; first | exact (show r (135 + m) = if (r (15 + m)).toInt = 2 then r (135 + m) else -6 from (if_pos c_161).symm) | exact (show (-6 : Int32) = if (r (15 + m)).toInt = 2 then r (135 + m) else -6 from (if_neg c_161).symm)) dX4_ofMonth_179
    · skip
      refine lv_tableIn (tgt := 180) hx hb dX4_ofMonth_10 (by rw [sw_10, c_10]; decide) (by rw [sw_10, c_10]; decide) (by rw [sw_10, c_10]; rfl) (by decide) ?_
      refine lv_aload_n hx hb dX4_ofMonth_180 rfl (lv_at hl 0 rfl) ?_
      refine va_get (ci := 4) (v := .ref an) (C := RX4) (T := TX4) (N := 10) hx hb hts inGX4 hown hK hP 0 rfl rfl 0 (by decide) (hts _ mw_3_54) (fun _ h9 => h9) rfl dX4_ofMonth_181 ?_
      refine lv_iload_n hx hb dX4_ofMonth_184 rfl (lv_at hl 1 rfl) ?_
      refine k_roS (As := [.ref an, .int (nI m)]) (rest := []) hF (c_X4_marksIn l G an r m (by omega)) mw_3_114 mw_3_115 mw_1_5 mw_3_116 hd_X4_marksIn ⟨Nat.le_of_ble_eq_true rfl, Nat.le_of_ble_eq_true rfl⟩ (Rd.of hKx hZ hS) (hP.sub (ws' := [(an, .inl (gI G, 2175, .inl r))]) [2] rfl) rfl hl.1 rfl (Nat.le_of_ble_eq_true rfl) dX4_ofMonth_185 ⟨Nat.zero_le _, Nat.zero_le _⟩ ?_
      exact e_ri hx hb hr hlk (by subst c_10; rfl) dX4_ofMonth_188
    · skip
      refine lv_tableIn (tgt := 189) hx hb dX4_ofMonth_10 (by rw [sw_10, c_10]; decide) (by rw [sw_10, c_10]; decide) (by rw [sw_10, c_10]; rfl) (by decide) ?_
      refine lv_aload_n hx hb dX4_ofMonth_189 rfl (lv_at hl 0 rfl) ?_
      refine va_get (ci := 4) (v := .ref an) (C := RX4) (T := TX4) (N := 10) hx hb hts inGX4 hown hK hP 0 rfl rfl 0 (by decide) (hts _ mw_3_54) (fun _ h9 => h9) rfl dX4_ofMonth_190 ?_
      refine lv_iload_n hx hb dX4_ofMonth_193 rfl (lv_at hl 1 rfl) ?_
      refine k_roS (As := [.ref an, .int (nI m)]) (rest := []) hF (c_X4_subjectsIn l G an r m (by omega)) mw_4_5 mw_4_6 mw_1_5 mw_4_7 hd_X4_subjectsIn ⟨Nat.le_of_ble_eq_true rfl, Nat.le_of_ble_eq_true rfl⟩ (Rd.of hKx hZ hS) (hP.sub (ws' := [(an, .inl (gI G, 2175, .inl r))]) [2] rfl) rfl hl.1 rfl (Nat.le_of_ble_eq_true rfl) dX4_ofMonth_194 ⟨Nat.zero_le _, Nat.zero_le _⟩ ?_
      exact e_ri hx hb hr hlk (by subst c_10; rfl) dX4_ofMonth_197
    · skip
      refine lv_tableIn (tgt := 198) hx hb dX4_ofMonth_10 (by rw [sw_10, c_10]; decide) (by rw [sw_10, c_10]; decide) (by rw [sw_10, c_10]; rfl) (by decide) ?_
      refine lv_aload_n hx hb dX4_ofMonth_198 rfl (lv_at hl 0 rfl) ?_
      refine va_get (ci := 4) (v := .ref an) (C := RX4) (T := TX4) (N := 10) hx hb hts inGX4 hown hK hP 0 rfl rfl 0 (by decide) (hts _ mw_3_54) (fun _ h9 => h9) rfl dX4_ofMonth_199 ?_
      refine lv_iload_n hx hb dX4_ofMonth_202 rfl (lv_at hl 1 rfl) ?_
      refine k_roS (As := [.ref an, .int (nI m)]) (rest := []) hF (c_X4_placeOf l G an r m (by omega) (by omega) (by omega)) mw_3_197 mw_3_198 mw_1_5 mw_3_199 hd_X4_placeOf ⟨Nat.le_of_ble_eq_true rfl, Nat.le_of_ble_eq_true rfl⟩ (Rd.of hKx hZ hS) (hP.sub (ws' := [(an, .inl (gI G, 2175, .inl r))]) [2] rfl) rfl hl.1 rfl (Nat.le_of_ble_eq_true rfl) dX4_ofMonth_203 ⟨Nat.zero_le _, Nat.zero_le _⟩ ?_
      exact e_ri hx hb hr hlk (by subst c_10; rfl) dX4_ofMonth_206
  · skip
    exact absurd c_4 (by omega)
set_option maxHeartbeats 4000000 in
set_option maxRecDepth 100000 in
theorem c_X4_ofMonth_e (l : Launch) (G : gT) (h : Nat) (an : Nat) (tr : Nat) (ah : Nat) (ch : Int32) (ak : Nat) (ai : Nat) (ap : Nat) (sy : Int32) (af : Nat) (sp : Int32) (w : Int32) (S0 : Int) (x : Int32) (hw1 : w.toInt = S0) (he : ¬ (0 ≤ S0 ∧ S0 ≤ 119)) : Ro l G yX4_ofMonth cX4_ofMonth 3 (some .int) 9 [] [.ref h, .int w, .int x] (-1) := by
  refine Ro.mk (by decide) (Nat.le_of_ble_eq_true rfl) (fun pq eq sq mq bq tq cq ls hr hlk hF hKx hZ hP hl => ?_)
  have hx := hF.1
  have hb := hF.2.1
  have hml := hF.2.2.1
  have hown : sq.vm.findClass RX4 = some mq.cls := hF.2.2.2.1
  have hts : ∀ w ∈ GW, w.before _ sq = true := hF.2.2.2.2
  have hK := hKx.1
  have hl : lv_has ls 3 [(0, .ref h), (1, .int w), (2, .int x)] := hl
  have hS : va_S (fun _ => False) sq.heap sq.heap [] := va_S.rf
  have hP : va_P G.1 vwCl [] sq.heap := hP
  refine lv_iload_n hx hb dX4_ofMonth_0 rfl (lv_at hl 1 rfl) ?_
  refine k_roS (As := [.int w]) (rest := []) hF (c_X4_isMonth l G w S0 hw1) mw_4_1 mw_4_2 mw_1_5 mw_4_3 hd_X4_isMonth ⟨Nat.le_of_ble_eq_true rfl, Nat.le_of_ble_eq_true rfl⟩ (Rd.of hKx hZ hS) (hP.sub (ws' := []) [] rfl) rfl hl.1 rfl (Nat.le_of_ble_eq_true rfl) dX4_ofMonth_1 ⟨Nat.zero_le _, Nat.zero_le _⟩ ?_
  refine p0_ne hx hb (tgt := 9) dX4_ofMonth_4 (by decide) (fun c_4 => ?_) (fun c_4 => ?_)
  · skip
    exact absurd c_4 (by omega)
  · skip
    refine lv_iconst (v := (-1)) hx hb dX4_ofMonth_7 (by decide) ?_
    exact e_ri hx hb hr hlk (rfl) dX4_ofMonth_8
set_option maxHeartbeats 4000000 in
set_option maxRecDepth 100000 in
theorem c_X4_inMonth_k (l : Launch) (G : gT) (h : Nat) (an : Nat) (tr : Nat) (ah : Nat) (ch : Int32) (ak : Nat) (ai : Nat) (ap : Nat) (sy : Int32) (af : Nat) (sp : Int32) (r : Nat → Int32) (s : Nat) (m : Nat) (hm : m < 120) (hs : s < 16) : Ro l G yX4_inMonth cX4_inMonth 3 (some .int) 8 [(h, .inr (4, [.ref an, .ref tr, .ref ah, .int ch, .ref ak, .ref ai, .ref ap, .int sy, .ref af, .int sp])), (an, .inl (gI G, 2175, .inl r))] [.ref h, .int (nI s), .int (nI m)] (nI (ons (r (255 + 16 * m + s)))) := by
  refine Ro.mk (by decide) (Nat.le_of_ble_eq_true rfl) (fun pq eq sq mq bq tq cq ls hr hlk hF hKx hZ hP hl => ?_)
  have hx := hF.1
  have hb := hF.2.1
  have hml := hF.2.2.1
  have hown : sq.vm.findClass RX4 = some mq.cls := hF.2.2.2.1
  have hts : ∀ w ∈ GW, w.before _ sq = true := hF.2.2.2.2
  have hK := hKx.1
  have hl : lv_has ls 3 [(0, .ref h), (1, .int (nI s)), (2, .int (nI m))] := hl
  have hS : va_S (fun _ => False) sq.heap sq.heap [] := va_S.rf
  have hP : va_P G.1 vwCl [(h, .inr (4, [.ref an, .ref tr, .ref ah, .int ch, .ref ak, .ref ai, .ref ap, .int sy, .ref af, .int sp])), (an, .inl (gI G, 2175, .inl r))] sq.heap := hP
  refine lv_iload_n hx hb dX4_inMonth_0 rfl (lv_at hl 1 rfl) ?_
  refine k_roS (As := [.int (nI s)]) (rest := []) hF (c_X4_isSubject l G (nI s) ((s : Nat) : Int) (toI (by omega))) mw_3_164 mw_3_165 mw_1_5 mw_3_166 hd_X4_isSubject ⟨Nat.le_of_ble_eq_true rfl, Nat.le_of_ble_eq_true rfl⟩ (Rd.of hKx hZ hS) (hP.sub (ws' := []) [] rfl) rfl hl.1 rfl (Nat.le_of_ble_eq_true rfl) dX4_inMonth_1 ⟨Nat.zero_le _, Nat.zero_le _⟩ ?_
  refine p0_eq hx hb (tgt := 30) dX4_inMonth_4 (by decide) (fun c_4 => ?_) (fun c_4 => ?_)
  · skip
    exact absurd c_4 (by omega)
  · skip
    refine lv_iload_n hx hb dX4_inMonth_7 rfl (lv_at hl 2 rfl) ?_
    refine k_roS (As := [.int (nI m)]) (rest := []) hF (c_X4_isMonth l G (nI m) ((m : Nat) : Int) (toI (by omega))) mw_4_1 mw_4_2 mw_1_5 mw_4_3 hd_X4_isMonth ⟨Nat.le_of_ble_eq_true rfl, Nat.le_of_ble_eq_true rfl⟩ (Rd.of hKx hZ hS) (hP.sub (ws' := []) [] rfl) rfl hl.1 rfl (Nat.le_of_ble_eq_true rfl) dX4_inMonth_8 ⟨Nat.zero_le _, Nat.zero_le _⟩ ?_
    refine p0_eq hx hb (tgt := 30) dX4_inMonth_11 (by decide) (fun c_11 => ?_) (fun c_11 => ?_)
    · skip
      exact absurd c_11 (by omega)
    · skip
      refine lv_aload_n hx hb dX4_inMonth_14 rfl (lv_at hl 0 rfl) ?_
      refine va_get (ci := 4) (v := .ref an) (C := RX4) (T := TX4) (N := 10) hx hb hts inGX4 hown hK hP 0 rfl rfl 0 (by decide) (hts _ mw_3_54) (fun _ h9 => h9) rfl dX4_inMonth_15 ?_
      refine lv_iload_n hx hb dX4_inMonth_18 rfl (lv_at hl 2 rfl) ?_
      refine lv_iload_n hx hb dX4_inMonth_19 rfl (lv_at hl 1 rfl) ?_
      refine k_roS (As := [.int (nI m), .int (nI s)]) (rest := [.ref an]) hF (c_X4_at l G m s) mw_3_117 mw_3_118 mw_1_5 mw_3_119 hd_X4_at ⟨Nat.le_of_ble_eq_true rfl, Nat.le_of_ble_eq_true rfl⟩ (Rd.of hKx hZ hS) (hP.sub (ws' := []) [] rfl) rfl hl.1 rfl (Nat.le_of_ble_eq_true rfl) dX4_inMonth_20 ⟨Nat.zero_le _, Nat.zero_le _⟩ ?_
      refine n_iald hx hb hK hP 1 0 rfl rfl (by omega) (by omega) dX4_inMonth_23 ?_
      refine k_roS (As := [.int (r (255 + 16 * m + s))]) (rest := []) hF (c_X4_ones l G (r (255 + 16 * m + s))) mw_3_120 mw_3_121 mw_1_5 mw_3_122 hd_X4_ones ⟨Nat.le_of_ble_eq_true rfl, Nat.le_of_ble_eq_true rfl⟩ (Rd.of hKx hZ hS) (hP.sub (ws' := []) [] rfl) rfl hl.1 rfl (Nat.le_of_ble_eq_true rfl) dX4_inMonth_24 ⟨Nat.zero_le _, Nat.zero_le _⟩ ?_
      refine lv_goto (tgt := 31) hx hb dX4_inMonth_27 (by decide) ?_
      exact e_ri hx hb hr hlk (rfl) dX4_inMonth_31
set_option maxHeartbeats 4000000 in
set_option maxRecDepth 100000 in
theorem c_X4_inMonth_e (l : Launch) (G : gT) (h : Nat) (an : Nat) (tr : Nat) (ah : Nat) (ch : Int32) (ak : Nat) (ai : Nat) (ap : Nat) (sy : Int32) (af : Nat) (sp : Int32) (w : Int32) (S0 : Int) (x : Int32) (F : Int) (hw1 : w.toInt = S0) (hF1 : x.toInt = F) (he : ¬ ((0 ≤ S0 ∧ S0 ≤ 15) ∧ (0 ≤ F ∧ F ≤ 119))) : Ro l G yX4_inMonth cX4_inMonth 3 (some .int) 9 [] [.ref h, .int w, .int x] (-1) := by
  refine Ro.mk (by decide) (Nat.le_of_ble_eq_true rfl) (fun pq eq sq mq bq tq cq ls hr hlk hF hKx hZ hP hl => ?_)
  have hx := hF.1
  have hb := hF.2.1
  have hml := hF.2.2.1
  have hown : sq.vm.findClass RX4 = some mq.cls := hF.2.2.2.1
  have hts : ∀ w ∈ GW, w.before _ sq = true := hF.2.2.2.2
  have hK := hKx.1
  have hl : lv_has ls 3 [(0, .ref h), (1, .int w), (2, .int x)] := hl
  have hS : va_S (fun _ => False) sq.heap sq.heap [] := va_S.rf
  have hP : va_P G.1 vwCl [] sq.heap := hP
  refine lv_iload_n hx hb dX4_inMonth_0 rfl (lv_at hl 1 rfl) ?_
  refine k_roS (As := [.int w]) (rest := []) hF (c_X4_isSubject l G w S0 hw1) mw_3_164 mw_3_165 mw_1_5 mw_3_166 hd_X4_isSubject ⟨Nat.le_of_ble_eq_true rfl, Nat.le_of_ble_eq_true rfl⟩ (Rd.of hKx hZ hS) (hP.sub (ws' := []) [] rfl) rfl hl.1 rfl (Nat.le_of_ble_eq_true rfl) dX4_inMonth_1 ⟨Nat.zero_le _, Nat.zero_le _⟩ ?_
  refine p0_eq hx hb (tgt := 30) dX4_inMonth_4 (by decide) (fun c_4 => ?_) (fun c_4 => ?_)
  · skip
    refine lv_iconst (v := (-1)) hx hb dX4_inMonth_30 (by decide) ?_
    exact e_ri hx hb hr hlk (rfl) dX4_inMonth_31
  · skip
    refine lv_iload_n hx hb dX4_inMonth_7 rfl (lv_at hl 2 rfl) ?_
    refine k_roS (As := [.int x]) (rest := []) hF (c_X4_isMonth l G x F hF1) mw_4_1 mw_4_2 mw_1_5 mw_4_3 hd_X4_isMonth ⟨Nat.le_of_ble_eq_true rfl, Nat.le_of_ble_eq_true rfl⟩ (Rd.of hKx hZ hS) (hP.sub (ws' := []) [] rfl) rfl hl.1 rfl (Nat.le_of_ble_eq_true rfl) dX4_inMonth_8 ⟨Nat.zero_le _, Nat.zero_le _⟩ ?_
    refine p0_eq hx hb (tgt := 30) dX4_inMonth_11 (by decide) (fun c_11 => ?_) (fun c_11 => ?_)
    · skip
      refine lv_iconst (v := (-1)) hx hb dX4_inMonth_30 (by decide) ?_
      exact e_ri hx hb hr hlk (rfl) dX4_inMonth_31
    · skip
      exact absurd c_11 (by omega)
set_option maxHeartbeats 4000000 in
set_option maxRecDepth 100000 in
theorem c_X4_dayOf_k (l : Launch) (G : gT) (h : Nat) (an : Nat) (tr : Nat) (ah : Nat) (ch : Int32) (ak : Nat) (ai : Nat) (ap : Nat) (sy : Int32) (af : Nat) (sp : Int32) (y : Nat) (m : Nat) (d : Nat) (hy : y < 10) (hm : 1 ≤ m ∧ m ≤ 12) (hd : 1 ≤ d ∧ d ≤ dys (12 * y + m - 1)) : Ro l G yX4_dayOf cX4_dayOf 5 (some .int) 8 [(h, .inr (4, [.ref an, .ref tr, .ref ah, .int ch, .ref ak, .ref ai, .ref ap, .int sy, .ref af, .int sp])), (af, .inl (gI G, 121, .inl (fun q9 => nI (fdy q9))))] [.ref h, .int (nI y), .int (nI m), .int (nI d)] (nI (fdy (12 * y + m - 1) + d - 1)) := by
  refine Ro.mk (by decide) (Nat.le_of_ble_eq_true rfl) (fun pq eq sq mq bq tq cq ls hr hlk hF hKx hZ hP hl => ?_)
  have hx := hF.1
  have hb := hF.2.1
  have hml := hF.2.2.1
  have hown : sq.vm.findClass RX4 = some mq.cls := hF.2.2.2.1
  have hts : ∀ w ∈ GW, w.before _ sq = true := hF.2.2.2.2
  have hK := hKx.1
  have hl : lv_has ls 5 [(0, .ref h), (1, .int (nI y)), (2, .int (nI m)), (3, .int (nI d))] := hl
  have hS : va_S (fun _ => False) sq.heap sq.heap [] := va_S.rf
  have hP : va_P G.1 vwCl [(h, .inr (4, [.ref an, .ref tr, .ref ah, .int ch, .ref ak, .ref ai, .ref ap, .int sy, .ref af, .int sp])), (af, .inl (gI G, 121, .inl (fun q9 => nI (fdy q9))))] sq.heap := hP
  have hdy := dys_in (12 * y + m - 1)
  have hfl := fdy_lt' (m := 12 * y + m - 1) (by omega)
  refine lv_iload_n hx hb dX4_dayOf_0 rfl (lv_at hl 1 rfl) ?_
  refine lv_i2l (v := (nI y).toInt64) hx hb dX4_dayOf_1 rfl ?_
  refine lv_lconst (v := 0) hx hb dX4_dayOf_2 (by decide) ?_
  refine lv_ldc2 (v := 9) hx hb hown (hts _ mw_4_16) dX4_dayOf_3 ?_
  refine k_roS (As := [.long ((nI y).toInt64), .long 0, .long 9]) (rest := []) hF (c_X4_in l G ((nI y).toInt64) 0 9 ((y : Nat) : Int) 0 9 (l64 (toI (by omega))) (by decide) (by decide)) mw_3_91 mw_3_92 mw_1_5 mw_3_93 hd_X4_in ⟨Nat.le_of_ble_eq_true rfl, Nat.le_of_ble_eq_true rfl⟩ (Rd.of hKx hZ hS) (hP.sub (ws' := []) [] rfl) rfl hl.1 rfl (Nat.le_of_ble_eq_true rfl) dX4_dayOf_6 ⟨Nat.zero_le _, Nat.zero_le _⟩ ?_
  refine p0_eq hx hb (tgt := 24) dX4_dayOf_9 (by decide) (fun c_9 => ?_) (fun c_9 => ?_)
  · skip
    exact absurd c_9 (by omega)
  · skip
    refine lv_iload_n hx hb dX4_dayOf_12 rfl (lv_at hl 2 rfl) ?_
    refine lv_i2l (v := (nI m).toInt64) hx hb dX4_dayOf_13 rfl ?_
    refine lv_lconst (v := 1) hx hb dX4_dayOf_14 (by decide) ?_
    refine lv_ldc2 (v := 12) hx hb hown (hts _ mw_3_90) dX4_dayOf_15 ?_
    refine k_roS (As := [.long ((nI m).toInt64), .long 1, .long 12]) (rest := []) hF (c_X4_in l G ((nI m).toInt64) 1 12 ((m : Nat) : Int) 1 12 (l64 (toI (by omega))) (by decide) (by decide)) mw_3_91 mw_3_92 mw_1_5 mw_3_93 hd_X4_in ⟨Nat.le_of_ble_eq_true rfl, Nat.le_of_ble_eq_true rfl⟩ (Rd.of hKx hZ hS) (hP.sub (ws' := []) [] rfl) rfl hl.1 rfl (Nat.le_of_ble_eq_true rfl) dX4_dayOf_18 ⟨Nat.zero_le _, Nat.zero_le _⟩ ?_
    refine p0_ne hx hb (tgt := 26) dX4_dayOf_21 (by decide) (fun c_21 => ?_) (fun c_21 => ?_)
    · skip
      refine lv_bipush (v := nI 12) hx hb dX4_dayOf_26 (by decide) ?_
      refine lv_iload_n hx hb dX4_dayOf_28 rfl (lv_at hl 1 rfl) ?_
      refine n_imul hx hb dX4_dayOf_29 ?_
      refine lv_iload_n hx hb dX4_dayOf_30 rfl (lv_at hl 2 rfl) ?_
      refine n_iadd hx hb dX4_dayOf_31 ?_
      refine lv_iconst (v := nI 1) hx hb dX4_dayOf_32 (by decide) ?_
      refine n_isub hx hb (by omega) dX4_dayOf_33 ?_
      refine lv_istore (lv' := [(4, .int (nI ((12 * y + m) - 1))), (0, .ref h), (1, .int (nI y)), (2, .int (nI m)), (3, .int (nI d))]) hx hb dX4_dayOf_34 hl (by decide) rfl (fun ls hl => ?_)
      refine lv_iload_n hx hb dX4_dayOf_36 rfl (lv_at hl 4 rfl) ?_
      refine lv_i2l (v := (nI d).toInt64) hx hb dX4_dayOf_37 rfl ?_
      refine lv_lconst (v := 1) hx hb dX4_dayOf_38 (by decide) ?_
      refine lv_aload_n hx hb dX4_dayOf_39 rfl (lv_at hl 1 rfl) ?_
      refine lv_iload hx hb dX4_dayOf_40 (lv_at hl 0 rfl) ?_
      refine k_roV (ci := 4) (q0 := 0) (As := [.int (nI ((12 * y + m) - 1))]) (rest := [.long 1, .long ((nI d).toInt64)]) hF (c_X4_daysOf l G h an tr ah ch ak ai ap sy af sp ((12 * y + m) - 1) (by omega)) hKx hP ⟨_, rfl, rfl⟩ rfl rfl mw_3_183 mw_3_185 mw_p2_0 mw_1_5 mw_3_186 hd_X4_daysOf ⟨Nat.le_of_ble_eq_true rfl, Nat.le_of_ble_eq_true rfl⟩ (Rd.of hKx hZ hS) (hP.sub (ws' := [(h, .inr (4, [.ref an, .ref tr, .ref ah, .int ch, .ref ak, .ref ai, .ref ap, .int sy, .ref af, .int sp])), (af, .inl (gI G, 121, .inl (fun q9 => nI (fdy q9))))]) [0, 1] rfl) rfl hl.1 rfl (Nat.le_of_ble_eq_true rfl) dX4_dayOf_42 ⟨Nat.zero_le _, Nat.zero_le _⟩ ?_
      refine lv_i2l (v := (nI (dys ((12 * y + m) - 1))).toInt64) hx hb dX4_dayOf_45 rfl ?_
      refine k_roS (As := [.long ((nI d).toInt64), .long 1, .long ((nI (dys ((12 * y + m) - 1))).toInt64)]) (rest := []) hF (c_X4_in l G ((nI d).toInt64) 1 ((nI (dys ((12 * y + m) - 1))).toInt64) ((d : Nat) : Int) 1 ((dys ((12 * y + m) - 1) : Nat) : Int) (l64 (toI (by omega))) (by decide) (l64 (toI (by omega)))) mw_3_91 mw_3_92 mw_1_5 mw_3_93 hd_X4_in ⟨Nat.le_of_ble_eq_true rfl, Nat.le_of_ble_eq_true rfl⟩ (Rd.of hKx hZ hS) (hP.sub (ws' := []) [] rfl) rfl hl.1 rfl (Nat.le_of_ble_eq_true rfl) dX4_dayOf_46 ⟨Nat.zero_le _, Nat.zero_le _⟩ ?_
      refine p0_eq hx hb (tgt := 66) dX4_dayOf_49 (by decide) (fun c_49 => ?_) (fun c_49 => ?_)
      · skip
        exact absurd c_49 (by omega)
      · skip
        refine lv_aload_n hx hb dX4_dayOf_52 rfl (lv_at hl 1 rfl) ?_
        refine va_get (ci := 4) (v := .ref af) (C := RX4) (T := TX4) (N := 10) hx hb hts inGX4 hown hK hP 0 rfl rfl 8 (by decide) (hts _ mw_3_62) (fun _ h9 => h9) rfl dX4_dayOf_53 ?_
        refine lv_iload hx hb dX4_dayOf_56 (lv_at hl 0 rfl) ?_
        refine n_iald hx hb hK hP 1 0 rfl rfl (by omega) (by omega) dX4_dayOf_58 ?_
        refine lv_iload_n hx hb dX4_dayOf_59 rfl (lv_at hl 4 rfl) ?_
        refine n_iadd hx hb dX4_dayOf_60 ?_
        refine lv_iconst (v := nI 1) hx hb dX4_dayOf_61 (by decide) ?_
        refine n_isub hx hb (by omega) dX4_dayOf_62 ?_
        refine lv_goto (tgt := 67) hx hb dX4_dayOf_63 (by decide) ?_
        exact e_ri hx hb hr hlk (by first | rfl | exact congrArg nI (by omega)) dX4_dayOf_67
    · skip
      exact absurd c_21 (by omega)
set_option maxHeartbeats 4000000 in
set_option maxRecDepth 100000 in
theorem c_X4_dayOf_e (l : Launch) (G : gT) (h : Nat) (an : Nat) (tr : Nat) (ah : Nat) (ch : Int32) (ak : Nat) (ai : Nat) (ap : Nat) (sy : Int32) (af : Nat) (sp : Int32) (w : Int32) (S0 : Int) (x : Int32) (F : Int) (y : Int32) (hw1 : w.toInt = S0) (hF1 : x.toInt = F) (he : ¬ ((0 ≤ S0 ∧ S0 ≤ 9) ∧ (1 ≤ F ∧ F ≤ 12))) : Ro l G yX4_dayOf cX4_dayOf 5 (some .int) 9 [] [.ref h, .int w, .int x, .int y] (-1) := by
  refine Ro.mk (by decide) (Nat.le_of_ble_eq_true rfl) (fun pq eq sq mq bq tq cq ls hr hlk hF hKx hZ hP hl => ?_)
  have hx := hF.1
  have hb := hF.2.1
  have hml := hF.2.2.1
  have hown : sq.vm.findClass RX4 = some mq.cls := hF.2.2.2.1
  have hts : ∀ w ∈ GW, w.before _ sq = true := hF.2.2.2.2
  have hK := hKx.1
  have hl : lv_has ls 5 [(0, .ref h), (1, .int w), (2, .int x), (3, .int y)] := hl
  have hS : va_S (fun _ => False) sq.heap sq.heap [] := va_S.rf
  have hP : va_P G.1 vwCl [] sq.heap := hP
  refine lv_iload_n hx hb dX4_dayOf_0 rfl (lv_at hl 1 rfl) ?_
  refine lv_i2l (v := w.toInt64) hx hb dX4_dayOf_1 rfl ?_
  refine lv_lconst (v := 0) hx hb dX4_dayOf_2 (by decide) ?_
  refine lv_ldc2 (v := 9) hx hb hown (hts _ mw_4_16) dX4_dayOf_3 ?_
  refine k_roS (As := [.long w.toInt64, .long 0, .long 9]) (rest := []) hF (c_X4_in l G w.toInt64 0 9 S0 0 9 (l64 hw1) (by decide) (by decide)) mw_3_91 mw_3_92 mw_1_5 mw_3_93 hd_X4_in ⟨Nat.le_of_ble_eq_true rfl, Nat.le_of_ble_eq_true rfl⟩ (Rd.of hKx hZ hS) (hP.sub (ws' := []) [] rfl) rfl hl.1 rfl (Nat.le_of_ble_eq_true rfl) dX4_dayOf_6 ⟨Nat.zero_le _, Nat.zero_le _⟩ ?_
  refine p0_eq hx hb (tgt := 24) dX4_dayOf_9 (by decide) (fun c_9 => ?_) (fun c_9 => ?_)
  · skip
    refine lv_iconst (v := (-1)) hx hb dX4_dayOf_24 (by decide) ?_
    exact e_ri hx hb hr hlk (rfl) dX4_dayOf_25
  · skip
    refine lv_iload_n hx hb dX4_dayOf_12 rfl (lv_at hl 2 rfl) ?_
    refine lv_i2l (v := x.toInt64) hx hb dX4_dayOf_13 rfl ?_
    refine lv_lconst (v := 1) hx hb dX4_dayOf_14 (by decide) ?_
    refine lv_ldc2 (v := 12) hx hb hown (hts _ mw_3_90) dX4_dayOf_15 ?_
    refine k_roS (As := [.long x.toInt64, .long 1, .long 12]) (rest := []) hF (c_X4_in l G x.toInt64 1 12 F 1 12 (l64 hF1) (by decide) (by decide)) mw_3_91 mw_3_92 mw_1_5 mw_3_93 hd_X4_in ⟨Nat.le_of_ble_eq_true rfl, Nat.le_of_ble_eq_true rfl⟩ (Rd.of hKx hZ hS) (hP.sub (ws' := []) [] rfl) rfl hl.1 rfl (Nat.le_of_ble_eq_true rfl) dX4_dayOf_18 ⟨Nat.zero_le _, Nat.zero_le _⟩ ?_
    refine p0_ne hx hb (tgt := 26) dX4_dayOf_21 (by decide) (fun c_21 => ?_) (fun c_21 => ?_)
    · skip
      exact absurd c_21 (by omega)
    · skip
      refine lv_iconst (v := (-1)) hx hb dX4_dayOf_24 (by decide) ?_
      exact e_ri hx hb hr hlk (rfl) dX4_dayOf_25
set_option maxHeartbeats 4000000 in
set_option maxRecDepth 100000 in
theorem c_X4_dayOf_e2 (l : Launch) (G : gT) (h : Nat) (an : Nat) (tr : Nat) (ah : Nat) (ch : Int32) (ak : Nat) (ai : Nat) (ap : Nat) (sy : Int32) (af : Nat) (sp : Int32) (y : Nat) (m : Nat) (x : Int32) (F : Int) (hy : y < 10) (hm : 1 ≤ m ∧ m ≤ 12) (hF1 : x.toInt = F) (he : ¬ (1 ≤ F ∧ F ≤ ((dys (12 * y + m - 1) : Nat) : Int))) : Ro l G yX4_dayOf cX4_dayOf 5 (some .int) 9 [(h, .inr (4, [.ref an, .ref tr, .ref ah, .int ch, .ref ak, .ref ai, .ref ap, .int sy, .ref af, .int sp])), (af, .inl (gI G, 121, .inl (fun q9 => nI (fdy q9))))] [.ref h, .int (nI y), .int (nI m), .int x] (-1) := by
  refine Ro.mk (by decide) (Nat.le_of_ble_eq_true rfl) (fun pq eq sq mq bq tq cq ls hr hlk hF hKx hZ hP hl => ?_)
  have hx := hF.1
  have hb := hF.2.1
  have hml := hF.2.2.1
  have hown : sq.vm.findClass RX4 = some mq.cls := hF.2.2.2.1
  have hts : ∀ w ∈ GW, w.before _ sq = true := hF.2.2.2.2
  have hK := hKx.1
  have hl : lv_has ls 5 [(0, .ref h), (1, .int (nI y)), (2, .int (nI m)), (3, .int x)] := hl
  have hS : va_S (fun _ => False) sq.heap sq.heap [] := va_S.rf
  have hP : va_P G.1 vwCl [(h, .inr (4, [.ref an, .ref tr, .ref ah, .int ch, .ref ak, .ref ai, .ref ap, .int sy, .ref af, .int sp])), (af, .inl (gI G, 121, .inl (fun q9 => nI (fdy q9))))] sq.heap := hP
  have hdy := dys_in (12 * y + m - 1)
  have hfl := fdy_lt' (m := 12 * y + m - 1) (by omega)
  refine lv_iload_n hx hb dX4_dayOf_0 rfl (lv_at hl 1 rfl) ?_
  refine lv_i2l (v := (nI y).toInt64) hx hb dX4_dayOf_1 rfl ?_
  refine lv_lconst (v := 0) hx hb dX4_dayOf_2 (by decide) ?_
  refine lv_ldc2 (v := 9) hx hb hown (hts _ mw_4_16) dX4_dayOf_3 ?_
  refine k_roS (As := [.long ((nI y).toInt64), .long 0, .long 9]) (rest := []) hF (c_X4_in l G ((nI y).toInt64) 0 9 ((y : Nat) : Int) 0 9 (l64 (toI (by omega))) (by decide) (by decide)) mw_3_91 mw_3_92 mw_1_5 mw_3_93 hd_X4_in ⟨Nat.le_of_ble_eq_true rfl, Nat.le_of_ble_eq_true rfl⟩ (Rd.of hKx hZ hS) (hP.sub (ws' := []) [] rfl) rfl hl.1 rfl (Nat.le_of_ble_eq_true rfl) dX4_dayOf_6 ⟨Nat.zero_le _, Nat.zero_le _⟩ ?_
  refine p0_eq hx hb (tgt := 24) dX4_dayOf_9 (by decide) (fun c_9 => ?_) (fun c_9 => ?_)
  · skip
    exact absurd c_9 (by omega)
  · skip
    refine lv_iload_n hx hb dX4_dayOf_12 rfl (lv_at hl 2 rfl) ?_
    refine lv_i2l (v := (nI m).toInt64) hx hb dX4_dayOf_13 rfl ?_
    refine lv_lconst (v := 1) hx hb dX4_dayOf_14 (by decide) ?_
    refine lv_ldc2 (v := 12) hx hb hown (hts _ mw_3_90) dX4_dayOf_15 ?_
    refine k_roS (As := [.long ((nI m).toInt64), .long 1, .long 12]) (rest := []) hF (c_X4_in l G ((nI m).toInt64) 1 12 ((m : Nat) : Int) 1 12 (l64 (toI (by omega))) (by decide) (by decide)) mw_3_91 mw_3_92 mw_1_5 mw_3_93 hd_X4_in ⟨Nat.le_of_ble_eq_true rfl, Nat.le_of_ble_eq_true rfl⟩ (Rd.of hKx hZ hS) (hP.sub (ws' := []) [] rfl) rfl hl.1 rfl (Nat.le_of_ble_eq_true rfl) dX4_dayOf_18 ⟨Nat.zero_le _, Nat.zero_le _⟩ ?_
    refine p0_ne hx hb (tgt := 26) dX4_dayOf_21 (by decide) (fun c_21 => ?_) (fun c_21 => ?_)
    · skip
      refine lv_bipush (v := nI 12) hx hb dX4_dayOf_26 (by decide) ?_
      refine lv_iload_n hx hb dX4_dayOf_28 rfl (lv_at hl 1 rfl) ?_
      refine n_imul hx hb dX4_dayOf_29 ?_
      refine lv_iload_n hx hb dX4_dayOf_30 rfl (lv_at hl 2 rfl) ?_
      refine n_iadd hx hb dX4_dayOf_31 ?_
      refine lv_iconst (v := nI 1) hx hb dX4_dayOf_32 (by decide) ?_
      refine n_isub hx hb (by omega) dX4_dayOf_33 ?_
      refine lv_istore (lv' := [(4, .int (nI ((12 * y + m) - 1))), (0, .ref h), (1, .int (nI y)), (2, .int (nI m)), (3, .int x)]) hx hb dX4_dayOf_34 hl (by decide) rfl (fun ls hl => ?_)
      refine lv_iload_n hx hb dX4_dayOf_36 rfl (lv_at hl 4 rfl) ?_
      refine lv_i2l (v := x.toInt64) hx hb dX4_dayOf_37 rfl ?_
      refine lv_lconst (v := 1) hx hb dX4_dayOf_38 (by decide) ?_
      refine lv_aload_n hx hb dX4_dayOf_39 rfl (lv_at hl 1 rfl) ?_
      refine lv_iload hx hb dX4_dayOf_40 (lv_at hl 0 rfl) ?_
      refine k_roV (ci := 4) (q0 := 0) (As := [.int (nI ((12 * y + m) - 1))]) (rest := [.long 1, .long x.toInt64]) hF (c_X4_daysOf l G h an tr ah ch ak ai ap sy af sp ((12 * y + m) - 1) (by omega)) hKx hP ⟨_, rfl, rfl⟩ rfl rfl mw_3_183 mw_3_185 mw_p2_0 mw_1_5 mw_3_186 hd_X4_daysOf ⟨Nat.le_of_ble_eq_true rfl, Nat.le_of_ble_eq_true rfl⟩ (Rd.of hKx hZ hS) (hP.sub (ws' := [(h, .inr (4, [.ref an, .ref tr, .ref ah, .int ch, .ref ak, .ref ai, .ref ap, .int sy, .ref af, .int sp])), (af, .inl (gI G, 121, .inl (fun q9 => nI (fdy q9))))]) [0, 1] rfl) rfl hl.1 rfl (Nat.le_of_ble_eq_true rfl) dX4_dayOf_42 ⟨Nat.zero_le _, Nat.zero_le _⟩ ?_
      refine lv_i2l (v := (nI (dys ((12 * y + m) - 1))).toInt64) hx hb dX4_dayOf_45 rfl ?_
      refine k_roS (As := [.long x.toInt64, .long 1, .long ((nI (dys ((12 * y + m) - 1))).toInt64)]) (rest := []) hF (c_X4_in l G x.toInt64 1 ((nI (dys ((12 * y + m) - 1))).toInt64) F 1 ((dys ((12 * y + m) - 1) : Nat) : Int) (l64 hF1) (by decide) (l64 (toI (by omega)))) mw_3_91 mw_3_92 mw_1_5 mw_3_93 hd_X4_in ⟨Nat.le_of_ble_eq_true rfl, Nat.le_of_ble_eq_true rfl⟩ (Rd.of hKx hZ hS) (hP.sub (ws' := []) [] rfl) rfl hl.1 rfl (Nat.le_of_ble_eq_true rfl) dX4_dayOf_46 ⟨Nat.zero_le _, Nat.zero_le _⟩ ?_
      refine p0_eq hx hb (tgt := 66) dX4_dayOf_49 (by decide) (fun c_49 => ?_) (fun c_49 => ?_)
      · skip
        refine lv_iconst (v := (-1)) hx hb dX4_dayOf_66 (by decide) ?_
        exact e_ri hx hb hr hlk (rfl) dX4_dayOf_67
      · skip
        exact absurd c_49 (by omega)
    · skip
      exact absurd c_21 (by omega)
set_option maxHeartbeats 4000000 in
set_option maxRecDepth 100000 in
theorem c_X4_dateOf_k (l : Launch) (G : gT) (h : Nat) (an : Nat) (tr : Nat) (ah : Nat) (ch : Int32) (ak : Nat) (ai : Nat) (ap : Nat) (sy : Int32) (af : Nat) (sp : Int32) (d : Nat) (w : Nat) (hd : d < 3650) (hw : w ≤ 3) : Ro l G yX4_dateOf cX4_dateOf 4 (some .int) 8 [(h, .inr (4, [.ref an, .ref tr, .ref ah, .int ch, .ref ak, .ref ai, .ref ap, .int sy, .ref af, .int sp])), (af, .inl (gI G, 121, .inl (fun q9 => nI (fdy q9))))] [.ref h, .int (nI d), .int (nI w)] (dtv d ((w : Nat) : Int)) := by
  refine Ro.mk (by decide) (Nat.le_of_ble_eq_true rfl) (fun pq eq sq mq bq tq cq ls hr hlk hF hKx hZ hP hl => ?_)
  have hx := hF.1
  have hb := hF.2.1
  have hml := hF.2.2.1
  have hown : sq.vm.findClass RX4 = some mq.cls := hF.2.2.2.1
  have hts : ∀ w ∈ GW, w.before _ sq = true := hF.2.2.2.2
  have hK := hKx.1
  have hl : lv_has ls 4 [(0, .ref h), (1, .int (nI d)), (2, .int (nI w))] := hl
  have hS : va_S (fun _ => False) sq.heap sq.heap [] := va_S.rf
  have hP : va_P G.1 vwCl [(h, .inr (4, [.ref an, .ref tr, .ref ah, .int ch, .ref ak, .ref ai, .ref ap, .int sy, .ref af, .int sp])), (af, .inl (gI G, 121, .inl (fun q9 => nI (fdy q9))))] sq.heap := hP
  have hm0 := mot_row hd
  refine lv_iload_n hx hb dX4_dateOf_0 rfl (lv_at hl 1 rfl) ?_
  refine k_roS (As := [.int (nI d)]) (rest := []) hF (c_X4_isDay l G (nI d) ((d : Nat) : Int) (toI (by omega))) mw_3_171 mw_3_172 mw_1_5 mw_3_173 hd_X4_isDay ⟨Nat.le_of_ble_eq_true rfl, Nat.le_of_ble_eq_true rfl⟩ (Rd.of hKx hZ hS) (hP.sub (ws' := []) [] rfl) rfl hl.1 rfl (Nat.le_of_ble_eq_true rfl) dX4_dateOf_1 ⟨Nat.zero_le _, Nat.zero_le _⟩ ?_
  refine p0_ne hx hb (tgt := 9) dX4_dateOf_4 (by decide) (fun c_4 => ?_) (fun c_4 => ?_)
  · skip
    refine lv_aload_n hx hb dX4_dateOf_9 rfl (lv_at hl 0 rfl) ?_
    refine lv_iload_n hx hb dX4_dateOf_10 rfl (lv_at hl 1 rfl) ?_
    refine k_roV (ci := 4) (q0 := 0) (As := [.int (nI d)]) (rest := []) hF (c_X4_monthOf l G h an tr ah ch ak ai ap sy af sp d (by omega)) hKx hP ⟨_, rfl, rfl⟩ rfl rfl mw_3_148 mw_3_150 mw_p1_11 mw_1_5 mw_3_151 hd_X4_monthOf ⟨Nat.le_of_ble_eq_true rfl, Nat.le_of_ble_eq_true rfl⟩ (Rd.of hKx hZ hS) (hP.sub (ws' := [(h, .inr (4, [.ref an, .ref tr, .ref ah, .int ch, .ref ak, .ref ai, .ref ap, .int sy, .ref af, .int sp])), (af, .inl (gI G, 121, .inl (fun q9 => nI (fdy q9))))]) [0, 1] rfl) rfl hl.1 rfl (Nat.le_of_ble_eq_true rfl) dX4_dateOf_11 ⟨Nat.zero_le _, Nat.zero_le _⟩ ?_
    refine lv_istore_n (lv' := [(3, .int (nI (mot d))), (0, .ref h), (1, .int (nI d)), (2, .int (nI w))]) hx hb dX4_dateOf_14 rfl hl (by decide) rfl (fun ls hl => ?_)
    refine lv_iload_n hx hb dX4_dateOf_15 rfl (lv_at hl 3 rfl) ?_
    refine lv_i2l (v := (nI w).toInt64) hx hb dX4_dateOf_16 rfl ?_
    refine lv_lconst (v := 0) hx hb dX4_dateOf_17 (by decide) ?_
    refine lv_ldc2 (v := 3) hx hb hown (hts _ mw_4_21) dX4_dateOf_18 ?_
    refine k_roS (As := [.long ((nI w).toInt64), .long 0, .long 3]) (rest := []) hF (c_X4_in l G ((nI w).toInt64) 0 3 ((w : Nat) : Int) 0 3 (l64 (toI (by omega))) (by decide) (by decide)) mw_3_91 mw_3_92 mw_1_5 mw_3_93 hd_X4_in ⟨Nat.le_of_ble_eq_true rfl, Nat.le_of_ble_eq_true rfl⟩ (Rd.of hKx hZ hS) (hP.sub (ws' := []) [] rfl) rfl hl.1 rfl (Nat.le_of_ble_eq_true rfl) dX4_dateOf_21 ⟨Nat.zero_le _, Nat.zero_le _⟩ ?_
    refine p0_ne hx hb (tgt := 32) dX4_dateOf_24 (by decide) (fun c_24 => ?_) (fun c_24 => ?_)
    · skip
      refine lv_iload_n hx hb dX4_dateOf_32 rfl (lv_at hl 3 rfl) ?_
      refine z0_ne hx hb (tgt := 44) ((w : Nat) : Int) dX4_dateOf_33 (by decide) (toI (by omega)) (fun c_33 => ?_) (fun c_33 => ?_)
      · skip
        refine lv_iload_n hx hb dX4_dateOf_44 rfl (lv_at hl 3 rfl) ?_
        refine lv_iconst (v := nI 1) hx hb dX4_dateOf_45 (by decide) ?_
        refine z_ne hx hb (tgt := 58) ((w : Nat) : Int) 1 dX4_dateOf_46 (by decide) (toI (by omega)) (by decide) (fun c_46 => ?_) (fun c_46 => ?_)
        · skip
          refine lv_iload_n hx hb dX4_dateOf_58 rfl (lv_at hl 3 rfl) ?_
          refine lv_iconst (v := nI 2) hx hb dX4_dateOf_59 (by decide) ?_
          refine z_ne hx hb (tgt := 76) ((w : Nat) : Int) 2 dX4_dateOf_60 (by decide) (toI (by omega)) (by decide) (fun c_60 => ?_) (fun c_60 => ?_)
          · skip
            refine lv_iload_n hx hb dX4_dateOf_76 rfl (lv_at hl 0 rfl) ?_
            exact e_ri hx hb hr hlk (by unfold dtv; first | exact (if_pos c_33).symm | (rw [if_neg (by omega)]; first | exact (if_pos (by omega)).symm | (rw [if_neg (by omega)]; first | exact (if_pos (by omega)).symm | exact (if_neg (by omega)).symm))) dX4_dateOf_77
          · skip
            refine lv_iconst (v := nI 1) hx hb dX4_dateOf_63 (by decide) ?_
            refine lv_iload_n hx hb dX4_dateOf_64 rfl (lv_at hl 2 rfl) ?_
            refine n_iadd hx hb dX4_dateOf_65 ?_
            refine lv_aload_n hx hb dX4_dateOf_66 rfl (lv_at hl 1 rfl) ?_
            refine va_get (ci := 4) (v := .ref af) (C := RX4) (T := TX4) (N := 10) hx hb hts inGX4 hown hK hP 0 rfl rfl 8 (by decide) (hts _ mw_3_62) (fun _ h9 => h9) rfl dX4_dateOf_67 ?_
            refine lv_iload_n hx hb dX4_dateOf_70 rfl (lv_at hl 0 rfl) ?_
            refine n_iald hx hb hK hP 1 0 rfl rfl (by omega) (by omega) dX4_dateOf_71 ?_
            refine n_isub hx hb (by omega) dX4_dateOf_72 ?_
            refine lv_goto (tgt := 77) hx hb dX4_dateOf_73 (by decide) ?_
            exact e_ri hx hb hr hlk (by unfold dtv; first | exact (if_pos c_33).symm | (rw [if_neg (by omega)]; first | exact (if_pos (by omega)).symm | (rw [if_neg (by omega)]; first | exact (if_pos (by omega)).symm | exact (if_neg (by omega)).symm))) dX4_dateOf_77
        · skip
          refine lv_iconst (v := nI 1) hx hb dX4_dateOf_49 (by decide) ?_
          refine lv_iload_n hx hb dX4_dateOf_50 rfl (lv_at hl 0 rfl) ?_
          refine lv_bipush (v := nI 12) hx hb dX4_dateOf_51 (by decide) ?_
          refine n_irem hx hb (by omega) (by omega) (by omega) dX4_dateOf_53 ?_
          refine n_iadd hx hb dX4_dateOf_54 ?_
          refine lv_goto (tgt := 77) hx hb dX4_dateOf_55 (by decide) ?_
          exact e_ri hx hb hr hlk (by unfold dtv; first | exact (if_pos c_33).symm | (rw [if_neg (by omega)]; first | exact (if_pos (by omega)).symm | (rw [if_neg (by omega)]; first | exact (if_pos (by omega)).symm | exact (if_neg (by omega)).symm))) dX4_dateOf_77
      · skip
        refine lv_iload_n hx hb dX4_dateOf_36 rfl (lv_at hl 2 rfl) ?_
        refine lv_sipush (v := nI 365) hx hb dX4_dateOf_37 (by decide) ?_
        refine n_idiv hx hb (by omega) (by omega) (by omega) dX4_dateOf_40 ?_
        refine lv_goto (tgt := 77) hx hb dX4_dateOf_41 (by decide) ?_
        exact e_ri hx hb hr hlk (by unfold dtv; first | exact (if_pos c_33).symm | (rw [if_neg (by omega)]; first | exact (if_pos (by omega)).symm | (rw [if_neg (by omega)]; first | exact (if_pos (by omega)).symm | exact (if_neg (by omega)).symm))) dX4_dateOf_77
    · skip
      exact absurd c_24 (by omega)
  · skip
    exact absurd c_4 (by omega)
set_option maxHeartbeats 4000000 in
set_option maxRecDepth 100000 in
theorem c_X4_dateOf_e (l : Launch) (G : gT) (h : Nat) (an : Nat) (tr : Nat) (ah : Nat) (ch : Int32) (ak : Nat) (ai : Nat) (ap : Nat) (sy : Int32) (af : Nat) (sp : Int32) (w : Int32) (S0 : Int) (x : Int32) (hw1 : w.toInt = S0) (he : ¬ (0 ≤ S0 ∧ S0 ≤ 3649)) : Ro l G yX4_dateOf cX4_dateOf 4 (some .int) 9 [] [.ref h, .int w, .int x] (-1) := by
  refine Ro.mk (by decide) (Nat.le_of_ble_eq_true rfl) (fun pq eq sq mq bq tq cq ls hr hlk hF hKx hZ hP hl => ?_)
  have hx := hF.1
  have hb := hF.2.1
  have hml := hF.2.2.1
  have hown : sq.vm.findClass RX4 = some mq.cls := hF.2.2.2.1
  have hts : ∀ w ∈ GW, w.before _ sq = true := hF.2.2.2.2
  have hK := hKx.1
  have hl : lv_has ls 4 [(0, .ref h), (1, .int w), (2, .int x)] := hl
  have hS : va_S (fun _ => False) sq.heap sq.heap [] := va_S.rf
  have hP : va_P G.1 vwCl [] sq.heap := hP
  refine lv_iload_n hx hb dX4_dateOf_0 rfl (lv_at hl 1 rfl) ?_
  refine k_roS (As := [.int w]) (rest := []) hF (c_X4_isDay l G w S0 hw1) mw_3_171 mw_3_172 mw_1_5 mw_3_173 hd_X4_isDay ⟨Nat.le_of_ble_eq_true rfl, Nat.le_of_ble_eq_true rfl⟩ (Rd.of hKx hZ hS) (hP.sub (ws' := []) [] rfl) rfl hl.1 rfl (Nat.le_of_ble_eq_true rfl) dX4_dateOf_1 ⟨Nat.zero_le _, Nat.zero_le _⟩ ?_
  refine p0_ne hx hb (tgt := 9) dX4_dateOf_4 (by decide) (fun c_4 => ?_) (fun c_4 => ?_)
  · skip
    exact absurd c_4 (by omega)
  · skip
    refine lv_iconst (v := (-1)) hx hb dX4_dateOf_7 (by decide) ?_
    exact e_ri hx hb hr hlk (rfl) dX4_dateOf_8
set_option maxHeartbeats 4000000 in
set_option maxRecDepth 100000 in
theorem c_X4_dateOf_e2 (l : Launch) (G : gT) (h : Nat) (an : Nat) (tr : Nat) (ah : Nat) (ch : Int32) (ak : Nat) (ai : Nat) (ap : Nat) (sy : Int32) (af : Nat) (sp : Int32) (d : Nat) (w : Int32) (S0 : Int) (hd : d < 3650) (hw1 : w.toInt = S0) (he : ¬ (0 ≤ S0 ∧ S0 ≤ 3)) : Ro l G yX4_dateOf cX4_dateOf 4 (some .int) 9 [(h, .inr (4, [.ref an, .ref tr, .ref ah, .int ch, .ref ak, .ref ai, .ref ap, .int sy, .ref af, .int sp])), (af, .inl (gI G, 121, .inl (fun q9 => nI (fdy q9))))] [.ref h, .int (nI d), .int w] (-2) := by
  refine Ro.mk (by decide) (Nat.le_of_ble_eq_true rfl) (fun pq eq sq mq bq tq cq ls hr hlk hF hKx hZ hP hl => ?_)
  have hx := hF.1
  have hb := hF.2.1
  have hml := hF.2.2.1
  have hown : sq.vm.findClass RX4 = some mq.cls := hF.2.2.2.1
  have hts : ∀ w ∈ GW, w.before _ sq = true := hF.2.2.2.2
  have hK := hKx.1
  have hl : lv_has ls 4 [(0, .ref h), (1, .int (nI d)), (2, .int w)] := hl
  have hS : va_S (fun _ => False) sq.heap sq.heap [] := va_S.rf
  have hP : va_P G.1 vwCl [(h, .inr (4, [.ref an, .ref tr, .ref ah, .int ch, .ref ak, .ref ai, .ref ap, .int sy, .ref af, .int sp])), (af, .inl (gI G, 121, .inl (fun q9 => nI (fdy q9))))] sq.heap := hP
  have hm0 := mot_row hd
  refine lv_iload_n hx hb dX4_dateOf_0 rfl (lv_at hl 1 rfl) ?_
  refine k_roS (As := [.int (nI d)]) (rest := []) hF (c_X4_isDay l G (nI d) ((d : Nat) : Int) (toI (by omega))) mw_3_171 mw_3_172 mw_1_5 mw_3_173 hd_X4_isDay ⟨Nat.le_of_ble_eq_true rfl, Nat.le_of_ble_eq_true rfl⟩ (Rd.of hKx hZ hS) (hP.sub (ws' := []) [] rfl) rfl hl.1 rfl (Nat.le_of_ble_eq_true rfl) dX4_dateOf_1 ⟨Nat.zero_le _, Nat.zero_le _⟩ ?_
  refine p0_ne hx hb (tgt := 9) dX4_dateOf_4 (by decide) (fun c_4 => ?_) (fun c_4 => ?_)
  · skip
    refine lv_aload_n hx hb dX4_dateOf_9 rfl (lv_at hl 0 rfl) ?_
    refine lv_iload_n hx hb dX4_dateOf_10 rfl (lv_at hl 1 rfl) ?_
    refine k_roV (ci := 4) (q0 := 0) (As := [.int (nI d)]) (rest := []) hF (c_X4_monthOf l G h an tr ah ch ak ai ap sy af sp d (by omega)) hKx hP ⟨_, rfl, rfl⟩ rfl rfl mw_3_148 mw_3_150 mw_p1_11 mw_1_5 mw_3_151 hd_X4_monthOf ⟨Nat.le_of_ble_eq_true rfl, Nat.le_of_ble_eq_true rfl⟩ (Rd.of hKx hZ hS) (hP.sub (ws' := [(h, .inr (4, [.ref an, .ref tr, .ref ah, .int ch, .ref ak, .ref ai, .ref ap, .int sy, .ref af, .int sp])), (af, .inl (gI G, 121, .inl (fun q9 => nI (fdy q9))))]) [0, 1] rfl) rfl hl.1 rfl (Nat.le_of_ble_eq_true rfl) dX4_dateOf_11 ⟨Nat.zero_le _, Nat.zero_le _⟩ ?_
    refine lv_istore_n (lv' := [(3, .int (nI (mot d))), (0, .ref h), (1, .int (nI d)), (2, .int w)]) hx hb dX4_dateOf_14 rfl hl (by decide) rfl (fun ls hl => ?_)
    refine lv_iload_n hx hb dX4_dateOf_15 rfl (lv_at hl 3 rfl) ?_
    refine lv_i2l (v := w.toInt64) hx hb dX4_dateOf_16 rfl ?_
    refine lv_lconst (v := 0) hx hb dX4_dateOf_17 (by decide) ?_
    refine lv_ldc2 (v := 3) hx hb hown (hts _ mw_4_21) dX4_dateOf_18 ?_
    refine k_roS (As := [.long w.toInt64, .long 0, .long 3]) (rest := []) hF (c_X4_in l G w.toInt64 0 3 S0 0 3 (l64 hw1) (by decide) (by decide)) mw_3_91 mw_3_92 mw_1_5 mw_3_93 hd_X4_in ⟨Nat.le_of_ble_eq_true rfl, Nat.le_of_ble_eq_true rfl⟩ (Rd.of hKx hZ hS) (hP.sub (ws' := []) [] rfl) rfl hl.1 rfl (Nat.le_of_ble_eq_true rfl) dX4_dateOf_21 ⟨Nat.zero_le _, Nat.zero_le _⟩ ?_
    refine p0_ne hx hb (tgt := 32) dX4_dateOf_24 (by decide) (fun c_24 => ?_) (fun c_24 => ?_)
    · skip
      exact absurd c_24 (by omega)
    · skip
      refine lv_bipush (v := (-2)) hx hb dX4_dateOf_27 (by decide) ?_
      refine lv_goto (tgt := 77) hx hb dX4_dateOf_29 (by decide) ?_
      exact e_ri hx hb hr hlk (rfl) dX4_dateOf_77
  · skip
    exact absurd c_4 (by omega)
set_option maxHeartbeats 4000000 in
set_option maxRecDepth 100000 in
theorem c_X4_count (l : Launch) (G : gT) (h : Nat) (an : Nat) (tr : Nat) (ah : Nat) (ch : Int32) (ak : Nat) (ai : Nat) (ap : Nat) (sy : Int32) (af : Nat) (sp : Int32) (r : Nat → Int32) (x : Int32) (X : Int) (hB : Br r) (hX : x.toInt = X) : Ro l G yX4_count cX4_count 5 (some .int) 8 [(h, .inr (4, [.ref an, .ref tr, .ref ah, .int ch, .ref ak, .ref ai, .ref ap, .int sy, .ref af, .int sp])), (af, .inl (gI G, 121, .inl (fun q9 => nI (fdy q9)))), (an, .inl (gI G, 2175, .inl r))] [.ref h, .int x] (cov r ch sy X) := by
  refine Ro.mk (by decide) (Nat.le_of_ble_eq_true rfl) (fun pq eq sq mq bq tq cq ls hr hlk hF hKx hZ hP hl => ?_)
  have hx := hF.1
  have hb := hF.2.1
  have hml := hF.2.2.1
  have hown : sq.vm.findClass RX4 = some mq.cls := hF.2.2.2.1
  have hts : ∀ w ∈ GW, w.before _ sq = true := hF.2.2.2.2
  have hK := hKx.1
  have hl : lv_has ls 5 [(0, .ref h), (1, .int x)] := hl
  have hS : va_S (fun _ => False) sq.heap sq.heap [] := va_S.rf
  have hP : va_P G.1 vwCl [(h, .inr (4, [.ref an, .ref tr, .ref ah, .int ch, .ref ak, .ref ai, .ref ap, .int sy, .ref af, .int sp])), (af, .inl (gI G, 121, .inl (fun q9 => nI (fdy q9)))), (an, .inl (gI G, 2175, .inl r))] sq.heap := hP
  obtain ⟨h0, ht0, h1, hkp, h2, ho, h6, hc, hRx⟩ := id hB.1
  have hm0 := mot_row ht0
  refine lv_iconst (v := nI 0) hx hb dX4_count_0 (by decide) ?_
  refine lv_istore_n (lv' := [(2, .int (nI 0)), (0, .ref h), (1, .int x)]) hx hb dX4_count_1 rfl hl (by decide) rfl (fun ls hl => ?_)
  refine lv_aload_n hx hb dX4_count_2 rfl (lv_at hl 1 rfl) ?_
  refine lv_aload_n hx hb dX4_count_3 rfl (lv_at hl 1 rfl) ?_
  refine va_get (ci := 4) (v := .ref an) (C := RX4) (T := TX4) (N := 10) hx hb hts inGX4 hown hK hP 0 rfl rfl 0 (by decide) (hts _ mw_3_54) (fun _ h9 => h9) rfl dX4_count_4 ?_
  refine lv_iconst (v := nI 0) hx hb dX4_count_7 (by decide) ?_
  refine n_iald hx hb hK hP 2 0 rfl rfl (by omega) (by omega) dX4_count_8 ?_
  refine lv_cv (y := nI (td r)) (h0) ?_
  refine k_roV (ci := 4) (q0 := 0) (As := [.int (nI (td r))]) (rest := []) hF (c_X4_monthOf l G h an tr ah ch ak ai ap sy af sp (td r) (by omega)) hKx hP ⟨_, rfl, rfl⟩ rfl rfl mw_3_148 mw_3_150 mw_p1_11 mw_1_5 mw_3_151 hd_X4_monthOf ⟨Nat.le_of_ble_eq_true rfl, Nat.le_of_ble_eq_true rfl⟩ (Rd.of hKx hZ hS) (hP.sub (ws' := [(h, .inr (4, [.ref an, .ref tr, .ref ah, .int ch, .ref ak, .ref ai, .ref ap, .int sy, .ref af, .int sp])), (af, .inl (gI G, 121, .inl (fun q9 => nI (fdy q9))))]) [0, 1] rfl) rfl hl.1 rfl (Nat.le_of_ble_eq_true rfl) dX4_count_9 ⟨Nat.zero_le _, Nat.zero_le _⟩ ?_
  refine lv_istore_n (lv' := [(3, .int (nI (mot (td r)))), (2, .int (nI 0)), (0, .ref h), (1, .int x)]) hx hb dX4_count_12 rfl hl (by decide) rfl (fun ls hl => ?_)
  refine lv_iload_n hx hb dX4_count_13 rfl (lv_at hl 3 rfl) ?_
  have sw_14 : x.toInt = X := hX
  rcases (show (X < 0 ∨ 12 < X) ∨ X = 0 ∨ X = 1 ∨ X = 2 ∨ X = 3 ∨ X = 4 ∨ X = 5 ∨ X = 6 ∨ X = 7 ∨ X = 8 ∨ X = 9 ∨ X = 10 ∨ X = 11 ∨ X = 12 by omega) with c_14 | c_14 | c_14 | c_14 | c_14 | c_14 | c_14 | c_14 | c_14 | c_14 | c_14 | c_14 | c_14 | c_14
  · skip
    refine lv_tableOut (tgt := 229) hx hb dX4_count_14 (by rw [sw_14]; exact c_14) (by decide) ?_
    refine lv_bipush (v := (-2)) hx hb dX4_count_229 (by decide) ?_
    exact e_ri hx hb hr hlk (by unfold cov; rw [if_neg (by omega), if_neg (by omega), if_neg (by omega), if_neg (by omega), if_neg (by omega), if_neg (by omega), if_neg (by omega), if_neg (by omega), if_neg (by omega), if_neg (by omega), if_neg (by omega), if_neg (by omega), if_neg (by omega)]) dX4_count_231
  · skip
    refine lv_tableIn (tgt := 80) hx hb dX4_count_14 (by rw [sw_14, c_14]; decide) (by rw [sw_14, c_14]; decide) (by rw [sw_14, c_14]; rfl) (by decide) ?_
    refine lv_aload_n hx hb dX4_count_80 rfl (lv_at hl 2 rfl) ?_
    refine va_get (ci := 4) (v := .ref an) (C := RX4) (T := TX4) (N := 10) hx hb hts inGX4 hown hK hP 0 rfl rfl 0 (by decide) (hts _ mw_3_54) (fun _ h9 => h9) rfl dX4_count_81 ?_
    refine lv_iconst (v := nI 0) hx hb dX4_count_84 (by decide) ?_
    refine n_iald hx hb hK hP 2 0 rfl rfl (by omega) (by omega) dX4_count_85 ?_
    exact e_ri hx hb hr hlk (by subst c_14; rfl) dX4_count_86
  · skip
    refine lv_tableIn (tgt := 87) hx hb dX4_count_14 (by rw [sw_14, c_14]; decide) (by rw [sw_14, c_14]; decide) (by rw [sw_14, c_14]; rfl) (by decide) ?_
    refine lv_iload_n hx hb dX4_count_87 rfl (lv_at hl 0 rfl) ?_
    exact e_ri hx hb hr hlk (by subst c_14; rfl) dX4_count_88
  · skip
    refine lv_tableIn (tgt := 89) hx hb dX4_count_14 (by rw [sw_14, c_14]; decide) (by rw [sw_14, c_14]; decide) (by rw [sw_14, c_14]; rfl) (by decide) ?_
    refine lv_iload_n hx hb dX4_count_89 rfl (lv_at hl 0 rfl) ?_
    refine lv_aload_n hx hb dX4_count_90 rfl (lv_at hl 2 rfl) ?_
    refine va_get (ci := 4) (v := .ref an) (C := RX4) (T := TX4) (N := 10) hx hb hts inGX4 hown hK hP 0 rfl rfl 0 (by decide) (hts _ mw_3_54) (fun _ h9 => h9) rfl dX4_count_91 ?_
    refine lv_iconst (v := nI 1) hx hb dX4_count_94 (by decide) ?_
    refine n_iald hx hb hK hP 2 0 rfl rfl (by omega) (by omega) dX4_count_95 ?_
    refine lv_cv (y := nI (kpn r)) (h1) ?_
    refine lv_isub hx hb dX4_count_96 ?_
    refine lv_cv (y := nI (mot (td r)) - nI (kpn r)) (rfl) ?_
    refine lv_iconst (v := nI 1) hx hb dX4_count_97 (by decide) ?_
    refine lv_iadd hx hb dX4_count_98 ?_
    refine lv_cv (y := nI (mot (td r)) - nI (kpn r) + nI 1) (rfl) ?_
    refine z0_le hx hb (tgt := 115) (((mot (td r) : Nat) : Int) - ((kpn r : Nat) : Int) + 1) dX4_count_99 (by decide) (sub1_toInt (by omega) (by omega)) (fun c_99 => ?_) (fun c_99 => ?_)
    · skip
      refine lv_iconst (v := nI 0) hx hb dX4_count_115 (by decide) ?_
      exact e_ri hx hb hr hlk (by subst c_14; first | rfl | exact congrArg nI (show 0 = mot (td r) + 1 - kpn r by omega)) dX4_count_116
    · skip
      refine lv_iload_n hx hb dX4_count_102 rfl (lv_at hl 0 rfl) ?_
      refine lv_aload_n hx hb dX4_count_103 rfl (lv_at hl 2 rfl) ?_
      refine va_get (ci := 4) (v := .ref an) (C := RX4) (T := TX4) (N := 10) hx hb hts inGX4 hown hK hP 0 rfl rfl 0 (by decide) (hts _ mw_3_54) (fun _ h9 => h9) rfl dX4_count_104 ?_
      refine lv_iconst (v := nI 1) hx hb dX4_count_107 (by decide) ?_
      refine n_iald hx hb hK hP 2 0 rfl rfl (by omega) (by omega) dX4_count_108 ?_
      refine lv_cv (y := nI (kpn r)) (h1) ?_
      refine lv_isub hx hb dX4_count_109 ?_
      refine lv_cv (y := nI (mot (td r)) - nI (kpn r)) (rfl) ?_
      refine lv_iconst (v := nI 1) hx hb dX4_count_110 (by decide) ?_
      refine lv_iadd hx hb dX4_count_111 ?_
      refine lv_cv (y := nI (mot (td r) + 1 - kpn r)) (sub_add1 (by omega)) ?_
      refine lv_goto (tgt := 116) hx hb dX4_count_112 (by decide) ?_
      exact e_ri hx hb hr hlk (by subst c_14; first | rfl | exact congrArg nI (show 0 = mot (td r) + 1 - kpn r by omega)) dX4_count_116
  · skip
    refine lv_tableIn (tgt := 117) hx hb dX4_count_14 (by rw [sw_14, c_14]; decide) (by rw [sw_14, c_14]; decide) (by rw [sw_14, c_14]; rfl) (by decide) ?_
    refine lv_aload_n hx hb dX4_count_117 rfl (lv_at hl 2 rfl) ?_
    refine va_get (ci := 4) (v := .ref an) (C := RX4) (T := TX4) (N := 10) hx hb hts inGX4 hown hK hP 0 rfl rfl 0 (by decide) (hts _ mw_3_54) (fun _ h9 => h9) rfl dX4_count_118 ?_
    refine lv_bipush (v := nI 6) hx hb dX4_count_121 (by decide) ?_
    refine n_iald hx hb hK hP 2 0 rfl rfl (by omega) (by omega) dX4_count_123 ?_
    exact e_ri hx hb hr hlk (by subst c_14; rfl) dX4_count_124
  · skip
    refine lv_tableIn (tgt := 125) hx hb dX4_count_14 (by rw [sw_14, c_14]; decide) (by rw [sw_14, c_14]; decide) (by rw [sw_14, c_14]; rfl) (by decide) ?_
    refine lv_iconst (v := nI 0) hx hb dX4_count_125 (by decide) ?_
    refine lv_istore (lv' := [(4, .int (nI 0)), (3, .int (nI (mot (td r)))), (2, .int (nI 0)), (0, .ref h), (1, .int x)]) hx hb dX4_count_126 hl (by decide) rfl (fun ls hl => ?_)
    refine wloop (n := 0) [] (fun k ls => (k ≤ mot (td r) + 1) ∧ lv_has ls 5 [(4, .int (nI k)), (2, .int (ask r k)), (3, .int (nI (mot (td r)))), (0, .ref h)]) (fun k => mot (td r) + 1 - k) ?_ 0 ⟨(by omega), lv_sub hl [0, 2, 1, 3] rfl⟩
    intro k ih
    intro ls ⟨hk, hl⟩
    refine lv_iload hx hb dX4_count_128 (lv_at hl 0 rfl) ?_
    refine lv_iload_n hx hb dX4_count_130 rfl (lv_at hl 2 rfl) ?_
    refine z_gt hx hb (tgt := 152) ((k : Nat) : Int) ((mot (td r) : Nat) : Int) dX4_count_131 (by decide) (toI (by omega)) (toI (by omega)) (fun c_131 => ?_) (fun c_131 => ?_)
    · skip
      have hk2 : k = mot (td r) + 1 := by omega
      subst hk2
      refine lv_iload_n hx hb dX4_count_152 rfl (lv_at hl 1 rfl) ?_
      exact e_ri hx hb hr hlk (by subst c_14; rfl) dX4_count_153
    · skip
      refine lv_iload_n hx hb dX4_count_134 rfl (lv_at hl 1 rfl) ?_
      refine lv_aload_n hx hb dX4_count_135 rfl (lv_at hl 3 rfl) ?_
      refine va_get (ci := 4) (v := .ref an) (C := RX4) (T := TX4) (N := 10) hx hb hts inGX4 hown hK hP 0 rfl rfl 0 (by decide) (hts _ mw_3_54) (fun _ h9 => h9) rfl dX4_count_136 ?_
      refine lv_iload hx hb dX4_count_139 (lv_at hl 0 rfl) ?_
      refine k_roS (As := [.ref an, .int (nI k)]) (rest := [.int (ask r k)]) hF (c_X4_sizeOf l G an r k (by omega)) mw_3_132 mw_3_133 mw_1_5 mw_3_134 hd_X4_sizeOf ⟨Nat.le_of_ble_eq_true rfl, Nat.le_of_ble_eq_true rfl⟩ (Rd.of hKx hZ hS) (hP.sub (ws' := [(an, .inl (gI G, 2175, .inl r))]) [2] rfl) rfl hl.1 rfl (Nat.le_of_ble_eq_true rfl) dX4_count_141 ⟨Nat.zero_le _, Nat.zero_le _⟩ ?_
      refine lv_iadd hx hb dX4_count_144 ?_
      refine lv_istore_n (lv' := [(2, .int ((ask r k) + (szo r k))), (4, .int (nI k)), (3, .int (nI (mot (td r)))), (0, .ref h)]) hx hb dX4_count_145 rfl hl (by decide) rfl (fun ls hl => ?_)
      refine lv_iinc (v := nI (k + 1)) (lv' := [(4, .int (nI (k + 1))), (2, .int ((ask r k) + (szo r k))), (3, .int (nI (mot (td r)))), (0, .ref h)]) hx hb dX4_count_146 hl (k := 1) rfl (nI_add _ _) (by decide) rfl (fun ls hl => ?_)
      refine lv_goto (tgt := 128) hx hb dX4_count_149 (by decide) ?_
      exact ih (k + 1) ls (by omega) ⟨(by omega), lv_sub hl [0, 1, 2, 3] rfl⟩
  · skip
    refine lv_tableIn (tgt := 154) hx hb dX4_count_14 (by rw [sw_14, c_14]; decide) (by rw [sw_14, c_14]; decide) (by rw [sw_14, c_14]; rfl) (by decide) ?_
    refine lv_aload_n hx hb dX4_count_154 rfl (lv_at hl 2 rfl) ?_
    refine va_get (ci := 4) (v := .ref an) (C := RX4) (T := TX4) (N := 10) hx hb hts inGX4 hown hK hP 0 rfl rfl 0 (by decide) (hts _ mw_3_54) (fun _ h9 => h9) rfl dX4_count_155 ?_
    refine lv_iconst (v := nI 3) hx hb dX4_count_158 (by decide) ?_
    refine n_iald hx hb hK hP 2 0 rfl rfl (by omega) (by omega) dX4_count_159 ?_
    exact e_ri hx hb hr hlk (by subst c_14; rfl) dX4_count_160
  · skip
    refine lv_tableIn (tgt := 161) hx hb dX4_count_14 (by rw [sw_14, c_14]; decide) (by rw [sw_14, c_14]; decide) (by rw [sw_14, c_14]; rfl) (by decide) ?_
    refine lv_aload_n hx hb dX4_count_161 rfl (lv_at hl 2 rfl) ?_
    refine va_get (ci := 4) (v := .ref an) (C := RX4) (T := TX4) (N := 10) hx hb hts inGX4 hown hK hP 0 rfl rfl 0 (by decide) (hts _ mw_3_54) (fun _ h9 => h9) rfl dX4_count_162 ?_
    refine lv_iconst (v := nI 4) hx hb dX4_count_165 (by decide) ?_
    refine n_iald hx hb hK hP 2 0 rfl rfl (by omega) (by omega) dX4_count_166 ?_
    exact e_ri hx hb hr hlk (by subst c_14; rfl) dX4_count_167
  · skip
    refine lv_tableIn (tgt := 168) hx hb dX4_count_14 (by rw [sw_14, c_14]; decide) (by rw [sw_14, c_14]; decide) (by rw [sw_14, c_14]; rfl) (by decide) ?_
    refine lv_aload_n hx hb dX4_count_168 rfl (lv_at hl 2 rfl) ?_
    refine va_get (ci := 4) (v := .ref an) (C := RX4) (T := TX4) (N := 10) hx hb hts inGX4 hown hK hP 0 rfl rfl 0 (by decide) (hts _ mw_3_54) (fun _ h9 => h9) rfl dX4_count_169 ?_
    refine lv_iconst (v := nI 5) hx hb dX4_count_172 (by decide) ?_
    refine n_iald hx hb hK hP 2 0 rfl rfl (by omega) (by omega) dX4_count_173 ?_
    exact e_ri hx hb hr hlk (by subst c_14; rfl) dX4_count_174
  · skip
    refine lv_tableIn (tgt := 175) hx hb dX4_count_14 (by rw [sw_14, c_14]; decide) (by rw [sw_14, c_14]; decide) (by rw [sw_14, c_14]; rfl) (by decide) ?_
    refine lv_iconst (v := nI 0) hx hb dX4_count_175 (by decide) ?_
    refine lv_istore (lv' := [(4, .int (nI 0)), (3, .int (nI (mot (td r)))), (2, .int (nI 0)), (0, .ref h), (1, .int x)]) hx hb dX4_count_176 hl (by decide) rfl (fun ls hl => ?_)
    refine wloop (n := 0) [] (fun k ls => (k ≤ 120) ∧ lv_has ls 5 [(4, .int (nI k)), (2, .int (nI (amk r k))), (0, .ref h)]) (fun k => 120 - k) ?_ 0 ⟨(by omega), lv_sub hl [0, 2, 3] (lvr (lvc (by first | rfl | exact congrArg nI (by omega)) (lvr rfl)))⟩
    intro k ih
    intro ls ⟨hk, hl⟩
    refine lv_iload hx hb dX4_count_178 (lv_at hl 0 rfl) ?_
    refine lv_bipush (v := nI 120) hx hb dX4_count_180 (by decide) ?_
    refine z_ge hx hb (tgt := 203) ((k : Nat) : Int) 120 dX4_count_182 (by decide) (toI (by omega)) (by decide) (fun c_182 => ?_) (fun c_182 => ?_)
    · skip
      have hk2 : k = 120 := by omega
      subst hk2
      refine lv_iload_n hx hb dX4_count_203 rfl (lv_at hl 1 rfl) ?_
      exact e_ri hx hb hr hlk (by subst c_14; rfl) dX4_count_204
    · skip
      refine lv_iload_n hx hb dX4_count_185 rfl (lv_at hl 1 rfl) ?_
      refine lv_aload_n hx hb dX4_count_186 rfl (lv_at hl 2 rfl) ?_
      refine va_get (ci := 4) (v := .ref an) (C := RX4) (T := TX4) (N := 10) hx hb hts inGX4 hown hK hP 0 rfl rfl 0 (by decide) (hts _ mw_3_54) (fun _ h9 => h9) rfl dX4_count_187 ?_
      refine lv_iload hx hb dX4_count_190 (lv_at hl 0 rfl) ?_
      refine k_roS (As := [.ref an, .int (nI k)]) (rest := [.int (nI (amk r k))]) hF (c_X4_marksIn l G an r k (by omega)) mw_3_114 mw_3_115 mw_1_5 mw_3_116 hd_X4_marksIn ⟨Nat.le_of_ble_eq_true rfl, Nat.le_of_ble_eq_true rfl⟩ (Rd.of hKx hZ hS) (hP.sub (ws' := [(an, .inl (gI G, 2175, .inl r))]) [2] rfl) rfl hl.1 rfl (Nat.le_of_ble_eq_true rfl) dX4_count_192 ⟨Nat.zero_le _, Nat.zero_le _⟩ ?_
      refine n_iadd hx hb dX4_count_195 ?_
      refine lv_istore_n (lv' := [(2, .int (nI (amk r k + mIn r k))), (4, .int (nI k)), (0, .ref h)]) hx hb dX4_count_196 rfl hl (by decide) rfl (fun ls hl => ?_)
      refine lv_iinc (v := nI (k + 1)) (lv' := [(4, .int (nI (k + 1))), (2, .int (nI (amk r k + mIn r k))), (0, .ref h)]) hx hb dX4_count_197 hl (k := 1) rfl (nI_add _ _) (by decide) rfl (fun ls hl => ?_)
      refine lv_goto (tgt := 178) hx hb dX4_count_200 (by decide) ?_
      exact ih (k + 1) ls (by omega) ⟨(by omega), lv_sub hl [0, 1, 2] (lvr (lvc (by first | rfl | exact congrArg nI (by omega)) (lvr rfl)))⟩
  · skip
    refine lv_tableIn (tgt := 205) hx hb dX4_count_14 (by rw [sw_14, c_14]; decide) (by rw [sw_14, c_14]; decide) (by rw [sw_14, c_14]; rfl) (by decide) ?_
    refine lv_aload_n hx hb dX4_count_205 rfl (lv_at hl 2 rfl) ?_
    refine va_get (ci := 4) (v := .ref an) (C := RX4) (T := TX4) (N := 10) hx hb hts inGX4 hown hK hP 0 rfl rfl 0 (by decide) (hts _ mw_3_54) (fun _ h9 => h9) rfl dX4_count_206 ?_
    refine lv_iconst (v := nI 1) hx hb dX4_count_209 (by decide) ?_
    refine n_iald hx hb hK hP 2 0 rfl rfl (by omega) (by omega) dX4_count_210 ?_
    exact e_ri hx hb hr hlk (by subst c_14; rfl) dX4_count_211
  · skip
    refine lv_tableIn (tgt := 212) hx hb dX4_count_14 (by rw [sw_14, c_14]; decide) (by rw [sw_14, c_14]; decide) (by rw [sw_14, c_14]; rfl) (by decide) ?_
    refine lv_aload_n hx hb dX4_count_212 rfl (lv_at hl 2 rfl) ?_
    refine va_get (ci := 4) (v := .ref an) (C := RX4) (T := TX4) (N := 10) hx hb hts inGX4 hown hK hP 0 rfl rfl 0 (by decide) (hts _ mw_3_54) (fun _ h9 => h9) rfl dX4_count_213 ?_
    refine lv_iconst (v := nI 2) hx hb dX4_count_216 (by decide) ?_
    refine n_iald hx hb hK hP 2 0 rfl rfl (by omega) (by omega) dX4_count_217 ?_
    exact e_ri hx hb hr hlk (by subst c_14; rfl) dX4_count_218
  · skip
    refine lv_tableIn (tgt := 219) hx hb dX4_count_14 (by rw [sw_14, c_14]; decide) (by rw [sw_14, c_14]; decide) (by rw [sw_14, c_14]; rfl) (by decide) ?_
    refine lv_aload_n hx hb dX4_count_219 rfl (lv_at hl 2 rfl) ?_
    refine va_get (ci := 4) (v := .int sy) (C := RX4) (T := TX4) (N := 10) hx hb hts inGX4 hown hK hP 0 rfl rfl 7 (by decide) (hts _ mw_3_61) (fun _ h9 => h9) rfl dX4_count_220 ?_
    exact e_ri hx hb hr hlk (by subst c_14; rfl) dX4_count_223
  · skip
    refine lv_tableIn (tgt := 224) hx hb dX4_count_14 (by rw [sw_14, c_14]; decide) (by rw [sw_14, c_14]; decide) (by rw [sw_14, c_14]; rfl) (by decide) ?_
    refine lv_aload_n hx hb dX4_count_224 rfl (lv_at hl 2 rfl) ?_
    refine va_get (ci := 4) (v := .int ch) (C := RX4) (T := TX4) (N := 10) hx hb hts inGX4 hown hK hP 0 rfl rfl 3 (by decide) (hts _ mw_3_57) (fun _ h9 => h9) rfl dX4_count_225 ?_
    exact e_ri hx hb hr hlk (by subst c_14; rfl) dX4_count_228
set_option maxHeartbeats 4000000 in
set_option maxRecDepth 100000 in
theorem c_X4_sizeAs_k (l : Launch) (G : gT) (h : Nat) (an : Nat) (tr : Nat) (ah : Nat) (ch : Int32) (ak : Nat) (ai : Nat) (ap : Nat) (sy : Int32) (af : Nat) (sp : Int32) (r : Nat → Int32) (m : Nat) (w : Nat) (hm : m < 120) (hw : w ≤ 4) : Ro l G yX4_sizeAs cX4_sizeAs 3 (some .int) 8 [(h, .inr (4, [.ref an, .ref tr, .ref ah, .int ch, .ref ak, .ref ai, .ref ap, .int sy, .ref af, .int sp])), (an, .inl (gI G, 2175, .inl r))] [.ref h, .int (nI m), .int (nI w)] (siz r m (-6) ((w : Nat) : Int)) := by
  refine Ro.mk (by decide) (Nat.le_of_ble_eq_true rfl) (fun pq eq sq mq bq tq cq ls hr hlk hF hKx hZ hP hl => ?_)
  have hx := hF.1
  have hb := hF.2.1
  have hml := hF.2.2.1
  have hown : sq.vm.findClass RX4 = some mq.cls := hF.2.2.2.1
  have hts : ∀ w ∈ GW, w.before _ sq = true := hF.2.2.2.2
  have hK := hKx.1
  have hl : lv_has ls 3 [(0, .ref h), (1, .int (nI m)), (2, .int (nI w))] := hl
  have hS : va_S (fun _ => False) sq.heap sq.heap [] := va_S.rf
  have hP : va_P G.1 vwCl [(h, .inr (4, [.ref an, .ref tr, .ref ah, .int ch, .ref ak, .ref ai, .ref ap, .int sy, .ref af, .int sp])), (an, .inl (gI G, 2175, .inl r))] sq.heap := hP
  refine lv_iload_n hx hb dX4_sizeAs_0 rfl (lv_at hl 1 rfl) ?_
  refine k_roS (As := [.int (nI m)]) (rest := []) hF (c_X4_isMonth l G (nI m) ((m : Nat) : Int) (toI (by omega))) mw_4_1 mw_4_2 mw_1_5 mw_4_3 hd_X4_isMonth ⟨Nat.le_of_ble_eq_true rfl, Nat.le_of_ble_eq_true rfl⟩ (Rd.of hKx hZ hS) (hP.sub (ws' := []) [] rfl) rfl hl.1 rfl (Nat.le_of_ble_eq_true rfl) dX4_sizeAs_1 ⟨Nat.zero_le _, Nat.zero_le _⟩ ?_
  refine p0_ne hx hb (tgt := 9) dX4_sizeAs_4 (by decide) (fun c_4 => ?_) (fun c_4 => ?_)
  · skip
    refine lv_iload_n hx hb dX4_sizeAs_9 rfl (lv_at hl 2 rfl) ?_
    refine lv_i2l (v := (nI w).toInt64) hx hb dX4_sizeAs_10 rfl ?_
    refine lv_lconst (v := 0) hx hb dX4_sizeAs_11 (by decide) ?_
    refine lv_ldc2 (v := 4) hx hb hown (hts _ mw_4_30) dX4_sizeAs_12 ?_
    refine k_roS (As := [.long ((nI w).toInt64), .long 0, .long 4]) (rest := []) hF (c_X4_in l G ((nI w).toInt64) 0 4 ((w : Nat) : Int) 0 4 (l64 (toI (by omega))) (by decide) (by decide)) mw_3_91 mw_3_92 mw_1_5 mw_3_93 hd_X4_in ⟨Nat.le_of_ble_eq_true rfl, Nat.le_of_ble_eq_true rfl⟩ (Rd.of hKx hZ hS) (hP.sub (ws' := []) [] rfl) rfl hl.1 rfl (Nat.le_of_ble_eq_true rfl) dX4_sizeAs_15 ⟨Nat.zero_le _, Nat.zero_le _⟩ ?_
    refine p0_eq hx hb (tgt := 35) dX4_sizeAs_18 (by decide) (fun c_18 => ?_) (fun c_18 => ?_)
    · skip
      exact absurd c_18 (by omega)
    · skip
      refine lv_aload_n hx hb dX4_sizeAs_21 rfl (lv_at hl 0 rfl) ?_
      refine va_get (ci := 4) (v := .ref an) (C := RX4) (T := TX4) (N := 10) hx hb hts inGX4 hown hK hP 0 rfl rfl 0 (by decide) (hts _ mw_3_54) (fun _ h9 => h9) rfl dX4_sizeAs_22 ?_
      refine lv_iload_n hx hb dX4_sizeAs_25 rfl (lv_at hl 1 rfl) ?_
      refine lv_iload_n hx hb dX4_sizeAs_26 rfl (lv_at hl 2 rfl) ?_
      refine lv_bipush (v := (-6)) hx hb dX4_sizeAs_27 (by decide) ?_
      refine k_roS (As := [.ref an, .int (nI m), .int (nI w), .int (-6)]) (rest := []) hF (c_X4_sizeIn l G an r m (nI w) ((w : Nat) : Int) (-6) (-6) (by omega) (toI (by omega)) (by decide)) mw_3_111 mw_3_112 mw_1_5 mw_3_113 hd_X4_sizeIn ⟨Nat.le_of_ble_eq_true rfl, Nat.le_of_ble_eq_true rfl⟩ (Rd.of hKx hZ hS) (hP.sub (ws' := [(an, .inl (gI G, 2175, .inl r))]) [1] rfl) rfl hl.1 rfl (Nat.le_of_ble_eq_true rfl) dX4_sizeAs_29 ⟨Nat.zero_le _, Nat.zero_le _⟩ ?_
      refine lv_goto (tgt := 37) hx hb dX4_sizeAs_32 (by decide) ?_
      exact e_ri hx hb hr hlk (rfl) dX4_sizeAs_37
  · skip
    exact absurd c_4 (by omega)
set_option maxHeartbeats 4000000 in
set_option maxRecDepth 100000 in
theorem c_X4_sizeAs_e (l : Launch) (G : gT) (h : Nat) (an : Nat) (tr : Nat) (ah : Nat) (ch : Int32) (ak : Nat) (ai : Nat) (ap : Nat) (sy : Int32) (af : Nat) (sp : Int32) (w : Int32) (S0 : Int) (x : Int32) (hw1 : w.toInt = S0) (he : ¬ (0 ≤ S0 ∧ S0 ≤ 119)) : Ro l G yX4_sizeAs cX4_sizeAs 3 (some .int) 9 [] [.ref h, .int w, .int x] (-1) := by
  refine Ro.mk (by decide) (Nat.le_of_ble_eq_true rfl) (fun pq eq sq mq bq tq cq ls hr hlk hF hKx hZ hP hl => ?_)
  have hx := hF.1
  have hb := hF.2.1
  have hml := hF.2.2.1
  have hown : sq.vm.findClass RX4 = some mq.cls := hF.2.2.2.1
  have hts : ∀ w ∈ GW, w.before _ sq = true := hF.2.2.2.2
  have hK := hKx.1
  have hl : lv_has ls 3 [(0, .ref h), (1, .int w), (2, .int x)] := hl
  have hS : va_S (fun _ => False) sq.heap sq.heap [] := va_S.rf
  have hP : va_P G.1 vwCl [] sq.heap := hP
  refine lv_iload_n hx hb dX4_sizeAs_0 rfl (lv_at hl 1 rfl) ?_
  refine k_roS (As := [.int w]) (rest := []) hF (c_X4_isMonth l G w S0 hw1) mw_4_1 mw_4_2 mw_1_5 mw_4_3 hd_X4_isMonth ⟨Nat.le_of_ble_eq_true rfl, Nat.le_of_ble_eq_true rfl⟩ (Rd.of hKx hZ hS) (hP.sub (ws' := []) [] rfl) rfl hl.1 rfl (Nat.le_of_ble_eq_true rfl) dX4_sizeAs_1 ⟨Nat.zero_le _, Nat.zero_le _⟩ ?_
  refine p0_ne hx hb (tgt := 9) dX4_sizeAs_4 (by decide) (fun c_4 => ?_) (fun c_4 => ?_)
  · skip
    exact absurd c_4 (by omega)
  · skip
    refine lv_iconst (v := (-1)) hx hb dX4_sizeAs_7 (by decide) ?_
    exact e_ri hx hb hr hlk (rfl) dX4_sizeAs_8
set_option maxHeartbeats 4000000 in
set_option maxRecDepth 100000 in
theorem c_X4_sizeAs_e2 (l : Launch) (G : gT) (h : Nat) (an : Nat) (tr : Nat) (ah : Nat) (ch : Int32) (ak : Nat) (ai : Nat) (ap : Nat) (sy : Int32) (af : Nat) (sp : Int32) (m : Nat) (w : Int32) (S0 : Int) (hm : m < 120) (hw1 : w.toInt = S0) (he : ¬ (0 ≤ S0 ∧ S0 ≤ 4)) : Ro l G yX4_sizeAs cX4_sizeAs 3 (some .int) 9 [] [.ref h, .int (nI m), .int w] (-2) := by
  refine Ro.mk (by decide) (Nat.le_of_ble_eq_true rfl) (fun pq eq sq mq bq tq cq ls hr hlk hF hKx hZ hP hl => ?_)
  have hx := hF.1
  have hb := hF.2.1
  have hml := hF.2.2.1
  have hown : sq.vm.findClass RX4 = some mq.cls := hF.2.2.2.1
  have hts : ∀ w ∈ GW, w.before _ sq = true := hF.2.2.2.2
  have hK := hKx.1
  have hl : lv_has ls 3 [(0, .ref h), (1, .int (nI m)), (2, .int w)] := hl
  have hS : va_S (fun _ => False) sq.heap sq.heap [] := va_S.rf
  have hP : va_P G.1 vwCl [] sq.heap := hP
  refine lv_iload_n hx hb dX4_sizeAs_0 rfl (lv_at hl 1 rfl) ?_
  refine k_roS (As := [.int (nI m)]) (rest := []) hF (c_X4_isMonth l G (nI m) ((m : Nat) : Int) (toI (by omega))) mw_4_1 mw_4_2 mw_1_5 mw_4_3 hd_X4_isMonth ⟨Nat.le_of_ble_eq_true rfl, Nat.le_of_ble_eq_true rfl⟩ (Rd.of hKx hZ hS) (hP.sub (ws' := []) [] rfl) rfl hl.1 rfl (Nat.le_of_ble_eq_true rfl) dX4_sizeAs_1 ⟨Nat.zero_le _, Nat.zero_le _⟩ ?_
  refine p0_ne hx hb (tgt := 9) dX4_sizeAs_4 (by decide) (fun c_4 => ?_) (fun c_4 => ?_)
  · skip
    refine lv_iload_n hx hb dX4_sizeAs_9 rfl (lv_at hl 2 rfl) ?_
    refine lv_i2l (v := w.toInt64) hx hb dX4_sizeAs_10 rfl ?_
    refine lv_lconst (v := 0) hx hb dX4_sizeAs_11 (by decide) ?_
    refine lv_ldc2 (v := 4) hx hb hown (hts _ mw_4_30) dX4_sizeAs_12 ?_
    refine k_roS (As := [.long w.toInt64, .long 0, .long 4]) (rest := []) hF (c_X4_in l G w.toInt64 0 4 S0 0 4 (l64 hw1) (by decide) (by decide)) mw_3_91 mw_3_92 mw_1_5 mw_3_93 hd_X4_in ⟨Nat.le_of_ble_eq_true rfl, Nat.le_of_ble_eq_true rfl⟩ (Rd.of hKx hZ hS) (hP.sub (ws' := []) [] rfl) rfl hl.1 rfl (Nat.le_of_ble_eq_true rfl) dX4_sizeAs_15 ⟨Nat.zero_le _, Nat.zero_le _⟩ ?_
    refine p0_eq hx hb (tgt := 35) dX4_sizeAs_18 (by decide) (fun c_18 => ?_) (fun c_18 => ?_)
    · skip
      refine lv_bipush (v := (-2)) hx hb dX4_sizeAs_35 (by decide) ?_
      exact e_ri hx hb hr hlk (rfl) dX4_sizeAs_37
    · skip
      exact absurd c_18 (by omega)
  · skip
    exact absurd c_4 (by omega)
