theorem hd_X3_marks : hdY yX3_marks 3 := ⟨by decide +kernel, by decide +kernel, by decide +kernel⟩
theorem hd_X3_isMarked : hdY yX3_isMarked 2 := ⟨by decide +kernel, by decide +kernel, by decide +kernel⟩
theorem hd_X3_both : hdY yX3_both 4 := ⟨by decide +kernel, by decide +kernel, by decide +kernel⟩
theorem hd_X3_crowded : hdY yX3_crowded 3 := ⟨by decide +kernel, by decide +kernel, by decide +kernel⟩
theorem hd_X3_inMonth : hdY yX3_inMonth 2 := ⟨by decide +kernel, by decide +kernel, by decide +kernel⟩
theorem hd_X3_dayOf : hdY yX3_dayOf 3 := ⟨by decide +kernel, by decide +kernel, by decide +kernel⟩
theorem hd_X3_dateOf : hdY yX3_dateOf 2 := ⟨by decide +kernel, by decide +kernel, by decide +kernel⟩
theorem hd_X3_sizeAs : hdY yX3_sizeAs 2 := ⟨by decide +kernel, by decide +kernel, by decide +kernel⟩
theorem hd_X3_longest : hdY yX3_longest 4 := ⟨by decide +kernel, by decide +kernel, by decide +kernel⟩
theorem hd_X3_nextMark : hdY yX3_nextMark 2 := ⟨by decide +kernel, by decide +kernel, by decide +kernel⟩
theorem hd_X3_ofMonth : hdY yX3_ofMonth 2 := ⟨by decide +kernel, by decide +kernel, by decide +kernel⟩
theorem hd_X3_count : hdY yX3_count 1 := ⟨by decide +kernel, by decide +kernel, by decide +kernel⟩
set_option maxHeartbeats 4000000 in
set_option maxRecDepth 100000 in
theorem c_X3_marks_k (l : Launch) (G : gT) (sz : Nat) (me : Nat) (o : Nat) (ou : Nat) (oh : Nat) (os : Nat) (op : Nat) (kc : Int32) (sv : Int32) (ab : Nat) (af : Nat) (an : Nat) (aw : Nat) (r : Nat → Int32) (s : Nat) (f : Nat) (t : Nat) (hCv : Cv r) (hs : s < 16) (hft : f ≤ t) (ht : t < 3650) : Rw l G yX3_marks cX3_marks 9 (some .int) 9 sz [(me, .inr (3, [.ref o, .ref ou, .ref oh, .ref os, .ref op, .int kc, .int sv])), (o, dO r ab af an aw), (ab, .inl (gI G, 1920, .inl (dB r))), (af, .inl (gI G, 120, .inl (dF r))), (an, .inl (gI G, 120, .inl (dN r))), (aw, .inl (gI G, 7, .inl (dW r)))] [.ref me, .int (nI s), .int (nI f), .int (nI t)] (nI (ctm r s f t (mot f) (mot t + 1 - mot f))) [(me, .inr (3, [.ref o, .ref ou, .ref oh, .ref os, .ref op, .int kc, .int sv])), (o, dO (mks r f t (mot f) (mot t + 1 - mot f)) ab af an aw), (ab, .inl (gI G, 1920, .inl (dB (mks r f t (mot f) (mot t + 1 - mot f))))), (af, .inl (gI G, 120, .inl (dF (mks r f t (mot f) (mot t + 1 - mot f))))), (an, .inl (gI G, 120, .inl (dN (mks r f t (mot f) (mot t + 1 - mot f))))), (aw, .inl (gI G, 7, .inl (dW (mks r f t (mot f) (mot t + 1 - mot f)))))] := by
  refine Rw.mk (by decide) (Nat.le_of_ble_eq_true rfl) (fun pq eq sq mq bq tq cq ls A hr hlk hF hKx hZ hA hP hD hS hl => ?_)
  have hx := hF.1
  have hb := hF.2.1
  have hml := hF.2.2.1
  have hown : sq.vm.findClass RX3 = some mq.cls := hF.2.2.2.1
  have hts : ∀ w ∈ GW, w.before _ sq = true := hF.2.2.2.2
  have hK := hKx.1
  have hl : lv_has ls 9 [(0, .ref me), (1, .int (nI s)), (2, .int (nI f)), (3, .int (nI t))] := hl
  have hP : va_P G.1 vwCl [(me, .inr (3, [.ref o, .ref ou, .ref oh, .ref os, .ref op, .int kc, .int sv])), (o, dO r ab af an aw), (ab, .inl (gI G, 1920, .inl (dB r))), (af, .inl (gI G, 120, .inl (dF r))), (an, .inl (gI G, 120, .inl (dN r))), (aw, .inl (gI G, 7, .inl (dW r)))] sq.heap := hP
  have hD : va_D A [(me, .inr (3, [.ref o, .ref ou, .ref oh, .ref os, .ref op, .int kc, .int sv])), (o, dO r ab af an aw), (ab, .inl (gI G, 1920, .inl (dB r))), (af, .inl (gI G, 120, .inl (dF r))), (an, .inl (gI G, 120, .inl (dN r))), (aw, .inl (gI G, 7, .inl (dW r)))] := hD
  have hmf := mot_mono ht hft
  have hmt := mot_row ht
  have hf : f < 3650 := by omega
  refine lv_iload_n hx hb dX3_marks_0 rfl (lv_at hl 1 rfl) ?_
  refine lv_iload_n hx hb dX3_marks_1 rfl (lv_at hl 2 rfl) ?_
  refine lv_iload_n hx hb dX3_marks_2 rfl (lv_at hl 3 rfl) ?_
  refine k_roS (As := [.int (nI s), .int (nI f), .int (nI t)]) (rest := []) hF (c_X3_subjectSpanError l G (nI s) ((s : Nat) : Int) (nI f) ((f : Nat) : Int) (nI t) ((t : Nat) : Int) (toI (by omega)) (toI (by omega)) (toI (by omega))) mw_2_61 mw_2_62 mw_1_1 mw_2_63 hd_X3_subjectSpanError ⟨Nat.le_of_ble_eq_true rfl, Nat.le_of_ble_eq_true rfl⟩ (Rd.of hKx hZ hS) (hP.sub (ws' := []) [] rfl) rfl hl.1 rfl (Nat.le_of_ble_eq_true rfl) dX3_marks_3 ⟨Nat.zero_le _, Nat.zero_le _⟩ ?_
  refine lv_cv (y := nI 0) (eDy_0 (by omega) (by omega)) ?_
  refine lv_istore (lv' := [(4, .int (nI 0)), (0, .ref me), (1, .int (nI s)), (2, .int (nI f)), (3, .int (nI t))]) hx hb dX3_marks_6 hl (by decide) rfl (fun ls hl => ?_)
  refine lv_iload hx hb dX3_marks_8 (lv_at hl 0 rfl) ?_
  refine z0_eq hx hb (tgt := 16) 0 dX3_marks_10 (by decide) (by decide) (fun c_10 => ?_) (fun c_10 => ?_)
  · skip
    refine lv_iconst (v := nI 0) hx hb dX3_marks_16 (by decide) ?_
    refine lv_istore (lv' := [(5, .int (nI 0)), (4, .int (nI 0)), (0, .ref me), (1, .int (nI s)), (2, .int (nI f)), (3, .int (nI t))]) hx hb dX3_marks_17 hl (by decide) rfl (fun ls hl => ?_)
    refine lv_iload_n hx hb dX3_marks_19 rfl (lv_at hl 5 rfl) ?_
    refine k_roS (As := [.int (nI t)]) (rest := []) hF (c_X3_monthOf l G t (by omega)) mw_1_160 mw_1_161 mw_1_1 mw_1_162 hd_X3_monthOf ⟨Nat.le_of_ble_eq_true rfl, Nat.le_of_ble_eq_true rfl⟩ (Rd.of hKx hZ hS) (hP.sub (ws' := []) [] rfl) rfl hl.1 rfl (Nat.le_of_ble_eq_true rfl) dX3_marks_20 ⟨Nat.zero_le _, Nat.zero_le _⟩ ?_
    refine lv_istore (lv' := [(6, .int (nI (mot t))), (5, .int (nI 0)), (4, .int (nI 0)), (0, .ref me), (1, .int (nI s)), (2, .int (nI f)), (3, .int (nI t))]) hx hb dX3_marks_23 hl (by decide) rfl (fun ls hl => ?_)
    refine lv_iload_n hx hb dX3_marks_25 rfl (lv_at hl 5 rfl) ?_
    refine k_roS (As := [.int (nI f)]) (rest := []) hF (c_X3_monthOf l G f (by omega)) mw_1_160 mw_1_161 mw_1_1 mw_1_162 hd_X3_monthOf ⟨Nat.le_of_ble_eq_true rfl, Nat.le_of_ble_eq_true rfl⟩ (Rd.of hKx hZ hS) (hP.sub (ws' := []) [] rfl) rfl hl.1 rfl (Nat.le_of_ble_eq_true rfl) dX3_marks_26 ⟨Nat.zero_le _, Nat.zero_le _⟩ ?_
    refine lv_istore (lv' := [(7, .int (nI (mot f))), (6, .int (nI (mot t))), (5, .int (nI 0)), (4, .int (nI 0)), (0, .ref me), (1, .int (nI s)), (2, .int (nI f)), (3, .int (nI t))]) hx hb dX3_marks_29 hl (by decide) rfl (fun ls hl => ?_)
    have hPj := hP.sub (ws' := [(me, .inr (3, [.ref o, .ref ou, .ref oh, .ref os, .ref op, .int kc, .int sv])), (o, dO r ab af an aw), (ab, .inl (gI G, 1920, .inl (dB r))), (af, .inl (gI G, 120, .inl (dF r))), (an, .inl (gI G, 120, .inl (dN r))), (aw, .inl (gI G, 7, .inl (dW r)))]) [0, 1, 2, 3, 4, 5] rfl
    have hDj := hD.sub (ws' := [(me, .inr (3, [.ref o, .ref ou, .ref oh, .ref os, .ref op, .int kc, .int sv])), (o, dO r ab af an aw), (ab, .inl (gI G, 1920, .inl (dB r))), (af, .inl (gI G, 120, .inl (dF r))), (an, .inl (gI G, 120, .inl (dN r))), (aw, .inl (gI G, 7, .inl (dW r)))]) [0, 1, 2, 3, 4, 5] (by decide) rfl
    have hwj : ([(me, .inr (3, [.ref o, .ref ou, .ref oh, .ref os, .ref op, .int kc, .int sv])), (o, dO r ab af an aw), (ab, .inl (gI G, 1920, .inl (dB r))), (af, .inl (gI G, 120, .inl (dF r))), (an, .inl (gI G, 120, .inl (dN r))), (aw, .inl (gI G, 7, .inl (dW r)))] : va_W) = [(me, .inr (3, [.ref o, .ref ou, .ref oh, .ref os, .ref op, .int kc, .int sv])), (o, dO (mks r f t (mot f) 0) ab af an aw), (ab, .inl (gI G, 1920, .inl (dB (mks r f t (mot f) 0)))), (af, .inl (gI G, 120, .inl (dF (mks r f t (mot f) 0)))), (an, .inl (gI G, 120, .inl (dN (mks r f t (mot f) 0)))), (aw, .inl (gI G, 7, .inl (dW (mks r f t (mot f) 0))))] := (wlc (rfl) (wlc (rfl) (wlc (rfl) (wlc (rfl) (wlc (rfl) (wlc (rfl) rfl))))))
    rw [hwj] at hPj hDj
    refine wloopH [] (fun j H locs ls => (j ≤ mot t + 1 - mot f) ∧ va_P G.1 vwCl [(me, .inr (3, [.ref o, .ref ou, .ref oh, .ref os, .ref op, .int kc, .int sv])), (o, dO (mks r f t (mot f) j) ab af an aw), (ab, .inl (gI G, 1920, .inl (dB (mks r f t (mot f) j)))), (af, .inl (gI G, 120, .inl (dF (mks r f t (mot f) j)))), (an, .inl (gI G, 120, .inl (dN (mks r f t (mot f) j)))), (aw, .inl (gI G, 7, .inl (dW (mks r f t (mot f) j))))] H ∧ va_D A [(me, .inr (3, [.ref o, .ref ou, .ref oh, .ref os, .ref op, .int kc, .int sv])), (o, dO (mks r f t (mot f) j) ab af an aw), (ab, .inl (gI G, 1920, .inl (dB (mks r f t (mot f) j)))), (af, .inl (gI G, 120, .inl (dF (mks r f t (mot f) j)))), (an, .inl (gI G, 120, .inl (dN (mks r f t (mot f) j)))), (aw, .inl (gI G, 7, .inl (dW (mks r f t (mot f) j))))] ∧ va_S A sq.heap H locs ∧ lv_has ls 9 [(7, .int (nI (mot f + j))), (6, .int (nI (mot t))), (5, .int (nI (ctm r s f t (mot f) j))), (0, .ref me), (1, .int (nI s)), (2, .int (nI f)), (3, .int (nI t))]) (fun j => (mot t + 1 - mot f) - j) ?_ 0 ⟨(by omega), hPj, hDj, hS, lv_sub hl [0, 1, 2, 4, 5, 6, 7] (lvc (by first | rfl | exact congrArg nI (by omega)) (lvr (lvc (by first | rfl | exact congrArg nI (by omega)) (lvr (lvr (lvr (lvr rfl)))))))⟩
    intro j ih
    intro H locs ls ⟨hj, hP, hD, hS, hl⟩
    refine lv_iload hx hb dX3_marks_31 (lv_at hl 0 rfl) ?_
    refine lv_iload hx hb dX3_marks_33 (lv_at hl 1 rfl) ?_
    refine z_gt hx hb (tgt := 93) ((mot f + j : Nat) : Int) ((mot t : Nat) : Int) dX3_marks_35 (by decide) (toI (by omega)) (toI (by omega)) (fun c_35 => ?_) (fun c_35 => ?_)
    · skip
      have hj2 : j = mot t + 1 - mot f := by omega
      subst hj2
      refine lv_iload hx hb dX3_marks_93 (lv_at hl 2 rfl) ?_
      have hPj := hP.sub (ws' := [(me, .inr (3, [.ref o, .ref ou, .ref oh, .ref os, .ref op, .int kc, .int sv])), (o, dO (mks r f t (mot f) (mot t + 1 - mot f)) ab af an aw), (ab, .inl (gI G, 1920, .inl (dB (mks r f t (mot f) (mot t + 1 - mot f))))), (af, .inl (gI G, 120, .inl (dF (mks r f t (mot f) (mot t + 1 - mot f))))), (an, .inl (gI G, 120, .inl (dN (mks r f t (mot f) (mot t + 1 - mot f))))), (aw, .inl (gI G, 7, .inl (dW (mks r f t (mot f) (mot t + 1 - mot f)))))]) [0, 1, 2, 3, 4, 5] rfl
      exact e_wi hx hb hr hlk hPj hS (rfl) dX3_marks_95
    · skip
      have hd2 : f < fdy (mot f + j + 1) := mot_hi (by omega) (by omega)
      have hd3 : fdy (mot f + j) ≤ t := mot_lo ht (by omega)
      refine lv_iload hx hb dX3_marks_38 (lv_at hl 0 rfl) ?_
      refine lv_iload_n hx hb dX3_marks_40 rfl (lv_at hl 5 rfl) ?_
      refine lv_iload_n hx hb dX3_marks_41 rfl (lv_at hl 6 rfl) ?_
      refine k_roS (As := [.int (nI (mot f + j)), .int (nI f), .int (nI t)]) (rest := []) hF (c_X3_daysMeant l G (mot f + j) f t (by omega) (by omega) (by omega) (by omega) (by omega)) mw_2_119 mw_2_78 mw_1_1 mw_2_79 hd_X3_daysMeant ⟨Nat.le_of_ble_eq_true rfl, Nat.le_of_ble_eq_true rfl⟩ (Rd.of hKx hZ hS) (hP.sub (ws' := []) [] rfl) rfl hl.1 rfl (Nat.le_of_ble_eq_true rfl) dX3_marks_42 ⟨Nat.zero_le _, Nat.zero_le _⟩ ?_
      refine lv_istore (lv' := [(8, .int (mnt (mot f + j) f t)), (7, .int (nI (mot f + j))), (6, .int (nI (mot t))), (5, .int (nI (ctm r s f t (mot f) j))), (0, .ref me), (1, .int (nI s)), (2, .int (nI f)), (3, .int (nI t))]) hx hb dX3_marks_45 hl (by decide) rfl (fun ls hl => ?_)
      refine wjoinH 66 [] (fun H locs ls => va_P G.1 vwCl [(me, .inr (3, [.ref o, .ref ou, .ref oh, .ref os, .ref op, .int kc, .int sv])), (o, dO (mks r f t (mot f) (j + 1)) ab af an aw), (ab, .inl (gI G, 1920, .inl (dB (mks r f t (mot f) (j + 1))))), (af, .inl (gI G, 120, .inl (dF (mks r f t (mot f) (j + 1))))), (an, .inl (gI G, 120, .inl (dN (mks r f t (mot f) (j + 1))))), (aw, .inl (gI G, 7, .inl (dW (mks r f t (mot f) (j + 1)))))] H ∧ va_D A [(me, .inr (3, [.ref o, .ref ou, .ref oh, .ref os, .ref op, .int kc, .int sv])), (o, dO (mks r f t (mot f) (j + 1)) ab af an aw), (ab, .inl (gI G, 1920, .inl (dB (mks r f t (mot f) (j + 1))))), (af, .inl (gI G, 120, .inl (dF (mks r f t (mot f) (j + 1))))), (an, .inl (gI G, 120, .inl (dN (mks r f t (mot f) (j + 1))))), (aw, .inl (gI G, 7, .inl (dW (mks r f t (mot f) (j + 1)))))] ∧ va_S A sq.heap H locs ∧ lv_has ls 9 [(8, .int (mnt (mot f + j) f t)), (7, .int (nI (mot f + j))), (6, .int (nI (mot t))), (5, .int (nI (ctm r s f t (mot f) j))), (0, .ref me), (1, .int (nI s)), (2, .int (nI f)), (3, .int (nI t))]) ?_ (fun J66 => ?_)
      · skip
        intro H locs ls ⟨hP, hD, hS, hl⟩
        refine lv_iload hx hb dX3_marks_66 (lv_at hl 3 rfl) ?_
        refine lv_aload_n hx hb dX3_marks_68 rfl (lv_at hl 4 rfl) ?_
        refine va_get (ci := 3) (v := .ref o) (C := RX3) (T := TX3) (N := 7) hx hb hts inGX3 hown hK hP 0 rfl rfl 0 (by decide) (hts _ mw_1_126) (fun _ h9 => h9) rfl dX3_marks_69 ?_
        refine lv_iload_n hx hb dX3_marks_72 rfl (lv_at hl 5 rfl) ?_
        refine lv_iload hx hb dX3_marks_73 (lv_at hl 1 rfl) ?_
        refine k_roV (ci := 0) (q0 := 1) (As := [.int (nI s), .int (nI (mot f + j))]) (rest := [.int (nI (ctm r s f t (mot f) j))]) hF (c_X0_bitsOf l G o ab af an aw (mks r f t (mot f) (j + 1)) s (mot f + j) (by omega) (by omega)) hKx hP ⟨_, rfl, rfl⟩ rfl rfl mw_2_127 mw_1_204 mw_1_205 mw_1_2 mw_1_206 hd_X0_bitsOf ⟨Nat.le_of_ble_eq_true rfl, Nat.le_of_ble_eq_true rfl⟩ (Rd.of hKx hZ hS) (hP.sub (ws' := [(o, dO (mks r f t (mot f) (j + 1)) ab af an aw), (ab, .inl (gI G, 1920, .inl (dB (mks r f t (mot f) (j + 1))))), (af, .inl (gI G, 120, .inl (dF (mks r f t (mot f) (j + 1))))), (an, .inl (gI G, 120, .inl (dN (mks r f t (mot f) (j + 1))))), (aw, .inl (gI G, 7, .inl (dW (mks r f t (mot f) (j + 1)))))]) [1, 2, 3, 4, 5] rfl) rfl hl.1 rfl (Nat.le_of_ble_eq_true rfl) dX3_marks_75 ⟨Nat.zero_le _, Nat.zero_le _⟩ ?_
        refine lv_cv (y := r (255 + 16 * (mot f + j) + s)) (by rw [Nat.add_assoc 255]; exact mks_mk hCv.1 (j + 1) (by omega)) ?_
        refine lv_iload hx hb dX3_marks_78 (lv_at hl 0 rfl) ?_
        refine lv_iand hx hb dX3_marks_80 ?_
        refine k_roS (As := [.int ((r (255 + 16 * (mot f + j) + s)) &&& (mnt (mot f + j) f t))]) (rest := [.int (nI (ctm r s f t (mot f) j))]) hF (c_J6_bitCount_0f7a4 l G ((r (255 + 16 * (mot f + j) + s)) &&& (mnt (mot f + j) f t))) mw_2_128 mw_1_208 mw_1_6 mw_1_209 hd_J6_bitCount_0f7a4 ⟨Nat.le_of_ble_eq_true rfl, Nat.le_of_ble_eq_true rfl⟩ (Rd.of hKx hZ hS) (hP.sub (ws' := []) [] rfl) rfl hl.1 rfl (Nat.le_of_ble_eq_true rfl) dX3_marks_81 ⟨Nat.zero_le _, Nat.zero_le _⟩ ?_
        refine n_iadd hx hb dX3_marks_84 ?_
        refine lv_istore (lv' := [(5, .int (nI (ctm r s f t (mot f) j + pcn ((r (255 + 16 * (mot f + j) + s)) &&& (mnt (mot f + j) f t)) 32))), (8, .int (mnt (mot f + j) f t)), (7, .int (nI (mot f + j))), (6, .int (nI (mot t))), (0, .ref me), (1, .int (nI s)), (2, .int (nI f)), (3, .int (nI t))]) hx hb dX3_marks_85 hl (by decide) rfl (fun ls hl => ?_)
        refine lv_iinc (v := nI (mot f + j + 1)) (lv' := [(7, .int (nI (mot f + j + 1))), (5, .int (nI (ctm r s f t (mot f) j + pcn ((r (255 + 16 * (mot f + j) + s)) &&& (mnt (mot f + j) f t)) 32))), (8, .int (mnt (mot f + j) f t)), (6, .int (nI (mot t))), (0, .ref me), (1, .int (nI s)), (2, .int (nI f)), (3, .int (nI t))]) hx hb dX3_marks_87 hl (k := 2) rfl (nI_add _ _) (by decide) rfl (fun ls hl => ?_)
        refine lv_goto (tgt := 31) hx hb dX3_marks_90 (by decide) ?_
        exact ih (j + 1) _ _ ls (by omega) ⟨(by omega), (hP.sub (ws' := [(me, .inr (3, [.ref o, .ref ou, .ref oh, .ref os, .ref op, .int kc, .int sv])), (o, dO (mks r f t (mot f) (j + 1)) ab af an aw), (ab, .inl (gI G, 1920, .inl (dB (mks r f t (mot f) (j + 1))))), (af, .inl (gI G, 120, .inl (dF (mks r f t (mot f) (j + 1))))), (an, .inl (gI G, 120, .inl (dN (mks r f t (mot f) (j + 1))))), (aw, .inl (gI G, 7, .inl (dW (mks r f t (mot f) (j + 1)))))]) [0, 1, 2, 3, 4, 5] rfl), (hD.sub (ws' := [(me, .inr (3, [.ref o, .ref ou, .ref oh, .ref os, .ref op, .int kc, .int sv])), (o, dO (mks r f t (mot f) (j + 1)) ab af an aw), (ab, .inl (gI G, 1920, .inl (dB (mks r f t (mot f) (j + 1))))), (af, .inl (gI G, 120, .inl (dF (mks r f t (mot f) (j + 1))))), (an, .inl (gI G, 120, .inl (dN (mks r f t (mot f) (j + 1))))), (aw, .inl (gI G, 7, .inl (dW (mks r f t (mot f) (j + 1)))))]) [0, 1, 2, 3, 4, 5] (by decide) rfl), hS, lv_sub hl [0, 3, 1, 4, 5, 6, 7] (lvc (by first | rfl | exact congrArg nI (by omega)) (lvr (lvc (congrArg nI (congrArg (fun q9 => ctm r s f t (mot f) j + q9) (pcn_31 (by rw [b_and, show bt (r (255 + 16 * (mot f + j) + s)) 31 = false from by rw [Nat.add_assoc]; exact hCv.2.2.1.2.1 _ (by omega)]; exact Bool.false_and _)))) (lvr (lvr (lvr (lvr rfl)))))))⟩
      · skip
        refine lv_iload hx hb dX3_marks_47 (lv_at hl 0 rfl) ?_
        refine lv_iload hx hb dX3_marks_49 (lv_at hl 1 rfl) ?_
        refine k_roS (As := [.int (nI (mot f + j))]) (rest := [.int (mnt (mot f + j) f t)]) hF (c_X3_allDays l G (mot f + j) (by omega)) mw_2_120 mw_2_121 mw_1_1 mw_2_122 hd_X3_allDays ⟨Nat.le_of_ble_eq_true rfl, Nat.le_of_ble_eq_true rfl⟩ (Rd.of hKx hZ hS) (hP.sub (ws' := []) [] rfl) rfl hl.1 rfl (Nat.le_of_ble_eq_true rfl) dX3_marks_51 ⟨Nat.zero_le _, Nat.zero_le _⟩ ?_
        refine z_eq hx hb (tgt := 66) ((mnt (mot f + j) f t).toInt) ((mnt (mot f + j) 0 3649).toInt) dX3_marks_54 (by decide) rfl rfl (fun c_54 => ?_) (fun c_54 => ?_)
        · skip
          have w_2 : ([(me, .inr (3, [.ref o, .ref ou, .ref oh, .ref os, .ref op, .int kc, .int sv])), (o, dO (mks r f t (mot f) j) ab af an aw), (ab, .inl (gI G, 1920, .inl (dB (mks r f t (mot f) j)))), (af, .inl (gI G, 120, .inl (dF (mks r f t (mot f) j)))), (an, .inl (gI G, 120, .inl (dN (mks r f t (mot f) j)))), (aw, .inl (gI G, 7, .inl (dW (mks r f t (mot f) j))))] : va_W) = [(me, .inr (3, [.ref o, .ref ou, .ref oh, .ref os, .ref op, .int kc, .int sv])), (o, dO (mks r f t (mot f) (j + 1)) ab af an aw), (ab, .inl (gI G, 1920, .inl (dB (mks r f t (mot f) (j + 1))))), (af, .inl (gI G, 120, .inl (dF (mks r f t (mot f) (j + 1))))), (an, .inl (gI G, 120, .inl (dN (mks r f t (mot f) (j + 1))))), (aw, .inl (gI G, 7, .inl (dW (mks r f t (mot f) (j + 1)))))] := (wlc (rfl) (wlc (by rw [show mks r f t (mot f) (j + 1) = _ from by first | exact (mks_f c_54).symm | exact (mks_t c_54).symm]) (wlc (by rw [show mks r f t (mot f) (j + 1) = _ from by first | exact (mks_f c_54).symm | exact (mks_t c_54).symm]) (wlc (by rw [show mks r f t (mot f) (j + 1) = _ from by first | exact (mks_f c_54).symm | exact (mks_t c_54).symm]) (wlc (by rw [show mks r f t (mot f) (j + 1) = _ from by first | exact (mks_f c_54).symm | exact (mks_t c_54).symm]) (wlc (by rw [show mks r f t (mot f) (j + 1) = _ from by first | exact (mks_f c_54).symm | exact (mks_t c_54).symm]) rfl))))))
          have hPj := hP.sub (ws' := [(me, .inr (3, [.ref o, .ref ou, .ref oh, .ref os, .ref op, .int kc, .int sv])), (o, dO (mks r f t (mot f) j) ab af an aw), (ab, .inl (gI G, 1920, .inl (dB (mks r f t (mot f) j)))), (af, .inl (gI G, 120, .inl (dF (mks r f t (mot f) j)))), (an, .inl (gI G, 120, .inl (dN (mks r f t (mot f) j)))), (aw, .inl (gI G, 7, .inl (dW (mks r f t (mot f) j))))]) [0, 1, 2, 3, 4, 5] rfl
          have hDj := hD.sub (ws' := [(me, .inr (3, [.ref o, .ref ou, .ref oh, .ref os, .ref op, .int kc, .int sv])), (o, dO (mks r f t (mot f) j) ab af an aw), (ab, .inl (gI G, 1920, .inl (dB (mks r f t (mot f) j)))), (af, .inl (gI G, 120, .inl (dF (mks r f t (mot f) j)))), (an, .inl (gI G, 120, .inl (dN (mks r f t (mot f) j)))), (aw, .inl (gI G, 7, .inl (dW (mks r f t (mot f) j))))]) [0, 1, 2, 3, 4, 5] (by decide) rfl
          rw [w_2] at hPj hDj
          exact J66 _ _ ls ⟨hPj, hDj, hS, lv_sub hl [0, 1, 2, 3, 4, 5, 6, 7] rfl⟩
        · skip
          refine lv_aload_n hx hb dX3_marks_57 rfl (lv_at hl 4 rfl) ?_
          refine va_get (ci := 3) (v := .ref o) (C := RX3) (T := TX3) (N := 7) hx hb hts inGX3 hown hK hP 0 rfl rfl 0 (by decide) (hts _ mw_1_126) (fun _ h9 => h9) rfl dX3_marks_58 ?_
          refine lv_iload hx hb dX3_marks_61 (lv_at hl 1 rfl) ?_
          refine k_rvV (ci := 0) (q0 := 1) (As := [.int (nI (mot f + j))]) (rest := []) (wr := [(me, .inr (3, [.ref o, .ref ou, .ref oh, .ref os, .ref op, .int kc, .int sv]))]) hF (c_X0_lookAt l G _ o ab af an aw (mks r f t (mot f) j) (mot f + j) (by omega) (Cv_mks hCv j (by omega))) ⟨_, rfl, rfl⟩ rfl rfl mw_2_123 mw_2_124 mw_2_125 mw_1_2 mw_2_126 hd_X0_lookAt ⟨Nat.le_of_ble_eq_true rfl, Nat.le_of_ble_eq_true rfl⟩ hKx hZ hS hP hD hA [1, 2, 3, 4, 5] [0] rfl rfl (by decide) (by decide) (by decide) rfl rfl hl.1 rfl (Nat.le_of_ble_eq_true rfl) dX3_marks_63 ⟨Nat.zero_le _, Nat.zero_le _⟩ (fun H locs hP hD hS => ?_)
          have hP : va_P G.1 vwCl [(me, .inr (3, [.ref o, .ref ou, .ref oh, .ref os, .ref op, .int kc, .int sv])), (o, dO (lok (mks r f t (mot f) j) (mot f + j)) ab af an aw), (ab, .inl (gI G, 1920, .inl (dB (lok (mks r f t (mot f) j) (mot f + j))))), (af, .inl (gI G, 120, .inl (dF (lok (mks r f t (mot f) j) (mot f + j))))), (an, .inl (gI G, 120, .inl (dN (lok (mks r f t (mot f) j) (mot f + j))))), (aw, .inl (gI G, 7, .inl (dW (lok (mks r f t (mot f) j) (mot f + j)))))] H := hP
          have hD : va_D A [(me, .inr (3, [.ref o, .ref ou, .ref oh, .ref os, .ref op, .int kc, .int sv])), (o, dO (lok (mks r f t (mot f) j) (mot f + j)) ab af an aw), (ab, .inl (gI G, 1920, .inl (dB (lok (mks r f t (mot f) j) (mot f + j))))), (af, .inl (gI G, 120, .inl (dF (lok (mks r f t (mot f) j) (mot f + j))))), (an, .inl (gI G, 120, .inl (dN (lok (mks r f t (mot f) j) (mot f + j))))), (aw, .inl (gI G, 7, .inl (dW (lok (mks r f t (mot f) j) (mot f + j)))))] := hD
          have w_3 : ([(me, .inr (3, [.ref o, .ref ou, .ref oh, .ref os, .ref op, .int kc, .int sv])), (o, dO (lok (mks r f t (mot f) j) (mot f + j)) ab af an aw), (ab, .inl (gI G, 1920, .inl (dB (lok (mks r f t (mot f) j) (mot f + j))))), (af, .inl (gI G, 120, .inl (dF (lok (mks r f t (mot f) j) (mot f + j))))), (an, .inl (gI G, 120, .inl (dN (lok (mks r f t (mot f) j) (mot f + j))))), (aw, .inl (gI G, 7, .inl (dW (lok (mks r f t (mot f) j) (mot f + j)))))] : va_W) = [(me, .inr (3, [.ref o, .ref ou, .ref oh, .ref os, .ref op, .int kc, .int sv])), (o, dO (mks r f t (mot f) (j + 1)) ab af an aw), (ab, .inl (gI G, 1920, .inl (dB (mks r f t (mot f) (j + 1))))), (af, .inl (gI G, 120, .inl (dF (mks r f t (mot f) (j + 1))))), (an, .inl (gI G, 120, .inl (dN (mks r f t (mot f) (j + 1))))), (aw, .inl (gI G, 7, .inl (dW (mks r f t (mot f) (j + 1)))))] := (wlc (rfl) (wlc (by rw [show mks r f t (mot f) (j + 1) = _ from by first | exact (mks_f c_54).symm | exact (mks_t c_54).symm]) (wlc (by rw [show mks r f t (mot f) (j + 1) = _ from by first | exact (mks_f c_54).symm | exact (mks_t c_54).symm]) (wlc (by rw [show mks r f t (mot f) (j + 1) = _ from by first | exact (mks_f c_54).symm | exact (mks_t c_54).symm]) (wlc (by rw [show mks r f t (mot f) (j + 1) = _ from by first | exact (mks_f c_54).symm | exact (mks_t c_54).symm]) (wlc (by rw [show mks r f t (mot f) (j + 1) = _ from by first | exact (mks_f c_54).symm | exact (mks_t c_54).symm]) rfl))))))
          have hPj := hP.sub (ws' := [(me, .inr (3, [.ref o, .ref ou, .ref oh, .ref os, .ref op, .int kc, .int sv])), (o, dO (lok (mks r f t (mot f) j) (mot f + j)) ab af an aw), (ab, .inl (gI G, 1920, .inl (dB (lok (mks r f t (mot f) j) (mot f + j))))), (af, .inl (gI G, 120, .inl (dF (lok (mks r f t (mot f) j) (mot f + j))))), (an, .inl (gI G, 120, .inl (dN (lok (mks r f t (mot f) j) (mot f + j))))), (aw, .inl (gI G, 7, .inl (dW (lok (mks r f t (mot f) j) (mot f + j)))))]) [0, 1, 2, 3, 4, 5] rfl
          have hDj := hD.sub (ws' := [(me, .inr (3, [.ref o, .ref ou, .ref oh, .ref os, .ref op, .int kc, .int sv])), (o, dO (lok (mks r f t (mot f) j) (mot f + j)) ab af an aw), (ab, .inl (gI G, 1920, .inl (dB (lok (mks r f t (mot f) j) (mot f + j))))), (af, .inl (gI G, 120, .inl (dF (lok (mks r f t (mot f) j) (mot f + j))))), (an, .inl (gI G, 120, .inl (dN (lok (mks r f t (mot f) j) (mot f + j))))), (aw, .inl (gI G, 7, .inl (dW (lok (mks r f t (mot f) j) (mot f + j)))))]) [0, 1, 2, 3, 4, 5] (by decide) rfl
          rw [w_3] at hPj hDj
          exact J66 _ _ ls ⟨hPj, hDj, hS, lv_sub hl [0, 1, 2, 3, 4, 5, 6, 7] rfl⟩
  · skip
    exact absurd c_10 (by decide)
set_option maxHeartbeats 4000000 in
set_option maxRecDepth 100000 in
theorem c_X3_marks_e (l : Launch) (G : gT) (me : Nat) (o : Nat) (ou : Nat) (oh : Nat) (os : Nat) (op : Nat) (kc : Int32) (sv : Int32) (ab : Nat) (af : Nat) (an : Nat) (aw : Nat) (w : Int32) (S0 : Int) (x : Int32) (F : Int) (y : Int32) (T : Int) (hw1 : w.toInt = S0) (hF1 : x.toInt = F) (hT1 : y.toInt = T) (he : ¬ (eDy (0 ≤ S0 ∧ S0 ≤ 15) F T).toInt = 0) : Ro l G yX3_marks cX3_marks 9 (some .int) 9 [(me, .inr (3, [.ref o, .ref ou, .ref oh, .ref os, .ref op, .int kc, .int sv]))] [.ref me, .int w, .int x, .int y] (eDy (0 ≤ S0 ∧ S0 ≤ 15) F T) := by
  refine Ro.mk (by decide) (Nat.le_of_ble_eq_true rfl) (fun pq eq sq mq bq tq cq ls hr hlk hF hKx hZ hP hl => ?_)
  have hx := hF.1
  have hb := hF.2.1
  have hml := hF.2.2.1
  have hown : sq.vm.findClass RX3 = some mq.cls := hF.2.2.2.1
  have hts : ∀ w ∈ GW, w.before _ sq = true := hF.2.2.2.2
  have hK := hKx.1
  have hl : lv_has ls 9 [(0, .ref me), (1, .int w), (2, .int x), (3, .int y)] := hl
  have hS : va_S (fun _ => False) sq.heap sq.heap [] := va_S.rf
  have hP : va_P G.1 vwCl [(me, .inr (3, [.ref o, .ref ou, .ref oh, .ref os, .ref op, .int kc, .int sv]))] sq.heap := hP
  refine lv_iload_n hx hb dX3_marks_0 rfl (lv_at hl 1 rfl) ?_
  refine lv_iload_n hx hb dX3_marks_1 rfl (lv_at hl 2 rfl) ?_
  refine lv_iload_n hx hb dX3_marks_2 rfl (lv_at hl 3 rfl) ?_
  refine k_roS (As := [.int w, .int x, .int y]) (rest := []) hF (c_X3_subjectSpanError l G w S0 x F y T hw1 hF1 hT1) mw_2_61 mw_2_62 mw_1_1 mw_2_63 hd_X3_subjectSpanError ⟨Nat.le_of_ble_eq_true rfl, Nat.le_of_ble_eq_true rfl⟩ (Rd.of hKx hZ hS) (hP.sub (ws' := []) [] rfl) rfl hl.1 rfl (Nat.le_of_ble_eq_true rfl) dX3_marks_3 ⟨Nat.zero_le _, Nat.zero_le _⟩ ?_
  refine lv_istore (lv' := [(4, .int (eDy (0 ≤ S0 ∧ S0 ≤ 15) F T)), (0, .ref me), (1, .int w), (2, .int x), (3, .int y)]) hx hb dX3_marks_6 hl (by decide) rfl (fun ls hl => ?_)
  refine lv_iload hx hb dX3_marks_8 (lv_at hl 0 rfl) ?_
  refine z0_eq hx hb (tgt := 16) ((eDy (0 ≤ S0 ∧ S0 ≤ 15) F T).toInt) dX3_marks_10 (by decide) rfl (fun c_10 => ?_) (fun c_10 => ?_)
  · skip
    exact absurd c_10 he
  · skip
    refine lv_iload hx hb dX3_marks_13 (lv_at hl 0 rfl) ?_
    exact e_ri hx hb hr hlk (rfl) dX3_marks_15
set_option maxHeartbeats 4000000 in
set_option maxRecDepth 100000 in
theorem c_X3_isMarked_k (l : Launch) (G : gT) (sz : Nat) (me : Nat) (o : Nat) (ou : Nat) (oh : Nat) (os : Nat) (op : Nat) (kc : Int32) (sv : Int32) (ab : Nat) (af : Nat) (an : Nat) (aw : Nat) (r : Nat → Int32) (s : Nat) (d : Nat) (hCv : Cv r) (hs : s < 16) (hd : d < 3650) : Rw l G yX3_isMarked cX3_isMarked 4 (some .int) 9 sz [(me, .inr (3, [.ref o, .ref ou, .ref oh, .ref os, .ref op, .int kc, .int sv])), (o, dO r ab af an aw), (ab, .inl (gI G, 1920, .inl (dB r))), (af, .inl (gI G, 120, .inl (dF r))), (an, .inl (gI G, 120, .inl (dN r))), (aw, .inl (gI G, 7, .inl (dW r)))] [.ref me, .int (nI s), .int (nI d)] (nI (bn (r (255 + 16 * mot d + s)) (d - fdy (mot d)))) [(me, .inr (3, [.ref o, .ref ou, .ref oh, .ref os, .ref op, .int kc, .int sv])), (o, dO (lok r (mot d)) ab af an aw), (ab, .inl (gI G, 1920, .inl (dB (lok r (mot d))))), (af, .inl (gI G, 120, .inl (dF (lok r (mot d))))), (an, .inl (gI G, 120, .inl (dN (lok r (mot d))))), (aw, .inl (gI G, 7, .inl (dW (lok r (mot d)))))] := by
  refine Rw.mk (by decide) (Nat.le_of_ble_eq_true rfl) (fun pq eq sq mq bq tq cq ls A hr hlk hF hKx hZ hA hP hD hS hl => ?_)
  have hx := hF.1
  have hb := hF.2.1
  have hml := hF.2.2.1
  have hown : sq.vm.findClass RX3 = some mq.cls := hF.2.2.2.1
  have hts : ∀ w ∈ GW, w.before _ sq = true := hF.2.2.2.2
  have hK := hKx.1
  have hl : lv_has ls 4 [(0, .ref me), (1, .int (nI s)), (2, .int (nI d))] := hl
  have hP : va_P G.1 vwCl [(me, .inr (3, [.ref o, .ref ou, .ref oh, .ref os, .ref op, .int kc, .int sv])), (o, dO r ab af an aw), (ab, .inl (gI G, 1920, .inl (dB r))), (af, .inl (gI G, 120, .inl (dF r))), (an, .inl (gI G, 120, .inl (dN r))), (aw, .inl (gI G, 7, .inl (dW r)))] sq.heap := hP
  have hD : va_D A [(me, .inr (3, [.ref o, .ref ou, .ref oh, .ref os, .ref op, .int kc, .int sv])), (o, dO r ab af an aw), (ab, .inl (gI G, 1920, .inl (dB r))), (af, .inl (gI G, 120, .inl (dF r))), (an, .inl (gI G, 120, .inl (dN r))), (aw, .inl (gI G, 7, .inl (dW r)))] := hD
  have hm0 := mot_row hd
  have hm1 := fdy_succ (mot d)
  have hm2 := dys_in (mot d)
  refine lv_iload_n hx hb dX3_isMarked_0 rfl (lv_at hl 1 rfl) ?_
  refine k_roS (As := [.int (nI s)]) (rest := []) hF (c_X3_isSubject l G (nI s) ((s : Nat) : Int) (toI (by omega))) mw_2_64 mw_2_65 mw_1_1 mw_2_66 hd_X3_isSubject ⟨Nat.le_of_ble_eq_true rfl, Nat.le_of_ble_eq_true rfl⟩ (Rd.of hKx hZ hS) (hP.sub (ws' := []) [] rfl) rfl hl.1 rfl (Nat.le_of_ble_eq_true rfl) dX3_isMarked_1 ⟨Nat.zero_le _, Nat.zero_le _⟩ ?_
  refine p0_eq hx hb (tgt := 14) dX3_isMarked_4 (by decide) (fun c_4 => ?_) (fun c_4 => ?_)
  · skip
    exact absurd c_4 (by omega)
  · skip
    refine lv_iload_n hx hb dX3_isMarked_7 rfl (lv_at hl 2 rfl) ?_
    refine k_roS (As := [.int (nI d)]) (rest := []) hF (c_X3_isDay l G (nI d) ((d : Nat) : Int) (toI (by omega))) mw_2_70 mw_2_71 mw_1_1 mw_2_72 hd_X3_isDay ⟨Nat.le_of_ble_eq_true rfl, Nat.le_of_ble_eq_true rfl⟩ (Rd.of hKx hZ hS) (hP.sub (ws' := []) [] rfl) rfl hl.1 rfl (Nat.le_of_ble_eq_true rfl) dX3_isMarked_8 ⟨Nat.zero_le _, Nat.zero_le _⟩ ?_
    refine p0_ne hx hb (tgt := 16) dX3_isMarked_11 (by decide) (fun c_11 => ?_) (fun c_11 => ?_)
    · skip
      refine lv_iload_n hx hb dX3_isMarked_16 rfl (lv_at hl 2 rfl) ?_
      refine k_roS (As := [.int (nI d)]) (rest := []) hF (c_X3_monthOf l G d (by omega)) mw_1_160 mw_1_161 mw_1_1 mw_1_162 hd_X3_monthOf ⟨Nat.le_of_ble_eq_true rfl, Nat.le_of_ble_eq_true rfl⟩ (Rd.of hKx hZ hS) (hP.sub (ws' := []) [] rfl) rfl hl.1 rfl (Nat.le_of_ble_eq_true rfl) dX3_isMarked_17 ⟨Nat.zero_le _, Nat.zero_le _⟩ ?_
      refine lv_istore_n (lv' := [(3, .int (nI (mot d))), (0, .ref me), (1, .int (nI s)), (2, .int (nI d))]) hx hb dX3_isMarked_20 rfl hl (by decide) rfl (fun ls hl => ?_)
      refine lv_aload_n hx hb dX3_isMarked_21 rfl (lv_at hl 1 rfl) ?_
      refine va_get (ci := 3) (v := .ref o) (C := RX3) (T := TX3) (N := 7) hx hb hts inGX3 hown hK hP 0 rfl rfl 0 (by decide) (hts _ mw_1_126) (fun _ h9 => h9) rfl dX3_isMarked_22 ?_
      refine lv_iload_n hx hb dX3_isMarked_25 rfl (lv_at hl 0 rfl) ?_
      refine k_rvV (ci := 0) (q0 := 1) (As := [.int (nI (mot d))]) (rest := []) (wr := [(me, .inr (3, [.ref o, .ref ou, .ref oh, .ref os, .ref op, .int kc, .int sv]))]) hF (c_X0_lookAt l G _ o ab af an aw r (mot d) (by omega) (by omega)) ⟨_, rfl, rfl⟩ rfl rfl mw_2_123 mw_2_124 mw_2_125 mw_1_2 mw_2_126 hd_X0_lookAt ⟨Nat.le_of_ble_eq_true rfl, Nat.le_of_ble_eq_true rfl⟩ hKx hZ hS hP hD hA [1, 2, 3, 4, 5] [0] rfl rfl (by decide) (by decide) (by decide) rfl rfl hl.1 rfl (Nat.le_of_ble_eq_true rfl) dX3_isMarked_26 ⟨Nat.zero_le _, Nat.zero_le _⟩ (fun H locs hP hD hS => ?_)
      have hP : va_P G.1 vwCl [(me, .inr (3, [.ref o, .ref ou, .ref oh, .ref os, .ref op, .int kc, .int sv])), (o, dO (lok r (mot d)) ab af an aw), (ab, .inl (gI G, 1920, .inl (dB (lok r (mot d))))), (af, .inl (gI G, 120, .inl (dF (lok r (mot d))))), (an, .inl (gI G, 120, .inl (dN (lok r (mot d))))), (aw, .inl (gI G, 7, .inl (dW (lok r (mot d)))))] H := hP
      have hD : va_D A [(me, .inr (3, [.ref o, .ref ou, .ref oh, .ref os, .ref op, .int kc, .int sv])), (o, dO (lok r (mot d)) ab af an aw), (ab, .inl (gI G, 1920, .inl (dB (lok r (mot d))))), (af, .inl (gI G, 120, .inl (dF (lok r (mot d))))), (an, .inl (gI G, 120, .inl (dN (lok r (mot d))))), (aw, .inl (gI G, 7, .inl (dW (lok r (mot d)))))] := hD
      refine lv_aload_n hx hb dX3_isMarked_29 rfl (lv_at hl 1 rfl) ?_
      refine va_get (ci := 3) (v := .ref o) (C := RX3) (T := TX3) (N := 7) hx hb hts inGX3 hown hK hP 0 rfl rfl 0 (by decide) (hts _ mw_1_126) (fun _ h9 => h9) rfl dX3_isMarked_30 ?_
      refine lv_iload_n hx hb dX3_isMarked_33 rfl (lv_at hl 2 rfl) ?_
      refine lv_iload_n hx hb dX3_isMarked_34 rfl (lv_at hl 0 rfl) ?_
      refine k_roV (ci := 0) (q0 := 1) (As := [.int (nI s), .int (nI (mot d))]) (rest := []) hF (c_X0_bitsOf l G o ab af an aw (lok r (mot d)) s (mot d) (by omega) (by omega)) hKx hP ⟨_, rfl, rfl⟩ rfl rfl mw_2_127 mw_1_204 mw_1_205 mw_1_2 mw_1_206 hd_X0_bitsOf ⟨Nat.le_of_ble_eq_true rfl, Nat.le_of_ble_eq_true rfl⟩ (Rd.of hKx hZ hS) (hP.sub (ws' := [(o, dO (lok r (mot d)) ab af an aw), (ab, .inl (gI G, 1920, .inl (dB (lok r (mot d))))), (af, .inl (gI G, 120, .inl (dF (lok r (mot d))))), (an, .inl (gI G, 120, .inl (dN (lok r (mot d))))), (aw, .inl (gI G, 7, .inl (dW (lok r (mot d)))))]) [1, 2, 3, 4, 5] rfl) rfl hl.1 rfl (Nat.le_of_ble_eq_true rfl) dX3_isMarked_35 ⟨Nat.zero_le _, Nat.zero_le _⟩ ?_
      refine lv_cv (y := r (255 + 16 * mot d + s)) (by rw [Nat.add_assoc 255]; exact lok_mk (hCv.1.b (by omega)) (by omega)) ?_
      refine lv_iload_n hx hb dX3_isMarked_38 rfl (lv_at hl 3 rfl) ?_
      refine lv_iload_n hx hb dX3_isMarked_39 rfl (lv_at hl 0 rfl) ?_
      refine k_roS (As := [.int (nI (mot d))]) (rest := [.int (nI d), .int (r (255 + 16 * mot d + s))]) hF (c_X3_firstDayOf l G (mot d) (by omega)) mw_2_80 mw_2_81 mw_1_1 mw_2_82 hd_X3_firstDayOf ⟨Nat.le_of_ble_eq_true rfl, Nat.le_of_ble_eq_true rfl⟩ (Rd.of hKx hZ hS) (hP.sub (ws' := []) [] rfl) rfl hl.1 rfl (Nat.le_of_ble_eq_true rfl) dX3_isMarked_40 ⟨Nat.zero_le _, Nat.zero_le _⟩ ?_
      refine n_isub hx hb (by omega) dX3_isMarked_43 ?_
      refine k_roS (As := [.int (r (255 + 16 * mot d + s)), .int (nI (d - (fdy (mot d))))]) (rest := []) hF (c_X3_isBitSet l G (r (255 + 16 * mot d + s)) (d - (fdy (mot d))) (by omega)) mw_2_133 mw_2_134 mw_1_1 mw_2_135 hd_X3_isBitSet ⟨Nat.le_of_ble_eq_true rfl, Nat.le_of_ble_eq_true rfl⟩ (Rd.of hKx hZ hS) (hP.sub (ws' := []) [] rfl) rfl hl.1 rfl (Nat.le_of_ble_eq_true rfl) dX3_isMarked_44 ⟨Nat.zero_le _, Nat.zero_le _⟩ ?_
      refine p0_eq hx hb (tgt := 54) dX3_isMarked_47 (by decide) (fun c_47 => ?_) (fun c_47 => ?_)
      · skip
        refine lv_iconst (v := nI 0) hx hb dX3_isMarked_54 (by decide) ?_
        have hPj := hP.sub (ws' := [(me, .inr (3, [.ref o, .ref ou, .ref oh, .ref os, .ref op, .int kc, .int sv])), (o, dO (lok r (mot d)) ab af an aw), (ab, .inl (gI G, 1920, .inl (dB (lok r (mot d))))), (af, .inl (gI G, 120, .inl (dF (lok r (mot d))))), (an, .inl (gI G, 120, .inl (dN (lok r (mot d))))), (aw, .inl (gI G, 7, .inl (dW (lok r (mot d)))))]) [0, 1, 2, 3, 4, 5] rfl
        exact e_wi hx hb hr hlk hPj hS (by first | exact congrArg nI (bn_1.mpr c_47).symm | exact congrArg nI (bn_0 c_47).symm) dX3_isMarked_55
      · skip
        refine lv_iconst (v := nI 1) hx hb dX3_isMarked_50 (by decide) ?_
        refine lv_goto (tgt := 55) hx hb dX3_isMarked_51 (by decide) ?_
        have hPj := hP.sub (ws' := [(me, .inr (3, [.ref o, .ref ou, .ref oh, .ref os, .ref op, .int kc, .int sv])), (o, dO (lok r (mot d)) ab af an aw), (ab, .inl (gI G, 1920, .inl (dB (lok r (mot d))))), (af, .inl (gI G, 120, .inl (dF (lok r (mot d))))), (an, .inl (gI G, 120, .inl (dN (lok r (mot d))))), (aw, .inl (gI G, 7, .inl (dW (lok r (mot d)))))]) [0, 1, 2, 3, 4, 5] rfl
        exact e_wi hx hb hr hlk hPj hS (by first | exact congrArg nI (bn_1.mpr c_47).symm | exact congrArg nI (bn_0 c_47).symm) dX3_isMarked_55
    · skip
      exact absurd c_11 (by omega)
set_option maxHeartbeats 4000000 in
set_option maxRecDepth 100000 in
theorem c_X3_isMarked_e (l : Launch) (G : gT) (me : Nat) (o : Nat) (ou : Nat) (oh : Nat) (os : Nat) (op : Nat) (kc : Int32) (sv : Int32) (ab : Nat) (af : Nat) (an : Nat) (aw : Nat) (w : Int32) (S0 : Int) (x : Int32) (F : Int) (hw1 : w.toInt = S0) (hF1 : x.toInt = F) (he : ¬ ((0 ≤ S0 ∧ S0 ≤ 15) ∧ (0 ≤ F ∧ F ≤ 3649))) : Ro l G yX3_isMarked cX3_isMarked 4 (some .int) 9 [(me, .inr (3, [.ref o, .ref ou, .ref oh, .ref os, .ref op, .int kc, .int sv]))] [.ref me, .int w, .int x] (-1) := by
  refine Ro.mk (by decide) (Nat.le_of_ble_eq_true rfl) (fun pq eq sq mq bq tq cq ls hr hlk hF hKx hZ hP hl => ?_)
  have hx := hF.1
  have hb := hF.2.1
  have hml := hF.2.2.1
  have hown : sq.vm.findClass RX3 = some mq.cls := hF.2.2.2.1
  have hts : ∀ w ∈ GW, w.before _ sq = true := hF.2.2.2.2
  have hK := hKx.1
  have hl : lv_has ls 4 [(0, .ref me), (1, .int w), (2, .int x)] := hl
  have hS : va_S (fun _ => False) sq.heap sq.heap [] := va_S.rf
  have hP : va_P G.1 vwCl [(me, .inr (3, [.ref o, .ref ou, .ref oh, .ref os, .ref op, .int kc, .int sv]))] sq.heap := hP
  refine lv_iload_n hx hb dX3_isMarked_0 rfl (lv_at hl 1 rfl) ?_
  refine k_roS (As := [.int w]) (rest := []) hF (c_X3_isSubject l G w S0 hw1) mw_2_64 mw_2_65 mw_1_1 mw_2_66 hd_X3_isSubject ⟨Nat.le_of_ble_eq_true rfl, Nat.le_of_ble_eq_true rfl⟩ (Rd.of hKx hZ hS) (hP.sub (ws' := []) [] rfl) rfl hl.1 rfl (Nat.le_of_ble_eq_true rfl) dX3_isMarked_1 ⟨Nat.zero_le _, Nat.zero_le _⟩ ?_
  refine p0_eq hx hb (tgt := 14) dX3_isMarked_4 (by decide) (fun c_4 => ?_) (fun c_4 => ?_)
  · skip
    refine lv_iconst (v := (-1)) hx hb dX3_isMarked_14 (by decide) ?_
    exact e_ri hx hb hr hlk (rfl) dX3_isMarked_15
  · skip
    refine lv_iload_n hx hb dX3_isMarked_7 rfl (lv_at hl 2 rfl) ?_
    refine k_roS (As := [.int x]) (rest := []) hF (c_X3_isDay l G x F hF1) mw_2_70 mw_2_71 mw_1_1 mw_2_72 hd_X3_isDay ⟨Nat.le_of_ble_eq_true rfl, Nat.le_of_ble_eq_true rfl⟩ (Rd.of hKx hZ hS) (hP.sub (ws' := []) [] rfl) rfl hl.1 rfl (Nat.le_of_ble_eq_true rfl) dX3_isMarked_8 ⟨Nat.zero_le _, Nat.zero_le _⟩ ?_
    refine p0_ne hx hb (tgt := 16) dX3_isMarked_11 (by decide) (fun c_11 => ?_) (fun c_11 => ?_)
    · skip
      exact absurd c_11 (by omega)
    · skip
      refine lv_iconst (v := (-1)) hx hb dX3_isMarked_14 (by decide) ?_
      exact e_ri hx hb hr hlk (rfl) dX3_isMarked_15
set_option maxHeartbeats 4000000 in
set_option maxRecDepth 100000 in
theorem c_X3_both_k (l : Launch) (G : gT) (sz : Nat) (me : Nat) (o : Nat) (ou : Nat) (oh : Nat) (os : Nat) (op : Nat) (kc : Int32) (sv : Int32) (ab : Nat) (af : Nat) (an : Nat) (aw : Nat) (r : Nat → Int32) (s : Nat) (s2 : Nat) (f : Nat) (t : Nat) (hCv : Cv r) (hs : s < 16) (ho : s2 < 16) (hft : f ≤ t) (ht : t < 3650) : Rw l G yX3_both cX3_both 10 (some .int) 9 sz [(me, .inr (3, [.ref o, .ref ou, .ref oh, .ref os, .ref op, .int kc, .int sv])), (o, dO r ab af an aw), (ab, .inl (gI G, 1920, .inl (dB r))), (af, .inl (gI G, 120, .inl (dF r))), (an, .inl (gI G, 120, .inl (dN r))), (aw, .inl (gI G, 7, .inl (dW r)))] [.ref me, .int (nI s), .int (nI s2), .int (nI f), .int (nI t)] (nI (ctb r s s2 f t (mot f) (mot t + 1 - mot f))) [(me, .inr (3, [.ref o, .ref ou, .ref oh, .ref os, .ref op, .int kc, .int sv])), (o, dO (lkk r (mot f) (mot t + 1 - mot f)) ab af an aw), (ab, .inl (gI G, 1920, .inl (dB (lkk r (mot f) (mot t + 1 - mot f))))), (af, .inl (gI G, 120, .inl (dF (lkk r (mot f) (mot t + 1 - mot f))))), (an, .inl (gI G, 120, .inl (dN (lkk r (mot f) (mot t + 1 - mot f))))), (aw, .inl (gI G, 7, .inl (dW (lkk r (mot f) (mot t + 1 - mot f)))))] := by
  refine Rw.mk (by decide) (Nat.le_of_ble_eq_true rfl) (fun pq eq sq mq bq tq cq ls A hr hlk hF hKx hZ hA hP hD hS hl => ?_)
  have hx := hF.1
  have hb := hF.2.1
  have hml := hF.2.2.1
  have hown : sq.vm.findClass RX3 = some mq.cls := hF.2.2.2.1
  have hts : ∀ w ∈ GW, w.before _ sq = true := hF.2.2.2.2
  have hK := hKx.1
  have hl : lv_has ls 10 [(0, .ref me), (1, .int (nI s)), (2, .int (nI s2)), (3, .int (nI f)), (4, .int (nI t))] := hl
  have hP : va_P G.1 vwCl [(me, .inr (3, [.ref o, .ref ou, .ref oh, .ref os, .ref op, .int kc, .int sv])), (o, dO r ab af an aw), (ab, .inl (gI G, 1920, .inl (dB r))), (af, .inl (gI G, 120, .inl (dF r))), (an, .inl (gI G, 120, .inl (dN r))), (aw, .inl (gI G, 7, .inl (dW r)))] sq.heap := hP
  have hD : va_D A [(me, .inr (3, [.ref o, .ref ou, .ref oh, .ref os, .ref op, .int kc, .int sv])), (o, dO r ab af an aw), (ab, .inl (gI G, 1920, .inl (dB r))), (af, .inl (gI G, 120, .inl (dF r))), (an, .inl (gI G, 120, .inl (dN r))), (aw, .inl (gI G, 7, .inl (dW r)))] := hD
  have hmf := mot_mono ht hft
  have hmt := mot_row ht
  have hf : f < 3650 := by omega
  refine lv_iload_n hx hb dX3_both_0 rfl (lv_at hl 2 rfl) ?_
  refine k_roS (As := [.int (nI s2)]) (rest := []) hF (c_X3_isSubject l G (nI s2) ((s2 : Nat) : Int) (toI (by omega))) mw_2_64 mw_2_65 mw_1_1 mw_2_66 hd_X3_isSubject ⟨Nat.le_of_ble_eq_true rfl, Nat.le_of_ble_eq_true rfl⟩ (Rd.of hKx hZ hS) (hP.sub (ws' := []) [] rfl) rfl hl.1 rfl (Nat.le_of_ble_eq_true rfl) dX3_both_1 ⟨Nat.zero_le _, Nat.zero_le _⟩ ?_
  refine p0_ne hx hb (tgt := 9) dX3_both_4 (by decide) (fun c_4 => ?_) (fun c_4 => ?_)
  · skip
    refine lv_iload_n hx hb dX3_both_9 rfl (lv_at hl 1 rfl) ?_
    refine lv_iload_n hx hb dX3_both_10 rfl (lv_at hl 3 rfl) ?_
    refine lv_iload hx hb dX3_both_11 (lv_at hl 4 rfl) ?_
    refine k_roS (As := [.int (nI s), .int (nI f), .int (nI t)]) (rest := []) hF (c_X3_subjectSpanError l G (nI s) ((s : Nat) : Int) (nI f) ((f : Nat) : Int) (nI t) ((t : Nat) : Int) (toI (by omega)) (toI (by omega)) (toI (by omega))) mw_2_61 mw_2_62 mw_1_1 mw_2_63 hd_X3_subjectSpanError ⟨Nat.le_of_ble_eq_true rfl, Nat.le_of_ble_eq_true rfl⟩ (Rd.of hKx hZ hS) (hP.sub (ws' := []) [] rfl) rfl hl.1 rfl (Nat.le_of_ble_eq_true rfl) dX3_both_13 ⟨Nat.zero_le _, Nat.zero_le _⟩ ?_
    refine lv_cv (y := nI 0) (eDy_0 (by omega) (by omega)) ?_
    refine lv_istore (lv' := [(5, .int (nI 0)), (0, .ref me), (1, .int (nI s)), (2, .int (nI s2)), (3, .int (nI f)), (4, .int (nI t))]) hx hb dX3_both_16 hl (by decide) rfl (fun ls hl => ?_)
    refine lv_iload hx hb dX3_both_18 (lv_at hl 0 rfl) ?_
    refine z0_eq hx hb (tgt := 26) 0 dX3_both_20 (by decide) (by decide) (fun c_20 => ?_) (fun c_20 => ?_)
    · skip
      refine lv_aload_n hx hb dX3_both_26 rfl (lv_at hl 1 rfl) ?_
      refine va_get (ci := 3) (v := .ref o) (C := RX3) (T := TX3) (N := 7) hx hb hts inGX3 hown hK hP 0 rfl rfl 0 (by decide) (hts _ mw_1_126) (fun _ h9 => h9) rfl dX3_both_27 ?_
      refine lv_iload_n hx hb dX3_both_30 rfl (lv_at hl 4 rfl) ?_
      refine lv_iload hx hb dX3_both_31 (lv_at hl 5 rfl) ?_
      refine k_rvV (ci := 0) (q0 := 1) (As := [.int (nI f), .int (nI t)]) (rest := []) (wr := [(me, .inr (3, [.ref o, .ref ou, .ref oh, .ref os, .ref op, .int kc, .int sv]))]) hF (c_X0_lookAtMonths l G _ o ab af an aw r f t (by omega) (by omega) (by omega)) ⟨_, rfl, rfl⟩ rfl rfl mw_2_140 mw_2_141 mw_2_142 mw_1_2 mw_2_143 hd_X0_lookAtMonths ⟨Nat.le_of_ble_eq_true rfl, Nat.le_of_ble_eq_true rfl⟩ hKx hZ hS hP hD hA [1, 2, 3, 4, 5] [0] rfl rfl (by decide) (by decide) (by decide) rfl rfl hl.1 rfl (Nat.le_of_ble_eq_true rfl) dX3_both_33 ⟨Nat.zero_le _, Nat.zero_le _⟩ (fun H locs hP hD hS => ?_)
      have hP : va_P G.1 vwCl [(me, .inr (3, [.ref o, .ref ou, .ref oh, .ref os, .ref op, .int kc, .int sv])), (o, dO (lkk r (mot f) (mot t + 1 - mot f)) ab af an aw), (ab, .inl (gI G, 1920, .inl (dB (lkk r (mot f) (mot t + 1 - mot f))))), (af, .inl (gI G, 120, .inl (dF (lkk r (mot f) (mot t + 1 - mot f))))), (an, .inl (gI G, 120, .inl (dN (lkk r (mot f) (mot t + 1 - mot f))))), (aw, .inl (gI G, 7, .inl (dW (lkk r (mot f) (mot t + 1 - mot f)))))] H := hP
      have hD : va_D A [(me, .inr (3, [.ref o, .ref ou, .ref oh, .ref os, .ref op, .int kc, .int sv])), (o, dO (lkk r (mot f) (mot t + 1 - mot f)) ab af an aw), (ab, .inl (gI G, 1920, .inl (dB (lkk r (mot f) (mot t + 1 - mot f))))), (af, .inl (gI G, 120, .inl (dF (lkk r (mot f) (mot t + 1 - mot f))))), (an, .inl (gI G, 120, .inl (dN (lkk r (mot f) (mot t + 1 - mot f))))), (aw, .inl (gI G, 7, .inl (dW (lkk r (mot f) (mot t + 1 - mot f)))))] := hD
      refine lv_iconst (v := nI 0) hx hb dX3_both_36 (by decide) ?_
      refine lv_istore (lv' := [(6, .int (nI 0)), (5, .int (nI 0)), (0, .ref me), (1, .int (nI s)), (2, .int (nI s2)), (3, .int (nI f)), (4, .int (nI t))]) hx hb dX3_both_37 hl (by decide) rfl (fun ls hl => ?_)
      refine lv_iload hx hb dX3_both_39 (lv_at hl 6 rfl) ?_
      refine k_roS (As := [.int (nI t)]) (rest := []) hF (c_X3_monthOf l G t (by omega)) mw_1_160 mw_1_161 mw_1_1 mw_1_162 hd_X3_monthOf ⟨Nat.le_of_ble_eq_true rfl, Nat.le_of_ble_eq_true rfl⟩ (Rd.of hKx hZ hS) (hP.sub (ws' := []) [] rfl) rfl hl.1 rfl (Nat.le_of_ble_eq_true rfl) dX3_both_41 ⟨Nat.zero_le _, Nat.zero_le _⟩ ?_
      refine lv_istore (lv' := [(7, .int (nI (mot t))), (6, .int (nI 0)), (5, .int (nI 0)), (0, .ref me), (1, .int (nI s)), (2, .int (nI s2)), (3, .int (nI f)), (4, .int (nI t))]) hx hb dX3_both_44 hl (by decide) rfl (fun ls hl => ?_)
      refine lv_iload_n hx hb dX3_both_46 rfl (lv_at hl 6 rfl) ?_
      refine k_roS (As := [.int (nI f)]) (rest := []) hF (c_X3_monthOf l G f (by omega)) mw_1_160 mw_1_161 mw_1_1 mw_1_162 hd_X3_monthOf ⟨Nat.le_of_ble_eq_true rfl, Nat.le_of_ble_eq_true rfl⟩ (Rd.of hKx hZ hS) (hP.sub (ws' := []) [] rfl) rfl hl.1 rfl (Nat.le_of_ble_eq_true rfl) dX3_both_47 ⟨Nat.zero_le _, Nat.zero_le _⟩ ?_
      refine lv_istore (lv' := [(8, .int (nI (mot f))), (7, .int (nI (mot t))), (6, .int (nI 0)), (5, .int (nI 0)), (0, .ref me), (1, .int (nI s)), (2, .int (nI s2)), (3, .int (nI f)), (4, .int (nI t))]) hx hb dX3_both_50 hl (by decide) rfl (fun ls hl => ?_)
      have hPj := hP.sub (ws' := [(me, .inr (3, [.ref o, .ref ou, .ref oh, .ref os, .ref op, .int kc, .int sv])), (o, dO (lkk r (mot f) (mot t + 1 - mot f)) ab af an aw), (ab, .inl (gI G, 1920, .inl (dB (lkk r (mot f) (mot t + 1 - mot f))))), (af, .inl (gI G, 120, .inl (dF (lkk r (mot f) (mot t + 1 - mot f))))), (an, .inl (gI G, 120, .inl (dN (lkk r (mot f) (mot t + 1 - mot f))))), (aw, .inl (gI G, 7, .inl (dW (lkk r (mot f) (mot t + 1 - mot f)))))]) [0, 1, 2, 3, 4, 5] rfl
      have hDj := hD.sub (ws' := [(me, .inr (3, [.ref o, .ref ou, .ref oh, .ref os, .ref op, .int kc, .int sv])), (o, dO (lkk r (mot f) (mot t + 1 - mot f)) ab af an aw), (ab, .inl (gI G, 1920, .inl (dB (lkk r (mot f) (mot t + 1 - mot f))))), (af, .inl (gI G, 120, .inl (dF (lkk r (mot f) (mot t + 1 - mot f))))), (an, .inl (gI G, 120, .inl (dN (lkk r (mot f) (mot t + 1 - mot f))))), (aw, .inl (gI G, 7, .inl (dW (lkk r (mot f) (mot t + 1 - mot f)))))]) [0, 1, 2, 3, 4, 5] (by decide) rfl
      refine wloopH [] (fun j H locs ls => (j ≤ mot t + 1 - mot f) ∧ va_P G.1 vwCl [(me, .inr (3, [.ref o, .ref ou, .ref oh, .ref os, .ref op, .int kc, .int sv])), (o, dO (lkk r (mot f) (mot t + 1 - mot f)) ab af an aw), (ab, .inl (gI G, 1920, .inl (dB (lkk r (mot f) (mot t + 1 - mot f))))), (af, .inl (gI G, 120, .inl (dF (lkk r (mot f) (mot t + 1 - mot f))))), (an, .inl (gI G, 120, .inl (dN (lkk r (mot f) (mot t + 1 - mot f))))), (aw, .inl (gI G, 7, .inl (dW (lkk r (mot f) (mot t + 1 - mot f)))))] H ∧ va_D A [(me, .inr (3, [.ref o, .ref ou, .ref oh, .ref os, .ref op, .int kc, .int sv])), (o, dO (lkk r (mot f) (mot t + 1 - mot f)) ab af an aw), (ab, .inl (gI G, 1920, .inl (dB (lkk r (mot f) (mot t + 1 - mot f))))), (af, .inl (gI G, 120, .inl (dF (lkk r (mot f) (mot t + 1 - mot f))))), (an, .inl (gI G, 120, .inl (dN (lkk r (mot f) (mot t + 1 - mot f))))), (aw, .inl (gI G, 7, .inl (dW (lkk r (mot f) (mot t + 1 - mot f)))))] ∧ va_S A sq.heap H locs ∧ lv_has ls 10 [(8, .int (nI (mot f + j))), (7, .int (nI (mot t))), (6, .int (nI (ctb r s s2 f t (mot f) j))), (0, .ref me), (1, .int (nI s)), (2, .int (nI s2)), (3, .int (nI f)), (4, .int (nI t))]) (fun j => (mot t + 1 - mot f) - j) ?_ 0 ⟨(by omega), hPj, hDj, hS, lv_sub hl [0, 1, 2, 4, 5, 6, 7, 8] (lvc (by first | rfl | exact congrArg nI (by omega)) (lvr (lvc (by first | rfl | exact congrArg nI (by omega)) (lvr (lvr (lvr (lvr (lvr rfl))))))))⟩
      intro j ih
      intro H locs ls ⟨hj, hP, hD, hS, hl⟩
      refine lv_iload hx hb dX3_both_52 (lv_at hl 0 rfl) ?_
      refine lv_iload hx hb dX3_both_54 (lv_at hl 1 rfl) ?_
      refine z_gt hx hb (tgt := 107) ((mot f + j : Nat) : Int) ((mot t : Nat) : Int) dX3_both_56 (by decide) (toI (by omega)) (toI (by omega)) (fun c_56 => ?_) (fun c_56 => ?_)
      · skip
        have hj2 : j = mot t + 1 - mot f := by omega
        subst hj2
        refine lv_iload hx hb dX3_both_107 (lv_at hl 2 rfl) ?_
        have hPj := hP.sub (ws' := [(me, .inr (3, [.ref o, .ref ou, .ref oh, .ref os, .ref op, .int kc, .int sv])), (o, dO (lkk r (mot f) (mot t + 1 - mot f)) ab af an aw), (ab, .inl (gI G, 1920, .inl (dB (lkk r (mot f) (mot t + 1 - mot f))))), (af, .inl (gI G, 120, .inl (dF (lkk r (mot f) (mot t + 1 - mot f))))), (an, .inl (gI G, 120, .inl (dN (lkk r (mot f) (mot t + 1 - mot f))))), (aw, .inl (gI G, 7, .inl (dW (lkk r (mot f) (mot t + 1 - mot f)))))]) [0, 1, 2, 3, 4, 5] rfl
        exact e_wi hx hb hr hlk hPj hS (rfl) dX3_both_109
      · skip
        have hd2 : f < fdy (mot f + j + 1) := mot_hi (by omega) (by omega)
        have hd3 : fdy (mot f + j) ≤ t := mot_lo ht (by omega)
        refine lv_aload_n hx hb dX3_both_59 rfl (lv_at hl 3 rfl) ?_
        refine va_get (ci := 3) (v := .ref o) (C := RX3) (T := TX3) (N := 7) hx hb hts inGX3 hown hK hP 0 rfl rfl 0 (by decide) (hts _ mw_1_126) (fun _ h9 => h9) rfl dX3_both_60 ?_
        refine lv_iload_n hx hb dX3_both_63 rfl (lv_at hl 4 rfl) ?_
        refine lv_iload hx hb dX3_both_64 (lv_at hl 0 rfl) ?_
        refine k_roV (ci := 0) (q0 := 1) (As := [.int (nI s), .int (nI (mot f + j))]) (rest := []) hF (c_X0_bitsOf l G o ab af an aw (lkk r (mot f) (mot t + 1 - mot f)) s (mot f + j) (by omega) (by omega)) hKx hP ⟨_, rfl, rfl⟩ rfl rfl mw_2_127 mw_1_204 mw_1_205 mw_1_2 mw_1_206 hd_X0_bitsOf ⟨Nat.le_of_ble_eq_true rfl, Nat.le_of_ble_eq_true rfl⟩ (Rd.of hKx hZ hS) (hP.sub (ws' := [(o, dO (lkk r (mot f) (mot t + 1 - mot f)) ab af an aw), (ab, .inl (gI G, 1920, .inl (dB (lkk r (mot f) (mot t + 1 - mot f))))), (af, .inl (gI G, 120, .inl (dF (lkk r (mot f) (mot t + 1 - mot f))))), (an, .inl (gI G, 120, .inl (dN (lkk r (mot f) (mot t + 1 - mot f))))), (aw, .inl (gI G, 7, .inl (dW (lkk r (mot f) (mot t + 1 - mot f)))))]) [1, 2, 3, 4, 5] rfl) rfl hl.1 rfl (Nat.le_of_ble_eq_true rfl) dX3_both_66 ⟨Nat.zero_le _, Nat.zero_le _⟩ ?_
        refine lv_cv (y := r (255 + 16 * (mot f + j) + s)) (by rw [Nat.add_assoc 255]; exact lkk_mk hCv.1 _ (by omega)) ?_
        refine lv_aload_n hx hb dX3_both_69 rfl (lv_at hl 3 rfl) ?_
        refine va_get (ci := 3) (v := .ref o) (C := RX3) (T := TX3) (N := 7) hx hb hts inGX3 hown hK hP 0 rfl rfl 0 (by decide) (hts _ mw_1_126) (fun _ h9 => h9) rfl dX3_both_70 ?_
        refine lv_iload_n hx hb dX3_both_73 rfl (lv_at hl 5 rfl) ?_
        refine lv_iload hx hb dX3_both_74 (lv_at hl 0 rfl) ?_
        refine k_roV (ci := 0) (q0 := 1) (As := [.int (nI s2), .int (nI (mot f + j))]) (rest := [.int (r (255 + 16 * (mot f + j) + s))]) hF (c_X0_bitsOf l G o ab af an aw (lkk r (mot f) (mot t + 1 - mot f)) s2 (mot f + j) (by omega) (by omega)) hKx hP ⟨_, rfl, rfl⟩ rfl rfl mw_2_127 mw_1_204 mw_1_205 mw_1_2 mw_1_206 hd_X0_bitsOf ⟨Nat.le_of_ble_eq_true rfl, Nat.le_of_ble_eq_true rfl⟩ (Rd.of hKx hZ hS) (hP.sub (ws' := [(o, dO (lkk r (mot f) (mot t + 1 - mot f)) ab af an aw), (ab, .inl (gI G, 1920, .inl (dB (lkk r (mot f) (mot t + 1 - mot f))))), (af, .inl (gI G, 120, .inl (dF (lkk r (mot f) (mot t + 1 - mot f))))), (an, .inl (gI G, 120, .inl (dN (lkk r (mot f) (mot t + 1 - mot f))))), (aw, .inl (gI G, 7, .inl (dW (lkk r (mot f) (mot t + 1 - mot f)))))]) [1, 2, 3, 4, 5] rfl) rfl hl.1 rfl (Nat.le_of_ble_eq_true rfl) dX3_both_76 ⟨Nat.zero_le _, Nat.zero_le _⟩ ?_
        refine lv_cv (y := r (255 + 16 * (mot f + j) + s2)) (by rw [Nat.add_assoc 255]; exact lkk_mk hCv.1 _ (by omega)) ?_
        refine lv_iand hx hb dX3_both_79 ?_
        refine lv_istore (lv' := [(9, .int ((r (255 + 16 * (mot f + j) + s)) &&& (r (255 + 16 * (mot f + j) + s2)))), (8, .int (nI (mot f + j))), (7, .int (nI (mot t))), (6, .int (nI (ctb r s s2 f t (mot f) j))), (0, .ref me), (1, .int (nI s)), (2, .int (nI s2)), (3, .int (nI f)), (4, .int (nI t))]) hx hb dX3_both_80 hl (by decide) rfl (fun ls hl => ?_)
        refine lv_iload hx hb dX3_both_82 (lv_at hl 3 rfl) ?_
        refine lv_iload hx hb dX3_both_84 (lv_at hl 0 rfl) ?_
        refine lv_iload hx hb dX3_both_86 (lv_at hl 1 rfl) ?_
        refine lv_iload_n hx hb dX3_both_88 rfl (lv_at hl 7 rfl) ?_
        refine lv_iload hx hb dX3_both_89 (lv_at hl 8 rfl) ?_
        refine k_roS (As := [.int (nI (mot f + j)), .int (nI f), .int (nI t)]) (rest := [.int ((r (255 + 16 * (mot f + j) + s)) &&& (r (255 + 16 * (mot f + j) + s2))), .int (nI (ctb r s s2 f t (mot f) j))]) hF (c_X3_daysMeant l G (mot f + j) f t (by omega) (by omega) (by omega) (by omega) (by omega)) mw_2_119 mw_2_78 mw_1_1 mw_2_79 hd_X3_daysMeant ⟨Nat.le_of_ble_eq_true rfl, Nat.le_of_ble_eq_true rfl⟩ (Rd.of hKx hZ hS) (hP.sub (ws' := []) [] rfl) rfl hl.1 rfl (Nat.le_of_ble_eq_true rfl) dX3_both_91 ⟨Nat.zero_le _, Nat.zero_le _⟩ ?_
        refine lv_iand hx hb dX3_both_94 ?_
        refine k_roS (As := [.int (((r (255 + 16 * (mot f + j) + s)) &&& (r (255 + 16 * (mot f + j) + s2))) &&& (mnt (mot f + j) f t))]) (rest := [.int (nI (ctb r s s2 f t (mot f) j))]) hF (c_J6_bitCount_0f7a4 l G (((r (255 + 16 * (mot f + j) + s)) &&& (r (255 + 16 * (mot f + j) + s2))) &&& (mnt (mot f + j) f t))) mw_2_128 mw_1_208 mw_1_6 mw_1_209 hd_J6_bitCount_0f7a4 ⟨Nat.le_of_ble_eq_true rfl, Nat.le_of_ble_eq_true rfl⟩ (Rd.of hKx hZ hS) (hP.sub (ws' := []) [] rfl) rfl hl.1 rfl (Nat.le_of_ble_eq_true rfl) dX3_both_95 ⟨Nat.zero_le _, Nat.zero_le _⟩ ?_
        refine n_iadd hx hb dX3_both_98 ?_
        refine lv_istore (lv' := [(6, .int (nI (ctb r s s2 f t (mot f) j + pcn (((r (255 + 16 * (mot f + j) + s)) &&& (r (255 + 16 * (mot f + j) + s2))) &&& (mnt (mot f + j) f t)) 32))), (9, .int ((r (255 + 16 * (mot f + j) + s)) &&& (r (255 + 16 * (mot f + j) + s2)))), (8, .int (nI (mot f + j))), (7, .int (nI (mot t))), (0, .ref me), (1, .int (nI s)), (2, .int (nI s2)), (3, .int (nI f)), (4, .int (nI t))]) hx hb dX3_both_99 hl (by decide) rfl (fun ls hl => ?_)
        refine lv_iinc (v := nI (mot f + j + 1)) (lv' := [(8, .int (nI (mot f + j + 1))), (6, .int (nI (ctb r s s2 f t (mot f) j + pcn (((r (255 + 16 * (mot f + j) + s)) &&& (r (255 + 16 * (mot f + j) + s2))) &&& (mnt (mot f + j) f t)) 32))), (9, .int ((r (255 + 16 * (mot f + j) + s)) &&& (r (255 + 16 * (mot f + j) + s2)))), (7, .int (nI (mot t))), (0, .ref me), (1, .int (nI s)), (2, .int (nI s2)), (3, .int (nI f)), (4, .int (nI t))]) hx hb dX3_both_101 hl (k := 2) rfl (nI_add _ _) (by decide) rfl (fun ls hl => ?_)
        refine lv_goto (tgt := 52) hx hb dX3_both_104 (by decide) ?_
        exact ih (j + 1) _ _ ls (by omega) ⟨(by omega), (hP.sub (ws' := [(me, .inr (3, [.ref o, .ref ou, .ref oh, .ref os, .ref op, .int kc, .int sv])), (o, dO (lkk r (mot f) (mot t + 1 - mot f)) ab af an aw), (ab, .inl (gI G, 1920, .inl (dB (lkk r (mot f) (mot t + 1 - mot f))))), (af, .inl (gI G, 120, .inl (dF (lkk r (mot f) (mot t + 1 - mot f))))), (an, .inl (gI G, 120, .inl (dN (lkk r (mot f) (mot t + 1 - mot f))))), (aw, .inl (gI G, 7, .inl (dW (lkk r (mot f) (mot t + 1 - mot f)))))]) [0, 1, 2, 3, 4, 5] rfl), (hD.sub (ws' := [(me, .inr (3, [.ref o, .ref ou, .ref oh, .ref os, .ref op, .int kc, .int sv])), (o, dO (lkk r (mot f) (mot t + 1 - mot f)) ab af an aw), (ab, .inl (gI G, 1920, .inl (dB (lkk r (mot f) (mot t + 1 - mot f))))), (af, .inl (gI G, 120, .inl (dF (lkk r (mot f) (mot t + 1 - mot f))))), (an, .inl (gI G, 120, .inl (dN (lkk r (mot f) (mot t + 1 - mot f))))), (aw, .inl (gI G, 7, .inl (dW (lkk r (mot f) (mot t + 1 - mot f)))))]) [0, 1, 2, 3, 4, 5] (by decide) rfl), hS, lv_sub hl [0, 3, 1, 4, 5, 6, 7, 8] (lvc (by first | rfl | exact congrArg nI (by omega)) (lvr (lvc (congrArg nI (congrArg (fun q9 => ctb r s s2 f t (mot f) j + q9) (pcn_31 (by rw [b_and, b_and, show bt (r (255 + 16 * (mot f + j) + s)) 31 = false from by rw [Nat.add_assoc]; exact hCv.2.2.1.2.1 _ (by omega)]; rw [Bool.false_and, Bool.false_and])))) (lvr (lvr (lvr (lvr (lvr rfl))))))))⟩
    · skip
      exact absurd c_20 (by decide)
  · skip
    exact absurd c_4 (by omega)
set_option maxHeartbeats 4000000 in
set_option maxRecDepth 100000 in
theorem c_X3_both_e (l : Launch) (G : gT) (me : Nat) (o : Nat) (ou : Nat) (oh : Nat) (os : Nat) (op : Nat) (kc : Int32) (sv : Int32) (ab : Nat) (af : Nat) (an : Nat) (aw : Nat) (w : Int32) (S0 : Int) (v : Int32) (O : Int) (x : Int32) (F : Int) (y : Int32) (T : Int) (hw1 : w.toInt = S0) (hv1 : v.toInt = O) (hF1 : x.toInt = F) (hT1 : y.toInt = T) (he : ¬ (eDy ((0 ≤ S0 ∧ S0 ≤ 15) ∧ (0 ≤ O ∧ O ≤ 15)) F T).toInt = 0) : Ro l G yX3_both cX3_both 10 (some .int) 9 [(me, .inr (3, [.ref o, .ref ou, .ref oh, .ref os, .ref op, .int kc, .int sv]))] [.ref me, .int w, .int v, .int x, .int y] (eDy ((0 ≤ S0 ∧ S0 ≤ 15) ∧ (0 ≤ O ∧ O ≤ 15)) F T) := by
  refine Ro.mk (by decide) (Nat.le_of_ble_eq_true rfl) (fun pq eq sq mq bq tq cq ls hr hlk hF hKx hZ hP hl => ?_)
  have hx := hF.1
  have hb := hF.2.1
  have hml := hF.2.2.1
  have hown : sq.vm.findClass RX3 = some mq.cls := hF.2.2.2.1
  have hts : ∀ w ∈ GW, w.before _ sq = true := hF.2.2.2.2
  have hK := hKx.1
  have hl : lv_has ls 10 [(0, .ref me), (1, .int w), (2, .int v), (3, .int x), (4, .int y)] := hl
  have hS : va_S (fun _ => False) sq.heap sq.heap [] := va_S.rf
  have hP : va_P G.1 vwCl [(me, .inr (3, [.ref o, .ref ou, .ref oh, .ref os, .ref op, .int kc, .int sv]))] sq.heap := hP
  refine lv_iload_n hx hb dX3_both_0 rfl (lv_at hl 2 rfl) ?_
  refine k_roS (As := [.int v]) (rest := []) hF (c_X3_isSubject l G v O hv1) mw_2_64 mw_2_65 mw_1_1 mw_2_66 hd_X3_isSubject ⟨Nat.le_of_ble_eq_true rfl, Nat.le_of_ble_eq_true rfl⟩ (Rd.of hKx hZ hS) (hP.sub (ws' := []) [] rfl) rfl hl.1 rfl (Nat.le_of_ble_eq_true rfl) dX3_both_1 ⟨Nat.zero_le _, Nat.zero_le _⟩ ?_
  refine p0_ne hx hb (tgt := 9) dX3_both_4 (by decide) (fun c_4 => ?_) (fun c_4 => ?_)
  · skip
    refine lv_iload_n hx hb dX3_both_9 rfl (lv_at hl 1 rfl) ?_
    refine lv_iload_n hx hb dX3_both_10 rfl (lv_at hl 3 rfl) ?_
    refine lv_iload hx hb dX3_both_11 (lv_at hl 4 rfl) ?_
    refine k_roS (As := [.int w, .int x, .int y]) (rest := []) hF (c_X3_subjectSpanError l G w S0 x F y T hw1 hF1 hT1) mw_2_61 mw_2_62 mw_1_1 mw_2_63 hd_X3_subjectSpanError ⟨Nat.le_of_ble_eq_true rfl, Nat.le_of_ble_eq_true rfl⟩ (Rd.of hKx hZ hS) (hP.sub (ws' := []) [] rfl) rfl hl.1 rfl (Nat.le_of_ble_eq_true rfl) dX3_both_13 ⟨Nat.zero_le _, Nat.zero_le _⟩ ?_
    refine lv_cv (y := eDy ((0 ≤ S0 ∧ S0 ≤ 15) ∧ (0 ≤ O ∧ O ≤ 15)) F T) (congrArg (fun q9 => eDy q9 F T) (propext ⟨fun z => ⟨z, by omega⟩, fun z => z.1⟩)) ?_
    refine lv_istore (lv' := [(5, .int (eDy ((0 ≤ S0 ∧ S0 ≤ 15) ∧ (0 ≤ O ∧ O ≤ 15)) F T)), (0, .ref me), (1, .int w), (2, .int v), (3, .int x), (4, .int y)]) hx hb dX3_both_16 hl (by decide) rfl (fun ls hl => ?_)
    refine lv_iload hx hb dX3_both_18 (lv_at hl 0 rfl) ?_
    refine z0_eq hx hb (tgt := 26) ((eDy ((0 ≤ S0 ∧ S0 ≤ 15) ∧ (0 ≤ O ∧ O ≤ 15)) F T).toInt) dX3_both_20 (by decide) rfl (fun c_20 => ?_) (fun c_20 => ?_)
    · skip
      exact absurd c_20 he
    · skip
      refine lv_iload hx hb dX3_both_23 (lv_at hl 0 rfl) ?_
      exact e_ri hx hb hr hlk (rfl) dX3_both_25
  · skip
    refine lv_iconst (v := (-1)) hx hb dX3_both_7 (by decide) ?_
    exact e_ri hx hb hr hlk ((cI_t (Or.inl (by omega))).symm) dX3_both_8
set_option maxHeartbeats 4000000 in
set_option maxRecDepth 100000 in
theorem c_X3_crowded_k (l : Launch) (G : gT) (sz : Nat) (me : Nat) (o : Nat) (ou : Nat) (oh : Nat) (os : Nat) (op : Nat) (kc : Int32) (sv : Int32) (ab : Nat) (af : Nat) (an : Nat) (aw : Nat) (r : Nat → Int32) (L0 : Nat) (f : Nat) (t : Nat) (hCv : Cv r) (hL : 1 ≤ L0 ∧ L0 ≤ 16) (hft : f ≤ t) (ht : t < 3650) : Rw l G yX3_crowded cX3_crowded 8 (some .int) 9 sz [(me, .inr (3, [.ref o, .ref ou, .ref oh, .ref os, .ref op, .int kc, .int sv])), (o, dO r ab af an aw), (ab, .inl (gI G, 1920, .inl (dB r))), (af, .inl (gI G, 120, .inl (dF r))), (an, .inl (gI G, 120, .inl (dN r))), (aw, .inl (gI G, 7, .inl (dW r)))] [.ref me, .int (nI L0), .int (nI f), .int (nI t)] (nI (ctc r ((L0 : Nat) : Int) f t (mot f) (mot t + 1 - mot f))) [(me, .inr (3, [.ref o, .ref ou, .ref oh, .ref os, .ref op, .int kc, .int sv])), (o, dO (lkk r (mot f) (mot t + 1 - mot f)) ab af an aw), (ab, .inl (gI G, 1920, .inl (dB (lkk r (mot f) (mot t + 1 - mot f))))), (af, .inl (gI G, 120, .inl (dF (lkk r (mot f) (mot t + 1 - mot f))))), (an, .inl (gI G, 120, .inl (dN (lkk r (mot f) (mot t + 1 - mot f))))), (aw, .inl (gI G, 7, .inl (dW (lkk r (mot f) (mot t + 1 - mot f)))))] := by
  refine Rw.mk (by decide) (Nat.le_of_ble_eq_true rfl) (fun pq eq sq mq bq tq cq ls A hr hlk hF hKx hZ hA hP hD hS hl => ?_)
  have hx := hF.1
  have hb := hF.2.1
  have hml := hF.2.2.1
  have hown : sq.vm.findClass RX3 = some mq.cls := hF.2.2.2.1
  have hts : ∀ w ∈ GW, w.before _ sq = true := hF.2.2.2.2
  have hK := hKx.1
  have hl : lv_has ls 8 [(0, .ref me), (1, .int (nI L0)), (2, .int (nI f)), (3, .int (nI t))] := hl
  have hP : va_P G.1 vwCl [(me, .inr (3, [.ref o, .ref ou, .ref oh, .ref os, .ref op, .int kc, .int sv])), (o, dO r ab af an aw), (ab, .inl (gI G, 1920, .inl (dB r))), (af, .inl (gI G, 120, .inl (dF r))), (an, .inl (gI G, 120, .inl (dN r))), (aw, .inl (gI G, 7, .inl (dW r)))] sq.heap := hP
  have hD : va_D A [(me, .inr (3, [.ref o, .ref ou, .ref oh, .ref os, .ref op, .int kc, .int sv])), (o, dO r ab af an aw), (ab, .inl (gI G, 1920, .inl (dB r))), (af, .inl (gI G, 120, .inl (dF r))), (an, .inl (gI G, 120, .inl (dN r))), (aw, .inl (gI G, 7, .inl (dW r)))] := hD
  have hmf := mot_mono ht hft
  have hmt := mot_row ht
  have hf : f < 3650 := by omega
  refine lv_iload_n hx hb dX3_crowded_0 rfl (lv_at hl 2 rfl) ?_
  refine lv_iload_n hx hb dX3_crowded_1 rfl (lv_at hl 3 rfl) ?_
  refine k_roS (As := [.int (nI f), .int (nI t)]) (rest := []) hF (c_X3_spanError l G (nI f) ((f : Nat) : Int) (nI t) ((t : Nat) : Int) (toI (by omega)) (toI (by omega))) mw_2_67 mw_2_68 mw_1_1 mw_2_69 hd_X3_spanError ⟨Nat.le_of_ble_eq_true rfl, Nat.le_of_ble_eq_true rfl⟩ (Rd.of hKx hZ hS) (hP.sub (ws' := []) [] rfl) rfl hl.1 rfl (Nat.le_of_ble_eq_true rfl) dX3_crowded_2 ⟨Nat.zero_le _, Nat.zero_le _⟩ ?_
  refine lv_cv (y := nI 0) (eDy_0 trivial (by omega)) ?_
  refine lv_istore (lv' := [(4, .int (nI 0)), (0, .ref me), (1, .int (nI L0)), (2, .int (nI f)), (3, .int (nI t))]) hx hb dX3_crowded_5 hl (by decide) rfl (fun ls hl => ?_)
  refine lv_iload hx hb dX3_crowded_7 (lv_at hl 0 rfl) ?_
  refine z0_eq hx hb (tgt := 15) 0 dX3_crowded_9 (by decide) (by decide) (fun c_9 => ?_) (fun c_9 => ?_)
  · skip
    refine lv_iload_n hx hb dX3_crowded_15 rfl (lv_at hl 2 rfl) ?_
    refine lv_iconst (v := nI 1) hx hb dX3_crowded_16 (by decide) ?_
    refine z_lt hx hb (tgt := 26) ((L0 : Nat) : Int) 1 dX3_crowded_17 (by decide) (toI (by omega)) (by decide) (fun c_17 => ?_) (fun c_17 => ?_)
    · skip
      exact absurd c_17 (by omega)
    · skip
      refine lv_iload_n hx hb dX3_crowded_20 rfl (lv_at hl 2 rfl) ?_
      refine lv_bipush (v := nI 16) hx hb dX3_crowded_21 (by decide) ?_
      refine z_le hx hb (tgt := 29) ((L0 : Nat) : Int) 16 dX3_crowded_23 (by decide) (toI (by omega)) (by decide) (fun c_23 => ?_) (fun c_23 => ?_)
      · skip
        refine lv_aload_n hx hb dX3_crowded_29 rfl (lv_at hl 1 rfl) ?_
        refine va_get (ci := 3) (v := .ref o) (C := RX3) (T := TX3) (N := 7) hx hb hts inGX3 hown hK hP 0 rfl rfl 0 (by decide) (hts _ mw_1_126) (fun _ h9 => h9) rfl dX3_crowded_30 ?_
        refine lv_iload_n hx hb dX3_crowded_33 rfl (lv_at hl 3 rfl) ?_
        refine lv_iload_n hx hb dX3_crowded_34 rfl (lv_at hl 4 rfl) ?_
        refine k_rvV (ci := 0) (q0 := 1) (As := [.int (nI f), .int (nI t)]) (rest := []) (wr := [(me, .inr (3, [.ref o, .ref ou, .ref oh, .ref os, .ref op, .int kc, .int sv]))]) hF (c_X0_lookAtMonths l G _ o ab af an aw r f t (by omega) (by omega) (by omega)) ⟨_, rfl, rfl⟩ rfl rfl mw_2_140 mw_2_141 mw_2_142 mw_1_2 mw_2_143 hd_X0_lookAtMonths ⟨Nat.le_of_ble_eq_true rfl, Nat.le_of_ble_eq_true rfl⟩ hKx hZ hS hP hD hA [1, 2, 3, 4, 5] [0] rfl rfl (by decide) (by decide) (by decide) rfl rfl hl.1 rfl (Nat.le_of_ble_eq_true rfl) dX3_crowded_35 ⟨Nat.zero_le _, Nat.zero_le _⟩ (fun H locs hP hD hS => ?_)
        have hP : va_P G.1 vwCl [(me, .inr (3, [.ref o, .ref ou, .ref oh, .ref os, .ref op, .int kc, .int sv])), (o, dO (lkk r (mot f) (mot t + 1 - mot f)) ab af an aw), (ab, .inl (gI G, 1920, .inl (dB (lkk r (mot f) (mot t + 1 - mot f))))), (af, .inl (gI G, 120, .inl (dF (lkk r (mot f) (mot t + 1 - mot f))))), (an, .inl (gI G, 120, .inl (dN (lkk r (mot f) (mot t + 1 - mot f))))), (aw, .inl (gI G, 7, .inl (dW (lkk r (mot f) (mot t + 1 - mot f)))))] H := hP
        have hD : va_D A [(me, .inr (3, [.ref o, .ref ou, .ref oh, .ref os, .ref op, .int kc, .int sv])), (o, dO (lkk r (mot f) (mot t + 1 - mot f)) ab af an aw), (ab, .inl (gI G, 1920, .inl (dB (lkk r (mot f) (mot t + 1 - mot f))))), (af, .inl (gI G, 120, .inl (dF (lkk r (mot f) (mot t + 1 - mot f))))), (an, .inl (gI G, 120, .inl (dN (lkk r (mot f) (mot t + 1 - mot f))))), (aw, .inl (gI G, 7, .inl (dW (lkk r (mot f) (mot t + 1 - mot f)))))] := hD
        refine lv_iconst (v := nI 0) hx hb dX3_crowded_38 (by decide) ?_
        refine lv_istore (lv' := [(5, .int (nI 0)), (4, .int (nI 0)), (0, .ref me), (1, .int (nI L0)), (2, .int (nI f)), (3, .int (nI t))]) hx hb dX3_crowded_39 hl (by decide) rfl (fun ls hl => ?_)
        refine lv_iload_n hx hb dX3_crowded_41 rfl (lv_at hl 5 rfl) ?_
        refine k_roS (As := [.int (nI t)]) (rest := []) hF (c_X3_monthOf l G t (by omega)) mw_1_160 mw_1_161 mw_1_1 mw_1_162 hd_X3_monthOf ⟨Nat.le_of_ble_eq_true rfl, Nat.le_of_ble_eq_true rfl⟩ (Rd.of hKx hZ hS) (hP.sub (ws' := []) [] rfl) rfl hl.1 rfl (Nat.le_of_ble_eq_true rfl) dX3_crowded_42 ⟨Nat.zero_le _, Nat.zero_le _⟩ ?_
        refine lv_istore (lv' := [(6, .int (nI (mot t))), (5, .int (nI 0)), (4, .int (nI 0)), (0, .ref me), (1, .int (nI L0)), (2, .int (nI f)), (3, .int (nI t))]) hx hb dX3_crowded_45 hl (by decide) rfl (fun ls hl => ?_)
        refine lv_iload_n hx hb dX3_crowded_47 rfl (lv_at hl 5 rfl) ?_
        refine k_roS (As := [.int (nI f)]) (rest := []) hF (c_X3_monthOf l G f (by omega)) mw_1_160 mw_1_161 mw_1_1 mw_1_162 hd_X3_monthOf ⟨Nat.le_of_ble_eq_true rfl, Nat.le_of_ble_eq_true rfl⟩ (Rd.of hKx hZ hS) (hP.sub (ws' := []) [] rfl) rfl hl.1 rfl (Nat.le_of_ble_eq_true rfl) dX3_crowded_48 ⟨Nat.zero_le _, Nat.zero_le _⟩ ?_
        refine lv_istore (lv' := [(7, .int (nI (mot f))), (6, .int (nI (mot t))), (5, .int (nI 0)), (4, .int (nI 0)), (0, .ref me), (1, .int (nI L0)), (2, .int (nI f)), (3, .int (nI t))]) hx hb dX3_crowded_51 hl (by decide) rfl (fun ls hl => ?_)
        have hPj := hP.sub (ws' := [(me, .inr (3, [.ref o, .ref ou, .ref oh, .ref os, .ref op, .int kc, .int sv])), (o, dO (lkk r (mot f) (mot t + 1 - mot f)) ab af an aw), (ab, .inl (gI G, 1920, .inl (dB (lkk r (mot f) (mot t + 1 - mot f))))), (af, .inl (gI G, 120, .inl (dF (lkk r (mot f) (mot t + 1 - mot f))))), (an, .inl (gI G, 120, .inl (dN (lkk r (mot f) (mot t + 1 - mot f))))), (aw, .inl (gI G, 7, .inl (dW (lkk r (mot f) (mot t + 1 - mot f)))))]) [0, 1, 2, 3, 4, 5] rfl
        have hDj := hD.sub (ws' := [(me, .inr (3, [.ref o, .ref ou, .ref oh, .ref os, .ref op, .int kc, .int sv])), (o, dO (lkk r (mot f) (mot t + 1 - mot f)) ab af an aw), (ab, .inl (gI G, 1920, .inl (dB (lkk r (mot f) (mot t + 1 - mot f))))), (af, .inl (gI G, 120, .inl (dF (lkk r (mot f) (mot t + 1 - mot f))))), (an, .inl (gI G, 120, .inl (dN (lkk r (mot f) (mot t + 1 - mot f))))), (aw, .inl (gI G, 7, .inl (dW (lkk r (mot f) (mot t + 1 - mot f)))))]) [0, 1, 2, 3, 4, 5] (by decide) rfl
        refine wloopH [] (fun j H locs ls => (j ≤ mot t + 1 - mot f) ∧ va_P G.1 vwCl [(me, .inr (3, [.ref o, .ref ou, .ref oh, .ref os, .ref op, .int kc, .int sv])), (o, dO (lkk r (mot f) (mot t + 1 - mot f)) ab af an aw), (ab, .inl (gI G, 1920, .inl (dB (lkk r (mot f) (mot t + 1 - mot f))))), (af, .inl (gI G, 120, .inl (dF (lkk r (mot f) (mot t + 1 - mot f))))), (an, .inl (gI G, 120, .inl (dN (lkk r (mot f) (mot t + 1 - mot f))))), (aw, .inl (gI G, 7, .inl (dW (lkk r (mot f) (mot t + 1 - mot f)))))] H ∧ va_D A [(me, .inr (3, [.ref o, .ref ou, .ref oh, .ref os, .ref op, .int kc, .int sv])), (o, dO (lkk r (mot f) (mot t + 1 - mot f)) ab af an aw), (ab, .inl (gI G, 1920, .inl (dB (lkk r (mot f) (mot t + 1 - mot f))))), (af, .inl (gI G, 120, .inl (dF (lkk r (mot f) (mot t + 1 - mot f))))), (an, .inl (gI G, 120, .inl (dN (lkk r (mot f) (mot t + 1 - mot f))))), (aw, .inl (gI G, 7, .inl (dW (lkk r (mot f) (mot t + 1 - mot f)))))] ∧ va_S A sq.heap H locs ∧ lv_has ls 8 [(7, .int (nI (mot f + j))), (6, .int (nI (mot t))), (5, .int (nI (ctc r ((L0 : Nat) : Int) f t (mot f) j))), (0, .ref me), (1, .int (nI L0)), (2, .int (nI f)), (3, .int (nI t))]) (fun j => (mot t + 1 - mot f) - j) ?_ 0 ⟨(by omega), hPj, hDj, hS, lv_sub hl [0, 1, 2, 4, 5, 6, 7] (lvc (by first | rfl | exact congrArg nI (by omega)) (lvr (lvc (by first | rfl | exact congrArg nI (by omega)) (lvr (lvr (lvr (lvr rfl)))))))⟩
        intro j ih
        intro H locs ls ⟨hj, hP, hD, hS, hl⟩
        refine lv_iload hx hb dX3_crowded_53 (lv_at hl 0 rfl) ?_
        refine lv_iload hx hb dX3_crowded_55 (lv_at hl 1 rfl) ?_
        refine z_gt hx hb (tgt := 88) ((mot f + j : Nat) : Int) ((mot t : Nat) : Int) dX3_crowded_57 (by decide) (toI (by omega)) (toI (by omega)) (fun c_57 => ?_) (fun c_57 => ?_)
        · skip
          have hj2 : j = mot t + 1 - mot f := by omega
          subst hj2
          refine lv_iload hx hb dX3_crowded_88 (lv_at hl 2 rfl) ?_
          have hPj := hP.sub (ws' := [(me, .inr (3, [.ref o, .ref ou, .ref oh, .ref os, .ref op, .int kc, .int sv])), (o, dO (lkk r (mot f) (mot t + 1 - mot f)) ab af an aw), (ab, .inl (gI G, 1920, .inl (dB (lkk r (mot f) (mot t + 1 - mot f))))), (af, .inl (gI G, 120, .inl (dF (lkk r (mot f) (mot t + 1 - mot f))))), (an, .inl (gI G, 120, .inl (dN (lkk r (mot f) (mot t + 1 - mot f))))), (aw, .inl (gI G, 7, .inl (dW (lkk r (mot f) (mot t + 1 - mot f)))))]) [0, 1, 2, 3, 4, 5] rfl
          exact e_wi hx hb hr hlk hPj hS (rfl) dX3_crowded_90
        · skip
          have hd2 : f < fdy (mot f + j + 1) := mot_hi (by omega) (by omega)
          have hd3 : fdy (mot f + j) ≤ t := mot_lo ht (by omega)
          refine lv_iload hx hb dX3_crowded_60 (lv_at hl 2 rfl) ?_
          refine lv_aload_n hx hb dX3_crowded_62 rfl (lv_at hl 3 rfl) ?_
          refine va_get (ci := 3) (v := .ref o) (C := RX3) (T := TX3) (N := 7) hx hb hts inGX3 hown hK hP 0 rfl rfl 0 (by decide) (hts _ mw_1_126) (fun _ h9 => h9) rfl dX3_crowded_63 ?_
          refine lv_iload_n hx hb dX3_crowded_66 rfl (lv_at hl 4 rfl) ?_
          refine lv_iload hx hb dX3_crowded_67 (lv_at hl 0 rfl) ?_
          refine lv_iload hx hb dX3_crowded_69 (lv_at hl 0 rfl) ?_
          refine lv_iload_n hx hb dX3_crowded_71 rfl (lv_at hl 5 rfl) ?_
          refine lv_iload_n hx hb dX3_crowded_72 rfl (lv_at hl 6 rfl) ?_
          refine k_roS (As := [.int (nI (mot f + j)), .int (nI f), .int (nI t)]) (rest := [.int (nI (mot f + j)), .int (nI L0), .ref o, .int (nI (ctc r ((L0 : Nat) : Int) f t (mot f) j))]) hF (c_X3_daysMeant l G (mot f + j) f t (by omega) (by omega) (by omega) (by omega) (by omega)) mw_2_119 mw_2_78 mw_1_1 mw_2_79 hd_X3_daysMeant ⟨Nat.le_of_ble_eq_true rfl, Nat.le_of_ble_eq_true rfl⟩ (Rd.of hKx hZ hS) (hP.sub (ws' := []) [] rfl) rfl hl.1 rfl (Nat.le_of_ble_eq_true rfl) dX3_crowded_73 ⟨Nat.zero_le _, Nat.zero_le _⟩ ?_
          refine k_roV (ci := 0) (q0 := 1) (As := [.int (nI L0), .int (nI (mot f + j)), .int (mnt (mot f + j) f t)]) (rest := [.int (nI (ctc r ((L0 : Nat) : Int) f t (mot f) j))]) hF (c_X0_crowdedDays l G o ab af an aw (lkk r (mot f) (mot t + 1 - mot f)) L0 (mot f + j) (mnt (mot f + j) f t) (by omega) (by omega)) hKx hP ⟨_, rfl, rfl⟩ rfl rfl mw_2_149 mw_2_150 mw_2_151 mw_1_2 mw_2_152 hd_X0_crowdedDays ⟨Nat.le_of_ble_eq_true rfl, Nat.le_of_ble_eq_true rfl⟩ (Rd.of hKx hZ hS) (hP.sub (ws' := [(o, dO (lkk r (mot f) (mot t + 1 - mot f)) ab af an aw), (ab, .inl (gI G, 1920, .inl (dB (lkk r (mot f) (mot t + 1 - mot f))))), (af, .inl (gI G, 120, .inl (dF (lkk r (mot f) (mot t + 1 - mot f))))), (an, .inl (gI G, 120, .inl (dN (lkk r (mot f) (mot t + 1 - mot f))))), (aw, .inl (gI G, 7, .inl (dW (lkk r (mot f) (mot t + 1 - mot f)))))]) [1, 2, 3, 4, 5] rfl) rfl hl.1 rfl (Nat.le_of_ble_eq_true rfl) dX3_crowded_76 ⟨Nat.zero_le _, Nat.zero_le _⟩ ?_
          refine lv_cv (y := nI (cdk r ((L0 : Nat) : Int) (mot f + j) f t (dys (mot f + j)))) (congrArg nI (crw_l hCv.1 (by omega))) ?_
          refine n_iadd hx hb dX3_crowded_79 ?_
          refine lv_istore (lv' := [(5, .int (nI (ctc r ((L0 : Nat) : Int) f t (mot f) j + cdk r ((L0 : Nat) : Int) (mot f + j) f t (dys (mot f + j))))), (7, .int (nI (mot f + j))), (6, .int (nI (mot t))), (0, .ref me), (1, .int (nI L0)), (2, .int (nI f)), (3, .int (nI t))]) hx hb dX3_crowded_80 hl (by decide) rfl (fun ls hl => ?_)
          refine lv_iinc (v := nI (mot f + j + 1)) (lv' := [(7, .int (nI (mot f + j + 1))), (5, .int (nI (ctc r ((L0 : Nat) : Int) f t (mot f) j + cdk r ((L0 : Nat) : Int) (mot f + j) f t (dys (mot f + j))))), (6, .int (nI (mot t))), (0, .ref me), (1, .int (nI L0)), (2, .int (nI f)), (3, .int (nI t))]) hx hb dX3_crowded_82 hl (k := 1) rfl (nI_add _ _) (by decide) rfl (fun ls hl => ?_)
          refine lv_goto (tgt := 53) hx hb dX3_crowded_85 (by decide) ?_
          exact ih (j + 1) _ _ ls (by omega) ⟨(by omega), (hP.sub (ws' := [(me, .inr (3, [.ref o, .ref ou, .ref oh, .ref os, .ref op, .int kc, .int sv])), (o, dO (lkk r (mot f) (mot t + 1 - mot f)) ab af an aw), (ab, .inl (gI G, 1920, .inl (dB (lkk r (mot f) (mot t + 1 - mot f))))), (af, .inl (gI G, 120, .inl (dF (lkk r (mot f) (mot t + 1 - mot f))))), (an, .inl (gI G, 120, .inl (dN (lkk r (mot f) (mot t + 1 - mot f))))), (aw, .inl (gI G, 7, .inl (dW (lkk r (mot f) (mot t + 1 - mot f)))))]) [0, 1, 2, 3, 4, 5] rfl), (hD.sub (ws' := [(me, .inr (3, [.ref o, .ref ou, .ref oh, .ref os, .ref op, .int kc, .int sv])), (o, dO (lkk r (mot f) (mot t + 1 - mot f)) ab af an aw), (ab, .inl (gI G, 1920, .inl (dB (lkk r (mot f) (mot t + 1 - mot f))))), (af, .inl (gI G, 120, .inl (dF (lkk r (mot f) (mot t + 1 - mot f))))), (an, .inl (gI G, 120, .inl (dN (lkk r (mot f) (mot t + 1 - mot f))))), (aw, .inl (gI G, 7, .inl (dW (lkk r (mot f) (mot t + 1 - mot f)))))]) [0, 1, 2, 3, 4, 5] (by decide) rfl), hS, lv_sub hl [0, 2, 1, 3, 4, 5, 6] (lvc (by first | rfl | exact congrArg nI (by omega)) (lvr (lvc (by first | rfl | exact congrArg nI (by omega)) (lvr (lvr (lvr (lvr rfl)))))))⟩
      · skip
        exact absurd c_23 (by omega)
  · skip
    exact absurd c_9 (by decide)
set_option maxHeartbeats 4000000 in
set_option maxRecDepth 100000 in
theorem c_X3_crowded_e (l : Launch) (G : gT) (me : Nat) (o : Nat) (ou : Nat) (oh : Nat) (os : Nat) (op : Nat) (kc : Int32) (sv : Int32) (ab : Nat) (af : Nat) (an : Nat) (aw : Nat) (w : Int32) (S0 : Int) (x : Int32) (F : Int) (y : Int32) (T : Int) (hw1 : w.toInt = S0) (hF1 : x.toInt = F) (hT1 : y.toInt = T) (he : ¬ ((0 ≤ F ∧ F ≤ 3649) ∧ (0 ≤ T ∧ T ≤ 3649) ∧ (1 ≤ S0 ∧ S0 ≤ 16) ∧ F ≤ T)) : Ro l G yX3_crowded cX3_crowded 8 (some .int) 9 [(me, .inr (3, [.ref o, .ref ou, .ref oh, .ref os, .ref op, .int kc, .int sv]))] [.ref me, .int w, .int x, .int y] (eCr S0 F T) := by
  refine Ro.mk (by decide) (Nat.le_of_ble_eq_true rfl) (fun pq eq sq mq bq tq cq ls hr hlk hF hKx hZ hP hl => ?_)
  have hx := hF.1
  have hb := hF.2.1
  have hml := hF.2.2.1
  have hown : sq.vm.findClass RX3 = some mq.cls := hF.2.2.2.1
  have hts : ∀ w ∈ GW, w.before _ sq = true := hF.2.2.2.2
  have hK := hKx.1
  have hl : lv_has ls 8 [(0, .ref me), (1, .int w), (2, .int x), (3, .int y)] := hl
  have hS : va_S (fun _ => False) sq.heap sq.heap [] := va_S.rf
  have hP : va_P G.1 vwCl [(me, .inr (3, [.ref o, .ref ou, .ref oh, .ref os, .ref op, .int kc, .int sv]))] sq.heap := hP
  refine lv_iload_n hx hb dX3_crowded_0 rfl (lv_at hl 2 rfl) ?_
  refine lv_iload_n hx hb dX3_crowded_1 rfl (lv_at hl 3 rfl) ?_
  refine k_roS (As := [.int x, .int y]) (rest := []) hF (c_X3_spanError l G x F y T hF1 hT1) mw_2_67 mw_2_68 mw_1_1 mw_2_69 hd_X3_spanError ⟨Nat.le_of_ble_eq_true rfl, Nat.le_of_ble_eq_true rfl⟩ (Rd.of hKx hZ hS) (hP.sub (ws' := []) [] rfl) rfl hl.1 rfl (Nat.le_of_ble_eq_true rfl) dX3_crowded_2 ⟨Nat.zero_le _, Nat.zero_le _⟩ ?_
  refine lv_istore (lv' := [(4, .int (eDy True F T)), (0, .ref me), (1, .int w), (2, .int x), (3, .int y)]) hx hb dX3_crowded_5 hl (by decide) rfl (fun ls hl => ?_)
  refine lv_iload hx hb dX3_crowded_7 (lv_at hl 0 rfl) ?_
  refine z0_eq hx hb (tgt := 15) ((eDy True F T).toInt) dX3_crowded_9 (by decide) rfl (fun c_9 => ?_) (fun c_9 => ?_)
  · skip
    refine lv_iload_n hx hb dX3_crowded_15 rfl (lv_at hl 2 rfl) ?_
    refine lv_iconst (v := nI 1) hx hb dX3_crowded_16 (by decide) ?_
    refine z_lt hx hb (tgt := 26) S0 1 dX3_crowded_17 (by decide) hw1 (by decide) (fun c_17 => ?_) (fun c_17 => ?_)
    · skip
      refine lv_bipush (v := (-2)) hx hb dX3_crowded_26 (by decide) ?_
      exact e_ri hx hb hr hlk ((eCr_2 ⟨(eDy_ok c_9).2.1, (eDy_ok c_9).2.2.1⟩ (by have hd9 := (eDy_ok c_9).2; omega)).symm) dX3_crowded_28
    · skip
      refine lv_iload_n hx hb dX3_crowded_20 rfl (lv_at hl 2 rfl) ?_
      refine lv_bipush (v := nI 16) hx hb dX3_crowded_21 (by decide) ?_
      refine z_le hx hb (tgt := 29) S0 16 dX3_crowded_23 (by decide) hw1 (by decide) (fun c_23 => ?_) (fun c_23 => ?_)
      · skip
        exact (he (by have hd9 := (eDy_ok c_9).2; omega)).elim
      · skip
        refine lv_bipush (v := (-2)) hx hb dX3_crowded_26 (by decide) ?_
        exact e_ri hx hb hr hlk ((eCr_2 ⟨(eDy_ok c_9).2.1, (eDy_ok c_9).2.2.1⟩ (by have hd9 := (eDy_ok c_9).2; omega)).symm) dX3_crowded_28
  · skip
    refine lv_iload hx hb dX3_crowded_12 (lv_at hl 0 rfl) ?_
    exact e_ri hx hb hr hlk (eCr_d c_9) dX3_crowded_14
set_option maxHeartbeats 4000000 in
set_option maxRecDepth 100000 in
theorem c_X3_inMonth_k (l : Launch) (G : gT) (me : Nat) (o : Nat) (ou : Nat) (oh : Nat) (os : Nat) (op : Nat) (kc : Int32) (sv : Int32) (ab : Nat) (af : Nat) (an : Nat) (aw : Nat) (r : Nat → Int32) (s : Nat) (m : Nat) (hBd : Bd r) (hm : m < 120) (hs : s < 16) : Ro l G yX3_inMonth cX3_inMonth 3 (some .int) 9 [(me, .inr (3, [.ref o, .ref ou, .ref oh, .ref os, .ref op, .int kc, .int sv])), (o, dO r ab af an aw), (ab, .inl (gI G, 1920, .inl (dB r))), (af, .inl (gI G, 120, .inl (dF r))), (an, .inl (gI G, 120, .inl (dN r))), (aw, .inl (gI G, 7, .inl (dW r)))] [.ref me, .int (nI s), .int (nI m)] (nI (ons (r (255 + 16 * m + s)))) := by
  refine Ro.mk (by decide) (Nat.le_of_ble_eq_true rfl) (fun pq eq sq mq bq tq cq ls hr hlk hF hKx hZ hP hl => ?_)
  have hx := hF.1
  have hb := hF.2.1
  have hml := hF.2.2.1
  have hown : sq.vm.findClass RX3 = some mq.cls := hF.2.2.2.1
  have hts : ∀ w ∈ GW, w.before _ sq = true := hF.2.2.2.2
  have hK := hKx.1
  have hl : lv_has ls 3 [(0, .ref me), (1, .int (nI s)), (2, .int (nI m))] := hl
  have hS : va_S (fun _ => False) sq.heap sq.heap [] := va_S.rf
  have hP : va_P G.1 vwCl [(me, .inr (3, [.ref o, .ref ou, .ref oh, .ref os, .ref op, .int kc, .int sv])), (o, dO r ab af an aw), (ab, .inl (gI G, 1920, .inl (dB r))), (af, .inl (gI G, 120, .inl (dF r))), (an, .inl (gI G, 120, .inl (dN r))), (aw, .inl (gI G, 7, .inl (dW r)))] sq.heap := hP
  refine lv_iload_n hx hb dX3_inMonth_0 rfl (lv_at hl 1 rfl) ?_
  refine k_roS (As := [.int (nI s)]) (rest := []) hF (c_X3_isSubject l G (nI s) ((s : Nat) : Int) (toI (by omega))) mw_2_64 mw_2_65 mw_1_1 mw_2_66 hd_X3_isSubject ⟨Nat.le_of_ble_eq_true rfl, Nat.le_of_ble_eq_true rfl⟩ (Rd.of hKx hZ hS) (hP.sub (ws' := []) [] rfl) rfl hl.1 rfl (Nat.le_of_ble_eq_true rfl) dX3_inMonth_1 ⟨Nat.zero_le _, Nat.zero_le _⟩ ?_
  refine p0_eq hx hb (tgt := 14) dX3_inMonth_4 (by decide) (fun c_4 => ?_) (fun c_4 => ?_)
  · skip
    exact absurd c_4 (by omega)
  · skip
    refine lv_iload_n hx hb dX3_inMonth_7 rfl (lv_at hl 2 rfl) ?_
    refine k_roS (As := [.int (nI m)]) (rest := []) hF (c_X3_isMonth l G (nI m) ((m : Nat) : Int) (toI (by omega))) mw_2_179 mw_1_189 mw_1_1 mw_1_190 hd_X3_isMonth ⟨Nat.le_of_ble_eq_true rfl, Nat.le_of_ble_eq_true rfl⟩ (Rd.of hKx hZ hS) (hP.sub (ws' := []) [] rfl) rfl hl.1 rfl (Nat.le_of_ble_eq_true rfl) dX3_inMonth_8 ⟨Nat.zero_le _, Nat.zero_le _⟩ ?_
    refine p0_ne hx hb (tgt := 16) dX3_inMonth_11 (by decide) (fun c_11 => ?_) (fun c_11 => ?_)
    · skip
      refine lv_aload_n hx hb dX3_inMonth_16 rfl (lv_at hl 0 rfl) ?_
      refine va_get (ci := 3) (v := .ref o) (C := RX3) (T := TX3) (N := 7) hx hb hts inGX3 hown hK hP 0 rfl rfl 0 (by decide) (hts _ mw_1_126) (fun _ h9 => h9) rfl dX3_inMonth_17 ?_
      refine lv_iload_n hx hb dX3_inMonth_20 rfl (lv_at hl 1 rfl) ?_
      refine lv_iload_n hx hb dX3_inMonth_21 rfl (lv_at hl 2 rfl) ?_
      refine k_roV (ci := 0) (q0 := 1) (As := [.int (nI s), .int (nI m)]) (rest := []) hF (c_X0_bitsOf l G o ab af an aw r s m (by omega) (by omega)) hKx hP ⟨_, rfl, rfl⟩ rfl rfl mw_2_127 mw_1_204 mw_1_205 mw_1_2 mw_1_206 hd_X0_bitsOf ⟨Nat.le_of_ble_eq_true rfl, Nat.le_of_ble_eq_true rfl⟩ (Rd.of hKx hZ hS) (hP.sub (ws' := [(o, dO r ab af an aw), (ab, .inl (gI G, 1920, .inl (dB r))), (af, .inl (gI G, 120, .inl (dF r))), (an, .inl (gI G, 120, .inl (dN r))), (aw, .inl (gI G, 7, .inl (dW r)))]) [1, 2, 3, 4, 5] rfl) rfl hl.1 rfl (Nat.le_of_ble_eq_true rfl) dX3_inMonth_22 ⟨Nat.zero_le _, Nat.zero_le _⟩ ?_
      refine k_roS (As := [.int (r (255 + 16 * m + s))]) (rest := []) hF (c_J6_bitCount_0f7a4 l G (r (255 + 16 * m + s))) mw_2_128 mw_1_208 mw_1_6 mw_1_209 hd_J6_bitCount_0f7a4 ⟨Nat.le_of_ble_eq_true rfl, Nat.le_of_ble_eq_true rfl⟩ (Rd.of hKx hZ hS) (hP.sub (ws' := []) [] rfl) rfl hl.1 rfl (Nat.le_of_ble_eq_true rfl) dX3_inMonth_25 ⟨Nat.zero_le _, Nat.zero_le _⟩ ?_
      exact e_ri hx hb hr hlk (congrArg nI (pcn_31 (by rw [Nat.add_assoc]; exact hBd _ (by omega)))) dX3_inMonth_28
    · skip
      exact absurd c_11 (by omega)
set_option maxHeartbeats 4000000 in
set_option maxRecDepth 100000 in
theorem c_X3_inMonth_e (l : Launch) (G : gT) (me : Nat) (o : Nat) (ou : Nat) (oh : Nat) (os : Nat) (op : Nat) (kc : Int32) (sv : Int32) (ab : Nat) (af : Nat) (an : Nat) (aw : Nat) (w : Int32) (S0 : Int) (x : Int32) (F : Int) (hw1 : w.toInt = S0) (hF1 : x.toInt = F) (he : ¬ ((0 ≤ S0 ∧ S0 ≤ 15) ∧ (0 ≤ F ∧ F ≤ 119))) : Ro l G yX3_inMonth cX3_inMonth 3 (some .int) 9 [(me, .inr (3, [.ref o, .ref ou, .ref oh, .ref os, .ref op, .int kc, .int sv]))] [.ref me, .int w, .int x] (-1) := by
  refine Ro.mk (by decide) (Nat.le_of_ble_eq_true rfl) (fun pq eq sq mq bq tq cq ls hr hlk hF hKx hZ hP hl => ?_)
  have hx := hF.1
  have hb := hF.2.1
  have hml := hF.2.2.1
  have hown : sq.vm.findClass RX3 = some mq.cls := hF.2.2.2.1
  have hts : ∀ w ∈ GW, w.before _ sq = true := hF.2.2.2.2
  have hK := hKx.1
  have hl : lv_has ls 3 [(0, .ref me), (1, .int w), (2, .int x)] := hl
  have hS : va_S (fun _ => False) sq.heap sq.heap [] := va_S.rf
  have hP : va_P G.1 vwCl [(me, .inr (3, [.ref o, .ref ou, .ref oh, .ref os, .ref op, .int kc, .int sv]))] sq.heap := hP
  refine lv_iload_n hx hb dX3_inMonth_0 rfl (lv_at hl 1 rfl) ?_
  refine k_roS (As := [.int w]) (rest := []) hF (c_X3_isSubject l G w S0 hw1) mw_2_64 mw_2_65 mw_1_1 mw_2_66 hd_X3_isSubject ⟨Nat.le_of_ble_eq_true rfl, Nat.le_of_ble_eq_true rfl⟩ (Rd.of hKx hZ hS) (hP.sub (ws' := []) [] rfl) rfl hl.1 rfl (Nat.le_of_ble_eq_true rfl) dX3_inMonth_1 ⟨Nat.zero_le _, Nat.zero_le _⟩ ?_
  refine p0_eq hx hb (tgt := 14) dX3_inMonth_4 (by decide) (fun c_4 => ?_) (fun c_4 => ?_)
  · skip
    refine lv_iconst (v := (-1)) hx hb dX3_inMonth_14 (by decide) ?_
    exact e_ri hx hb hr hlk (rfl) dX3_inMonth_15
  · skip
    refine lv_iload_n hx hb dX3_inMonth_7 rfl (lv_at hl 2 rfl) ?_
    refine k_roS (As := [.int x]) (rest := []) hF (c_X3_isMonth l G x F hF1) mw_2_179 mw_1_189 mw_1_1 mw_1_190 hd_X3_isMonth ⟨Nat.le_of_ble_eq_true rfl, Nat.le_of_ble_eq_true rfl⟩ (Rd.of hKx hZ hS) (hP.sub (ws' := []) [] rfl) rfl hl.1 rfl (Nat.le_of_ble_eq_true rfl) dX3_inMonth_8 ⟨Nat.zero_le _, Nat.zero_le _⟩ ?_
    refine p0_ne hx hb (tgt := 16) dX3_inMonth_11 (by decide) (fun c_11 => ?_) (fun c_11 => ?_)
    · skip
      exact absurd c_11 (by omega)
    · skip
      refine lv_iconst (v := (-1)) hx hb dX3_inMonth_14 (by decide) ?_
      exact e_ri hx hb hr hlk (rfl) dX3_inMonth_15
set_option maxHeartbeats 4000000 in
set_option maxRecDepth 100000 in
theorem c_X3_dayOf_k (l : Launch) (G : gT) (me : Nat) (o : Nat) (ou : Nat) (oh : Nat) (os : Nat) (op : Nat) (kc : Int32) (sv : Int32) (ab : Nat) (af : Nat) (an : Nat) (aw : Nat) (y : Nat) (m : Nat) (d : Nat) (hy : y < 10) (hm : 1 ≤ m ∧ m ≤ 12) (hd : 1 ≤ d ∧ d ≤ dys (12 * y + m - 1)) : Ro l G yX3_dayOf cX3_dayOf 5 (some .int) 9 [(me, .inr (3, [.ref o, .ref ou, .ref oh, .ref os, .ref op, .int kc, .int sv]))] [.ref me, .int (nI y), .int (nI m), .int (nI d)] (nI (fdy (12 * y + m - 1) + d - 1)) := by
  refine Ro.mk (by decide) (Nat.le_of_ble_eq_true rfl) (fun pq eq sq mq bq tq cq ls hr hlk hF hKx hZ hP hl => ?_)
  have hx := hF.1
  have hb := hF.2.1
  have hml := hF.2.2.1
  have hown : sq.vm.findClass RX3 = some mq.cls := hF.2.2.2.1
  have hts : ∀ w ∈ GW, w.before _ sq = true := hF.2.2.2.2
  have hK := hKx.1
  have hl : lv_has ls 5 [(0, .ref me), (1, .int (nI y)), (2, .int (nI m)), (3, .int (nI d))] := hl
  have hS : va_S (fun _ => False) sq.heap sq.heap [] := va_S.rf
  have hP : va_P G.1 vwCl [(me, .inr (3, [.ref o, .ref ou, .ref oh, .ref os, .ref op, .int kc, .int sv]))] sq.heap := hP
  have hdy := dys_in (12 * y + m - 1)
  have hfl := fdy_lt' (m := 12 * y + m - 1) (by omega)
  have hcm : y * 12 + m - 1 = 12 * y + m - 1 := by omega
  refine lv_iload_n hx hb dX3_dayOf_0 rfl (lv_at hl 1 rfl) ?_
  refine z0_lt hx hb (tgt := 21) ((y : Nat) : Int) dX3_dayOf_1 (by decide) (toI (by omega)) (fun c_1 => ?_) (fun c_1 => ?_)
  · skip
    exact absurd c_1 (by omega)
  · skip
    refine lv_iload_n hx hb dX3_dayOf_4 rfl (lv_at hl 1 rfl) ?_
    refine lv_bipush (v := nI 10) hx hb dX3_dayOf_5 (by decide) ?_
    refine z_ge hx hb (tgt := 21) ((y : Nat) : Int) 10 dX3_dayOf_7 (by decide) (toI (by omega)) (by decide) (fun c_7 => ?_) (fun c_7 => ?_)
    · skip
      exact absurd c_7 (by omega)
    · skip
      refine lv_iload_n hx hb dX3_dayOf_10 rfl (lv_at hl 2 rfl) ?_
      refine lv_iconst (v := nI 1) hx hb dX3_dayOf_11 (by decide) ?_
      refine z_lt hx hb (tgt := 21) ((m : Nat) : Int) 1 dX3_dayOf_12 (by decide) (toI (by omega)) (by decide) (fun c_12 => ?_) (fun c_12 => ?_)
      · skip
        exact absurd c_12 (by omega)
      · skip
        refine lv_iload_n hx hb dX3_dayOf_15 rfl (lv_at hl 2 rfl) ?_
        refine lv_bipush (v := nI 12) hx hb dX3_dayOf_16 (by decide) ?_
        refine z_le hx hb (tgt := 23) ((m : Nat) : Int) 12 dX3_dayOf_18 (by decide) (toI (by omega)) (by decide) (fun c_18 => ?_) (fun c_18 => ?_)
        · skip
          refine lv_iload_n hx hb dX3_dayOf_23 rfl (lv_at hl 1 rfl) ?_
          refine lv_bipush (v := nI 12) hx hb dX3_dayOf_24 (by decide) ?_
          refine n_imul hx hb dX3_dayOf_26 ?_
          refine lv_iload_n hx hb dX3_dayOf_27 rfl (lv_at hl 2 rfl) ?_
          refine n_iadd hx hb dX3_dayOf_28 ?_
          refine lv_iconst (v := nI 1) hx hb dX3_dayOf_29 (by decide) ?_
          refine n_isub hx hb (by omega) dX3_dayOf_30 ?_
          refine lv_cv (y := nI (12 * y + m - 1)) (congrArg nI hcm) ?_
          refine lv_istore (lv' := [(4, .int (nI (12 * y + m - 1))), (0, .ref me), (1, .int (nI y)), (2, .int (nI m)), (3, .int (nI d))]) hx hb dX3_dayOf_31 hl (by decide) rfl (fun ls hl => ?_)
          refine lv_iload_n hx hb dX3_dayOf_33 rfl (lv_at hl 4 rfl) ?_
          refine lv_iconst (v := nI 1) hx hb dX3_dayOf_34 (by decide) ?_
          refine z_lt hx hb (tgt := 47) ((d : Nat) : Int) 1 dX3_dayOf_35 (by decide) (toI (by omega)) (by decide) (fun c_35 => ?_) (fun c_35 => ?_)
          · skip
            exact absurd c_35 (by omega)
          · skip
            refine lv_iload_n hx hb dX3_dayOf_38 rfl (lv_at hl 4 rfl) ?_
            refine lv_iload hx hb dX3_dayOf_39 (lv_at hl 0 rfl) ?_
            refine k_roS (As := [.int (nI (12 * y + m - 1))]) (rest := [.int (nI d)]) hF (c_X3_daysOf l G (12 * y + m - 1) (by omega)) mw_2_84 mw_2_85 mw_1_1 mw_2_86 hd_X3_daysOf ⟨Nat.le_of_ble_eq_true rfl, Nat.le_of_ble_eq_true rfl⟩ (Rd.of hKx hZ hS) (hP.sub (ws' := []) [] rfl) rfl hl.1 rfl (Nat.le_of_ble_eq_true rfl) dX3_dayOf_41 ⟨Nat.zero_le _, Nat.zero_le _⟩ ?_
            refine z_le hx hb (tgt := 49) ((d : Nat) : Int) ((dys (12 * y + m - 1) : Nat) : Int) dX3_dayOf_44 (by decide) (toI (by omega)) (toI (by omega)) (fun c_44 => ?_) (fun c_44 => ?_)
            · skip
              refine lv_iload hx hb dX3_dayOf_49 (lv_at hl 0 rfl) ?_
              refine k_roS (As := [.int (nI (12 * y + m - 1))]) (rest := []) hF (c_X3_firstDayOf l G (12 * y + m - 1) (by omega)) mw_2_80 mw_2_81 mw_1_1 mw_2_82 hd_X3_firstDayOf ⟨Nat.le_of_ble_eq_true rfl, Nat.le_of_ble_eq_true rfl⟩ (Rd.of hKx hZ hS) (hP.sub (ws' := []) [] rfl) rfl hl.1 rfl (Nat.le_of_ble_eq_true rfl) dX3_dayOf_51 ⟨Nat.zero_le _, Nat.zero_le _⟩ ?_
              refine lv_iload_n hx hb dX3_dayOf_54 rfl (lv_at hl 4 rfl) ?_
              refine n_iadd hx hb dX3_dayOf_55 ?_
              refine lv_iconst (v := nI 1) hx hb dX3_dayOf_56 (by decide) ?_
              refine n_isub hx hb (by omega) dX3_dayOf_57 ?_
              exact e_ri hx hb hr hlk (rfl) dX3_dayOf_58
            · skip
              exact absurd c_44 (by omega)
        · skip
          exact absurd c_18 (by omega)
set_option maxHeartbeats 4000000 in
set_option maxRecDepth 100000 in
theorem c_X3_dayOf_e (l : Launch) (G : gT) (me : Nat) (o : Nat) (ou : Nat) (oh : Nat) (os : Nat) (op : Nat) (kc : Int32) (sv : Int32) (ab : Nat) (af : Nat) (an : Nat) (aw : Nat) (w : Int32) (S0 : Int) (x : Int32) (F : Int) (y : Int32) (hw1 : w.toInt = S0) (hF1 : x.toInt = F) (he : ¬ ((0 ≤ S0 ∧ S0 ≤ 9) ∧ (1 ≤ F ∧ F ≤ 12))) : Ro l G yX3_dayOf cX3_dayOf 5 (some .int) 9 [(me, .inr (3, [.ref o, .ref ou, .ref oh, .ref os, .ref op, .int kc, .int sv]))] [.ref me, .int w, .int x, .int y] (-1) := by
  refine Ro.mk (by decide) (Nat.le_of_ble_eq_true rfl) (fun pq eq sq mq bq tq cq ls hr hlk hF hKx hZ hP hl => ?_)
  have hx := hF.1
  have hb := hF.2.1
  have hml := hF.2.2.1
  have hown : sq.vm.findClass RX3 = some mq.cls := hF.2.2.2.1
  have hts : ∀ w ∈ GW, w.before _ sq = true := hF.2.2.2.2
  have hK := hKx.1
  have hl : lv_has ls 5 [(0, .ref me), (1, .int w), (2, .int x), (3, .int y)] := hl
  have hS : va_S (fun _ => False) sq.heap sq.heap [] := va_S.rf
  have hP : va_P G.1 vwCl [(me, .inr (3, [.ref o, .ref ou, .ref oh, .ref os, .ref op, .int kc, .int sv]))] sq.heap := hP
  refine lv_iload_n hx hb dX3_dayOf_0 rfl (lv_at hl 1 rfl) ?_
  refine z0_lt hx hb (tgt := 21) S0 dX3_dayOf_1 (by decide) hw1 (fun c_1 => ?_) (fun c_1 => ?_)
  · skip
    refine lv_iconst (v := (-1)) hx hb dX3_dayOf_21 (by decide) ?_
    exact e_ri hx hb hr hlk (rfl) dX3_dayOf_22
  · skip
    refine lv_iload_n hx hb dX3_dayOf_4 rfl (lv_at hl 1 rfl) ?_
    refine lv_bipush (v := nI 10) hx hb dX3_dayOf_5 (by decide) ?_
    refine z_ge hx hb (tgt := 21) S0 10 dX3_dayOf_7 (by decide) hw1 (by decide) (fun c_7 => ?_) (fun c_7 => ?_)
    · skip
      refine lv_iconst (v := (-1)) hx hb dX3_dayOf_21 (by decide) ?_
      exact e_ri hx hb hr hlk (rfl) dX3_dayOf_22
    · skip
      refine lv_iload_n hx hb dX3_dayOf_10 rfl (lv_at hl 2 rfl) ?_
      refine lv_iconst (v := nI 1) hx hb dX3_dayOf_11 (by decide) ?_
      refine z_lt hx hb (tgt := 21) F 1 dX3_dayOf_12 (by decide) hF1 (by decide) (fun c_12 => ?_) (fun c_12 => ?_)
      · skip
        refine lv_iconst (v := (-1)) hx hb dX3_dayOf_21 (by decide) ?_
        exact e_ri hx hb hr hlk (rfl) dX3_dayOf_22
      · skip
        refine lv_iload_n hx hb dX3_dayOf_15 rfl (lv_at hl 2 rfl) ?_
        refine lv_bipush (v := nI 12) hx hb dX3_dayOf_16 (by decide) ?_
        refine z_le hx hb (tgt := 23) F 12 dX3_dayOf_18 (by decide) hF1 (by decide) (fun c_18 => ?_) (fun c_18 => ?_)
        · skip
          exact absurd c_18 (by omega)
        · skip
          refine lv_iconst (v := (-1)) hx hb dX3_dayOf_21 (by decide) ?_
          exact e_ri hx hb hr hlk (rfl) dX3_dayOf_22
set_option maxHeartbeats 4000000 in
set_option maxRecDepth 100000 in
theorem c_X3_dayOf_e2 (l : Launch) (G : gT) (me : Nat) (o : Nat) (ou : Nat) (oh : Nat) (os : Nat) (op : Nat) (kc : Int32) (sv : Int32) (ab : Nat) (af : Nat) (an : Nat) (aw : Nat) (y : Nat) (m : Nat) (x : Int32) (F : Int) (hy : y < 10) (hm : 1 ≤ m ∧ m ≤ 12) (hF1 : x.toInt = F) (he : ¬ (1 ≤ F ∧ F ≤ ((dys (12 * y + m - 1) : Nat) : Int))) : Ro l G yX3_dayOf cX3_dayOf 5 (some .int) 9 [(me, .inr (3, [.ref o, .ref ou, .ref oh, .ref os, .ref op, .int kc, .int sv]))] [.ref me, .int (nI y), .int (nI m), .int x] (-1) := by
  refine Ro.mk (by decide) (Nat.le_of_ble_eq_true rfl) (fun pq eq sq mq bq tq cq ls hr hlk hF hKx hZ hP hl => ?_)
  have hx := hF.1
  have hb := hF.2.1
  have hml := hF.2.2.1
  have hown : sq.vm.findClass RX3 = some mq.cls := hF.2.2.2.1
  have hts : ∀ w ∈ GW, w.before _ sq = true := hF.2.2.2.2
  have hK := hKx.1
  have hl : lv_has ls 5 [(0, .ref me), (1, .int (nI y)), (2, .int (nI m)), (3, .int x)] := hl
  have hS : va_S (fun _ => False) sq.heap sq.heap [] := va_S.rf
  have hP : va_P G.1 vwCl [(me, .inr (3, [.ref o, .ref ou, .ref oh, .ref os, .ref op, .int kc, .int sv]))] sq.heap := hP
  have hdy := dys_in (12 * y + m - 1)
  have hcm : y * 12 + m - 1 = 12 * y + m - 1 := by omega
  refine lv_iload_n hx hb dX3_dayOf_0 rfl (lv_at hl 1 rfl) ?_
  refine z0_lt hx hb (tgt := 21) ((y : Nat) : Int) dX3_dayOf_1 (by decide) (toI (by omega)) (fun c_1 => ?_) (fun c_1 => ?_)
  · skip
    exact absurd c_1 (by omega)
  · skip
    refine lv_iload_n hx hb dX3_dayOf_4 rfl (lv_at hl 1 rfl) ?_
    refine lv_bipush (v := nI 10) hx hb dX3_dayOf_5 (by decide) ?_
    refine z_ge hx hb (tgt := 21) ((y : Nat) : Int) 10 dX3_dayOf_7 (by decide) (toI (by omega)) (by decide) (fun c_7 => ?_) (fun c_7 => ?_)
    · skip
      exact absurd c_7 (by omega)
    · skip
      refine lv_iload_n hx hb dX3_dayOf_10 rfl (lv_at hl 2 rfl) ?_
      refine lv_iconst (v := nI 1) hx hb dX3_dayOf_11 (by decide) ?_
      refine z_lt hx hb (tgt := 21) ((m : Nat) : Int) 1 dX3_dayOf_12 (by decide) (toI (by omega)) (by decide) (fun c_12 => ?_) (fun c_12 => ?_)
      · skip
        exact absurd c_12 (by omega)
      · skip
        refine lv_iload_n hx hb dX3_dayOf_15 rfl (lv_at hl 2 rfl) ?_
        refine lv_bipush (v := nI 12) hx hb dX3_dayOf_16 (by decide) ?_
        refine z_le hx hb (tgt := 23) ((m : Nat) : Int) 12 dX3_dayOf_18 (by decide) (toI (by omega)) (by decide) (fun c_18 => ?_) (fun c_18 => ?_)
        · skip
          refine lv_iload_n hx hb dX3_dayOf_23 rfl (lv_at hl 1 rfl) ?_
          refine lv_bipush (v := nI 12) hx hb dX3_dayOf_24 (by decide) ?_
          refine n_imul hx hb dX3_dayOf_26 ?_
          refine lv_iload_n hx hb dX3_dayOf_27 rfl (lv_at hl 2 rfl) ?_
          refine n_iadd hx hb dX3_dayOf_28 ?_
          refine lv_iconst (v := nI 1) hx hb dX3_dayOf_29 (by decide) ?_
          refine n_isub hx hb (by omega) dX3_dayOf_30 ?_
          refine lv_cv (y := nI (12 * y + m - 1)) (congrArg nI hcm) ?_
          refine lv_istore (lv' := [(4, .int (nI (12 * y + m - 1))), (0, .ref me), (1, .int (nI y)), (2, .int (nI m)), (3, .int x)]) hx hb dX3_dayOf_31 hl (by decide) rfl (fun ls hl => ?_)
          refine lv_iload_n hx hb dX3_dayOf_33 rfl (lv_at hl 4 rfl) ?_
          refine lv_iconst (v := nI 1) hx hb dX3_dayOf_34 (by decide) ?_
          refine z_lt hx hb (tgt := 47) F 1 dX3_dayOf_35 (by decide) hF1 (by decide) (fun c_35 => ?_) (fun c_35 => ?_)
          · skip
            refine lv_iconst (v := (-1)) hx hb dX3_dayOf_47 (by decide) ?_
            exact e_ri hx hb hr hlk (rfl) dX3_dayOf_48
          · skip
            refine lv_iload_n hx hb dX3_dayOf_38 rfl (lv_at hl 4 rfl) ?_
            refine lv_iload hx hb dX3_dayOf_39 (lv_at hl 0 rfl) ?_
            refine k_roS (As := [.int (nI (12 * y + m - 1))]) (rest := [.int x]) hF (c_X3_daysOf l G (12 * y + m - 1) (by omega)) mw_2_84 mw_2_85 mw_1_1 mw_2_86 hd_X3_daysOf ⟨Nat.le_of_ble_eq_true rfl, Nat.le_of_ble_eq_true rfl⟩ (Rd.of hKx hZ hS) (hP.sub (ws' := []) [] rfl) rfl hl.1 rfl (Nat.le_of_ble_eq_true rfl) dX3_dayOf_41 ⟨Nat.zero_le _, Nat.zero_le _⟩ ?_
            refine z_le hx hb (tgt := 49) F ((dys (12 * y + m - 1) : Nat) : Int) dX3_dayOf_44 (by decide) hF1 (toI (by omega)) (fun c_44 => ?_) (fun c_44 => ?_)
            · skip
              exact absurd c_44 (by omega)
            · skip
              refine lv_iconst (v := (-1)) hx hb dX3_dayOf_47 (by decide) ?_
              exact e_ri hx hb hr hlk (rfl) dX3_dayOf_48
        · skip
          exact absurd c_18 (by omega)
set_option maxHeartbeats 4000000 in
set_option maxRecDepth 100000 in
theorem c_X3_dateOf_k (l : Launch) (G : gT) (me : Nat) (o : Nat) (ou : Nat) (oh : Nat) (os : Nat) (op : Nat) (kc : Int32) (sv : Int32) (ab : Nat) (af : Nat) (an : Nat) (aw : Nat) (d : Nat) (w : Nat) (hd : d < 3650) (hw : w ≤ 3) : Ro l G yX3_dateOf cX3_dateOf 4 (some .int) 9 [(me, .inr (3, [.ref o, .ref ou, .ref oh, .ref os, .ref op, .int kc, .int sv]))] [.ref me, .int (nI d), .int (nI w)] (dtv d ((w : Nat) : Int)) := by
  refine Ro.mk (by decide) (Nat.le_of_ble_eq_true rfl) (fun pq eq sq mq bq tq cq ls hr hlk hF hKx hZ hP hl => ?_)
  have hx := hF.1
  have hb := hF.2.1
  have hml := hF.2.2.1
  have hown : sq.vm.findClass RX3 = some mq.cls := hF.2.2.2.1
  have hts : ∀ w ∈ GW, w.before _ sq = true := hF.2.2.2.2
  have hK := hKx.1
  have hl : lv_has ls 4 [(0, .ref me), (1, .int (nI d)), (2, .int (nI w))] := hl
  have hS : va_S (fun _ => False) sq.heap sq.heap [] := va_S.rf
  have hP : va_P G.1 vwCl [(me, .inr (3, [.ref o, .ref ou, .ref oh, .ref os, .ref op, .int kc, .int sv]))] sq.heap := hP
  have hm0 := mot_row hd
  refine lv_iload_n hx hb dX3_dateOf_0 rfl (lv_at hl 1 rfl) ?_
  refine k_roS (As := [.int (nI d)]) (rest := []) hF (c_X3_isDay l G (nI d) ((d : Nat) : Int) (toI (by omega))) mw_2_70 mw_2_71 mw_1_1 mw_2_72 hd_X3_isDay ⟨Nat.le_of_ble_eq_true rfl, Nat.le_of_ble_eq_true rfl⟩ (Rd.of hKx hZ hS) (hP.sub (ws' := []) [] rfl) rfl hl.1 rfl (Nat.le_of_ble_eq_true rfl) dX3_dateOf_1 ⟨Nat.zero_le _, Nat.zero_le _⟩ ?_
  refine p0_ne hx hb (tgt := 9) dX3_dateOf_4 (by decide) (fun c_4 => ?_) (fun c_4 => ?_)
  · skip
    refine lv_iload_n hx hb dX3_dateOf_9 rfl (lv_at hl 1 rfl) ?_
    refine k_roS (As := [.int (nI d)]) (rest := []) hF (c_X3_monthOf l G d (by omega)) mw_1_160 mw_1_161 mw_1_1 mw_1_162 hd_X3_monthOf ⟨Nat.le_of_ble_eq_true rfl, Nat.le_of_ble_eq_true rfl⟩ (Rd.of hKx hZ hS) (hP.sub (ws' := []) [] rfl) rfl hl.1 rfl (Nat.le_of_ble_eq_true rfl) dX3_dateOf_10 ⟨Nat.zero_le _, Nat.zero_le _⟩ ?_
    refine lv_istore_n (lv' := [(3, .int (nI (mot d))), (0, .ref me), (1, .int (nI d)), (2, .int (nI w))]) hx hb dX3_dateOf_13 rfl hl (by decide) rfl (fun ls hl => ?_)
    refine lv_iload_n hx hb dX3_dateOf_14 rfl (lv_at hl 3 rfl) ?_
    have sw_15 : (nI w).toInt = ((w : Nat) : Int) := (toI (by omega))
    rcases (show (((w : Nat) : Int) < 0 ∨ 3 < ((w : Nat) : Int)) ∨ ((w : Nat) : Int) = 0 ∨ ((w : Nat) : Int) = 1 ∨ ((w : Nat) : Int) = 2 ∨ ((w : Nat) : Int) = 3 by omega) with c_15 | c_15 | c_15 | c_15 | c_15
    · skip
      exact absurd c_15 (by omega)
    · skip
      refine lv_tableIn (tgt := 44) hx hb dX3_dateOf_15 (by rw [sw_15, c_15]; decide) (by rw [sw_15, c_15]; decide) (by rw [sw_15, c_15]; rfl) (by decide) ?_
      refine lv_iload_n hx hb dX3_dateOf_44 rfl (lv_at hl 2 rfl) ?_
      refine lv_sipush (v := nI 365) hx hb dX3_dateOf_45 (by decide) ?_
      refine n_idiv hx hb (by omega) (by omega) (by omega) dX3_dateOf_48 ?_
      exact e_ri hx hb hr hlk (by unfold dtv; rw [c_15]; first | rfl | exact congrArg nI (by omega) | (show nI _ = nI _; exact congrArg nI (by omega))) dX3_dateOf_49
    · skip
      refine lv_tableIn (tgt := 50) hx hb dX3_dateOf_15 (by rw [sw_15, c_15]; decide) (by rw [sw_15, c_15]; decide) (by rw [sw_15, c_15]; rfl) (by decide) ?_
      refine lv_iload_n hx hb dX3_dateOf_50 rfl (lv_at hl 0 rfl) ?_
      refine lv_bipush (v := nI 12) hx hb dX3_dateOf_51 (by decide) ?_
      refine n_irem hx hb (by omega) (by omega) (by omega) dX3_dateOf_53 ?_
      refine lv_iconst (v := nI 1) hx hb dX3_dateOf_54 (by decide) ?_
      refine n_iadd hx hb dX3_dateOf_55 ?_
      refine lv_cv (y := nI (1 + mot d % 12)) (congrArg nI (Nat.add_comm _ _)) ?_
      exact e_ri hx hb hr hlk (by unfold dtv; rw [c_15]; first | rfl | exact congrArg nI (by omega) | (show nI _ = nI _; exact congrArg nI (by omega))) dX3_dateOf_56
    · skip
      refine lv_tableIn (tgt := 57) hx hb dX3_dateOf_15 (by rw [sw_15, c_15]; decide) (by rw [sw_15, c_15]; decide) (by rw [sw_15, c_15]; rfl) (by decide) ?_
      refine lv_iload_n hx hb dX3_dateOf_57 rfl (lv_at hl 2 rfl) ?_
      refine lv_iload_n hx hb dX3_dateOf_58 rfl (lv_at hl 0 rfl) ?_
      refine k_roS (As := [.int (nI (mot d))]) (rest := [.int (nI d)]) hF (c_X3_firstDayOf l G (mot d) (by omega)) mw_2_80 mw_2_81 mw_1_1 mw_2_82 hd_X3_firstDayOf ⟨Nat.le_of_ble_eq_true rfl, Nat.le_of_ble_eq_true rfl⟩ (Rd.of hKx hZ hS) (hP.sub (ws' := []) [] rfl) rfl hl.1 rfl (Nat.le_of_ble_eq_true rfl) dX3_dateOf_59 ⟨Nat.zero_le _, Nat.zero_le _⟩ ?_
      refine lv_isub hx hb dX3_dateOf_62 ?_
      refine lv_iconst (v := nI 1) hx hb dX3_dateOf_63 (by decide) ?_
      refine lv_iadd hx hb dX3_dateOf_64 ?_
      refine lv_cv (y := nI (d + 1 - fdy (mot d))) (sub_add1 (by omega)) ?_
      exact e_ri hx hb hr hlk (by unfold dtv; rw [c_15]; first | rfl | exact congrArg nI (by omega) | (show nI _ = nI _; exact congrArg nI (by omega))) dX3_dateOf_65
    · skip
      refine lv_tableIn (tgt := 66) hx hb dX3_dateOf_15 (by rw [sw_15, c_15]; decide) (by rw [sw_15, c_15]; decide) (by rw [sw_15, c_15]; rfl) (by decide) ?_
      refine lv_iload_n hx hb dX3_dateOf_66 rfl (lv_at hl 0 rfl) ?_
      exact e_ri hx hb hr hlk (by unfold dtv; rw [c_15]; first | rfl | exact congrArg nI (by omega) | (show nI _ = nI _; exact congrArg nI (by omega))) dX3_dateOf_67
  · skip
    exact absurd c_4 (by omega)
set_option maxHeartbeats 4000000 in
set_option maxRecDepth 100000 in
theorem c_X3_dateOf_e (l : Launch) (G : gT) (me : Nat) (o : Nat) (ou : Nat) (oh : Nat) (os : Nat) (op : Nat) (kc : Int32) (sv : Int32) (ab : Nat) (af : Nat) (an : Nat) (aw : Nat) (w : Int32) (S0 : Int) (x : Int32) (hw1 : w.toInt = S0) (he : ¬ (0 ≤ S0 ∧ S0 ≤ 3649)) : Ro l G yX3_dateOf cX3_dateOf 4 (some .int) 9 [(me, .inr (3, [.ref o, .ref ou, .ref oh, .ref os, .ref op, .int kc, .int sv]))] [.ref me, .int w, .int x] (-1) := by
  refine Ro.mk (by decide) (Nat.le_of_ble_eq_true rfl) (fun pq eq sq mq bq tq cq ls hr hlk hF hKx hZ hP hl => ?_)
  have hx := hF.1
  have hb := hF.2.1
  have hml := hF.2.2.1
  have hown : sq.vm.findClass RX3 = some mq.cls := hF.2.2.2.1
  have hts : ∀ w ∈ GW, w.before _ sq = true := hF.2.2.2.2
  have hK := hKx.1
  have hl : lv_has ls 4 [(0, .ref me), (1, .int w), (2, .int x)] := hl
  have hS : va_S (fun _ => False) sq.heap sq.heap [] := va_S.rf
  have hP : va_P G.1 vwCl [(me, .inr (3, [.ref o, .ref ou, .ref oh, .ref os, .ref op, .int kc, .int sv]))] sq.heap := hP
  refine lv_iload_n hx hb dX3_dateOf_0 rfl (lv_at hl 1 rfl) ?_
  refine k_roS (As := [.int w]) (rest := []) hF (c_X3_isDay l G w S0 hw1) mw_2_70 mw_2_71 mw_1_1 mw_2_72 hd_X3_isDay ⟨Nat.le_of_ble_eq_true rfl, Nat.le_of_ble_eq_true rfl⟩ (Rd.of hKx hZ hS) (hP.sub (ws' := []) [] rfl) rfl hl.1 rfl (Nat.le_of_ble_eq_true rfl) dX3_dateOf_1 ⟨Nat.zero_le _, Nat.zero_le _⟩ ?_
  refine p0_ne hx hb (tgt := 9) dX3_dateOf_4 (by decide) (fun c_4 => ?_) (fun c_4 => ?_)
  · skip
    exact absurd c_4 (by omega)
  · skip
    refine lv_iconst (v := (-1)) hx hb dX3_dateOf_7 (by decide) ?_
    exact e_ri hx hb hr hlk (rfl) dX3_dateOf_8
set_option maxHeartbeats 4000000 in
set_option maxRecDepth 100000 in
theorem c_X3_dateOf_e2 (l : Launch) (G : gT) (me : Nat) (o : Nat) (ou : Nat) (oh : Nat) (os : Nat) (op : Nat) (kc : Int32) (sv : Int32) (ab : Nat) (af : Nat) (an : Nat) (aw : Nat) (d : Nat) (w : Int32) (S0 : Int) (hd : d < 3650) (hw1 : w.toInt = S0) (he : ¬ (0 ≤ S0 ∧ S0 ≤ 3)) : Ro l G yX3_dateOf cX3_dateOf 4 (some .int) 9 [(me, .inr (3, [.ref o, .ref ou, .ref oh, .ref os, .ref op, .int kc, .int sv]))] [.ref me, .int (nI d), .int w] (-2) := by
  refine Ro.mk (by decide) (Nat.le_of_ble_eq_true rfl) (fun pq eq sq mq bq tq cq ls hr hlk hF hKx hZ hP hl => ?_)
  have hx := hF.1
  have hb := hF.2.1
  have hml := hF.2.2.1
  have hown : sq.vm.findClass RX3 = some mq.cls := hF.2.2.2.1
  have hts : ∀ w ∈ GW, w.before _ sq = true := hF.2.2.2.2
  have hK := hKx.1
  have hl : lv_has ls 4 [(0, .ref me), (1, .int (nI d)), (2, .int w)] := hl
  have hS : va_S (fun _ => False) sq.heap sq.heap [] := va_S.rf
  have hP : va_P G.1 vwCl [(me, .inr (3, [.ref o, .ref ou, .ref oh, .ref os, .ref op, .int kc, .int sv]))] sq.heap := hP
  have hm0 := mot_row hd
  refine lv_iload_n hx hb dX3_dateOf_0 rfl (lv_at hl 1 rfl) ?_
  refine k_roS (As := [.int (nI d)]) (rest := []) hF (c_X3_isDay l G (nI d) ((d : Nat) : Int) (toI (by omega))) mw_2_70 mw_2_71 mw_1_1 mw_2_72 hd_X3_isDay ⟨Nat.le_of_ble_eq_true rfl, Nat.le_of_ble_eq_true rfl⟩ (Rd.of hKx hZ hS) (hP.sub (ws' := []) [] rfl) rfl hl.1 rfl (Nat.le_of_ble_eq_true rfl) dX3_dateOf_1 ⟨Nat.zero_le _, Nat.zero_le _⟩ ?_
  refine p0_ne hx hb (tgt := 9) dX3_dateOf_4 (by decide) (fun c_4 => ?_) (fun c_4 => ?_)
  · skip
    refine lv_iload_n hx hb dX3_dateOf_9 rfl (lv_at hl 1 rfl) ?_
    refine k_roS (As := [.int (nI d)]) (rest := []) hF (c_X3_monthOf l G d (by omega)) mw_1_160 mw_1_161 mw_1_1 mw_1_162 hd_X3_monthOf ⟨Nat.le_of_ble_eq_true rfl, Nat.le_of_ble_eq_true rfl⟩ (Rd.of hKx hZ hS) (hP.sub (ws' := []) [] rfl) rfl hl.1 rfl (Nat.le_of_ble_eq_true rfl) dX3_dateOf_10 ⟨Nat.zero_le _, Nat.zero_le _⟩ ?_
    refine lv_istore_n (lv' := [(3, .int (nI (mot d))), (0, .ref me), (1, .int (nI d)), (2, .int w)]) hx hb dX3_dateOf_13 rfl hl (by decide) rfl (fun ls hl => ?_)
    refine lv_iload_n hx hb dX3_dateOf_14 rfl (lv_at hl 3 rfl) ?_
    have sw_15 : w.toInt = S0 := hw1
    rcases (show (S0 < 0 ∨ 3 < S0) ∨ S0 = 0 ∨ S0 = 1 ∨ S0 = 2 ∨ S0 = 3 by omega) with c_15 | c_15 | c_15 | c_15 | c_15
    · skip
      refine lv_tableOut (tgt := 68) hx hb dX3_dateOf_15 (by rw [sw_15]; exact c_15) (by decide) ?_
      refine lv_bipush (v := (-2)) hx hb dX3_dateOf_68 (by decide) ?_
      exact e_ri hx hb hr hlk (rfl) dX3_dateOf_70
    · skip
      exact absurd c_15 (by omega)
    · skip
      exact absurd c_15 (by omega)
    · skip
      exact absurd c_15 (by omega)
    · skip
      exact absurd c_15 (by omega)
  · skip
    exact absurd c_4 (by omega)
set_option maxHeartbeats 4000000 in
set_option maxRecDepth 100000 in
theorem c_X3_sizeAs_k (l : Launch) (G : gT) (me : Nat) (o : Nat) (ou : Nat) (oh : Nat) (os : Nat) (op : Nat) (kc : Int32) (sv : Int32) (ab : Nat) (af : Nat) (an : Nat) (aw : Nat) (r : Nat → Int32) (m : Nat) (w : Nat) (hCt : Ct r) (hm : m < 120) (hw : w ≤ 4) : Ro l G yX3_sizeAs cX3_sizeAs 3 (some .int) 9 [(me, .inr (3, [.ref o, .ref ou, .ref oh, .ref os, .ref op, .int kc, .int sv])), (o, dO r ab af an aw), (ab, .inl (gI G, 1920, .inl (dB r))), (af, .inl (gI G, 120, .inl (dF r))), (an, .inl (gI G, 120, .inl (dN r))), (aw, .inl (gI G, 7, .inl (dW r)))] [.ref me, .int (nI m), .int (nI w)] (siz r m (-6) ((w : Nat) : Int)) := by
  refine Ro.mk (by decide) (Nat.le_of_ble_eq_true rfl) (fun pq eq sq mq bq tq cq ls hr hlk hF hKx hZ hP hl => ?_)
  have hx := hF.1
  have hb := hF.2.1
  have hml := hF.2.2.1
  have hown : sq.vm.findClass RX3 = some mq.cls := hF.2.2.2.1
  have hts : ∀ w ∈ GW, w.before _ sq = true := hF.2.2.2.2
  have hK := hKx.1
  have hl : lv_has ls 3 [(0, .ref me), (1, .int (nI m)), (2, .int (nI w))] := hl
  have hS : va_S (fun _ => False) sq.heap sq.heap [] := va_S.rf
  have hP : va_P G.1 vwCl [(me, .inr (3, [.ref o, .ref ou, .ref oh, .ref os, .ref op, .int kc, .int sv])), (o, dO r ab af an aw), (ab, .inl (gI G, 1920, .inl (dB r))), (af, .inl (gI G, 120, .inl (dF r))), (an, .inl (gI G, 120, .inl (dN r))), (aw, .inl (gI G, 7, .inl (dW r)))] sq.heap := hP
  refine lv_iload_n hx hb dX3_sizeAs_0 rfl (lv_at hl 1 rfl) ?_
  refine k_roS (As := [.int (nI m)]) (rest := []) hF (c_X3_isMonth l G (nI m) ((m : Nat) : Int) (toI (by omega))) mw_2_179 mw_1_189 mw_1_1 mw_1_190 hd_X3_isMonth ⟨Nat.le_of_ble_eq_true rfl, Nat.le_of_ble_eq_true rfl⟩ (Rd.of hKx hZ hS) (hP.sub (ws' := []) [] rfl) rfl hl.1 rfl (Nat.le_of_ble_eq_true rfl) dX3_sizeAs_1 ⟨Nat.zero_le _, Nat.zero_le _⟩ ?_
  refine p0_ne hx hb (tgt := 9) dX3_sizeAs_4 (by decide) (fun c_4 => ?_) (fun c_4 => ?_)
  · skip
    refine lv_iload_n hx hb dX3_sizeAs_9 rfl (lv_at hl 2 rfl) ?_
    refine z0_lt hx hb (tgt := 18) ((w : Nat) : Int) dX3_sizeAs_10 (by decide) (toI (by omega)) (fun c_10 => ?_) (fun c_10 => ?_)
    · skip
      exact absurd c_10 (by omega)
    · skip
      refine lv_iload_n hx hb dX3_sizeAs_13 rfl (lv_at hl 2 rfl) ?_
      refine lv_iconst (v := nI 4) hx hb dX3_sizeAs_14 (by decide) ?_
      refine z_le hx hb (tgt := 21) ((w : Nat) : Int) 4 dX3_sizeAs_15 (by decide) (toI (by omega)) (by decide) (fun c_15 => ?_) (fun c_15 => ?_)
      · skip
        refine lv_aload_n hx hb dX3_sizeAs_21 rfl (lv_at hl 0 rfl) ?_
        refine va_get (ci := 3) (v := .ref o) (C := RX3) (T := TX3) (N := 7) hx hb hts inGX3 hown hK hP 0 rfl rfl 0 (by decide) (hts _ mw_1_126) (fun _ h9 => h9) rfl dX3_sizeAs_22 ?_
        refine lv_iload_n hx hb dX3_sizeAs_25 rfl (lv_at hl 1 rfl) ?_
        refine lv_iload_n hx hb dX3_sizeAs_26 rfl (lv_at hl 2 rfl) ?_
        refine lv_aload_n hx hb dX3_sizeAs_27 rfl (lv_at hl 0 rfl) ?_
        refine va_get (ci := 3) (v := .ref o) (C := RX3) (T := TX3) (N := 7) hx hb hts inGX3 hown hK hP 0 rfl rfl 0 (by decide) (hts _ mw_1_126) (fun _ h9 => h9) rfl dX3_sizeAs_28 ?_
        refine lv_iload_n hx hb dX3_sizeAs_31 rfl (lv_at hl 1 rfl) ?_
        refine lv_bipush (v := (-6)) hx hb dX3_sizeAs_32 (by decide) ?_
        refine k_roV (ci := 0) (q0 := 1) (As := [.int (nI m), .int (-6)]) (rest := [.int (nI w), .int (nI m), .ref o]) hF (c_X0_twinOf l G o ab af an aw r m (-6) (-6) (by omega) (hCt.1) (by decide)) hKx hP ⟨_, rfl, rfl⟩ rfl rfl mw_2_206 mw_2_25 mw_2_26 mw_1_2 mw_2_27 hd_X0_twinOf ⟨Nat.le_of_ble_eq_true rfl, Nat.le_of_ble_eq_true rfl⟩ (Rd.of hKx hZ hS) (hP.sub (ws' := [(o, dO r ab af an aw), (ab, .inl (gI G, 1920, .inl (dB r))), (af, .inl (gI G, 120, .inl (dF r))), (an, .inl (gI G, 120, .inl (dN r))), (aw, .inl (gI G, 7, .inl (dW r)))]) [1, 2, 3, 4, 5] rfl) rfl hl.1 rfl (Nat.le_of_ble_eq_true rfl) dX3_sizeAs_34 ⟨Nat.zero_le _, Nat.zero_le _⟩ ?_
        refine k_roV (ci := 0) (q0 := 1) (As := [.int (nI m), .int (nI w), .int (tw r m (-6))]) (rest := []) hF (c_X0_sizeIn l G o ab af an aw r m (nI w) ((w : Nat) : Int) (tw r m (-6)) ((tw r m (-6)).toInt) (by omega) (hCt.2.1) (toI (by omega)) rfl) hKx hP ⟨_, rfl, rfl⟩ rfl rfl mw_2_207 mw_1_196 mw_1_197 mw_1_2 mw_1_198 hd_X0_sizeIn ⟨Nat.le_of_ble_eq_true rfl, Nat.le_of_ble_eq_true rfl⟩ (Rd.of hKx hZ hS) (hP.sub (ws' := [(o, dO r ab af an aw), (ab, .inl (gI G, 1920, .inl (dB r))), (af, .inl (gI G, 120, .inl (dF r))), (an, .inl (gI G, 120, .inl (dN r))), (aw, .inl (gI G, 7, .inl (dW r)))]) [1, 2, 3, 4, 5] rfl) rfl hl.1 rfl (Nat.le_of_ble_eq_true rfl) dX3_sizeAs_37 ⟨Nat.zero_le _, Nat.zero_le _⟩ ?_
        exact e_ri hx hb hr hlk (szc_tw) dX3_sizeAs_40
      · skip
        exact absurd c_15 (by omega)
  · skip
    exact absurd c_4 (by omega)
set_option maxHeartbeats 4000000 in
set_option maxRecDepth 100000 in
theorem c_X3_sizeAs_e (l : Launch) (G : gT) (me : Nat) (o : Nat) (ou : Nat) (oh : Nat) (os : Nat) (op : Nat) (kc : Int32) (sv : Int32) (ab : Nat) (af : Nat) (an : Nat) (aw : Nat) (w : Int32) (S0 : Int) (x : Int32) (hw1 : w.toInt = S0) (he : ¬ (0 ≤ S0 ∧ S0 ≤ 119)) : Ro l G yX3_sizeAs cX3_sizeAs 3 (some .int) 9 [(me, .inr (3, [.ref o, .ref ou, .ref oh, .ref os, .ref op, .int kc, .int sv]))] [.ref me, .int w, .int x] (-1) := by
  refine Ro.mk (by decide) (Nat.le_of_ble_eq_true rfl) (fun pq eq sq mq bq tq cq ls hr hlk hF hKx hZ hP hl => ?_)
  have hx := hF.1
  have hb := hF.2.1
  have hml := hF.2.2.1
  have hown : sq.vm.findClass RX3 = some mq.cls := hF.2.2.2.1
  have hts : ∀ w ∈ GW, w.before _ sq = true := hF.2.2.2.2
  have hK := hKx.1
  have hl : lv_has ls 3 [(0, .ref me), (1, .int w), (2, .int x)] := hl
  have hS : va_S (fun _ => False) sq.heap sq.heap [] := va_S.rf
  have hP : va_P G.1 vwCl [(me, .inr (3, [.ref o, .ref ou, .ref oh, .ref os, .ref op, .int kc, .int sv]))] sq.heap := hP
  refine lv_iload_n hx hb dX3_sizeAs_0 rfl (lv_at hl 1 rfl) ?_
  refine k_roS (As := [.int w]) (rest := []) hF (c_X3_isMonth l G w S0 hw1) mw_2_179 mw_1_189 mw_1_1 mw_1_190 hd_X3_isMonth ⟨Nat.le_of_ble_eq_true rfl, Nat.le_of_ble_eq_true rfl⟩ (Rd.of hKx hZ hS) (hP.sub (ws' := []) [] rfl) rfl hl.1 rfl (Nat.le_of_ble_eq_true rfl) dX3_sizeAs_1 ⟨Nat.zero_le _, Nat.zero_le _⟩ ?_
  refine p0_ne hx hb (tgt := 9) dX3_sizeAs_4 (by decide) (fun c_4 => ?_) (fun c_4 => ?_)
  · skip
    exact absurd c_4 (by omega)
  · skip
    refine lv_iconst (v := (-1)) hx hb dX3_sizeAs_7 (by decide) ?_
    exact e_ri hx hb hr hlk (rfl) dX3_sizeAs_8
set_option maxHeartbeats 4000000 in
set_option maxRecDepth 100000 in
theorem c_X3_sizeAs_e2 (l : Launch) (G : gT) (me : Nat) (o : Nat) (ou : Nat) (oh : Nat) (os : Nat) (op : Nat) (kc : Int32) (sv : Int32) (ab : Nat) (af : Nat) (an : Nat) (aw : Nat) (m : Nat) (w : Int32) (S0 : Int) (hm : m < 120) (hw1 : w.toInt = S0) (he : ¬ (0 ≤ S0 ∧ S0 ≤ 4)) : Ro l G yX3_sizeAs cX3_sizeAs 3 (some .int) 9 [(me, .inr (3, [.ref o, .ref ou, .ref oh, .ref os, .ref op, .int kc, .int sv]))] [.ref me, .int (nI m), .int w] (-2) := by
  refine Ro.mk (by decide) (Nat.le_of_ble_eq_true rfl) (fun pq eq sq mq bq tq cq ls hr hlk hF hKx hZ hP hl => ?_)
  have hx := hF.1
  have hb := hF.2.1
  have hml := hF.2.2.1
  have hown : sq.vm.findClass RX3 = some mq.cls := hF.2.2.2.1
  have hts : ∀ w ∈ GW, w.before _ sq = true := hF.2.2.2.2
  have hK := hKx.1
  have hl : lv_has ls 3 [(0, .ref me), (1, .int (nI m)), (2, .int w)] := hl
  have hS : va_S (fun _ => False) sq.heap sq.heap [] := va_S.rf
  have hP : va_P G.1 vwCl [(me, .inr (3, [.ref o, .ref ou, .ref oh, .ref os, .ref op, .int kc, .int sv]))] sq.heap := hP
  refine lv_iload_n hx hb dX3_sizeAs_0 rfl (lv_at hl 1 rfl) ?_
  refine k_roS (As := [.int (nI m)]) (rest := []) hF (c_X3_isMonth l G (nI m) ((m : Nat) : Int) (toI (by omega))) mw_2_179 mw_1_189 mw_1_1 mw_1_190 hd_X3_isMonth ⟨Nat.le_of_ble_eq_true rfl, Nat.le_of_ble_eq_true rfl⟩ (Rd.of hKx hZ hS) (hP.sub (ws' := []) [] rfl) rfl hl.1 rfl (Nat.le_of_ble_eq_true rfl) dX3_sizeAs_1 ⟨Nat.zero_le _, Nat.zero_le _⟩ ?_
  refine p0_ne hx hb (tgt := 9) dX3_sizeAs_4 (by decide) (fun c_4 => ?_) (fun c_4 => ?_)
  · skip
    refine lv_iload_n hx hb dX3_sizeAs_9 rfl (lv_at hl 2 rfl) ?_
    refine z0_lt hx hb (tgt := 18) S0 dX3_sizeAs_10 (by decide) hw1 (fun c_10 => ?_) (fun c_10 => ?_)
    · skip
      refine lv_bipush (v := (-2)) hx hb dX3_sizeAs_18 (by decide) ?_
      exact e_ri hx hb hr hlk (rfl) dX3_sizeAs_20
    · skip
      refine lv_iload_n hx hb dX3_sizeAs_13 rfl (lv_at hl 2 rfl) ?_
      refine lv_iconst (v := nI 4) hx hb dX3_sizeAs_14 (by decide) ?_
      refine z_le hx hb (tgt := 21) S0 4 dX3_sizeAs_15 (by decide) hw1 (by decide) (fun c_15 => ?_) (fun c_15 => ?_)
      · skip
        exact absurd c_15 (by omega)
      · skip
        refine lv_bipush (v := (-2)) hx hb dX3_sizeAs_18 (by decide) ?_
        exact e_ri hx hb hr hlk (rfl) dX3_sizeAs_20
  · skip
    exact absurd c_4 (by omega)
set_option maxHeartbeats 4000000 in
set_option maxRecDepth 100000 in
theorem c_X3_longest_k (l : Launch) (G : gT) (sz : Nat) (me : Nat) (o : Nat) (ou : Nat) (oh : Nat) (os : Nat) (op : Nat) (kc : Int32) (sv : Int32) (ab : Nat) (af : Nat) (an : Nat) (aw : Nat) (r : Nat → Int32) (s : Nat) (f : Nat) (t : Nat) (w : Nat) (hCv : Cv r) (hs : s < 16) (hft : f ≤ t) (ht : t < 3650) (hw : w ≤ 1) : Rw l G yX3_longest cX3_longest 10 (some .int) 9 sz [(me, .inr (3, [.ref o, .ref ou, .ref oh, .ref os, .ref op, .int kc, .int sv])), (o, dO r ab af an aw), (ab, .inl (gI G, 1920, .inl (dB r))), (af, .inl (gI G, 120, .inl (dF r))), (an, .inl (gI G, 120, .inl (dN r))), (aw, .inl (gI G, 7, .inl (dW r)))] [.ref me, .int (nI s), .int (nI f), .int (nI t), .int (nI w)] (lgs r s f t w) [(me, .inr (3, [.ref o, .ref ou, .ref oh, .ref os, .ref op, .int kc, .int sv])), (o, dO (lmk r s (mot f) (mot t + 1 - mot f)) ab af an aw), (ab, .inl (gI G, 1920, .inl (dB (lmk r s (mot f) (mot t + 1 - mot f))))), (af, .inl (gI G, 120, .inl (dF (lmk r s (mot f) (mot t + 1 - mot f))))), (an, .inl (gI G, 120, .inl (dN (lmk r s (mot f) (mot t + 1 - mot f))))), (aw, .inl (gI G, 7, .inl (dW (lmk r s (mot f) (mot t + 1 - mot f)))))] := by
  refine Rw.mk (by decide) (Nat.le_of_ble_eq_true rfl) (fun pq eq sq mq bq tq cq ls A hr hlk hF hKx hZ hA hP hD hS hl => ?_)
  have hx := hF.1
  have hb := hF.2.1
  have hml := hF.2.2.1
  have hown : sq.vm.findClass RX3 = some mq.cls := hF.2.2.2.1
  have hts : ∀ w ∈ GW, w.before _ sq = true := hF.2.2.2.2
  have hK := hKx.1
  have hl : lv_has ls 10 [(0, .ref me), (1, .int (nI s)), (2, .int (nI f)), (3, .int (nI t)), (4, .int (nI w))] := hl
  have hP : va_P G.1 vwCl [(me, .inr (3, [.ref o, .ref ou, .ref oh, .ref os, .ref op, .int kc, .int sv])), (o, dO r ab af an aw), (ab, .inl (gI G, 1920, .inl (dB r))), (af, .inl (gI G, 120, .inl (dF r))), (an, .inl (gI G, 120, .inl (dN r))), (aw, .inl (gI G, 7, .inl (dW r)))] sq.heap := hP
  have hD : va_D A [(me, .inr (3, [.ref o, .ref ou, .ref oh, .ref os, .ref op, .int kc, .int sv])), (o, dO r ab af an aw), (ab, .inl (gI G, 1920, .inl (dB r))), (af, .inl (gI G, 120, .inl (dF r))), (an, .inl (gI G, 120, .inl (dN r))), (aw, .inl (gI G, 7, .inl (dW r)))] := hD
  have hmf := mot_mono ht hft
  have hmt := mot_row ht
  have hf : f < 3650 := by omega
  refine lv_iload_n hx hb dX3_longest_0 rfl (lv_at hl 1 rfl) ?_
  refine lv_iload_n hx hb dX3_longest_1 rfl (lv_at hl 2 rfl) ?_
  refine lv_iload_n hx hb dX3_longest_2 rfl (lv_at hl 3 rfl) ?_
  refine k_roS (As := [.int (nI s), .int (nI f), .int (nI t)]) (rest := []) hF (c_X3_subjectSpanError l G (nI s) ((s : Nat) : Int) (nI f) ((f : Nat) : Int) (nI t) ((t : Nat) : Int) (toI (by omega)) (toI (by omega)) (toI (by omega))) mw_2_61 mw_2_62 mw_1_1 mw_2_63 hd_X3_subjectSpanError ⟨Nat.le_of_ble_eq_true rfl, Nat.le_of_ble_eq_true rfl⟩ (Rd.of hKx hZ hS) (hP.sub (ws' := []) [] rfl) rfl hl.1 rfl (Nat.le_of_ble_eq_true rfl) dX3_longest_3 ⟨Nat.zero_le _, Nat.zero_le _⟩ ?_
  refine lv_cv (y := nI 0) (eDy_0 (by omega) (by omega)) ?_
  refine lv_istore (lv' := [(5, .int (nI 0)), (0, .ref me), (1, .int (nI s)), (2, .int (nI f)), (3, .int (nI t)), (4, .int (nI w))]) hx hb dX3_longest_6 hl (by decide) rfl (fun ls hl => ?_)
  refine lv_iload hx hb dX3_longest_8 (lv_at hl 0 rfl) ?_
  refine z0_eq hx hb (tgt := 16) 0 dX3_longest_10 (by decide) (by decide) (fun c_10 => ?_) (fun c_10 => ?_)
  · skip
    refine wjoinH 30 [] (fun H locs ls => va_P G.1 vwCl [(me, .inr (3, [.ref o, .ref ou, .ref oh, .ref os, .ref op, .int kc, .int sv])), (o, dO r ab af an aw), (ab, .inl (gI G, 1920, .inl (dB r))), (af, .inl (gI G, 120, .inl (dF r))), (an, .inl (gI G, 120, .inl (dN r))), (aw, .inl (gI G, 7, .inl (dW r)))] H ∧ va_D A [(me, .inr (3, [.ref o, .ref ou, .ref oh, .ref os, .ref op, .int kc, .int sv])), (o, dO r ab af an aw), (ab, .inl (gI G, 1920, .inl (dB r))), (af, .inl (gI G, 120, .inl (dF r))), (an, .inl (gI G, 120, .inl (dN r))), (aw, .inl (gI G, 7, .inl (dW r)))] ∧ va_S A sq.heap H locs ∧ lv_has ls 10 [(0, .ref me), (1, .int (nI s)), (2, .int (nI f)), (3, .int (nI t)), (4, .int (nI w))]) ?_ (fun J30 => ?_)
    · skip
      intro H locs ls ⟨hP, hD, hS, hl⟩
      refine lv_aload_n hx hb dX3_longest_30 rfl (lv_at hl 0 rfl) ?_
      refine va_get (ci := 3) (v := .ref o) (C := RX3) (T := TX3) (N := 7) hx hb hts inGX3 hown hK hP 0 rfl rfl 0 (by decide) (hts _ mw_1_126) (fun _ h9 => h9) rfl dX3_longest_31 ?_
      refine lv_iload_n hx hb dX3_longest_34 rfl (lv_at hl 1 rfl) ?_
      refine lv_iload_n hx hb dX3_longest_35 rfl (lv_at hl 2 rfl) ?_
      refine lv_iload_n hx hb dX3_longest_36 rfl (lv_at hl 3 rfl) ?_
      refine k_rvV (ci := 0) (q0 := 1) (As := [.int (nI s), .int (nI f), .int (nI t)]) (rest := []) (wr := [(me, .inr (3, [.ref o, .ref ou, .ref oh, .ref os, .ref op, .int kc, .int sv]))]) hF (c_X0_lookAtMarkedMonths l G _ o ab af an aw r s f t (by omega) (by omega) (by omega) (by omega)) ⟨_, rfl, rfl⟩ rfl rfl mw_2_162 mw_2_163 mw_2_164 mw_1_2 mw_2_165 hd_X0_lookAtMarkedMonths ⟨Nat.le_of_ble_eq_true rfl, Nat.le_of_ble_eq_true rfl⟩ hKx hZ hS hP hD hA [1, 2, 3, 4, 5] [0] rfl rfl (by decide) (by decide) (by decide) rfl rfl hl.1 rfl (Nat.le_of_ble_eq_true rfl) dX3_longest_37 ⟨Nat.zero_le _, Nat.zero_le _⟩ (fun H locs hP hD hS => ?_)
      have hP : va_P G.1 vwCl [(me, .inr (3, [.ref o, .ref ou, .ref oh, .ref os, .ref op, .int kc, .int sv])), (o, dO (lmk r s (mot f) (mot t + 1 - mot f)) ab af an aw), (ab, .inl (gI G, 1920, .inl (dB (lmk r s (mot f) (mot t + 1 - mot f))))), (af, .inl (gI G, 120, .inl (dF (lmk r s (mot f) (mot t + 1 - mot f))))), (an, .inl (gI G, 120, .inl (dN (lmk r s (mot f) (mot t + 1 - mot f))))), (aw, .inl (gI G, 7, .inl (dW (lmk r s (mot f) (mot t + 1 - mot f)))))] H := hP
      have hD : va_D A [(me, .inr (3, [.ref o, .ref ou, .ref oh, .ref os, .ref op, .int kc, .int sv])), (o, dO (lmk r s (mot f) (mot t + 1 - mot f)) ab af an aw), (ab, .inl (gI G, 1920, .inl (dB (lmk r s (mot f) (mot t + 1 - mot f))))), (af, .inl (gI G, 120, .inl (dF (lmk r s (mot f) (mot t + 1 - mot f))))), (an, .inl (gI G, 120, .inl (dN (lmk r s (mot f) (mot t + 1 - mot f))))), (aw, .inl (gI G, 7, .inl (dW (lmk r s (mot f) (mot t + 1 - mot f)))))] := hD
      refine lv_iconst (v := nI 0) hx hb dX3_longest_40 (by decide) ?_
      refine lv_istore (lv' := [(6, .int (nI 0)), (0, .ref me), (1, .int (nI s)), (2, .int (nI f)), (3, .int (nI t)), (4, .int (nI w))]) hx hb dX3_longest_41 hl (by decide) rfl (fun ls hl => ?_)
      refine lv_iconst (v := nI 0) hx hb dX3_longest_43 (by decide) ?_
      refine lv_istore (lv' := [(7, .int (nI 0)), (6, .int (nI 0)), (0, .ref me), (1, .int (nI s)), (2, .int (nI f)), (3, .int (nI t)), (4, .int (nI w))]) hx hb dX3_longest_44 hl (by decide) rfl (fun ls hl => ?_)
      refine lv_bipush (v := (-6)) hx hb dX3_longest_46 (by decide) ?_
      refine lv_istore (lv' := [(8, .int (-6)), (7, .int (nI 0)), (6, .int (nI 0)), (0, .ref me), (1, .int (nI s)), (2, .int (nI f)), (3, .int (nI t)), (4, .int (nI w))]) hx hb dX3_longest_48 hl (by decide) rfl (fun ls hl => ?_)
      refine lv_iload_n hx hb dX3_longest_50 rfl (lv_at hl 5 rfl) ?_
      refine lv_istore (lv' := [(9, .int (nI f)), (8, .int (-6)), (7, .int (nI 0)), (6, .int (nI 0)), (0, .ref me), (1, .int (nI s)), (2, .int (nI f)), (3, .int (nI t)), (4, .int (nI w))]) hx hb dX3_longest_51 hl (by decide) rfl (fun ls hl => ?_)
      have hPj := hP.sub (ws' := [(me, .inr (3, [.ref o, .ref ou, .ref oh, .ref os, .ref op, .int kc, .int sv])), (o, dO (lmk r s (mot f) (mot t + 1 - mot f)) ab af an aw), (ab, .inl (gI G, 1920, .inl (dB (lmk r s (mot f) (mot t + 1 - mot f))))), (af, .inl (gI G, 120, .inl (dF (lmk r s (mot f) (mot t + 1 - mot f))))), (an, .inl (gI G, 120, .inl (dN (lmk r s (mot f) (mot t + 1 - mot f))))), (aw, .inl (gI G, 7, .inl (dW (lmk r s (mot f) (mot t + 1 - mot f)))))]) [0, 1, 2, 3, 4, 5] rfl
      have hDj := hD.sub (ws' := [(me, .inr (3, [.ref o, .ref ou, .ref oh, .ref os, .ref op, .int kc, .int sv])), (o, dO (lmk r s (mot f) (mot t + 1 - mot f)) ab af an aw), (ab, .inl (gI G, 1920, .inl (dB (lmk r s (mot f) (mot t + 1 - mot f))))), (af, .inl (gI G, 120, .inl (dF (lmk r s (mot f) (mot t + 1 - mot f))))), (an, .inl (gI G, 120, .inl (dN (lmk r s (mot f) (mot t + 1 - mot f))))), (aw, .inl (gI G, 7, .inl (dW (lmk r s (mot f) (mot t + 1 - mot f)))))]) [0, 1, 2, 3, 4, 5] (by decide) rfl
      refine wloopH [] (fun n H locs ls => (n ≤ t + 1 - f) ∧ va_P G.1 vwCl [(me, .inr (3, [.ref o, .ref ou, .ref oh, .ref os, .ref op, .int kc, .int sv])), (o, dO (lmk r s (mot f) (mot t + 1 - mot f)) ab af an aw), (ab, .inl (gI G, 1920, .inl (dB (lmk r s (mot f) (mot t + 1 - mot f))))), (af, .inl (gI G, 120, .inl (dF (lmk r s (mot f) (mot t + 1 - mot f))))), (an, .inl (gI G, 120, .inl (dN (lmk r s (mot f) (mot t + 1 - mot f))))), (aw, .inl (gI G, 7, .inl (dW (lmk r s (mot f) (mot t + 1 - mot f)))))] H ∧ va_D A [(me, .inr (3, [.ref o, .ref ou, .ref oh, .ref os, .ref op, .int kc, .int sv])), (o, dO (lmk r s (mot f) (mot t + 1 - mot f)) ab af an aw), (ab, .inl (gI G, 1920, .inl (dB (lmk r s (mot f) (mot t + 1 - mot f))))), (af, .inl (gI G, 120, .inl (dF (lmk r s (mot f) (mot t + 1 - mot f))))), (an, .inl (gI G, 120, .inl (dN (lmk r s (mot f) (mot t + 1 - mot f))))), (aw, .inl (gI G, 7, .inl (dW (lmk r s (mot f) (mot t + 1 - mot f)))))] ∧ va_S A sq.heap H locs ∧ lv_has ls 10 [(9, .int (nI (f + n))), (8, .int (lgf r s f t (n))), (7, .int (nI (lgb r s f t (n)))), (6, .int (nI (lgr r s f t (n)))), (0, .ref me), (1, .int (nI s)), (2, .int (nI f)), (3, .int (nI t)), (4, .int (nI w))]) (fun n => t + 1 - f - n) ?_ 0 ⟨(by omega), hPj, hDj, hS, lv_sub hl [0, 1, 2, 3, 4, 5, 6, 7, 8] (lvc (by first | rfl | exact congrArg nI (by omega)) (lvr (lvc (by first | rfl | exact congrArg nI (by omega)) (lvc (by first | rfl | exact congrArg nI (by omega)) (lvr (lvr (lvr (lvr (lvr rfl)))))))))⟩
      intro n ih
      intro H locs ls ⟨hn, hP, hD, hS, hl⟩
      have hlr := lgr_le r s f t n
      have hlr1 := lgr_le r s f t (n + 1)
      have hlb := lgb_le r s f t n
      refine lv_iload hx hb dX3_longest_53 (lv_at hl 0 rfl) ?_
      refine lv_iload_n hx hb dX3_longest_55 rfl (lv_at hl 7 rfl) ?_
      refine z_gt hx hb (tgt := 108) ((f + n : Nat) : Int) ((t : Nat) : Int) dX3_longest_56 (by decide) (toI (by omega)) (toI (by omega)) (fun c_56 => ?_) (fun c_56 => ?_)
      · skip
        have hj2 : n = t + 1 - f := by omega
        subst hj2
        refine lv_iload hx hb dX3_longest_108 (lv_at hl 8 rfl) ?_
        refine z0_ne hx hb (tgt := 118) ((w : Nat) : Int) dX3_longest_110 (by decide) (toI (by omega)) (fun c_110 => ?_) (fun c_110 => ?_)
        · skip
          refine lv_iload hx hb dX3_longest_118 (lv_at hl 1 rfl) ?_
          have hPj := hP.sub (ws' := [(me, .inr (3, [.ref o, .ref ou, .ref oh, .ref os, .ref op, .int kc, .int sv])), (o, dO (lmk r s (mot f) (mot t + 1 - mot f)) ab af an aw), (ab, .inl (gI G, 1920, .inl (dB (lmk r s (mot f) (mot t + 1 - mot f))))), (af, .inl (gI G, 120, .inl (dF (lmk r s (mot f) (mot t + 1 - mot f))))), (an, .inl (gI G, 120, .inl (dN (lmk r s (mot f) (mot t + 1 - mot f))))), (aw, .inl (gI G, 7, .inl (dW (lmk r s (mot f) (mot t + 1 - mot f)))))]) [0, 1, 2, 3, 4, 5] rfl
          exact e_wi hx hb hr hlk hPj hS (by unfold lgs; first | (rw [if_pos (show w = 0 by omega)]; done) | (rw [if_neg (show ¬ w = 0 by omega)]; done)) dX3_longest_120
        · skip
          refine lv_iload hx hb dX3_longest_113 (lv_at hl 2 rfl) ?_
          refine lv_goto (tgt := 120) hx hb dX3_longest_115 (by decide) ?_
          have hPj := hP.sub (ws' := [(me, .inr (3, [.ref o, .ref ou, .ref oh, .ref os, .ref op, .int kc, .int sv])), (o, dO (lmk r s (mot f) (mot t + 1 - mot f)) ab af an aw), (ab, .inl (gI G, 1920, .inl (dB (lmk r s (mot f) (mot t + 1 - mot f))))), (af, .inl (gI G, 120, .inl (dF (lmk r s (mot f) (mot t + 1 - mot f))))), (an, .inl (gI G, 120, .inl (dN (lmk r s (mot f) (mot t + 1 - mot f))))), (aw, .inl (gI G, 7, .inl (dW (lmk r s (mot f) (mot t + 1 - mot f)))))]) [0, 1, 2, 3, 4, 5] rfl
          exact e_wi hx hb hr hlk hPj hS (by unfold lgs; first | (rw [if_pos (show w = 0 by omega)]; done) | (rw [if_neg (show ¬ w = 0 by omega)]; done)) dX3_longest_120
      · skip
        refine lv_aload_n hx hb dX3_longest_59 rfl (lv_at hl 4 rfl) ?_
        refine va_get (ci := 3) (v := .ref o) (C := RX3) (T := TX3) (N := 7) hx hb hts inGX3 hown hK hP 0 rfl rfl 0 (by decide) (hts _ mw_1_126) (fun _ h9 => h9) rfl dX3_longest_60 ?_
        refine lv_iload_n hx hb dX3_longest_63 rfl (lv_at hl 5 rfl) ?_
        refine lv_iload hx hb dX3_longest_64 (lv_at hl 0 rfl) ?_
        refine k_roV (ci := 0) (q0 := 1) (As := [.int (nI s), .int (nI (f + n))]) (rest := []) hF (c_X0_isMarkedOn l G o ab af an aw (lmk r s (mot f) (mot t + 1 - mot f)) s (f + n) (by omega) (by omega)) hKx hP ⟨_, rfl, rfl⟩ rfl rfl mw_2_166 mw_2_167 mw_2_168 mw_1_2 mw_2_169 hd_X0_isMarkedOn ⟨Nat.le_of_ble_eq_true rfl, Nat.le_of_ble_eq_true rfl⟩ (Rd.of hKx hZ hS) (hP.sub (ws' := [(o, dO (lmk r s (mot f) (mot t + 1 - mot f)) ab af an aw), (ab, .inl (gI G, 1920, .inl (dB (lmk r s (mot f) (mot t + 1 - mot f))))), (af, .inl (gI G, 120, .inl (dF (lmk r s (mot f) (mot t + 1 - mot f))))), (an, .inl (gI G, 120, .inl (dN (lmk r s (mot f) (mot t + 1 - mot f))))), (aw, .inl (gI G, 7, .inl (dW (lmk r s (mot f) (mot t + 1 - mot f)))))]) [1, 2, 3, 4, 5] rfl) rfl hl.1 rfl (Nat.le_of_ble_eq_true rfl) dX3_longest_66 ⟨Nat.zero_le _, Nat.zero_le _⟩ ?_
        refine lv_cv (y := pI (mkd r s (f + n))) (congrArg pI (propext (mkd_lmk hCv.1 (by omega)))) ?_
        refine p0_eq hx hb (tgt := 79) dX3_longest_69 (by decide) (fun c_69 => ?_) (fun c_69 => ?_)
        · skip
          refine lv_iconst (v := nI 0) hx hb dX3_longest_79 (by decide) ?_
          refine lv_cv (y := nI (lgr r s f t (n + 1))) (congrArg nI (lgr_f c_69)) ?_
          refine lv_istore (lv' := [(6, .int (nI (lgr r s f t (n + 1)))), (9, .int (nI (f + n))), (8, .int (lgf r s f t (n))), (7, .int (nI (lgb r s f t (n)))), (0, .ref me), (1, .int (nI s)), (2, .int (nI f)), (3, .int (nI t)), (4, .int (nI w))]) hx hb dX3_longest_80 hl (by decide) rfl (fun ls hl => ?_)
          refine lv_iload hx hb dX3_longest_82 (lv_at hl 0 rfl) ?_
          refine lv_iload hx hb dX3_longest_84 (lv_at hl 3 rfl) ?_
          refine z_le hx hb (tgt := 102) ((lgr r s f t (n + 1) : Nat) : Int) ((lgb r s f t (n) : Nat) : Int) dX3_longest_86 (by decide) (toI (by omega)) (toI (by omega)) (fun c_86 => ?_) (fun c_86 => ?_)
          · skip
            refine lv_iinc (v := nI (f + n + 1)) (lv' := [(9, .int (nI (f + n + 1))), (6, .int (nI (lgr r s f t (n + 1)))), (8, .int (lgf r s f t (n))), (7, .int (nI (lgb r s f t (n)))), (0, .ref me), (1, .int (nI s)), (2, .int (nI f)), (3, .int (nI t)), (4, .int (nI w))]) hx hb dX3_longest_102 hl (k := 1) rfl (nI_add _ _) (by decide) rfl (fun ls hl => ?_)
            refine lv_goto (tgt := 53) hx hb dX3_longest_105 (by decide) ?_
            exact ih (n + 1) _ _ ls (by omega) ⟨(by omega), (hP.sub (ws' := [(me, .inr (3, [.ref o, .ref ou, .ref oh, .ref os, .ref op, .int kc, .int sv])), (o, dO (lmk r s (mot f) (mot t + 1 - mot f)) ab af an aw), (ab, .inl (gI G, 1920, .inl (dB (lmk r s (mot f) (mot t + 1 - mot f))))), (af, .inl (gI G, 120, .inl (dF (lmk r s (mot f) (mot t + 1 - mot f))))), (an, .inl (gI G, 120, .inl (dN (lmk r s (mot f) (mot t + 1 - mot f))))), (aw, .inl (gI G, 7, .inl (dW (lmk r s (mot f) (mot t + 1 - mot f)))))]) [0, 1, 2, 3, 4, 5] rfl), (hD.sub (ws' := [(me, .inr (3, [.ref o, .ref ou, .ref oh, .ref os, .ref op, .int kc, .int sv])), (o, dO (lmk r s (mot f) (mot t + 1 - mot f)) ab af an aw), (ab, .inl (gI G, 1920, .inl (dB (lmk r s (mot f) (mot t + 1 - mot f))))), (af, .inl (gI G, 120, .inl (dF (lmk r s (mot f) (mot t + 1 - mot f))))), (an, .inl (gI G, 120, .inl (dN (lmk r s (mot f) (mot t + 1 - mot f))))), (aw, .inl (gI G, 7, .inl (dW (lmk r s (mot f) (mot t + 1 - mot f)))))]) [0, 1, 2, 3, 4, 5] (by decide) rfl), hS, lv_sub hl [0, 2, 3, 1, 4, 5, 6, 7, 8] (lvc (by first | rfl | exact congrArg nI (by omega)) (lvc (by first | exact lgf_t (by omega) | exact lgf_f (by omega)) (lvc (congrArg nI (by first | exact lgb_t (by omega) | exact lgb_f (by omega))) (lvc (by first | rfl | exact congrArg nI (by omega)) (lvr (lvr (lvr (lvr (lvr rfl)))))))))⟩
          · skip
            refine lv_iload hx hb dX3_longest_89 (lv_at hl 0 rfl) ?_
            refine lv_istore (lv' := [(7, .int (nI (lgr r s f t (n + 1)))), (6, .int (nI (lgr r s f t (n + 1)))), (9, .int (nI (f + n))), (8, .int (lgf r s f t (n))), (0, .ref me), (1, .int (nI s)), (2, .int (nI f)), (3, .int (nI t)), (4, .int (nI w))]) hx hb dX3_longest_91 hl (by decide) rfl (fun ls hl => ?_)
            refine lv_iload hx hb dX3_longest_93 (lv_at hl 2 rfl) ?_
            refine lv_iload hx hb dX3_longest_95 (lv_at hl 1 rfl) ?_
            refine lv_isub hx hb dX3_longest_97 ?_
            refine lv_iconst (v := nI 1) hx hb dX3_longest_98 (by decide) ?_
            refine lv_iadd hx hb dX3_longest_99 ?_
            refine lv_cv (y := nI (f + n + 1 - lgr r s f t (n + 1))) (sub_add1 (by omega)) ?_
            refine lv_istore (lv' := [(8, .int (nI (f + n + 1 - lgr r s f t (n + 1)))), (7, .int (nI (lgr r s f t (n + 1)))), (6, .int (nI (lgr r s f t (n + 1)))), (9, .int (nI (f + n))), (0, .ref me), (1, .int (nI s)), (2, .int (nI f)), (3, .int (nI t)), (4, .int (nI w))]) hx hb dX3_longest_100 hl (by decide) rfl (fun ls hl => ?_)
            refine lv_iinc (v := nI (f + n + 1)) (lv' := [(9, .int (nI (f + n + 1))), (8, .int (nI (f + n + 1 - lgr r s f t (n + 1)))), (7, .int (nI (lgr r s f t (n + 1)))), (6, .int (nI (lgr r s f t (n + 1)))), (0, .ref me), (1, .int (nI s)), (2, .int (nI f)), (3, .int (nI t)), (4, .int (nI w))]) hx hb dX3_longest_102 hl (k := 3) rfl (nI_add _ _) (by decide) rfl (fun ls hl => ?_)
            refine lv_goto (tgt := 53) hx hb dX3_longest_105 (by decide) ?_
            exact ih (n + 1) _ _ ls (by omega) ⟨(by omega), (hP.sub (ws' := [(me, .inr (3, [.ref o, .ref ou, .ref oh, .ref os, .ref op, .int kc, .int sv])), (o, dO (lmk r s (mot f) (mot t + 1 - mot f)) ab af an aw), (ab, .inl (gI G, 1920, .inl (dB (lmk r s (mot f) (mot t + 1 - mot f))))), (af, .inl (gI G, 120, .inl (dF (lmk r s (mot f) (mot t + 1 - mot f))))), (an, .inl (gI G, 120, .inl (dN (lmk r s (mot f) (mot t + 1 - mot f))))), (aw, .inl (gI G, 7, .inl (dW (lmk r s (mot f) (mot t + 1 - mot f)))))]) [0, 1, 2, 3, 4, 5] rfl), (hD.sub (ws' := [(me, .inr (3, [.ref o, .ref ou, .ref oh, .ref os, .ref op, .int kc, .int sv])), (o, dO (lmk r s (mot f) (mot t + 1 - mot f)) ab af an aw), (ab, .inl (gI G, 1920, .inl (dB (lmk r s (mot f) (mot t + 1 - mot f))))), (af, .inl (gI G, 120, .inl (dF (lmk r s (mot f) (mot t + 1 - mot f))))), (an, .inl (gI G, 120, .inl (dN (lmk r s (mot f) (mot t + 1 - mot f))))), (aw, .inl (gI G, 7, .inl (dW (lmk r s (mot f) (mot t + 1 - mot f)))))]) [0, 1, 2, 3, 4, 5] (by decide) rfl), hS, lv_sub hl [0, 1, 2, 3, 4, 5, 6, 7, 8] (lvc (by first | rfl | exact congrArg nI (by omega)) (lvc (by first | exact lgf_t (by omega) | exact lgf_f (by omega)) (lvc (congrArg nI (by first | exact lgb_t (by omega) | exact lgb_f (by omega))) (lvc (by first | rfl | exact congrArg nI (by omega)) (lvr (lvr (lvr (lvr (lvr rfl)))))))))⟩
        · skip
          refine lv_iload hx hb dX3_longest_72 (lv_at hl 3 rfl) ?_
          refine lv_iconst (v := nI 1) hx hb dX3_longest_74 (by decide) ?_
          refine n_iadd hx hb dX3_longest_75 ?_
          refine lv_cv (y := nI (lgr r s f t (n + 1))) (congrArg nI (lgr_t (by omega) c_69)) ?_
          refine lv_goto (tgt := 80) hx hb dX3_longest_76 (by decide) ?_
          refine lv_istore (lv' := [(6, .int (nI (lgr r s f t (n + 1)))), (9, .int (nI (f + n))), (8, .int (lgf r s f t (n))), (7, .int (nI (lgb r s f t (n)))), (0, .ref me), (1, .int (nI s)), (2, .int (nI f)), (3, .int (nI t)), (4, .int (nI w))]) hx hb dX3_longest_80 hl (by decide) rfl (fun ls hl => ?_)
          refine lv_iload hx hb dX3_longest_82 (lv_at hl 0 rfl) ?_
          refine lv_iload hx hb dX3_longest_84 (lv_at hl 3 rfl) ?_
          refine z_le hx hb (tgt := 102) ((lgr r s f t (n + 1) : Nat) : Int) ((lgb r s f t (n) : Nat) : Int) dX3_longest_86 (by decide) (toI (by omega)) (toI (by omega)) (fun c_86 => ?_) (fun c_86 => ?_)
          · skip
            refine lv_iinc (v := nI (f + n + 1)) (lv' := [(9, .int (nI (f + n + 1))), (6, .int (nI (lgr r s f t (n + 1)))), (8, .int (lgf r s f t (n))), (7, .int (nI (lgb r s f t (n)))), (0, .ref me), (1, .int (nI s)), (2, .int (nI f)), (3, .int (nI t)), (4, .int (nI w))]) hx hb dX3_longest_102 hl (k := 1) rfl (nI_add _ _) (by decide) rfl (fun ls hl => ?_)
            refine lv_goto (tgt := 53) hx hb dX3_longest_105 (by decide) ?_
            exact ih (n + 1) _ _ ls (by omega) ⟨(by omega), (hP.sub (ws' := [(me, .inr (3, [.ref o, .ref ou, .ref oh, .ref os, .ref op, .int kc, .int sv])), (o, dO (lmk r s (mot f) (mot t + 1 - mot f)) ab af an aw), (ab, .inl (gI G, 1920, .inl (dB (lmk r s (mot f) (mot t + 1 - mot f))))), (af, .inl (gI G, 120, .inl (dF (lmk r s (mot f) (mot t + 1 - mot f))))), (an, .inl (gI G, 120, .inl (dN (lmk r s (mot f) (mot t + 1 - mot f))))), (aw, .inl (gI G, 7, .inl (dW (lmk r s (mot f) (mot t + 1 - mot f)))))]) [0, 1, 2, 3, 4, 5] rfl), (hD.sub (ws' := [(me, .inr (3, [.ref o, .ref ou, .ref oh, .ref os, .ref op, .int kc, .int sv])), (o, dO (lmk r s (mot f) (mot t + 1 - mot f)) ab af an aw), (ab, .inl (gI G, 1920, .inl (dB (lmk r s (mot f) (mot t + 1 - mot f))))), (af, .inl (gI G, 120, .inl (dF (lmk r s (mot f) (mot t + 1 - mot f))))), (an, .inl (gI G, 120, .inl (dN (lmk r s (mot f) (mot t + 1 - mot f))))), (aw, .inl (gI G, 7, .inl (dW (lmk r s (mot f) (mot t + 1 - mot f)))))]) [0, 1, 2, 3, 4, 5] (by decide) rfl), hS, lv_sub hl [0, 2, 3, 1, 4, 5, 6, 7, 8] (lvc (by first | rfl | exact congrArg nI (by omega)) (lvc (by first | exact lgf_t (by omega) | exact lgf_f (by omega)) (lvc (congrArg nI (by first | exact lgb_t (by omega) | exact lgb_f (by omega))) (lvc (by first | rfl | exact congrArg nI (by omega)) (lvr (lvr (lvr (lvr (lvr rfl)))))))))⟩
          · skip
            refine lv_iload hx hb dX3_longest_89 (lv_at hl 0 rfl) ?_
            refine lv_istore (lv' := [(7, .int (nI (lgr r s f t (n + 1)))), (6, .int (nI (lgr r s f t (n + 1)))), (9, .int (nI (f + n))), (8, .int (lgf r s f t (n))), (0, .ref me), (1, .int (nI s)), (2, .int (nI f)), (3, .int (nI t)), (4, .int (nI w))]) hx hb dX3_longest_91 hl (by decide) rfl (fun ls hl => ?_)
            refine lv_iload hx hb dX3_longest_93 (lv_at hl 2 rfl) ?_
            refine lv_iload hx hb dX3_longest_95 (lv_at hl 1 rfl) ?_
            refine lv_isub hx hb dX3_longest_97 ?_
            refine lv_iconst (v := nI 1) hx hb dX3_longest_98 (by decide) ?_
            refine lv_iadd hx hb dX3_longest_99 ?_
            refine lv_cv (y := nI (f + n + 1 - lgr r s f t (n + 1))) (sub_add1 (by omega)) ?_
            refine lv_istore (lv' := [(8, .int (nI (f + n + 1 - lgr r s f t (n + 1)))), (7, .int (nI (lgr r s f t (n + 1)))), (6, .int (nI (lgr r s f t (n + 1)))), (9, .int (nI (f + n))), (0, .ref me), (1, .int (nI s)), (2, .int (nI f)), (3, .int (nI t)), (4, .int (nI w))]) hx hb dX3_longest_100 hl (by decide) rfl (fun ls hl => ?_)
            refine lv_iinc (v := nI (f + n + 1)) (lv' := [(9, .int (nI (f + n + 1))), (8, .int (nI (f + n + 1 - lgr r s f t (n + 1)))), (7, .int (nI (lgr r s f t (n + 1)))), (6, .int (nI (lgr r s f t (n + 1)))), (0, .ref me), (1, .int (nI s)), (2, .int (nI f)), (3, .int (nI t)), (4, .int (nI w))]) hx hb dX3_longest_102 hl (k := 3) rfl (nI_add _ _) (by decide) rfl (fun ls hl => ?_)
            refine lv_goto (tgt := 53) hx hb dX3_longest_105 (by decide) ?_
            exact ih (n + 1) _ _ ls (by omega) ⟨(by omega), (hP.sub (ws' := [(me, .inr (3, [.ref o, .ref ou, .ref oh, .ref os, .ref op, .int kc, .int sv])), (o, dO (lmk r s (mot f) (mot t + 1 - mot f)) ab af an aw), (ab, .inl (gI G, 1920, .inl (dB (lmk r s (mot f) (mot t + 1 - mot f))))), (af, .inl (gI G, 120, .inl (dF (lmk r s (mot f) (mot t + 1 - mot f))))), (an, .inl (gI G, 120, .inl (dN (lmk r s (mot f) (mot t + 1 - mot f))))), (aw, .inl (gI G, 7, .inl (dW (lmk r s (mot f) (mot t + 1 - mot f)))))]) [0, 1, 2, 3, 4, 5] rfl), (hD.sub (ws' := [(me, .inr (3, [.ref o, .ref ou, .ref oh, .ref os, .ref op, .int kc, .int sv])), (o, dO (lmk r s (mot f) (mot t + 1 - mot f)) ab af an aw), (ab, .inl (gI G, 1920, .inl (dB (lmk r s (mot f) (mot t + 1 - mot f))))), (af, .inl (gI G, 120, .inl (dF (lmk r s (mot f) (mot t + 1 - mot f))))), (an, .inl (gI G, 120, .inl (dN (lmk r s (mot f) (mot t + 1 - mot f))))), (aw, .inl (gI G, 7, .inl (dW (lmk r s (mot f) (mot t + 1 - mot f)))))]) [0, 1, 2, 3, 4, 5] (by decide) rfl), hS, lv_sub hl [0, 1, 2, 3, 4, 5, 6, 7, 8] (lvc (by first | rfl | exact congrArg nI (by omega)) (lvc (by first | exact lgf_t (by omega) | exact lgf_f (by omega)) (lvc (congrArg nI (by first | exact lgb_t (by omega) | exact lgb_f (by omega))) (lvc (by first | rfl | exact congrArg nI (by omega)) (lvr (lvr (lvr (lvr (lvr rfl)))))))))⟩
    · skip
      refine lv_iload hx hb dX3_longest_16 (lv_at hl 5 rfl) ?_
      refine z0_eq hx hb (tgt := 30) ((w : Nat) : Int) dX3_longest_18 (by decide) (toI (by omega)) (fun c_18 => ?_) (fun c_18 => ?_)
      · skip
        exact J30 _ _ ls ⟨(hP.sub (ws' := [(me, .inr (3, [.ref o, .ref ou, .ref oh, .ref os, .ref op, .int kc, .int sv])), (o, dO r ab af an aw), (ab, .inl (gI G, 1920, .inl (dB r))), (af, .inl (gI G, 120, .inl (dF r))), (an, .inl (gI G, 120, .inl (dN r))), (aw, .inl (gI G, 7, .inl (dW r)))]) [0, 1, 2, 3, 4, 5] rfl), (hD.sub (ws' := [(me, .inr (3, [.ref o, .ref ou, .ref oh, .ref os, .ref op, .int kc, .int sv])), (o, dO r ab af an aw), (ab, .inl (gI G, 1920, .inl (dB r))), (af, .inl (gI G, 120, .inl (dF r))), (an, .inl (gI G, 120, .inl (dN r))), (aw, .inl (gI G, 7, .inl (dW r)))]) [0, 1, 2, 3, 4, 5] (by decide) rfl), hS, lv_sub hl [1, 2, 3, 4, 5] rfl⟩
      · skip
        refine lv_iload hx hb dX3_longest_21 (lv_at hl 5 rfl) ?_
        refine lv_iconst (v := nI 1) hx hb dX3_longest_23 (by decide) ?_
        refine z_eq hx hb (tgt := 30) ((w : Nat) : Int) 1 dX3_longest_24 (by decide) (toI (by omega)) (by decide) (fun c_24 => ?_) (fun c_24 => ?_)
        · skip
          exact J30 _ _ ls ⟨(hP.sub (ws' := [(me, .inr (3, [.ref o, .ref ou, .ref oh, .ref os, .ref op, .int kc, .int sv])), (o, dO r ab af an aw), (ab, .inl (gI G, 1920, .inl (dB r))), (af, .inl (gI G, 120, .inl (dF r))), (an, .inl (gI G, 120, .inl (dN r))), (aw, .inl (gI G, 7, .inl (dW r)))]) [0, 1, 2, 3, 4, 5] rfl), (hD.sub (ws' := [(me, .inr (3, [.ref o, .ref ou, .ref oh, .ref os, .ref op, .int kc, .int sv])), (o, dO r ab af an aw), (ab, .inl (gI G, 1920, .inl (dB r))), (af, .inl (gI G, 120, .inl (dF r))), (an, .inl (gI G, 120, .inl (dN r))), (aw, .inl (gI G, 7, .inl (dW r)))]) [0, 1, 2, 3, 4, 5] (by decide) rfl), hS, lv_sub hl [1, 2, 3, 4, 5] rfl⟩
        · skip
          exact absurd c_24 (by omega)
  · skip
    exact absurd c_10 (by decide)
set_option maxHeartbeats 4000000 in
set_option maxRecDepth 100000 in
theorem c_X3_longest_e (l : Launch) (G : gT) (me : Nat) (o : Nat) (ou : Nat) (oh : Nat) (os : Nat) (op : Nat) (kc : Int32) (sv : Int32) (ab : Nat) (af : Nat) (an : Nat) (aw : Nat) (w : Int32) (S0 : Int) (x : Int32) (F : Int) (y : Int32) (T : Int) (v : Int32) (X : Int) (hw1 : w.toInt = S0) (hF1 : x.toInt = F) (hT1 : y.toInt = T) (hv1 : v.toInt = X) (he : ¬ ((0 ≤ S0 ∧ S0 ≤ 15) ∧ (0 ≤ F ∧ F ≤ 3649) ∧ (0 ≤ T ∧ T ≤ 3649) ∧ (0 ≤ X ∧ X ≤ 1) ∧ F ≤ T)) : Ro l G yX3_longest cX3_longest 10 (some .int) 9 [(me, .inr (3, [.ref o, .ref ou, .ref oh, .ref os, .ref op, .int kc, .int sv]))] [.ref me, .int w, .int x, .int y, .int v] (eLo S0 F T X) := by
  refine Ro.mk (by decide) (Nat.le_of_ble_eq_true rfl) (fun pq eq sq mq bq tq cq ls hr hlk hF hKx hZ hP hl => ?_)
  have hx := hF.1
  have hb := hF.2.1
  have hml := hF.2.2.1
  have hown : sq.vm.findClass RX3 = some mq.cls := hF.2.2.2.1
  have hts : ∀ w ∈ GW, w.before _ sq = true := hF.2.2.2.2
  have hK := hKx.1
  have hl : lv_has ls 10 [(0, .ref me), (1, .int w), (2, .int x), (3, .int y), (4, .int v)] := hl
  have hS : va_S (fun _ => False) sq.heap sq.heap [] := va_S.rf
  have hP : va_P G.1 vwCl [(me, .inr (3, [.ref o, .ref ou, .ref oh, .ref os, .ref op, .int kc, .int sv]))] sq.heap := hP
  refine lv_iload_n hx hb dX3_longest_0 rfl (lv_at hl 1 rfl) ?_
  refine lv_iload_n hx hb dX3_longest_1 rfl (lv_at hl 2 rfl) ?_
  refine lv_iload_n hx hb dX3_longest_2 rfl (lv_at hl 3 rfl) ?_
  refine k_roS (As := [.int w, .int x, .int y]) (rest := []) hF (c_X3_subjectSpanError l G w S0 x F y T hw1 hF1 hT1) mw_2_61 mw_2_62 mw_1_1 mw_2_63 hd_X3_subjectSpanError ⟨Nat.le_of_ble_eq_true rfl, Nat.le_of_ble_eq_true rfl⟩ (Rd.of hKx hZ hS) (hP.sub (ws' := []) [] rfl) rfl hl.1 rfl (Nat.le_of_ble_eq_true rfl) dX3_longest_3 ⟨Nat.zero_le _, Nat.zero_le _⟩ ?_
  refine lv_istore (lv' := [(5, .int (eDy (0 ≤ S0 ∧ S0 ≤ 15) F T)), (0, .ref me), (1, .int w), (2, .int x), (3, .int y), (4, .int v)]) hx hb dX3_longest_6 hl (by decide) rfl (fun ls hl => ?_)
  refine lv_iload hx hb dX3_longest_8 (lv_at hl 0 rfl) ?_
  refine z0_eq hx hb (tgt := 16) ((eDy (0 ≤ S0 ∧ S0 ≤ 15) F T).toInt) dX3_longest_10 (by decide) rfl (fun c_10 => ?_) (fun c_10 => ?_)
  · skip
    refine lv_iload hx hb dX3_longest_16 (lv_at hl 5 rfl) ?_
    refine z0_eq hx hb (tgt := 30) X dX3_longest_18 (by decide) hv1 (fun c_18 => ?_) (fun c_18 => ?_)
    · skip
      exact (he (by have hd9 := eDy_ok c_10; omega)).elim
    · skip
      refine lv_iload hx hb dX3_longest_21 (lv_at hl 5 rfl) ?_
      refine lv_iconst (v := nI 1) hx hb dX3_longest_23 (by decide) ?_
      refine z_eq hx hb (tgt := 30) X 1 dX3_longest_24 (by decide) hv1 (by decide) (fun c_24 => ?_) (fun c_24 => ?_)
      · skip
        exact (he (by have hd9 := eDy_ok c_10; omega)).elim
      · skip
        refine lv_bipush (v := (-2)) hx hb dX3_longest_27 (by decide) ?_
        exact e_ri hx hb hr hlk ((eLo_2 ⟨(eDy_ok c_10).1, (eDy_ok c_10).2.1, (eDy_ok c_10).2.2.1⟩ (by omega)).symm) dX3_longest_29
  · skip
    refine lv_iload hx hb dX3_longest_13 (lv_at hl 0 rfl) ?_
    exact e_ri hx hb hr hlk (eLo_d c_10) dX3_longest_15
set_option maxHeartbeats 4000000 in
set_option maxRecDepth 100000 in
theorem c_X3_nextMark_k (l : Launch) (G : gT) (sz : Nat) (me : Nat) (o : Nat) (ou : Nat) (oh : Nat) (os : Nat) (op : Nat) (kc : Int32) (sv : Int32) (ab : Nat) (af : Nat) (an : Nat) (aw : Nat) (r : Nat → Int32) (s : Nat) (d : Nat) (hCv : Cv r) (hs : s < 16) (hd : d < 3650) : Rw l G yX3_nextMark cX3_nextMark 6 (some .int) 9 sz [(me, .inr (3, [.ref o, .ref ou, .ref oh, .ref os, .ref op, .int kc, .int sv])), (o, dO r ab af an aw), (ab, .inl (gI G, 1920, .inl (dB r))), (af, .inl (gI G, 120, .inl (dF r))), (an, .inl (gI G, 120, .inl (dN r))), (aw, .inl (gI G, 7, .inl (dW r)))] [.ref me, .int (nI s), .int (nI d)] (nxr r s d) [(me, .inr (3, [.ref o, .ref ou, .ref oh, .ref os, .ref op, .int kc, .int sv])), (o, dO (lmk r s (mot d) (nxc r s d)) ab af an aw), (ab, .inl (gI G, 1920, .inl (dB (lmk r s (mot d) (nxc r s d))))), (af, .inl (gI G, 120, .inl (dF (lmk r s (mot d) (nxc r s d))))), (an, .inl (gI G, 120, .inl (dN (lmk r s (mot d) (nxc r s d))))), (aw, .inl (gI G, 7, .inl (dW (lmk r s (mot d) (nxc r s d)))))] := by
  refine Rw.mk (by decide) (Nat.le_of_ble_eq_true rfl) (fun pq eq sq mq bq tq cq ls A hr hlk hF hKx hZ hA hP hD hS hl => ?_)
  have hx := hF.1
  have hb := hF.2.1
  have hml := hF.2.2.1
  have hown : sq.vm.findClass RX3 = some mq.cls := hF.2.2.2.1
  have hts : ∀ w ∈ GW, w.before _ sq = true := hF.2.2.2.2
  have hK := hKx.1
  have hl : lv_has ls 6 [(0, .ref me), (1, .int (nI s)), (2, .int (nI d))] := hl
  have hP : va_P G.1 vwCl [(me, .inr (3, [.ref o, .ref ou, .ref oh, .ref os, .ref op, .int kc, .int sv])), (o, dO r ab af an aw), (ab, .inl (gI G, 1920, .inl (dB r))), (af, .inl (gI G, 120, .inl (dF r))), (an, .inl (gI G, 120, .inl (dN r))), (aw, .inl (gI G, 7, .inl (dW r)))] sq.heap := hP
  have hD : va_D A [(me, .inr (3, [.ref o, .ref ou, .ref oh, .ref os, .ref op, .int kc, .int sv])), (o, dO r ab af an aw), (ab, .inl (gI G, 1920, .inl (dB r))), (af, .inl (gI G, 120, .inl (dF r))), (an, .inl (gI G, 120, .inl (dN r))), (aw, .inl (gI G, 7, .inl (dW r)))] := hD
  have hm0 := mot_row hd
  refine lv_iload_n hx hb dX3_nextMark_0 rfl (lv_at hl 1 rfl) ?_
  refine k_roS (As := [.int (nI s)]) (rest := []) hF (c_X3_isSubject l G (nI s) ((s : Nat) : Int) (toI (by omega))) mw_2_64 mw_2_65 mw_1_1 mw_2_66 hd_X3_isSubject ⟨Nat.le_of_ble_eq_true rfl, Nat.le_of_ble_eq_true rfl⟩ (Rd.of hKx hZ hS) (hP.sub (ws' := []) [] rfl) rfl hl.1 rfl (Nat.le_of_ble_eq_true rfl) dX3_nextMark_1 ⟨Nat.zero_le _, Nat.zero_le _⟩ ?_
  refine p0_eq hx hb (tgt := 14) dX3_nextMark_4 (by decide) (fun c_4 => ?_) (fun c_4 => ?_)
  · skip
    exact absurd c_4 (by omega)
  · skip
    refine lv_iload_n hx hb dX3_nextMark_7 rfl (lv_at hl 2 rfl) ?_
    refine k_roS (As := [.int (nI d)]) (rest := []) hF (c_X3_isDay l G (nI d) ((d : Nat) : Int) (toI (by omega))) mw_2_70 mw_2_71 mw_1_1 mw_2_72 hd_X3_isDay ⟨Nat.le_of_ble_eq_true rfl, Nat.le_of_ble_eq_true rfl⟩ (Rd.of hKx hZ hS) (hP.sub (ws' := []) [] rfl) rfl hl.1 rfl (Nat.le_of_ble_eq_true rfl) dX3_nextMark_8 ⟨Nat.zero_le _, Nat.zero_le _⟩ ?_
    refine p0_ne hx hb (tgt := 16) dX3_nextMark_11 (by decide) (fun c_11 => ?_) (fun c_11 => ?_)
    · skip
      refine lv_iload_n hx hb dX3_nextMark_16 rfl (lv_at hl 2 rfl) ?_
      refine k_roS (As := [.int (nI d)]) (rest := []) hF (c_X3_monthOf l G d (by omega)) mw_1_160 mw_1_161 mw_1_1 mw_1_162 hd_X3_monthOf ⟨Nat.le_of_ble_eq_true rfl, Nat.le_of_ble_eq_true rfl⟩ (Rd.of hKx hZ hS) (hP.sub (ws' := []) [] rfl) rfl hl.1 rfl (Nat.le_of_ble_eq_true rfl) dX3_nextMark_17 ⟨Nat.zero_le _, Nat.zero_le _⟩ ?_
      refine lv_istore_n (lv' := [(3, .int (nI (mot d))), (0, .ref me), (1, .int (nI s)), (2, .int (nI d))]) hx hb dX3_nextMark_20 rfl hl (by decide) rfl (fun ls hl => ?_)
      have hPj := hP.sub (ws' := [(me, .inr (3, [.ref o, .ref ou, .ref oh, .ref os, .ref op, .int kc, .int sv])), (o, dO r ab af an aw), (ab, .inl (gI G, 1920, .inl (dB r))), (af, .inl (gI G, 120, .inl (dF r))), (an, .inl (gI G, 120, .inl (dN r))), (aw, .inl (gI G, 7, .inl (dW r)))]) [0, 1, 2, 3, 4, 5] rfl
      have hDj := hD.sub (ws' := [(me, .inr (3, [.ref o, .ref ou, .ref oh, .ref os, .ref op, .int kc, .int sv])), (o, dO r ab af an aw), (ab, .inl (gI G, 1920, .inl (dB r))), (af, .inl (gI G, 120, .inl (dF r))), (an, .inl (gI G, 120, .inl (dN r))), (aw, .inl (gI G, 7, .inl (dW r)))]) [0, 1, 2, 3, 4, 5] (by decide) rfl
      have hwj : ([(me, .inr (3, [.ref o, .ref ou, .ref oh, .ref os, .ref op, .int kc, .int sv])), (o, dO r ab af an aw), (ab, .inl (gI G, 1920, .inl (dB r))), (af, .inl (gI G, 120, .inl (dF r))), (an, .inl (gI G, 120, .inl (dN r))), (aw, .inl (gI G, 7, .inl (dW r)))] : va_W) = [(me, .inr (3, [.ref o, .ref ou, .ref oh, .ref os, .ref op, .int kc, .int sv])), (o, dO (lmk r s (mot d) 0) ab af an aw), (ab, .inl (gI G, 1920, .inl (dB (lmk r s (mot d) 0)))), (af, .inl (gI G, 120, .inl (dF (lmk r s (mot d) 0)))), (an, .inl (gI G, 120, .inl (dN (lmk r s (mot d) 0)))), (aw, .inl (gI G, 7, .inl (dW (lmk r s (mot d) 0))))] := (wlc (rfl) (wlc (rfl) (wlc (rfl) (wlc (rfl) (wlc (rfl) (wlc (rfl) rfl))))))
      rw [hwj] at hPj hDj
      refine wloopH [] (fun j H locs ls => (mot d + j ≤ 120) ∧ (nxJ r s d = nxn r s d (120 - (mot d + j)) (mot d + j) + j) ∧ va_P G.1 vwCl [(me, .inr (3, [.ref o, .ref ou, .ref oh, .ref os, .ref op, .int kc, .int sv])), (o, dO (lmk r s (mot d) j) ab af an aw), (ab, .inl (gI G, 1920, .inl (dB (lmk r s (mot d) j)))), (af, .inl (gI G, 120, .inl (dF (lmk r s (mot d) j)))), (an, .inl (gI G, 120, .inl (dN (lmk r s (mot d) j)))), (aw, .inl (gI G, 7, .inl (dW (lmk r s (mot d) j))))] H ∧ va_D A [(me, .inr (3, [.ref o, .ref ou, .ref oh, .ref os, .ref op, .int kc, .int sv])), (o, dO (lmk r s (mot d) j) ab af an aw), (ab, .inl (gI G, 1920, .inl (dB (lmk r s (mot d) j)))), (af, .inl (gI G, 120, .inl (dF (lmk r s (mot d) j)))), (an, .inl (gI G, 120, .inl (dN (lmk r s (mot d) j)))), (aw, .inl (gI G, 7, .inl (dW (lmk r s (mot d) j))))] ∧ va_S A sq.heap H locs ∧ lv_has ls 6 [(3, .int (nI (mot d + j))), (0, .ref me), (1, .int (nI s)), (2, .int (nI d))]) (fun j => 120 - (mot d + j)) ?_ 0 ⟨(by omega), (rfl), hPj, hDj, hS, lv_sub hl [0, 1, 2, 3] (lvc (by first | rfl | exact congrArg nI (by omega)) (lvr (lvr (lvr rfl))))⟩
      intro j ihj
      intro H locs ls ⟨hj, hJ, hP, hD, hS, hl⟩
      refine lv_iload_n hx hb dX3_nextMark_21 rfl (lv_at hl 0 rfl) ?_
      refine lv_bipush (v := nI 120) hx hb dX3_nextMark_22 (by decide) ?_
      refine z_ge hx hb (tgt := 103) ((mot d + j : Nat) : Int) 120 dX3_nextMark_24 (by decide) (toI (by omega)) (by decide) (fun c_24 => ?_) (fun c_24 => ?_)
      · skip
        have hJ2 : nxJ r s d = j := by rw [hJ, show 120 - (mot d + j) = 0 by omega]; exact Nat.zero_add j
        have hcc : nxc r s d = j := by unfold nxc; rw [hJ2, if_neg (by omega)]
        refine lv_bipush (v := (-6)) hx hb dX3_nextMark_103 (by decide) ?_
        have hPj := hP.sub (ws' := [(me, .inr (3, [.ref o, .ref ou, .ref oh, .ref os, .ref op, .int kc, .int sv])), (o, dO (lmk r s (mot d) j) ab af an aw), (ab, .inl (gI G, 1920, .inl (dB (lmk r s (mot d) j)))), (af, .inl (gI G, 120, .inl (dF (lmk r s (mot d) j)))), (an, .inl (gI G, 120, .inl (dN (lmk r s (mot d) j)))), (aw, .inl (gI G, 7, .inl (dW (lmk r s (mot d) j))))]) [0, 1, 2, 3, 4, 5] rfl
        have hwj : ([(me, .inr (3, [.ref o, .ref ou, .ref oh, .ref os, .ref op, .int kc, .int sv])), (o, dO (lmk r s (mot d) j) ab af an aw), (ab, .inl (gI G, 1920, .inl (dB (lmk r s (mot d) j)))), (af, .inl (gI G, 120, .inl (dF (lmk r s (mot d) j)))), (an, .inl (gI G, 120, .inl (dN (lmk r s (mot d) j)))), (aw, .inl (gI G, 7, .inl (dW (lmk r s (mot d) j))))] : va_W) = [(me, .inr (3, [.ref o, .ref ou, .ref oh, .ref os, .ref op, .int kc, .int sv])), (o, dO (lmk r s (mot d) (nxc r s d)) ab af an aw), (ab, .inl (gI G, 1920, .inl (dB (lmk r s (mot d) (nxc r s d))))), (af, .inl (gI G, 120, .inl (dF (lmk r s (mot d) (nxc r s d))))), (an, .inl (gI G, 120, .inl (dN (lmk r s (mot d) (nxc r s d))))), (aw, .inl (gI G, 7, .inl (dW (lmk r s (mot d) (nxc r s d)))))] := (wlc (rfl) (wlc (by rw [hcc]) (wlc (by rw [hcc]) (wlc (by rw [hcc]) (wlc (by rw [hcc]) (wlc (by rw [hcc]) rfl))))))
        rw [hwj] at hPj
        exact e_wi hx hb hr hlk hPj hS (by unfold nxr; rw [hJ2, if_neg (by omega)]) dX3_nextMark_105
      · skip
        have hdy := dys_in (mot d + j)
        have hfl := fdy_lt' (m := mot d + j) (by omega)
        have hfs0 := fdy_succ (mot d + j)
        have hdd : d < fdy (mot d + j + 1) := mot_hi hd (by omega)
        refine lv_aload_n hx hb dX3_nextMark_27 rfl (lv_at hl 1 rfl) ?_
        refine va_get (ci := 3) (v := .ref o) (C := RX3) (T := TX3) (N := 7) hx hb hts inGX3 hown hK hP 0 rfl rfl 0 (by decide) (hts _ mw_1_126) (fun _ h9 => h9) rfl dX3_nextMark_28 ?_
        refine lv_iload_n hx hb dX3_nextMark_31 rfl (lv_at hl 2 rfl) ?_
        refine lv_iload_n hx hb dX3_nextMark_32 rfl (lv_at hl 0 rfl) ?_
        refine k_roV (ci := 0) (q0 := 1) (As := [.int (nI s), .int (nI (mot d + j))]) (rest := []) hF (c_X0_bitsOf l G o ab af an aw (lmk r s (mot d) j) s (mot d + j) (by omega) (by omega)) hKx hP ⟨_, rfl, rfl⟩ rfl rfl mw_2_127 mw_1_204 mw_1_205 mw_1_2 mw_1_206 hd_X0_bitsOf ⟨Nat.le_of_ble_eq_true rfl, Nat.le_of_ble_eq_true rfl⟩ (Rd.of hKx hZ hS) (hP.sub (ws' := [(o, dO (lmk r s (mot d) j) ab af an aw), (ab, .inl (gI G, 1920, .inl (dB (lmk r s (mot d) j)))), (af, .inl (gI G, 120, .inl (dF (lmk r s (mot d) j)))), (an, .inl (gI G, 120, .inl (dN (lmk r s (mot d) j)))), (aw, .inl (gI G, 7, .inl (dW (lmk r s (mot d) j))))]) [1, 2, 3, 4, 5] rfl) rfl hl.1 rfl (Nat.le_of_ble_eq_true rfl) dX3_nextMark_33 ⟨Nat.zero_le _, Nat.zero_le _⟩ ?_
        refine lv_cv (y := r (255 + 16 * (mot d + j) + s)) (by rw [Nat.add_assoc 255]; exact lmk_mk hCv.1 j (by omega)) ?_
        refine z0_eq hx hb (tgt := 97) ((r (255 + 16 * (mot d + j) + s)).toInt) dX3_nextMark_36 (by decide) rfl (fun c_36 => ?_) (fun c_36 => ?_)
        · skip
          refine lv_iinc (v := nI (mot d + j + 1)) (lv' := [(3, .int (nI (mot d + j + 1))), (0, .ref me), (1, .int (nI s)), (2, .int (nI d))]) hx hb dX3_nextMark_97 hl (k := 0) rfl (nI_add _ _) (by decide) rfl (fun ls hl => ?_)
          refine lv_goto (tgt := 21) hx hb dX3_nextMark_100 (by decide) ?_
          have w_1 : ([(me, .inr (3, [.ref o, .ref ou, .ref oh, .ref os, .ref op, .int kc, .int sv])), (o, dO (lmk r s (mot d) j) ab af an aw), (ab, .inl (gI G, 1920, .inl (dB (lmk r s (mot d) j)))), (af, .inl (gI G, 120, .inl (dF (lmk r s (mot d) j)))), (an, .inl (gI G, 120, .inl (dN (lmk r s (mot d) j)))), (aw, .inl (gI G, 7, .inl (dW (lmk r s (mot d) j))))] : va_W) = [(me, .inr (3, [.ref o, .ref ou, .ref oh, .ref os, .ref op, .int kc, .int sv])), (o, dO (lmk r s (mot d) (j + 1)) ab af an aw), (ab, .inl (gI G, 1920, .inl (dB (lmk r s (mot d) (j + 1))))), (af, .inl (gI G, 120, .inl (dF (lmk r s (mot d) (j + 1))))), (an, .inl (gI G, 120, .inl (dN (lmk r s (mot d) (j + 1))))), (aw, .inl (gI G, 7, .inl (dW (lmk r s (mot d) (j + 1)))))] := (wlc (rfl) (wlc (by first | rw [show lmk r s (mot d) (j + 1) = _ from (lmk_f c_36).symm] | rfl) (wlc (by first | rw [show lmk r s (mot d) (j + 1) = _ from (lmk_f c_36).symm] | rfl) (wlc (by first | rw [show lmk r s (mot d) (j + 1) = _ from (lmk_f c_36).symm] | rfl) (wlc (by first | rw [show lmk r s (mot d) (j + 1) = _ from (lmk_f c_36).symm] | rfl) (wlc (by first | rw [show lmk r s (mot d) (j + 1) = _ from (lmk_f c_36).symm] | rfl) rfl))))))
          have hPj := hP.sub (ws' := [(me, .inr (3, [.ref o, .ref ou, .ref oh, .ref os, .ref op, .int kc, .int sv])), (o, dO (lmk r s (mot d) j) ab af an aw), (ab, .inl (gI G, 1920, .inl (dB (lmk r s (mot d) j)))), (af, .inl (gI G, 120, .inl (dF (lmk r s (mot d) j)))), (an, .inl (gI G, 120, .inl (dN (lmk r s (mot d) j)))), (aw, .inl (gI G, 7, .inl (dW (lmk r s (mot d) j))))]) [0, 1, 2, 3, 4, 5] rfl
          have hDj := hD.sub (ws' := [(me, .inr (3, [.ref o, .ref ou, .ref oh, .ref os, .ref op, .int kc, .int sv])), (o, dO (lmk r s (mot d) j) ab af an aw), (ab, .inl (gI G, 1920, .inl (dB (lmk r s (mot d) j)))), (af, .inl (gI G, 120, .inl (dF (lmk r s (mot d) j)))), (an, .inl (gI G, 120, .inl (dN (lmk r s (mot d) j)))), (aw, .inl (gI G, 7, .inl (dW (lmk r s (mot d) j))))]) [0, 1, 2, 3, 4, 5] (by decide) rfl
          rw [w_1] at hPj hDj
          exact ihj (j + 1) _ _ ls (by omega) ⟨(by omega), (by rw [hJ, nxn_f (by omega) (by first | exact fsk_z c_36 _ _ | exact hsk.trans (fsk_e (by omega)))]; show _ = nxn r s d (120 - (mot d + j + 1)) (mot d + j + 1) + (j + 1); omega), hPj, hDj, hS, lv_sub hl [0, 1, 2, 3] (lvc (by first | rfl | exact congrArg nI (by omega)) (lvr (lvr (lvr rfl))))⟩
        · skip
          refine lv_aload_n hx hb dX3_nextMark_39 rfl (lv_at hl 1 rfl) ?_
          refine va_get (ci := 3) (v := .ref o) (C := RX3) (T := TX3) (N := 7) hx hb hts inGX3 hown hK hP 0 rfl rfl 0 (by decide) (hts _ mw_1_126) (fun _ h9 => h9) rfl dX3_nextMark_40 ?_
          refine lv_iload_n hx hb dX3_nextMark_43 rfl (lv_at hl 0 rfl) ?_
          refine k_rvV (ci := 0) (q0 := 1) (As := [.int (nI (mot d + j))]) (rest := []) (wr := [(me, .inr (3, [.ref o, .ref ou, .ref oh, .ref os, .ref op, .int kc, .int sv]))]) hF (c_X0_lookAt l G _ o ab af an aw (lmk r s (mot d) j) (mot d + j) (by omega) (Cv_lmk hCv j (by omega))) ⟨_, rfl, rfl⟩ rfl rfl mw_2_123 mw_2_124 mw_2_125 mw_1_2 mw_2_126 hd_X0_lookAt ⟨Nat.le_of_ble_eq_true rfl, Nat.le_of_ble_eq_true rfl⟩ hKx hZ hS hP hD hA [1, 2, 3, 4, 5] [0] rfl rfl (by decide) (by decide) (by decide) rfl rfl hl.1 rfl (Nat.le_of_ble_eq_true rfl) dX3_nextMark_44 ⟨Nat.zero_le _, Nat.zero_le _⟩ (fun H locs hP hD hS => ?_)
          have hP : va_P G.1 vwCl [(me, .inr (3, [.ref o, .ref ou, .ref oh, .ref os, .ref op, .int kc, .int sv])), (o, dO (lok (lmk r s (mot d) j) (mot d + j)) ab af an aw), (ab, .inl (gI G, 1920, .inl (dB (lok (lmk r s (mot d) j) (mot d + j))))), (af, .inl (gI G, 120, .inl (dF (lok (lmk r s (mot d) j) (mot d + j))))), (an, .inl (gI G, 120, .inl (dN (lok (lmk r s (mot d) j) (mot d + j))))), (aw, .inl (gI G, 7, .inl (dW (lok (lmk r s (mot d) j) (mot d + j)))))] H := hP
          have hD : va_D A [(me, .inr (3, [.ref o, .ref ou, .ref oh, .ref os, .ref op, .int kc, .int sv])), (o, dO (lok (lmk r s (mot d) j) (mot d + j)) ab af an aw), (ab, .inl (gI G, 1920, .inl (dB (lok (lmk r s (mot d) j) (mot d + j))))), (af, .inl (gI G, 120, .inl (dF (lok (lmk r s (mot d) j) (mot d + j))))), (an, .inl (gI G, 120, .inl (dN (lok (lmk r s (mot d) j) (mot d + j))))), (aw, .inl (gI G, 7, .inl (dW (lok (lmk r s (mot d) j) (mot d + j)))))] := hD
          have hw_2 : ([(me, .inr (3, [.ref o, .ref ou, .ref oh, .ref os, .ref op, .int kc, .int sv])), (o, dO (lok (lmk r s (mot d) j) (mot d + j)) ab af an aw), (ab, .inl (gI G, 1920, .inl (dB (lok (lmk r s (mot d) j) (mot d + j))))), (af, .inl (gI G, 120, .inl (dF (lok (lmk r s (mot d) j) (mot d + j))))), (an, .inl (gI G, 120, .inl (dN (lok (lmk r s (mot d) j) (mot d + j))))), (aw, .inl (gI G, 7, .inl (dW (lok (lmk r s (mot d) j) (mot d + j)))))] : va_W) = [(me, .inr (3, [.ref o, .ref ou, .ref oh, .ref os, .ref op, .int kc, .int sv])), (o, dO (lmk r s (mot d) (j + 1)) ab af an aw), (ab, .inl (gI G, 1920, .inl (dB (lmk r s (mot d) (j + 1))))), (af, .inl (gI G, 120, .inl (dF (lmk r s (mot d) (j + 1))))), (an, .inl (gI G, 120, .inl (dN (lmk r s (mot d) (j + 1))))), (aw, .inl (gI G, 7, .inl (dW (lmk r s (mot d) (j + 1)))))] := (wlc rfl (wlc (by rw [show lmk r s (mot d) (j + 1) = _ from (lmk_t c_36).symm]) (wlc (by rw [show lmk r s (mot d) (j + 1) = _ from (lmk_t c_36).symm]) (wlc (by rw [show lmk r s (mot d) (j + 1) = _ from (lmk_t c_36).symm]) (wlc (by rw [show lmk r s (mot d) (j + 1) = _ from (lmk_t c_36).symm]) (wlc (by rw [show lmk r s (mot d) (j + 1) = _ from (lmk_t c_36).symm]) rfl))))))
          rw [hw_2] at hP hD
          refine lv_iload_n hx hb dX3_nextMark_47 rfl (lv_at hl 0 rfl) ?_
          refine k_roS (As := [.int (nI (mot d + j))]) (rest := []) hF (c_X3_firstDayOf l G (mot d + j) (by omega)) mw_2_80 mw_2_81 mw_1_1 mw_2_82 hd_X3_firstDayOf ⟨Nat.le_of_ble_eq_true rfl, Nat.le_of_ble_eq_true rfl⟩ (Rd.of hKx hZ hS) (hP.sub (ws' := []) [] rfl) rfl hl.1 rfl (Nat.le_of_ble_eq_true rfl) dX3_nextMark_48 ⟨Nat.zero_le _, Nat.zero_le _⟩ ?_
          refine lv_iload_n hx hb dX3_nextMark_51 rfl (lv_at hl 0 rfl) ?_
          refine k_roS (As := [.int (nI (mot d + j))]) (rest := [.int (nI (fdy (mot d + j)))]) hF (c_X3_daysOf l G (mot d + j) (by omega)) mw_2_84 mw_2_85 mw_1_1 mw_2_86 hd_X3_daysOf ⟨Nat.le_of_ble_eq_true rfl, Nat.le_of_ble_eq_true rfl⟩ (Rd.of hKx hZ hS) (hP.sub (ws' := []) [] rfl) rfl hl.1 rfl (Nat.le_of_ble_eq_true rfl) dX3_nextMark_52 ⟨Nat.zero_le _, Nat.zero_le _⟩ ?_
          refine n_iadd hx hb dX3_nextMark_55 ?_
          refine lv_istore (lv' := [(4, .int (nI (fdy (mot d + j) + dys (mot d + j)))), (3, .int (nI (mot d + j))), (0, .ref me), (1, .int (nI s)), (2, .int (nI d))]) hx hb dX3_nextMark_56 hl (by decide) rfl (fun ls hl => ?_)
          refine lv_iload_n hx hb dX3_nextMark_58 rfl (lv_at hl 4 rfl) ?_
          refine lv_iload_n hx hb dX3_nextMark_59 rfl (lv_at hl 1 rfl) ?_
          refine k_roS (As := [.int (nI (mot d + j))]) (rest := [.int (nI d)]) hF (c_X3_firstDayOf l G (mot d + j) (by omega)) mw_2_80 mw_2_81 mw_1_1 mw_2_82 hd_X3_firstDayOf ⟨Nat.le_of_ble_eq_true rfl, Nat.le_of_ble_eq_true rfl⟩ (Rd.of hKx hZ hS) (hP.sub (ws' := []) [] rfl) rfl hl.1 rfl (Nat.le_of_ble_eq_true rfl) dX3_nextMark_60 ⟨Nat.zero_le _, Nat.zero_le _⟩ ?_
          refine va_mmax hx hb (hml.trans hl.1.symm) hown (hts _ mw_2_83) (hts _ mw_1_174) (hts _ mw_1_5) (hts _ mw_1_175) (Nat.le_of_ble_eq_true rfl) (Nat.le_of_ble_eq_true rfl) (Nat.zero_le _) (Nat.zero_le _) dX3_nextMark_63 ?_
          refine lv_cv (y := nI (max d (fdy (mot d + j)))) (max_n (by omega) (by omega)) ?_
          refine lv_istore (lv' := [(5, .int (nI (max d (fdy (mot d + j))))), (4, .int (nI (fdy (mot d + j) + dys (mot d + j)))), (3, .int (nI (mot d + j))), (0, .ref me), (1, .int (nI s)), (2, .int (nI d))]) hx hb dX3_nextMark_66 hl (by decide) rfl (fun ls hl => ?_)
          have hPj := hP.sub (ws' := [(me, .inr (3, [.ref o, .ref ou, .ref oh, .ref os, .ref op, .int kc, .int sv])), (o, dO (lmk r s (mot d) (j + 1)) ab af an aw), (ab, .inl (gI G, 1920, .inl (dB (lmk r s (mot d) (j + 1))))), (af, .inl (gI G, 120, .inl (dF (lmk r s (mot d) (j + 1))))), (an, .inl (gI G, 120, .inl (dN (lmk r s (mot d) (j + 1))))), (aw, .inl (gI G, 7, .inl (dW (lmk r s (mot d) (j + 1)))))]) [0, 1, 2, 3, 4, 5] rfl
          have hDj := hD.sub (ws' := [(me, .inr (3, [.ref o, .ref ou, .ref oh, .ref os, .ref op, .int kc, .int sv])), (o, dO (lmk r s (mot d) (j + 1)) ab af an aw), (ab, .inl (gI G, 1920, .inl (dB (lmk r s (mot d) (j + 1))))), (af, .inl (gI G, 120, .inl (dF (lmk r s (mot d) (j + 1))))), (an, .inl (gI G, 120, .inl (dN (lmk r s (mot d) (j + 1))))), (aw, .inl (gI G, 7, .inl (dW (lmk r s (mot d) (j + 1)))))]) [0, 1, 2, 3, 4, 5] (by decide) rfl
          refine wloopH [] (fun k H locs ls => (k ≤ dys (mot d + j)) ∧ (d ≤ fdy (mot d + j) + k) ∧ (fsm r s (mot d + j) d = fsk r s (mot d + j) d (dys (mot d + j) - k) k) ∧ va_P G.1 vwCl [(me, .inr (3, [.ref o, .ref ou, .ref oh, .ref os, .ref op, .int kc, .int sv])), (o, dO (lmk r s (mot d) (j + 1)) ab af an aw), (ab, .inl (gI G, 1920, .inl (dB (lmk r s (mot d) (j + 1))))), (af, .inl (gI G, 120, .inl (dF (lmk r s (mot d) (j + 1))))), (an, .inl (gI G, 120, .inl (dN (lmk r s (mot d) (j + 1))))), (aw, .inl (gI G, 7, .inl (dW (lmk r s (mot d) (j + 1)))))] H ∧ va_D A [(me, .inr (3, [.ref o, .ref ou, .ref oh, .ref os, .ref op, .int kc, .int sv])), (o, dO (lmk r s (mot d) (j + 1)) ab af an aw), (ab, .inl (gI G, 1920, .inl (dB (lmk r s (mot d) (j + 1))))), (af, .inl (gI G, 120, .inl (dF (lmk r s (mot d) (j + 1))))), (an, .inl (gI G, 120, .inl (dN (lmk r s (mot d) (j + 1))))), (aw, .inl (gI G, 7, .inl (dW (lmk r s (mot d) (j + 1)))))] ∧ va_S A sq.heap H locs ∧ lv_has ls 6 [(5, .int (nI (fdy (mot d + j) + k))), (4, .int (nI (fdy (mot d + j) + dys (mot d + j)))), (3, .int (nI (mot d + j))), (0, .ref me), (1, .int (nI s)), (2, .int (nI d))]) (fun k => dys (mot d + j) - k) ?_ (max d (fdy (mot d + j)) - fdy (mot d + j)) ⟨(by omega), (by omega), (fsk_skip _ (by omega) (by omega)), hPj, hDj, hS, lv_sub hl [0, 1, 2, 3, 4, 5] (lvc (by first | rfl | exact congrArg nI (by omega)) (lvr (lvr (lvr (lvr (lvr rfl))))))⟩
          intro k ihk
          intro H locs ls ⟨hk, hkd, hsk, hP, hD, hS, hl⟩
          refine lv_iload hx hb dX3_nextMark_68 (lv_at hl 0 rfl) ?_
          refine lv_iload hx hb dX3_nextMark_70 (lv_at hl 1 rfl) ?_
          refine z_ge hx hb (tgt := 97) ((fdy (mot d + j) + k : Nat) : Int) ((fdy (mot d + j) + dys (mot d + j) : Nat) : Int) dX3_nextMark_72 (by decide) (toI (by omega)) (toI (by omega)) (fun c_72 => ?_) (fun c_72 => ?_)
          · skip
            refine lv_iinc (v := nI (mot d + j + 1)) (lv' := [(3, .int (nI (mot d + j + 1))), (5, .int (nI (fdy (mot d + j) + k))), (4, .int (nI (fdy (mot d + j) + dys (mot d + j)))), (0, .ref me), (1, .int (nI s)), (2, .int (nI d))]) hx hb dX3_nextMark_97 hl (k := 2) rfl (nI_add _ _) (by decide) rfl (fun ls hl => ?_)
            refine lv_goto (tgt := 21) hx hb dX3_nextMark_100 (by decide) ?_
            exact ihj (j + 1) _ _ ls (by omega) ⟨(by omega), (by rw [hJ, nxn_f (by omega) (by first | exact fsk_z c_36 _ _ | exact hsk.trans (fsk_e (by omega)))]; show _ = nxn r s d (120 - (mot d + j + 1)) (mot d + j + 1) + (j + 1); omega), (hP.sub (ws' := [(me, .inr (3, [.ref o, .ref ou, .ref oh, .ref os, .ref op, .int kc, .int sv])), (o, dO (lmk r s (mot d) (j + 1)) ab af an aw), (ab, .inl (gI G, 1920, .inl (dB (lmk r s (mot d) (j + 1))))), (af, .inl (gI G, 120, .inl (dF (lmk r s (mot d) (j + 1))))), (an, .inl (gI G, 120, .inl (dN (lmk r s (mot d) (j + 1))))), (aw, .inl (gI G, 7, .inl (dW (lmk r s (mot d) (j + 1)))))]) [0, 1, 2, 3, 4, 5] rfl), (hD.sub (ws' := [(me, .inr (3, [.ref o, .ref ou, .ref oh, .ref os, .ref op, .int kc, .int sv])), (o, dO (lmk r s (mot d) (j + 1)) ab af an aw), (ab, .inl (gI G, 1920, .inl (dB (lmk r s (mot d) (j + 1))))), (af, .inl (gI G, 120, .inl (dF (lmk r s (mot d) (j + 1))))), (an, .inl (gI G, 120, .inl (dN (lmk r s (mot d) (j + 1))))), (aw, .inl (gI G, 7, .inl (dW (lmk r s (mot d) (j + 1)))))]) [0, 1, 2, 3, 4, 5] (by decide) rfl), hS, lv_sub hl [0, 3, 4, 5] (lvc (by first | rfl | exact congrArg nI (by omega)) (lvr (lvr (lvr rfl))))⟩
          · skip
            refine lv_aload_n hx hb dX3_nextMark_75 rfl (lv_at hl 3 rfl) ?_
            refine va_get (ci := 3) (v := .ref o) (C := RX3) (T := TX3) (N := 7) hx hb hts inGX3 hown hK hP 0 rfl rfl 0 (by decide) (hts _ mw_1_126) (fun _ h9 => h9) rfl dX3_nextMark_76 ?_
            refine lv_iload_n hx hb dX3_nextMark_79 rfl (lv_at hl 4 rfl) ?_
            refine lv_iload hx hb dX3_nextMark_80 (lv_at hl 0 rfl) ?_
            refine k_roV (ci := 0) (q0 := 1) (As := [.int (nI s), .int (nI (fdy (mot d + j) + k))]) (rest := []) hF (c_X0_isMarkedOn l G o ab af an aw (lmk r s (mot d) (j + 1)) s (fdy (mot d + j) + k) (by omega) (by omega)) hKx hP ⟨_, rfl, rfl⟩ rfl rfl mw_2_166 mw_2_167 mw_2_168 mw_1_2 mw_2_169 hd_X0_isMarkedOn ⟨Nat.le_of_ble_eq_true rfl, Nat.le_of_ble_eq_true rfl⟩ (Rd.of hKx hZ hS) (hP.sub (ws' := [(o, dO (lmk r s (mot d) (j + 1)) ab af an aw), (ab, .inl (gI G, 1920, .inl (dB (lmk r s (mot d) (j + 1))))), (af, .inl (gI G, 120, .inl (dF (lmk r s (mot d) (j + 1))))), (an, .inl (gI G, 120, .inl (dN (lmk r s (mot d) (j + 1))))), (aw, .inl (gI G, 7, .inl (dW (lmk r s (mot d) (j + 1)))))]) [1, 2, 3, 4, 5] rfl) rfl hl.1 rfl (Nat.le_of_ble_eq_true rfl) dX3_nextMark_82 ⟨Nat.zero_le _, Nat.zero_le _⟩ ?_
            refine lv_cv (y := pI (bt (r (255 + 16 * (mot d + j) + s)) k = true)) (congrArg pI (mkk_lmk hCv.1 (by omega) (by omega) (by omega))) ?_
            refine p0_eq hx hb (tgt := 91) dX3_nextMark_85 (by decide) (fun c_85 => ?_) (fun c_85 => ?_)
            · skip
              refine lv_iinc (v := nI (fdy (mot d + j) + k + 1)) (lv' := [(5, .int (nI (fdy (mot d + j) + k + 1))), (4, .int (nI (fdy (mot d + j) + dys (mot d + j)))), (3, .int (nI (mot d + j))), (0, .ref me), (1, .int (nI s)), (2, .int (nI d))]) hx hb dX3_nextMark_91 hl (k := 0) rfl (nI_add _ _) (by decide) rfl (fun ls hl => ?_)
              refine lv_goto (tgt := 68) hx hb dX3_nextMark_94 (by decide) ?_
              exact ihk (k + 1) _ _ ls (by omega) ⟨(by omega), (by omega), (hsk.trans (fsk_f (by omega) (fun z => c_85 z.1))), (hP.sub (ws' := [(me, .inr (3, [.ref o, .ref ou, .ref oh, .ref os, .ref op, .int kc, .int sv])), (o, dO (lmk r s (mot d) (j + 1)) ab af an aw), (ab, .inl (gI G, 1920, .inl (dB (lmk r s (mot d) (j + 1))))), (af, .inl (gI G, 120, .inl (dF (lmk r s (mot d) (j + 1))))), (an, .inl (gI G, 120, .inl (dN (lmk r s (mot d) (j + 1))))), (aw, .inl (gI G, 7, .inl (dW (lmk r s (mot d) (j + 1)))))]) [0, 1, 2, 3, 4, 5] rfl), (hD.sub (ws' := [(me, .inr (3, [.ref o, .ref ou, .ref oh, .ref os, .ref op, .int kc, .int sv])), (o, dO (lmk r s (mot d) (j + 1)) ab af an aw), (ab, .inl (gI G, 1920, .inl (dB (lmk r s (mot d) (j + 1))))), (af, .inl (gI G, 120, .inl (dF (lmk r s (mot d) (j + 1))))), (an, .inl (gI G, 120, .inl (dN (lmk r s (mot d) (j + 1))))), (aw, .inl (gI G, 7, .inl (dW (lmk r s (mot d) (j + 1)))))]) [0, 1, 2, 3, 4, 5] (by decide) rfl), hS, lv_sub hl [0, 1, 2, 3, 4, 5] (lvc (by first | rfl | exact congrArg nI (by omega)) (lvr (lvr (lvr (lvr (lvr rfl))))))⟩
            · skip
              have hfs := hsk.trans (fsk_t (by omega) ⟨c_85, hkd⟩)
              have hJ2 : nxJ r s d = j := by rw [hJ, nxn_t (by omega) (by rw [hfs]; exact nI_ne6 (by omega))]; omega
              have hcc : nxc r s d = j + 1 := by unfold nxc; rw [hJ2, if_pos (by omega)]
              refine lv_iload hx hb dX3_nextMark_88 (lv_at hl 0 rfl) ?_
              have hPj := hP.sub (ws' := [(me, .inr (3, [.ref o, .ref ou, .ref oh, .ref os, .ref op, .int kc, .int sv])), (o, dO (lmk r s (mot d) (j + 1)) ab af an aw), (ab, .inl (gI G, 1920, .inl (dB (lmk r s (mot d) (j + 1))))), (af, .inl (gI G, 120, .inl (dF (lmk r s (mot d) (j + 1))))), (an, .inl (gI G, 120, .inl (dN (lmk r s (mot d) (j + 1))))), (aw, .inl (gI G, 7, .inl (dW (lmk r s (mot d) (j + 1)))))]) [0, 1, 2, 3, 4, 5] rfl
              have hwj : ([(me, .inr (3, [.ref o, .ref ou, .ref oh, .ref os, .ref op, .int kc, .int sv])), (o, dO (lmk r s (mot d) (j + 1)) ab af an aw), (ab, .inl (gI G, 1920, .inl (dB (lmk r s (mot d) (j + 1))))), (af, .inl (gI G, 120, .inl (dF (lmk r s (mot d) (j + 1))))), (an, .inl (gI G, 120, .inl (dN (lmk r s (mot d) (j + 1))))), (aw, .inl (gI G, 7, .inl (dW (lmk r s (mot d) (j + 1)))))] : va_W) = [(me, .inr (3, [.ref o, .ref ou, .ref oh, .ref os, .ref op, .int kc, .int sv])), (o, dO (lmk r s (mot d) (nxc r s d)) ab af an aw), (ab, .inl (gI G, 1920, .inl (dB (lmk r s (mot d) (nxc r s d))))), (af, .inl (gI G, 120, .inl (dF (lmk r s (mot d) (nxc r s d))))), (an, .inl (gI G, 120, .inl (dN (lmk r s (mot d) (nxc r s d))))), (aw, .inl (gI G, 7, .inl (dW (lmk r s (mot d) (nxc r s d)))))] := (wlc (rfl) (wlc (by rw [hcc]) (wlc (by rw [hcc]) (wlc (by rw [hcc]) (wlc (by rw [hcc]) (wlc (by rw [hcc]) rfl))))))
              rw [hwj] at hPj
              exact e_wi hx hb hr hlk hPj hS (by unfold nxr; rw [hJ2, if_pos (by omega), hfs]) dX3_nextMark_90
    · skip
      exact absurd c_11 (by omega)
set_option maxHeartbeats 4000000 in
set_option maxRecDepth 100000 in
theorem c_X3_nextMark_e (l : Launch) (G : gT) (me : Nat) (o : Nat) (ou : Nat) (oh : Nat) (os : Nat) (op : Nat) (kc : Int32) (sv : Int32) (ab : Nat) (af : Nat) (an : Nat) (aw : Nat) (w : Int32) (S0 : Int) (x : Int32) (F : Int) (hw1 : w.toInt = S0) (hF1 : x.toInt = F) (he : ¬ ((0 ≤ S0 ∧ S0 ≤ 15) ∧ (0 ≤ F ∧ F ≤ 3649))) : Ro l G yX3_nextMark cX3_nextMark 6 (some .int) 9 [(me, .inr (3, [.ref o, .ref ou, .ref oh, .ref os, .ref op, .int kc, .int sv]))] [.ref me, .int w, .int x] (-1) := by
  refine Ro.mk (by decide) (Nat.le_of_ble_eq_true rfl) (fun pq eq sq mq bq tq cq ls hr hlk hF hKx hZ hP hl => ?_)
  have hx := hF.1
  have hb := hF.2.1
  have hml := hF.2.2.1
  have hown : sq.vm.findClass RX3 = some mq.cls := hF.2.2.2.1
  have hts : ∀ w ∈ GW, w.before _ sq = true := hF.2.2.2.2
  have hK := hKx.1
  have hl : lv_has ls 6 [(0, .ref me), (1, .int w), (2, .int x)] := hl
  have hS : va_S (fun _ => False) sq.heap sq.heap [] := va_S.rf
  have hP : va_P G.1 vwCl [(me, .inr (3, [.ref o, .ref ou, .ref oh, .ref os, .ref op, .int kc, .int sv]))] sq.heap := hP
  refine lv_iload_n hx hb dX3_nextMark_0 rfl (lv_at hl 1 rfl) ?_
  refine k_roS (As := [.int w]) (rest := []) hF (c_X3_isSubject l G w S0 hw1) mw_2_64 mw_2_65 mw_1_1 mw_2_66 hd_X3_isSubject ⟨Nat.le_of_ble_eq_true rfl, Nat.le_of_ble_eq_true rfl⟩ (Rd.of hKx hZ hS) (hP.sub (ws' := []) [] rfl) rfl hl.1 rfl (Nat.le_of_ble_eq_true rfl) dX3_nextMark_1 ⟨Nat.zero_le _, Nat.zero_le _⟩ ?_
  refine p0_eq hx hb (tgt := 14) dX3_nextMark_4 (by decide) (fun c_4 => ?_) (fun c_4 => ?_)
  · skip
    refine lv_iconst (v := (-1)) hx hb dX3_nextMark_14 (by decide) ?_
    exact e_ri hx hb hr hlk (rfl) dX3_nextMark_15
  · skip
    refine lv_iload_n hx hb dX3_nextMark_7 rfl (lv_at hl 2 rfl) ?_
    refine k_roS (As := [.int x]) (rest := []) hF (c_X3_isDay l G x F hF1) mw_2_70 mw_2_71 mw_1_1 mw_2_72 hd_X3_isDay ⟨Nat.le_of_ble_eq_true rfl, Nat.le_of_ble_eq_true rfl⟩ (Rd.of hKx hZ hS) (hP.sub (ws' := []) [] rfl) rfl hl.1 rfl (Nat.le_of_ble_eq_true rfl) dX3_nextMark_8 ⟨Nat.zero_le _, Nat.zero_le _⟩ ?_
    refine p0_ne hx hb (tgt := 16) dX3_nextMark_11 (by decide) (fun c_11 => ?_) (fun c_11 => ?_)
    · skip
      exact absurd c_11 (by omega)
    · skip
      refine lv_iconst (v := (-1)) hx hb dX3_nextMark_14 (by decide) ?_
      exact e_ri hx hb hr hlk (rfl) dX3_nextMark_15
set_option maxHeartbeats 4000000 in
set_option maxRecDepth 100000 in
theorem c_X3_ofMonth_k (l : Launch) (G : gT) (me : Nat) (o : Nat) (ou : Nat) (oh : Nat) (os : Nat) (op : Nat) (kc : Int32) (sv : Int32) (ab : Nat) (af : Nat) (an : Nat) (aw : Nat) (r : Nat → Int32) (m : Nat) (x : Int32) (X : Int) (hCv : Cv r) (hm : m < 120) (hX : x.toInt = X) : Ro l G yX3_ofMonth cX3_ofMonth 3 (some .int) 9 [(me, .inr (3, [.ref o, .ref ou, .ref oh, .ref os, .ref op, .int kc, .int sv])), (o, dO r ab af an aw), (ab, .inl (gI G, 1920, .inl (dB r))), (af, .inl (gI G, 120, .inl (dF r))), (an, .inl (gI G, 120, .inl (dN r))), (aw, .inl (gI G, 7, .inl (dW r)))] [.ref me, .int (nI m), .int x] (omv r m X) := by
  refine Ro.mk (by decide) (Nat.le_of_ble_eq_true rfl) (fun pq eq sq mq bq tq cq ls hr hlk hF hKx hZ hP hl => ?_)
  have hx := hF.1
  have hb := hF.2.1
  have hml := hF.2.2.1
  have hown : sq.vm.findClass RX3 = some mq.cls := hF.2.2.2.1
  have hts : ∀ w ∈ GW, w.before _ sq = true := hF.2.2.2.2
  have hK := hKx.1
  have hl : lv_has ls 3 [(0, .ref me), (1, .int (nI m)), (2, .int x)] := hl
  have hS : va_S (fun _ => False) sq.heap sq.heap [] := va_S.rf
  have hP : va_P G.1 vwCl [(me, .inr (3, [.ref o, .ref ou, .ref oh, .ref os, .ref op, .int kc, .int sv])), (o, dO r ab af an aw), (ab, .inl (gI G, 1920, .inl (dB r))), (af, .inl (gI G, 120, .inl (dF r))), (an, .inl (gI G, 120, .inl (dN r))), (aw, .inl (gI G, 7, .inl (dW r)))] sq.heap := hP
  obtain ⟨h0, ht0, h1, hkp, h2, ho, h6, hc, hRx⟩ := id hCv.1.1
  have hmi : mIn r m ≤ 496 := mIk_le r m 16
  have hCt := hCv.2.2.1
  have hB8 : Bs r 8 := hCv.1.b (by omega)
  have hco := cfm_o (hCt.1 m hm)
  refine lv_iload_n hx hb dX3_ofMonth_0 rfl (lv_at hl 1 rfl) ?_
  refine k_roS (As := [.int (nI m)]) (rest := []) hF (c_X3_isMonth l G (nI m) ((m : Nat) : Int) (toI (by omega))) mw_2_179 mw_1_189 mw_1_1 mw_1_190 hd_X3_isMonth ⟨Nat.le_of_ble_eq_true rfl, Nat.le_of_ble_eq_true rfl⟩ (Rd.of hKx hZ hS) (hP.sub (ws' := []) [] rfl) rfl hl.1 rfl (Nat.le_of_ble_eq_true rfl) dX3_ofMonth_1 ⟨Nat.zero_le _, Nat.zero_le _⟩ ?_
  refine p0_ne hx hb (tgt := 9) dX3_ofMonth_4 (by decide) (fun c_4 => ?_) (fun c_4 => ?_)
  · skip
    refine lv_iload_n hx hb dX3_ofMonth_9 rfl (lv_at hl 2 rfl) ?_
    have sw_10 : x.toInt = X := hX
    rcases (show (X < 0 ∨ 9 < X) ∨ X = 0 ∨ X = 1 ∨ X = 2 ∨ X = 3 ∨ X = 4 ∨ X = 5 ∨ X = 6 ∨ X = 7 ∨ X = 8 ∨ X = 9 by omega) with c_10 | c_10 | c_10 | c_10 | c_10 | c_10 | c_10 | c_10 | c_10 | c_10 | c_10
    · skip
      refine lv_tableOut (tgt := 180) hx hb dX3_ofMonth_10 (by rw [sw_10]; exact c_10) (by decide) ?_
      refine lv_bipush (v := (-2)) hx hb dX3_ofMonth_180 (by decide) ?_
      exact e_ri hx hb hr hlk (by unfold omv; rw [if_neg (by omega), if_neg (by omega), if_neg (by omega), if_neg (by omega), if_neg (by omega), if_neg (by omega), if_neg (by omega), if_neg (by omega), if_neg (by omega), if_neg (by omega)]) dX3_ofMonth_182
    · skip
      refine lv_tableIn (tgt := 64) hx hb dX3_ofMonth_10 (by rw [sw_10, c_10]; decide) (by rw [sw_10, c_10]; decide) (by rw [sw_10, c_10]; rfl) (by decide) ?_
      refine lv_iload_n hx hb dX3_ofMonth_64 rfl (lv_at hl 1 rfl) ?_
      refine k_roS (As := [.int (nI m)]) (rest := []) hF (c_X3_firstDayOf l G m (by omega)) mw_2_80 mw_2_81 mw_1_1 mw_2_82 hd_X3_firstDayOf ⟨Nat.le_of_ble_eq_true rfl, Nat.le_of_ble_eq_true rfl⟩ (Rd.of hKx hZ hS) (hP.sub (ws' := []) [] rfl) rfl hl.1 rfl (Nat.le_of_ble_eq_true rfl) dX3_ofMonth_65 ⟨Nat.zero_le _, Nat.zero_le _⟩ ?_
      exact e_ri hx hb hr hlk (by subst c_10; rfl) dX3_ofMonth_68
    · skip
      refine lv_tableIn (tgt := 69) hx hb dX3_ofMonth_10 (by rw [sw_10, c_10]; decide) (by rw [sw_10, c_10]; decide) (by rw [sw_10, c_10]; rfl) (by decide) ?_
      refine lv_iload_n hx hb dX3_ofMonth_69 rfl (lv_at hl 1 rfl) ?_
      refine k_roS (As := [.int (nI m)]) (rest := []) hF (c_X3_daysOf l G m (by omega)) mw_2_84 mw_2_85 mw_1_1 mw_2_86 hd_X3_daysOf ⟨Nat.le_of_ble_eq_true rfl, Nat.le_of_ble_eq_true rfl⟩ (Rd.of hKx hZ hS) (hP.sub (ws' := []) [] rfl) rfl hl.1 rfl (Nat.le_of_ble_eq_true rfl) dX3_ofMonth_70 ⟨Nat.zero_le _, Nat.zero_le _⟩ ?_
      exact e_ri hx hb hr hlk (by subst c_10; rfl) dX3_ofMonth_73
    · skip
      refine lv_tableIn (tgt := 74) hx hb dX3_ofMonth_10 (by rw [sw_10, c_10]; decide) (by rw [sw_10, c_10]; decide) (by rw [sw_10, c_10]; rfl) (by decide) ?_
      refine lv_aload_n hx hb dX3_ofMonth_74 rfl (lv_at hl 0 rfl) ?_
      refine va_get (ci := 3) (v := .ref o) (C := RX3) (T := TX3) (N := 7) hx hb hts inGX3 hown hK hP 0 rfl rfl 0 (by decide) (hts _ mw_1_126) (fun _ h9 => h9) rfl dX3_ofMonth_75 ?_
      refine lv_iload_n hx hb dX3_ofMonth_78 rfl (lv_at hl 1 rfl) ?_
      refine k_roV (ci := 0) (q0 := 1) (As := [.int (nI m)]) (rest := []) hF (c_X0_isOld l G o ab af an aw r m (by omega) (hB8)) hKx hP ⟨_, rfl, rfl⟩ rfl rfl mw_2_180 mw_2_91 mw_2_92 mw_1_2 mw_2_93 hd_X0_isOld ⟨Nat.le_of_ble_eq_true rfl, Nat.le_of_ble_eq_true rfl⟩ (Rd.of hKx hZ hS) (hP.sub (ws' := [(o, dO r ab af an aw), (ab, .inl (gI G, 1920, .inl (dB r))), (af, .inl (gI G, 120, .inl (dF r))), (an, .inl (gI G, 120, .inl (dN r))), (aw, .inl (gI G, 7, .inl (dW r)))]) [1, 2, 3, 4, 5] rfl) rfl hl.1 rfl (Nat.le_of_ble_eq_true rfl) dX3_ofMonth_79 ⟨Nat.zero_le _, Nat.zero_le _⟩ ?_
      refine p0_eq hx hb (tgt := 89) dX3_ofMonth_82 (by decide) (fun c_82 => ?_) (fun c_82 => ?_)
      · skip
        refine lv_iconst (v := nI 0) hx hb dX3_ofMonth_89 (by decide) ?_
        exact e_ri hx hb hr hlk (by subst c_10; first | exact pI_t' c_82 | exact pI_f' c_82) dX3_ofMonth_90
      · skip
        refine lv_iconst (v := nI 1) hx hb dX3_ofMonth_85 (by decide) ?_
        refine lv_goto (tgt := 90) hx hb dX3_ofMonth_86 (by decide) ?_
        exact e_ri hx hb hr hlk (by subst c_10; first | exact pI_t' c_82 | exact pI_f' c_82) dX3_ofMonth_90
    · skip
      refine lv_tableIn (tgt := 91) hx hb dX3_ofMonth_10 (by rw [sw_10, c_10]; decide) (by rw [sw_10, c_10]; decide) (by rw [sw_10, c_10]; rfl) (by decide) ?_
      refine lv_aload_n hx hb dX3_ofMonth_91 rfl (lv_at hl 0 rfl) ?_
      refine va_get (ci := 3) (v := .ref o) (C := RX3) (T := TX3) (N := 7) hx hb hts inGX3 hown hK hP 0 rfl rfl 0 (by decide) (hts _ mw_1_126) (fun _ h9 => h9) rfl dX3_ofMonth_92 ?_
      refine lv_iload_n hx hb dX3_ofMonth_95 rfl (lv_at hl 1 rfl) ?_
      refine k_roV (ci := 0) (q0 := 1) (As := [.int (nI m)]) (rest := []) hF (c_X0_placeInRow l G o ab af an aw r m (by omega) (hCv.1.b (by omega))) hKx hP ⟨_, rfl, rfl⟩ rfl rfl mw_2_181 mw_2_103 mw_2_104 mw_1_2 mw_2_105 hd_X0_placeInRow ⟨Nat.le_of_ble_eq_true rfl, Nat.le_of_ble_eq_true rfl⟩ (Rd.of hKx hZ hS) (hP.sub (ws' := [(o, dO r ab af an aw), (ab, .inl (gI G, 1920, .inl (dB r))), (af, .inl (gI G, 120, .inl (dF r))), (an, .inl (gI G, 120, .inl (dN r))), (aw, .inl (gI G, 7, .inl (dW r)))]) [1, 2, 3, 4, 5] rfl) rfl hl.1 rfl (Nat.le_of_ble_eq_true rfl) dX3_ofMonth_96 ⟨Nat.zero_le _, Nat.zero_le _⟩ ?_
      refine lv_bipush (v := (-6)) hx hb dX3_ofMonth_99 (by decide) ?_
      refine z_ne hx hb (tgt := 108) ((plo r m).toInt) (-6) dX3_ofMonth_101 (by decide) rfl (by decide) (fun c_101 => ?_) (fun c_101 => ?_)
      · skip
        refine lv_iconst (v := nI 1) hx hb dX3_ofMonth_108 (by decide) ?_
        exact e_ri hx hb hr hlk (by subst c_10; first | exact pI_t' (fun z => c_101 (congrArg Int32.toInt z)) | exact pI_f' (fun z => z (Int32.toInt_inj.mp c_101))) dX3_ofMonth_109
      · skip
        refine lv_iconst (v := nI 0) hx hb dX3_ofMonth_104 (by decide) ?_
        refine lv_goto (tgt := 109) hx hb dX3_ofMonth_105 (by decide) ?_
        exact e_ri hx hb hr hlk (by subst c_10; first | exact pI_t' (fun z => c_101 (congrArg Int32.toInt z)) | exact pI_f' (fun z => z (Int32.toInt_inj.mp c_101))) dX3_ofMonth_109
    · skip
      refine lv_tableIn (tgt := 110) hx hb dX3_ofMonth_10 (by rw [sw_10, c_10]; decide) (by rw [sw_10, c_10]; decide) (by rw [sw_10, c_10]; rfl) (by decide) ?_
      refine lv_aload_n hx hb dX3_ofMonth_110 rfl (lv_at hl 0 rfl) ?_
      refine va_get (ci := 3) (v := .ref o) (C := RX3) (T := TX3) (N := 7) hx hb hts inGX3 hown hK hP 0 rfl rfl 0 (by decide) (hts _ mw_1_126) (fun _ h9 => h9) rfl dX3_ofMonth_111 ?_
      refine lv_iload_n hx hb dX3_ofMonth_114 rfl (lv_at hl 1 rfl) ?_
      refine k_roV (ci := 0) (q0 := 1) (As := [.int (nI m)]) (rest := []) hF (c_X0_formOf l G o ab af an aw r m (by omega)) hKx hP ⟨_, rfl, rfl⟩ rfl rfl mw_2_182 mw_1_185 mw_1_186 mw_1_2 mw_1_187 hd_X0_formOf ⟨Nat.le_of_ble_eq_true rfl, Nat.le_of_ble_eq_true rfl⟩ (Rd.of hKx hZ hS) (hP.sub (ws' := [(o, dO r ab af an aw), (ab, .inl (gI G, 1920, .inl (dB r))), (af, .inl (gI G, 120, .inl (dF r))), (an, .inl (gI G, 120, .inl (dN r))), (aw, .inl (gI G, 7, .inl (dW r)))]) [1, 2, 3, 4, 5] rfl) rfl hl.1 rfl (Nat.le_of_ble_eq_true rfl) dX3_ofMonth_115 ⟨Nat.zero_le _, Nat.zero_le _⟩ ?_
      refine lv_iconst (v := nI 5) hx hb dX3_ofMonth_118 (by decide) ?_
      refine z_ne hx hb (tgt := 126) ((cfm (r (15 + m))).toInt) 5 dX3_ofMonth_119 (by decide) rfl (by decide) (fun c_119 => ?_) (fun c_119 => ?_)
      · skip
        refine lv_aload_n hx hb dX3_ofMonth_126 rfl (lv_at hl 0 rfl) ?_
        refine va_get (ci := 3) (v := .ref o) (C := RX3) (T := TX3) (N := 7) hx hb hts inGX3 hown hK hP 0 rfl rfl 0 (by decide) (hts _ mw_1_126) (fun _ h9 => h9) rfl dX3_ofMonth_127 ?_
        refine lv_iload_n hx hb dX3_ofMonth_130 rfl (lv_at hl 1 rfl) ?_
        refine k_roV (ci := 0) (q0 := 1) (As := [.int (nI m)]) (rest := []) hF (c_X0_formOf l G o ab af an aw r m (by omega)) hKx hP ⟨_, rfl, rfl⟩ rfl rfl mw_2_182 mw_1_185 mw_1_186 mw_1_2 mw_1_187 hd_X0_formOf ⟨Nat.le_of_ble_eq_true rfl, Nat.le_of_ble_eq_true rfl⟩ (Rd.of hKx hZ hS) (hP.sub (ws' := [(o, dO r ab af an aw), (ab, .inl (gI G, 1920, .inl (dB r))), (af, .inl (gI G, 120, .inl (dF r))), (an, .inl (gI G, 120, .inl (dN r))), (aw, .inl (gI G, 7, .inl (dW r)))]) [1, 2, 3, 4, 5] rfl) rfl hl.1 rfl (Nat.le_of_ble_eq_true rfl) dX3_ofMonth_131 ⟨Nat.zero_le _, Nat.zero_le _⟩ ?_
        exact e_ri hx hb hr hlk (by subst c_10; first | exact hco.1 c_119 | exact hco.2 c_119) dX3_ofMonth_134
      · skip
        refine lv_iconst (v := nI 4) hx hb dX3_ofMonth_122 (by decide) ?_
        refine lv_goto (tgt := 134) hx hb dX3_ofMonth_123 (by decide) ?_
        exact e_ri hx hb hr hlk (by subst c_10; first | exact hco.1 c_119 | exact hco.2 c_119) dX3_ofMonth_134
    · skip
      refine lv_tableIn (tgt := 135) hx hb dX3_ofMonth_10 (by rw [sw_10, c_10]; decide) (by rw [sw_10, c_10]; decide) (by rw [sw_10, c_10]; rfl) (by decide) ?_
      refine lv_aload_n hx hb dX3_ofMonth_135 rfl (lv_at hl 0 rfl) ?_
      refine va_get (ci := 3) (v := .ref o) (C := RX3) (T := TX3) (N := 7) hx hb hts inGX3 hown hK hP 0 rfl rfl 0 (by decide) (hts _ mw_1_126) (fun _ h9 => h9) rfl dX3_ofMonth_136 ?_
      refine lv_iload_n hx hb dX3_ofMonth_139 rfl (lv_at hl 1 rfl) ?_
      refine k_roV (ci := 0) (q0 := 1) (As := [.int (nI m)]) (rest := []) hF (c_X0_sizeOf l G o ab af an aw r m (by omega) (hCt.1) (hCt.2.2) (hCt.2.1)) hKx hP ⟨_, rfl, rfl⟩ rfl rfl mw_2_183 mw_1_181 mw_1_182 mw_1_2 mw_1_183 hd_X0_sizeOf ⟨Nat.le_of_ble_eq_true rfl, Nat.le_of_ble_eq_true rfl⟩ (Rd.of hKx hZ hS) (hP.sub (ws' := [(o, dO r ab af an aw), (ab, .inl (gI G, 1920, .inl (dB r))), (af, .inl (gI G, 120, .inl (dF r))), (an, .inl (gI G, 120, .inl (dN r))), (aw, .inl (gI G, 7, .inl (dW r)))]) [1, 2, 3, 4, 5] rfl) rfl hl.1 rfl (Nat.le_of_ble_eq_true rfl) dX3_ofMonth_140 ⟨Nat.zero_le _, Nat.zero_le _⟩ ?_
      exact e_ri hx hb hr hlk (by subst c_10; rfl) dX3_ofMonth_143
    · skip
      refine lv_tableIn (tgt := 144) hx hb dX3_ofMonth_10 (by rw [sw_10, c_10]; decide) (by rw [sw_10, c_10]; decide) (by rw [sw_10, c_10]; rfl) (by decide) ?_
      refine lv_aload_n hx hb dX3_ofMonth_144 rfl (lv_at hl 0 rfl) ?_
      refine va_get (ci := 3) (v := .ref o) (C := RX3) (T := TX3) (N := 7) hx hb hts inGX3 hown hK hP 0 rfl rfl 0 (by decide) (hts _ mw_1_126) (fun _ h9 => h9) rfl dX3_ofMonth_145 ?_
      refine lv_iload_n hx hb dX3_ofMonth_148 rfl (lv_at hl 1 rfl) ?_
      refine k_roV (ci := 0) (q0 := 1) (As := [.int (nI m)]) (rest := []) hF (c_X0_namedBy l G o ab af an aw r m (by omega)) hKx hP ⟨_, rfl, rfl⟩ rfl rfl mw_2_184 mw_1_192 mw_1_193 mw_1_2 mw_1_194 hd_X0_namedBy ⟨Nat.le_of_ble_eq_true rfl, Nat.le_of_ble_eq_true rfl⟩ (Rd.of hKx hZ hS) (hP.sub (ws' := [(o, dO r ab af an aw), (ab, .inl (gI G, 1920, .inl (dB r))), (af, .inl (gI G, 120, .inl (dF r))), (an, .inl (gI G, 120, .inl (dN r))), (aw, .inl (gI G, 7, .inl (dW r)))]) [1, 2, 3, 4, 5] rfl) rfl hl.1 rfl (Nat.le_of_ble_eq_true rfl) dX3_ofMonth_149 ⟨Nat.zero_le _, Nat.zero_le _⟩ ?_
      exact e_ri hx hb hr hlk (by subst c_10; rfl) dX3_ofMonth_152
    · skip
      refine lv_tableIn (tgt := 153) hx hb dX3_ofMonth_10 (by rw [sw_10, c_10]; decide) (by rw [sw_10, c_10]; decide) (by rw [sw_10, c_10]; rfl) (by decide) ?_
      refine lv_aload_n hx hb dX3_ofMonth_153 rfl (lv_at hl 0 rfl) ?_
      refine va_get (ci := 3) (v := .ref o) (C := RX3) (T := TX3) (N := 7) hx hb hts inGX3 hown hK hP 0 rfl rfl 0 (by decide) (hts _ mw_1_126) (fun _ h9 => h9) rfl dX3_ofMonth_154 ?_
      refine lv_iload_n hx hb dX3_ofMonth_157 rfl (lv_at hl 1 rfl) ?_
      refine k_roV (ci := 0) (q0 := 1) (As := [.int (nI m)]) (rest := []) hF (c_X0_marksIn l G o ab af an aw r m (by omega) (hCt.2.1)) hKx hP ⟨_, rfl, rfl⟩ rfl rfl mw_2_185 mw_1_200 mw_1_201 mw_1_2 mw_1_202 hd_X0_marksIn ⟨Nat.le_of_ble_eq_true rfl, Nat.le_of_ble_eq_true rfl⟩ (Rd.of hKx hZ hS) (hP.sub (ws' := [(o, dO r ab af an aw), (ab, .inl (gI G, 1920, .inl (dB r))), (af, .inl (gI G, 120, .inl (dF r))), (an, .inl (gI G, 120, .inl (dN r))), (aw, .inl (gI G, 7, .inl (dW r)))]) [1, 2, 3, 4, 5] rfl) rfl hl.1 rfl (Nat.le_of_ble_eq_true rfl) dX3_ofMonth_158 ⟨Nat.zero_le _, Nat.zero_le _⟩ ?_
      exact e_ri hx hb hr hlk (by subst c_10; rfl) dX3_ofMonth_161
    · skip
      refine lv_tableIn (tgt := 162) hx hb dX3_ofMonth_10 (by rw [sw_10, c_10]; decide) (by rw [sw_10, c_10]; decide) (by rw [sw_10, c_10]; rfl) (by decide) ?_
      refine lv_aload_n hx hb dX3_ofMonth_162 rfl (lv_at hl 0 rfl) ?_
      refine va_get (ci := 3) (v := .ref o) (C := RX3) (T := TX3) (N := 7) hx hb hts inGX3 hown hK hP 0 rfl rfl 0 (by decide) (hts _ mw_1_126) (fun _ h9 => h9) rfl dX3_ofMonth_163 ?_
      refine lv_iload_n hx hb dX3_ofMonth_166 rfl (lv_at hl 1 rfl) ?_
      refine k_roV (ci := 0) (q0 := 1) (As := [.int (nI m)]) (rest := []) hF (c_X0_subjectsIn l G o ab af an aw r m (by omega)) hKx hP ⟨_, rfl, rfl⟩ rfl rfl mw_2_186 mw_2_187 mw_2_188 mw_1_2 mw_2_189 hd_X0_subjectsIn ⟨Nat.le_of_ble_eq_true rfl, Nat.le_of_ble_eq_true rfl⟩ (Rd.of hKx hZ hS) (hP.sub (ws' := [(o, dO r ab af an aw), (ab, .inl (gI G, 1920, .inl (dB r))), (af, .inl (gI G, 120, .inl (dF r))), (an, .inl (gI G, 120, .inl (dN r))), (aw, .inl (gI G, 7, .inl (dW r)))]) [1, 2, 3, 4, 5] rfl) rfl hl.1 rfl (Nat.le_of_ble_eq_true rfl) dX3_ofMonth_167 ⟨Nat.zero_le _, Nat.zero_le _⟩ ?_
      exact e_ri hx hb hr hlk (by subst c_10; rfl) dX3_ofMonth_170
    · skip
      refine lv_tableIn (tgt := 171) hx hb dX3_ofMonth_10 (by rw [sw_10, c_10]; decide) (by rw [sw_10, c_10]; decide) (by rw [sw_10, c_10]; rfl) (by decide) ?_
      refine lv_aload_n hx hb dX3_ofMonth_171 rfl (lv_at hl 0 rfl) ?_
      refine va_get (ci := 3) (v := .ref o) (C := RX3) (T := TX3) (N := 7) hx hb hts inGX3 hown hK hP 0 rfl rfl 0 (by decide) (hts _ mw_1_126) (fun _ h9 => h9) rfl dX3_ofMonth_172 ?_
      refine lv_iload_n hx hb dX3_ofMonth_175 rfl (lv_at hl 1 rfl) ?_
      refine k_roV (ci := 0) (q0 := 1) (As := [.int (nI m)]) (rest := []) hF (c_X0_placeInRow l G o ab af an aw r m (by omega) (hCv.1.b (by omega))) hKx hP ⟨_, rfl, rfl⟩ rfl rfl mw_2_181 mw_2_103 mw_2_104 mw_1_2 mw_2_105 hd_X0_placeInRow ⟨Nat.le_of_ble_eq_true rfl, Nat.le_of_ble_eq_true rfl⟩ (Rd.of hKx hZ hS) (hP.sub (ws' := [(o, dO r ab af an aw), (ab, .inl (gI G, 1920, .inl (dB r))), (af, .inl (gI G, 120, .inl (dF r))), (an, .inl (gI G, 120, .inl (dN r))), (aw, .inl (gI G, 7, .inl (dW r)))]) [1, 2, 3, 4, 5] rfl) rfl hl.1 rfl (Nat.le_of_ble_eq_true rfl) dX3_ofMonth_176 ⟨Nat.zero_le _, Nat.zero_le _⟩ ?_
      exact e_ri hx hb hr hlk (by subst c_10; rfl) dX3_ofMonth_179
  · skip
    exact absurd c_4 (by omega)
set_option maxHeartbeats 4000000 in
set_option maxRecDepth 100000 in
theorem c_X3_ofMonth_e (l : Launch) (G : gT) (me : Nat) (o : Nat) (ou : Nat) (oh : Nat) (os : Nat) (op : Nat) (kc : Int32) (sv : Int32) (ab : Nat) (af : Nat) (an : Nat) (aw : Nat) (w : Int32) (S0 : Int) (x : Int32) (hw1 : w.toInt = S0) (he : ¬ (0 ≤ S0 ∧ S0 ≤ 119)) : Ro l G yX3_ofMonth cX3_ofMonth 3 (some .int) 9 [(me, .inr (3, [.ref o, .ref ou, .ref oh, .ref os, .ref op, .int kc, .int sv]))] [.ref me, .int w, .int x] (-1) := by
  refine Ro.mk (by decide) (Nat.le_of_ble_eq_true rfl) (fun pq eq sq mq bq tq cq ls hr hlk hF hKx hZ hP hl => ?_)
  have hx := hF.1
  have hb := hF.2.1
  have hml := hF.2.2.1
  have hown : sq.vm.findClass RX3 = some mq.cls := hF.2.2.2.1
  have hts : ∀ w ∈ GW, w.before _ sq = true := hF.2.2.2.2
  have hK := hKx.1
  have hl : lv_has ls 3 [(0, .ref me), (1, .int w), (2, .int x)] := hl
  have hS : va_S (fun _ => False) sq.heap sq.heap [] := va_S.rf
  have hP : va_P G.1 vwCl [(me, .inr (3, [.ref o, .ref ou, .ref oh, .ref os, .ref op, .int kc, .int sv]))] sq.heap := hP
  refine lv_iload_n hx hb dX3_ofMonth_0 rfl (lv_at hl 1 rfl) ?_
  refine k_roS (As := [.int w]) (rest := []) hF (c_X3_isMonth l G w S0 hw1) mw_2_179 mw_1_189 mw_1_1 mw_1_190 hd_X3_isMonth ⟨Nat.le_of_ble_eq_true rfl, Nat.le_of_ble_eq_true rfl⟩ (Rd.of hKx hZ hS) (hP.sub (ws' := []) [] rfl) rfl hl.1 rfl (Nat.le_of_ble_eq_true rfl) dX3_ofMonth_1 ⟨Nat.zero_le _, Nat.zero_le _⟩ ?_
  refine p0_ne hx hb (tgt := 9) dX3_ofMonth_4 (by decide) (fun c_4 => ?_) (fun c_4 => ?_)
  · skip
    exact absurd c_4 (by omega)
  · skip
    refine lv_iconst (v := (-1)) hx hb dX3_ofMonth_7 (by decide) ?_
    exact e_ri hx hb hr hlk (rfl) dX3_ofMonth_8
set_option maxHeartbeats 4000000 in
set_option maxRecDepth 100000 in
theorem c_X3_count (l : Launch) (G : gT) (me : Nat) (o : Nat) (ou : Nat) (oh : Nat) (os : Nat) (op : Nat) (kc : Int32) (sv : Int32) (ab : Nat) (af : Nat) (an : Nat) (aw : Nat) (r : Nat → Int32) (sg : Nat) (sp : Nat) (pl : Int32) (p2 : Int32) (p3 : Int32) (p4 : Int32) (x : Int32) (X : Int) (hCv : Cv r) (hX : x.toInt = X) : Ro l G yX3_count cX3_count 2 (some .int) 9 [(me, .inr (3, [.ref o, .ref ou, .ref oh, .ref os, .ref op, .int kc, .int sv])), (op, .inr (1, [.ref sg, .ref sp, .int pl, .int p2, .int p3, .int p4])), (o, dO r ab af an aw), (ab, .inl (gI G, 1920, .inl (dB r))), (af, .inl (gI G, 120, .inl (dF r))), (an, .inl (gI G, 120, .inl (dN r))), (aw, .inl (gI G, 7, .inl (dW r)))] [.ref me, .int x] (cov r kc pl X) := by
  refine Ro.mk (by decide) (Nat.le_of_ble_eq_true rfl) (fun pq eq sq mq bq tq cq ls hr hlk hF hKx hZ hP hl => ?_)
  have hx := hF.1
  have hb := hF.2.1
  have hml := hF.2.2.1
  have hown : sq.vm.findClass RX3 = some mq.cls := hF.2.2.2.1
  have hts : ∀ w ∈ GW, w.before _ sq = true := hF.2.2.2.2
  have hK := hKx.1
  have hl : lv_has ls 2 [(0, .ref me), (1, .int x)] := hl
  have hS : va_S (fun _ => False) sq.heap sq.heap [] := va_S.rf
  have hP : va_P G.1 vwCl [(me, .inr (3, [.ref o, .ref ou, .ref oh, .ref os, .ref op, .int kc, .int sv])), (op, .inr (1, [.ref sg, .ref sp, .int pl, .int p2, .int p3, .int p4])), (o, dO r ab af an aw), (ab, .inl (gI G, 1920, .inl (dB r))), (af, .inl (gI G, 120, .inl (dF r))), (an, .inl (gI G, 120, .inl (dN r))), (aw, .inl (gI G, 7, .inl (dW r)))] sq.heap := hP
  obtain ⟨h0, ht0, h1, hkp, h2, ho, h6, hc, hRx⟩ := id hCv.1.1
  have hm0 := mot_row ht0
  have hCt := hCv.2.2.1
  have hB8 : Bs r 8 := hCv.1.b (by omega)
  refine lv_iload_n hx hb dX3_count_0 rfl (lv_at hl 1 rfl) ?_
  have sw_1 : x.toInt = X := hX
  rcases (show (X < 0 ∨ 12 < X) ∨ X = 0 ∨ X = 1 ∨ X = 2 ∨ X = 3 ∨ X = 4 ∨ X = 5 ∨ X = 6 ∨ X = 7 ∨ X = 8 ∨ X = 9 ∨ X = 10 ∨ X = 11 ∨ X = 12 by omega) with c_1 | c_1 | c_1 | c_1 | c_1 | c_1 | c_1 | c_1 | c_1 | c_1 | c_1 | c_1 | c_1 | c_1
  · skip
    refine lv_tableOut (tgt := 172) hx hb dX3_count_1 (by rw [sw_1]; exact c_1) (by decide) ?_
    refine lv_bipush (v := (-2)) hx hb dX3_count_172 (by decide) ?_
    exact e_ri hx hb hr hlk (by unfold cov; rw [if_neg (by omega), if_neg (by omega), if_neg (by omega), if_neg (by omega), if_neg (by omega), if_neg (by omega), if_neg (by omega), if_neg (by omega), if_neg (by omega), if_neg (by omega), if_neg (by omega), if_neg (by omega), if_neg (by omega)]) dX3_count_174
  · skip
    refine lv_tableIn (tgt := 68) hx hb dX3_count_1 (by rw [sw_1, c_1]; decide) (by rw [sw_1, c_1]; decide) (by rw [sw_1, c_1]; rfl) (by decide) ?_
    refine lv_aload_n hx hb dX3_count_68 rfl (lv_at hl 0 rfl) ?_
    refine va_get (ci := 3) (v := .ref o) (C := RX3) (T := TX3) (N := 7) hx hb hts inGX3 hown hK hP 0 rfl rfl 0 (by decide) (hts _ mw_1_126) (fun _ h9 => h9) rfl dX3_count_69 ?_
    refine va_get (ci := 0) (v := .int (r 0)) (C := RX0) (T := TX0) (N := 11) hx hb hts inGX0 hown hK hP 2 rfl rfl 0 (by decide) (hts _ mw_1_22) (fun _ h9 => h9) rfl dX3_count_72 ?_
    exact e_ri hx hb hr hlk (by subst c_1; rfl) dX3_count_75
  · skip
    refine lv_tableIn (tgt := 76) hx hb dX3_count_1 (by rw [sw_1, c_1]; decide) (by rw [sw_1, c_1]; decide) (by rw [sw_1, c_1]; rfl) (by decide) ?_
    refine lv_aload_n hx hb dX3_count_76 rfl (lv_at hl 0 rfl) ?_
    refine va_get (ci := 3) (v := .ref o) (C := RX3) (T := TX3) (N := 7) hx hb hts inGX3 hown hK hP 0 rfl rfl 0 (by decide) (hts _ mw_1_126) (fun _ h9 => h9) rfl dX3_count_77 ?_
    refine va_get (ci := 0) (v := .int (r 0)) (C := RX0) (T := TX0) (N := 11) hx hb hts inGX0 hown hK hP 2 rfl rfl 0 (by decide) (hts _ mw_1_22) (fun _ h9 => h9) rfl dX3_count_80 ?_
    refine lv_cv (y := nI (td r)) (h0) ?_
    refine k_roS (As := [.int (nI (td r))]) (rest := []) hF (c_X3_monthOf l G (td r) (by omega)) mw_1_160 mw_1_161 mw_1_1 mw_1_162 hd_X3_monthOf ⟨Nat.le_of_ble_eq_true rfl, Nat.le_of_ble_eq_true rfl⟩ (Rd.of hKx hZ hS) (hP.sub (ws' := []) [] rfl) rfl hl.1 rfl (Nat.le_of_ble_eq_true rfl) dX3_count_83 ⟨Nat.zero_le _, Nat.zero_le _⟩ ?_
    exact e_ri hx hb hr hlk (by subst c_1; rfl) dX3_count_86
  · skip
    refine lv_tableIn (tgt := 87) hx hb dX3_count_1 (by rw [sw_1, c_1]; decide) (by rw [sw_1, c_1]; decide) (by rw [sw_1, c_1]; rfl) (by decide) ?_
    refine lv_aload_n hx hb dX3_count_87 rfl (lv_at hl 0 rfl) ?_
    refine va_get (ci := 3) (v := .ref o) (C := RX3) (T := TX3) (N := 7) hx hb hts inGX3 hown hK hP 0 rfl rfl 0 (by decide) (hts _ mw_1_126) (fun _ h9 => h9) rfl dX3_count_88 ?_
    refine k_roV (ci := 0) (q0 := 2) (As := []) (rest := []) hF (c_X0_oldMonths l G o ab af an aw r (hB8)) hKx hP ⟨_, rfl, rfl⟩ rfl rfl mw_1_168 mw_1_169 mw_1_170 mw_1_2 mw_1_171 hd_X0_oldMonths ⟨Nat.le_of_ble_eq_true rfl, Nat.le_of_ble_eq_true rfl⟩ (Rd.of hKx hZ hS) (hP.sub (ws' := [(o, dO r ab af an aw), (ab, .inl (gI G, 1920, .inl (dB r))), (af, .inl (gI G, 120, .inl (dF r))), (an, .inl (gI G, 120, .inl (dN r))), (aw, .inl (gI G, 7, .inl (dW r)))]) [2, 3, 4, 5, 6] rfl) rfl hl.1 rfl (Nat.le_of_ble_eq_true rfl) dX3_count_91 ⟨Nat.zero_le _, Nat.zero_le _⟩ ?_
    exact e_ri hx hb hr hlk (by subst c_1; rfl) dX3_count_94
  · skip
    refine lv_tableIn (tgt := 95) hx hb dX3_count_1 (by rw [sw_1, c_1]; decide) (by rw [sw_1, c_1]; decide) (by rw [sw_1, c_1]; rfl) (by decide) ?_
    refine lv_aload_n hx hb dX3_count_95 rfl (lv_at hl 0 rfl) ?_
    refine va_get (ci := 3) (v := .ref o) (C := RX3) (T := TX3) (N := 7) hx hb hts inGX3 hown hK hP 0 rfl rfl 0 (by decide) (hts _ mw_1_126) (fun _ h9 => h9) rfl dX3_count_96 ?_
    refine va_get (ci := 0) (v := .int (r 6)) (C := RX0) (T := TX0) (N := 11) hx hb hts inGX0 hown hK hP 2 rfl rfl 6 (by decide) (hts _ mw_1_34) (fun _ h9 => h9) rfl dX3_count_99 ?_
    exact e_ri hx hb hr hlk (by subst c_1; rfl) dX3_count_102
  · skip
    refine lv_tableIn (tgt := 103) hx hb dX3_count_1 (by rw [sw_1, c_1]; decide) (by rw [sw_1, c_1]; decide) (by rw [sw_1, c_1]; rfl) (by decide) ?_
    refine lv_aload_n hx hb dX3_count_103 rfl (lv_at hl 0 rfl) ?_
    refine va_get (ci := 3) (v := .ref o) (C := RX3) (T := TX3) (N := 7) hx hb hts inGX3 hown hK hP 0 rfl rfl 0 (by decide) (hts _ mw_1_126) (fun _ h9 => h9) rfl dX3_count_104 ?_
    refine k_roV (ci := 0) (q0 := 2) (As := []) (rest := []) hF (c_X0_allSizes l G o ab af an aw r (hCt.1) (hCt.2.2) (hCt.2.1) (hB8)) hKx hP ⟨_, rfl, rfl⟩ rfl rfl mw_1_176 mw_1_177 mw_1_178 mw_1_2 mw_1_179 hd_X0_allSizes ⟨Nat.le_of_ble_eq_true rfl, Nat.le_of_ble_eq_true rfl⟩ (Rd.of hKx hZ hS) (hP.sub (ws' := [(o, dO r ab af an aw), (ab, .inl (gI G, 1920, .inl (dB r))), (af, .inl (gI G, 120, .inl (dF r))), (an, .inl (gI G, 120, .inl (dN r))), (aw, .inl (gI G, 7, .inl (dW r)))]) [2, 3, 4, 5, 6] rfl) rfl hl.1 rfl (Nat.le_of_ble_eq_true rfl) dX3_count_107 ⟨Nat.zero_le _, Nat.zero_le _⟩ ?_
    exact e_ri hx hb hr hlk (by subst c_1; rfl) dX3_count_110
  · skip
    refine lv_tableIn (tgt := 111) hx hb dX3_count_1 (by rw [sw_1, c_1]; decide) (by rw [sw_1, c_1]; decide) (by rw [sw_1, c_1]; rfl) (by decide) ?_
    refine lv_aload_n hx hb dX3_count_111 rfl (lv_at hl 0 rfl) ?_
    refine va_get (ci := 3) (v := .ref o) (C := RX3) (T := TX3) (N := 7) hx hb hts inGX3 hown hK hP 0 rfl rfl 0 (by decide) (hts _ mw_1_126) (fun _ h9 => h9) rfl dX3_count_112 ?_
    refine va_get (ci := 0) (v := .int (r 3)) (C := RX0) (T := TX0) (N := 11) hx hb hts inGX0 hown hK hP 2 rfl rfl 3 (by decide) (hts _ mw_1_28) (fun _ h9 => h9) rfl dX3_count_115 ?_
    exact e_ri hx hb hr hlk (by subst c_1; rfl) dX3_count_118
  · skip
    refine lv_tableIn (tgt := 119) hx hb dX3_count_1 (by rw [sw_1, c_1]; decide) (by rw [sw_1, c_1]; decide) (by rw [sw_1, c_1]; rfl) (by decide) ?_
    refine lv_aload_n hx hb dX3_count_119 rfl (lv_at hl 0 rfl) ?_
    refine va_get (ci := 3) (v := .ref o) (C := RX3) (T := TX3) (N := 7) hx hb hts inGX3 hown hK hP 0 rfl rfl 0 (by decide) (hts _ mw_1_126) (fun _ h9 => h9) rfl dX3_count_120 ?_
    refine va_get (ci := 0) (v := .int (r 4)) (C := RX0) (T := TX0) (N := 11) hx hb hts inGX0 hown hK hP 2 rfl rfl 4 (by decide) (hts _ mw_1_30) (fun _ h9 => h9) rfl dX3_count_123 ?_
    exact e_ri hx hb hr hlk (by subst c_1; rfl) dX3_count_126
  · skip
    refine lv_tableIn (tgt := 127) hx hb dX3_count_1 (by rw [sw_1, c_1]; decide) (by rw [sw_1, c_1]; decide) (by rw [sw_1, c_1]; rfl) (by decide) ?_
    refine lv_aload_n hx hb dX3_count_127 rfl (lv_at hl 0 rfl) ?_
    refine va_get (ci := 3) (v := .ref o) (C := RX3) (T := TX3) (N := 7) hx hb hts inGX3 hown hK hP 0 rfl rfl 0 (by decide) (hts _ mw_1_126) (fun _ h9 => h9) rfl dX3_count_128 ?_
    refine va_get (ci := 0) (v := .int (r 5)) (C := RX0) (T := TX0) (N := 11) hx hb hts inGX0 hown hK hP 2 rfl rfl 5 (by decide) (hts _ mw_1_32) (fun _ h9 => h9) rfl dX3_count_131 ?_
    exact e_ri hx hb hr hlk (by subst c_1; rfl) dX3_count_134
  · skip
    refine lv_tableIn (tgt := 135) hx hb dX3_count_1 (by rw [sw_1, c_1]; decide) (by rw [sw_1, c_1]; decide) (by rw [sw_1, c_1]; rfl) (by decide) ?_
    refine lv_aload_n hx hb dX3_count_135 rfl (lv_at hl 0 rfl) ?_
    refine va_get (ci := 3) (v := .ref o) (C := RX3) (T := TX3) (N := 7) hx hb hts inGX3 hown hK hP 0 rfl rfl 0 (by decide) (hts _ mw_1_126) (fun _ h9 => h9) rfl dX3_count_136 ?_
    refine k_roV (ci := 0) (q0 := 2) (As := []) (rest := []) hF (c_X0_allMarks l G o ab af an aw r (hCt.2.1)) hKx hP ⟨_, rfl, rfl⟩ rfl rfl mw_1_217 mw_1_218 mw_1_219 mw_1_2 mw_1_220 hd_X0_allMarks ⟨Nat.le_of_ble_eq_true rfl, Nat.le_of_ble_eq_true rfl⟩ (Rd.of hKx hZ hS) (hP.sub (ws' := [(o, dO r ab af an aw), (ab, .inl (gI G, 1920, .inl (dB r))), (af, .inl (gI G, 120, .inl (dF r))), (an, .inl (gI G, 120, .inl (dN r))), (aw, .inl (gI G, 7, .inl (dW r)))]) [2, 3, 4, 5, 6] rfl) rfl hl.1 rfl (Nat.le_of_ble_eq_true rfl) dX3_count_139 ⟨Nat.zero_le _, Nat.zero_le _⟩ ?_
    exact e_ri hx hb hr hlk (by subst c_1; rfl) dX3_count_142
  · skip
    refine lv_tableIn (tgt := 143) hx hb dX3_count_1 (by rw [sw_1, c_1]; decide) (by rw [sw_1, c_1]; decide) (by rw [sw_1, c_1]; rfl) (by decide) ?_
    refine lv_aload_n hx hb dX3_count_143 rfl (lv_at hl 0 rfl) ?_
    refine va_get (ci := 3) (v := .ref o) (C := RX3) (T := TX3) (N := 7) hx hb hts inGX3 hown hK hP 0 rfl rfl 0 (by decide) (hts _ mw_1_126) (fun _ h9 => h9) rfl dX3_count_144 ?_
    refine va_get (ci := 0) (v := .int (r 1)) (C := RX0) (T := TX0) (N := 11) hx hb hts inGX0 hown hK hP 2 rfl rfl 1 (by decide) (hts _ mw_1_25) (fun _ h9 => h9) rfl dX3_count_147 ?_
    exact e_ri hx hb hr hlk (by subst c_1; rfl) dX3_count_150
  · skip
    refine lv_tableIn (tgt := 151) hx hb dX3_count_1 (by rw [sw_1, c_1]; decide) (by rw [sw_1, c_1]; decide) (by rw [sw_1, c_1]; rfl) (by decide) ?_
    refine lv_aload_n hx hb dX3_count_151 rfl (lv_at hl 0 rfl) ?_
    refine va_get (ci := 3) (v := .ref o) (C := RX3) (T := TX3) (N := 7) hx hb hts inGX3 hown hK hP 0 rfl rfl 0 (by decide) (hts _ mw_1_126) (fun _ h9 => h9) rfl dX3_count_152 ?_
    refine va_get (ci := 0) (v := .int (r 2)) (C := RX0) (T := TX0) (N := 11) hx hb hts inGX0 hown hK hP 2 rfl rfl 2 (by decide) (hts _ mw_1_27) (fun _ h9 => h9) rfl dX3_count_155 ?_
    exact e_ri hx hb hr hlk (by subst c_1; rfl) dX3_count_158
  · skip
    refine lv_tableIn (tgt := 159) hx hb dX3_count_1 (by rw [sw_1, c_1]; decide) (by rw [sw_1, c_1]; decide) (by rw [sw_1, c_1]; rfl) (by decide) ?_
    refine lv_aload_n hx hb dX3_count_159 rfl (lv_at hl 0 rfl) ?_
    refine va_get (ci := 3) (v := .ref op) (C := RX3) (T := TX3) (N := 7) hx hb hts inGX3 hown hK hP 0 rfl rfl 4 (by decide) (hts _ mw_1_130) (fun _ h9 => h9) rfl dX3_count_160 ?_
    refine va_get (ci := 1) (v := .int pl) (C := RX1) (T := TX1) (N := 6) hx hb hts inGX1 hown hK hP 1 rfl rfl 2 (by decide) (hts _ mw_1_107) (fun _ h9 => h9) rfl dX3_count_163 ?_
    exact e_ri hx hb hr hlk (by subst c_1; rfl) dX3_count_166
  · skip
    refine lv_tableIn (tgt := 167) hx hb dX3_count_1 (by rw [sw_1, c_1]; decide) (by rw [sw_1, c_1]; decide) (by rw [sw_1, c_1]; rfl) (by decide) ?_
    refine lv_aload_n hx hb dX3_count_167 rfl (lv_at hl 0 rfl) ?_
    refine va_get (ci := 3) (v := .int kc) (C := RX3) (T := TX3) (N := 7) hx hb hts inGX3 hown hK hP 0 rfl rfl 5 (by decide) (hts _ mw_1_131) (fun _ h9 => h9) rfl dX3_count_168 ?_
    exact e_ri hx hb hr hlk (by subst c_1; rfl) dX3_count_171
