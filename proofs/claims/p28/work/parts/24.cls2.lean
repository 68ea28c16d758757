theorem hd_X0_fold : hdY yX0_fold 2 := ⟨by decide +kernel, by decide +kernel, by decide +kernel⟩
theorem hd_X0_placeInRow : hdY yX0_placeInRow 1 := ⟨by decide +kernel, by decide +kernel, by decide +kernel⟩
theorem hd_X0_leaveRow : hdY yX0_leaveRow 1 := ⟨by decide +kernel, by decide +kernel, by decide +kernel⟩
theorem hd_X0_writeBits : hdY yX0_writeBits 3 := ⟨by decide +kernel, by decide +kernel, by decide +kernel⟩
theorem hd_X0_bringToTheEnd : hdY yX0_bringToTheEnd 1 := ⟨by decide +kernel, by decide +kernel, by decide +kernel⟩
theorem hd_X0_foldSurplus : hdY yX0_foldSurplus 0 := ⟨by decide +kernel, by decide +kernel, by decide +kernel⟩
theorem hd_X0_lookAt : hdY yX0_lookAt 1 := ⟨by decide +kernel, by decide +kernel, by decide +kernel⟩
set_option maxHeartbeats 4000000 in
set_option maxRecDepth 100000 in
theorem c_X0_fold (l : Launch) (G : gT) (sz : Nat) (o : Nat) (ab : Nat) (af : Nat) (an : Nat) (aw : Nat) (r : Nat → Int32) (m : Nat) (but : Int32) (B : Int) (hm : m < 120) (hFm : Fm r) (hBd : Bd r) (hB1 : but.toInt = B) : Rv l G yX0_fold cX0_fold 8 none 3 sz [(o, dO r ab af an aw), (ab, .inl (gI G, 1920, .inl (dB r))), (af, .inl (gI G, 120, .inl (dF r))), (an, .inl (gI G, 120, .inl (dN r))), (aw, .inl (gI G, 7, .inl (dW r)))] [.ref o, .int (nI m), .int but] [(o, dO (fld r m B) ab af an aw), (ab, .inl (gI G, 1920, .inl (dB (fld r m B)))), (af, .inl (gI G, 120, .inl (dF (fld r m B)))), (an, .inl (gI G, 120, .inl (dN (fld r m B)))), (aw, .inl (gI G, 7, .inl (dW (fld r m B))))] := by
  refine Rv.mk (by decide) (Nat.le_of_ble_eq_true rfl) (fun pq eq sq mq bq tq cq ls A hr hlk hF hKx hZ hA hP hD hS hl => ?_)
  have hx := hF.1
  have hb := hF.2.1
  have hml := hF.2.2.1
  have hown : sq.vm.findClass RX0 = some mq.cls := hF.2.2.2.1
  have hts : ∀ w ∈ GW, w.before _ sq = true := hF.2.2.2.2
  have hK := hKx.1
  have hl : lv_has ls 8 [(0, .ref o), (1, .int (nI m)), (2, .int but)] := hl
  have hP : va_P G.1 vwCl [(o, dO r ab af an aw), (ab, .inl (gI G, 1920, .inl (dB r))), (af, .inl (gI G, 120, .inl (dF r))), (an, .inl (gI G, 120, .inl (dN r))), (aw, .inl (gI G, 7, .inl (dW r)))] sq.heap := hP
  have hD : va_D A [(o, dO r ab af an aw), (ab, .inl (gI G, 1920, .inl (dB r))), (af, .inl (gI G, 120, .inl (dF r))), (an, .inl (gI G, 120, .inl (dN r))), (aw, .inl (gI G, 7, .inl (dW r)))] := hD
  have hbl : ∀ k, bsj r m B k ≤ 4 := bsj_le r m B
  refine lv_iload_n hx hb dX0_fold_0 rfl (lv_at hl 1 rfl) ?_
  refine k_roN (As := [.int (nI m)]) (rest := []) hF (c_X3_isMonth l G (nI m) ((m : Nat) : Int) (toI (by omega))) hKx.2.2.1 mw_1_189 mw_1_1 mw_1_190 hd_X3_isMonth ⟨Nat.le_of_ble_eq_true rfl, Nat.le_of_ble_eq_true rfl⟩ (Rd.of hKx hZ hS) (hP.sub (ws' := []) [] rfl) rfl hl.1 rfl (Nat.le_of_ble_eq_true rfl) dX0_fold_1 ⟨Nat.zero_le _, Nat.zero_le _⟩ ?_
  refine p0_ne hx hb (tgt := 8) dX0_fold_4 (by decide) (fun c_4 => ?_) (fun c_4 => ?_)
  · skip
    refine lv_aload_n hx hb dX0_fold_8 rfl (lv_at hl 0 rfl) ?_
    refine lv_iload_n hx hb dX0_fold_9 rfl (lv_at hl 1 rfl) ?_
    refine lv_iload_n hx hb dX0_fold_10 rfl (lv_at hl 2 rfl) ?_
    refine k_roV (ci := 0) (q0 := 0) (As := [.int (nI m), .int but]) (rest := []) hF (c_X0_twinOf l G o ab af an aw r m but B (by omega) (by omega) hB1) hKx hP ⟨_, rfl, rfl⟩ rfl rfl mw_2_24 mw_2_25 mw_2_26 mw_1_2 mw_2_27 hd_X0_twinOf ⟨Nat.le_of_ble_eq_true rfl, Nat.le_of_ble_eq_true rfl⟩ (Rd.of hKx hZ hS) (hP.sub (ws' := [(o, dO r ab af an aw), (ab, .inl (gI G, 1920, .inl (dB r))), (af, .inl (gI G, 120, .inl (dF r))), (an, .inl (gI G, 120, .inl (dN r))), (aw, .inl (gI G, 7, .inl (dW r)))]) [0, 1, 2, 3, 4] rfl) rfl hl.1 rfl (Nat.le_of_ble_eq_true rfl) dX0_fold_11 ⟨Nat.zero_le _, Nat.zero_le _⟩ ?_
    refine lv_istore_n (lv' := [(3, .int (tw r m B)), (0, .ref o), (1, .int (nI m)), (2, .int but)]) hx hb dX0_fold_14 rfl hl (by decide) rfl (fun ls hl => ?_)
    refine lv_iconst (v := nI 4) hx hb dX0_fold_15 (by decide) ?_
    refine lv_istore (lv' := [(4, .int (nI 4)), (3, .int (tw r m B)), (0, .ref o), (1, .int (nI m)), (2, .int but)]) hx hb dX0_fold_16 hl (by decide) rfl (fun ls hl => ?_)
    refine lv_bipush (v := nI 16) hx hb dX0_fold_18 (by decide) ?_
    refine lv_istore (lv' := [(5, .int (nI 16)), (4, .int (nI 4)), (3, .int (tw r m B)), (0, .ref o), (1, .int (nI m)), (2, .int but)]) hx hb dX0_fold_20 hl (by decide) rfl (fun ls hl => ?_)
    refine lv_iconst (v := nI 3) hx hb dX0_fold_22 (by decide) ?_
    refine lv_istore (lv' := [(6, .int (nI 3)), (5, .int (nI 16)), (4, .int (nI 4)), (3, .int (tw r m B)), (0, .ref o), (1, .int (nI m)), (2, .int but)]) hx hb dX0_fold_23 hl (by decide) rfl (fun ls hl => ?_)
    have hPj := hP.sub (ws' := [(o, dO r ab af an aw), (ab, .inl (gI G, 1920, .inl (dB r))), (af, .inl (gI G, 120, .inl (dF r))), (an, .inl (gI G, 120, .inl (dN r))), (aw, .inl (gI G, 7, .inl (dW r)))]) [0, 1, 2, 3, 4] rfl
    have hDj := hD.sub (ws' := [(o, dO r ab af an aw), (ab, .inl (gI G, 1920, .inl (dB r))), (af, .inl (gI G, 120, .inl (dF r))), (an, .inl (gI G, 120, .inl (dN r))), (aw, .inl (gI G, 7, .inl (dW r)))]) [0, 1, 2, 3, 4] (by decide) rfl
    refine wloopH [] (fun k H locs ls => (k ≤ 4) ∧ va_P G.1 vwCl [(o, dO r ab af an aw), (ab, .inl (gI G, 1920, .inl (dB r))), (af, .inl (gI G, 120, .inl (dF r))), (an, .inl (gI G, 120, .inl (dN r))), (aw, .inl (gI G, 7, .inl (dW r)))] H ∧ va_D A [(o, dO r ab af an aw), (ab, .inl (gI G, 1920, .inl (dB r))), (af, .inl (gI G, 120, .inl (dF r))), (an, .inl (gI G, 120, .inl (dN r))), (aw, .inl (gI G, 7, .inl (dW r)))] ∧ va_S A sq.heap H locs ∧ lv_has ls 8 [(6, .int (fof k)), (5, .int (siz r m B ((bsj r m B k : Nat) : Int))), (4, .int (nI (bsj r m B k))), (3, .int (tw r m B)), (0, .ref o), (1, .int (nI m)), (2, .int but)]) (fun k => 4 - k) ?_ 0 ⟨(by omega), hPj, hDj, hS, lv_sub hl [0, 1, 2, 3, 4, 5, 6] (lvr (lvr (lvc (by first | rfl | exact congrArg nI (by omega)) (lvr (lvr (lvr (lvr rfl)))))))⟩
    intro k ih
    intro H locs ls ⟨hk, hP, hD, hS, hl⟩
    have hbk := hbl k
    refine lv_iload hx hb dX0_fold_25 (lv_at hl 0 rfl) ?_
    refine z0_lt hx hb (tgt := 68) ((3 : Int) - (k : Int)) dX0_fold_27 (by decide) (fof_i hk) (fun c_27 => ?_) (fun c_27 => ?_)
    · skip
      have hk2 : k = 4 := by omega
      subst hk2
      refine lv_aload_n hx hb dX0_fold_68 rfl (lv_at hl 4 rfl) ?_
      refine va_get (ci := 0) (v := .ref af) (C := RX0) (T := TX0) (N := 11) hx hb hts inGX0 hown hK hP 0 rfl rfl 8 (by decide) (hts _ mw_1_38) (fun _ h9 => h9) rfl dX0_fold_69 ?_
      refine lv_iload_n hx hb dX0_fold_72 rfl (lv_at hl 5 rfl) ?_
      refine lv_iload hx hb dX0_fold_73 (lv_at hl 2 rfl) ?_
      refine n_iast hx hb hK hP hD hS 2 0 rfl rfl (by omega) (by omega) dX0_fold_75 (fun H locs hP hD hS => ?_)
      have hP : va_P G.1 vwCl [(o, dO r ab af an aw), (ab, .inl (gI G, 1920, .inl (dB r))), (af, .inl (gI G, 120, .inl (upd (dF r) m (nI (bsj r m B 4))))), (an, .inl (gI G, 120, .inl (dN r))), (aw, .inl (gI G, 7, .inl (dW r)))] H := hP
      have hD : va_D A [(o, dO r ab af an aw), (ab, .inl (gI G, 1920, .inl (dB r))), (af, .inl (gI G, 120, .inl (upd (dF r) m (nI (bsj r m B 4))))), (an, .inl (gI G, 120, .inl (dN r))), (aw, .inl (gI G, 7, .inl (dW r)))] := hD
      refine lv_aload_n hx hb dX0_fold_76 rfl (lv_at hl 4 rfl) ?_
      refine va_get (ci := 0) (v := .ref an) (C := RX0) (T := TX0) (N := 11) hx hb hts inGX0 hown hK hP 0 rfl rfl 9 (by decide) (hts _ mw_1_40) (fun _ h9 => h9) rfl dX0_fold_77 ?_
      refine lv_iload_n hx hb dX0_fold_80 rfl (lv_at hl 5 rfl) ?_
      refine lv_iload hx hb dX0_fold_81 (lv_at hl 2 rfl) ?_
      refine lv_iconst (v := nI 1) hx hb dX0_fold_83 (by decide) ?_
      refine z_ne hx hb (tgt := 91) ((bsj r m B 4 : Nat) : Int) 1 dX0_fold_84 (by decide) (toI (by omega)) (by decide) (fun c_84 => ?_) (fun c_84 => ?_)
      · skip
        refine lv_bipush (v := (-6)) hx hb dX0_fold_91 (by decide) ?_
        refine n_iast hx hb hK hP hD hS 3 0 rfl rfl (by omega) (by omega) dX0_fold_93 (fun H locs hP hD hS => ?_)
        have hP : va_P G.1 vwCl [(o, dO r ab af an aw), (ab, .inl (gI G, 1920, .inl (dB r))), (af, .inl (gI G, 120, .inl (upd (dF r) m (nI (bsj r m B 4))))), (an, .inl (gI G, 120, .inl (upd (dN r) m (-6)))), (aw, .inl (gI G, 7, .inl (dW r)))] H := hP
        have hD : va_D A [(o, dO r ab af an aw), (ab, .inl (gI G, 1920, .inl (dB r))), (af, .inl (gI G, 120, .inl (upd (dF r) m (nI (bsj r m B 4))))), (an, .inl (gI G, 120, .inl (upd (dN r) m (-6)))), (aw, .inl (gI G, 7, .inl (dW r)))] := hD
        refine lv_aload_n hx hb dX0_fold_94 rfl (lv_at hl 4 rfl) ?_
        refine lv_dup hx hb dX0_fold_95 rfl ?_
        refine va_get (ci := 0) (v := .int (r 3)) (C := RX0) (T := TX0) (N := 11) hx hb hts inGX0 hown hK hP 0 rfl rfl 3 (by decide) (hts _ mw_1_29) (fun _ h9 => h9) rfl dX0_fold_96 ?_
        refine lv_iload hx hb dX0_fold_99 (lv_at hl 1 rfl) ?_
        refine lv_iadd hx hb dX0_fold_101 ?_
        refine va_put (ci := 0) (v := .int ((r 3) + (siz r m B ((bsj r m B 4 : Nat) : Int)))) (ty := .int) (C := RX0) (T := TX0) (N := 11) hx hb hts inGX0 tyX0 tyX0_ok nmX0 hown hK hP hD hS 0 rfl rfl 3 (by decide) (hts _ mw_1_29) (fun _ h9 => h9) rfl (by decide +kernel) rfl rfl (Nat.le_of_ble_eq_true rfl) dX0_fold_102 (fun H locs hP hD hS => ?_)
        have hP : va_P G.1 vwCl [(o, .inr (0, [.int (r 0), .int (r 1), .int (r 2), .int ((r 3) + (siz r m B ((bsj r m B 4 : Nat) : Int))), .int (r 4), .int (r 5), .int (r 6), .ref ab, .ref af, .ref an, .ref aw])), (ab, .inl (gI G, 1920, .inl (dB r))), (af, .inl (gI G, 120, .inl (upd (dF r) m (nI (bsj r m B 4))))), (an, .inl (gI G, 120, .inl (upd (dN r) m (-6)))), (aw, .inl (gI G, 7, .inl (dW r)))] H := hP
        have hD : va_D A [(o, .inr (0, [.int (r 0), .int (r 1), .int (r 2), .int ((r 3) + (siz r m B ((bsj r m B 4 : Nat) : Int))), .int (r 4), .int (r 5), .int (r 6), .ref ab, .ref af, .ref an, .ref aw])), (ab, .inl (gI G, 1920, .inl (dB r))), (af, .inl (gI G, 120, .inl (upd (dF r) m (nI (bsj r m B 4))))), (an, .inl (gI G, 120, .inl (upd (dN r) m (-6)))), (aw, .inl (gI G, 7, .inl (dW r)))] := hD
        refine lv_aload_n hx hb dX0_fold_105 rfl (lv_at hl 4 rfl) ?_
        refine lv_dup hx hb dX0_fold_106 rfl ?_
        refine va_get (ci := 0) (v := .int (r 5)) (C := RX0) (T := TX0) (N := 11) hx hb hts inGX0 hown hK hP 0 rfl rfl 5 (by decide) (hts _ mw_1_33) (fun _ h9 => h9) rfl dX0_fold_107 ?_
        refine lv_iconst (v := nI 1) hx hb dX0_fold_110 (by decide) ?_
        refine lv_iadd hx hb dX0_fold_111 ?_
        refine va_put (ci := 0) (v := .int ((r 5) + (nI 1))) (ty := .int) (C := RX0) (T := TX0) (N := 11) hx hb hts inGX0 tyX0 tyX0_ok nmX0 hown hK hP hD hS 0 rfl rfl 5 (by decide) (hts _ mw_1_33) (fun _ h9 => h9) rfl (by decide +kernel) rfl rfl (Nat.le_of_ble_eq_true rfl) dX0_fold_112 (fun H locs hP hD hS => ?_)
        have hP : va_P G.1 vwCl [(o, .inr (0, [.int (r 0), .int (r 1), .int (r 2), .int ((r 3) + (siz r m B ((bsj r m B 4 : Nat) : Int))), .int (r 4), .int ((r 5) + (nI 1)), .int (r 6), .ref ab, .ref af, .ref an, .ref aw])), (ab, .inl (gI G, 1920, .inl (dB r))), (af, .inl (gI G, 120, .inl (upd (dF r) m (nI (bsj r m B 4))))), (an, .inl (gI G, 120, .inl (upd (dN r) m (-6)))), (aw, .inl (gI G, 7, .inl (dW r)))] H := hP
        have hD : va_D A [(o, .inr (0, [.int (r 0), .int (r 1), .int (r 2), .int ((r 3) + (siz r m B ((bsj r m B 4 : Nat) : Int))), .int (r 4), .int ((r 5) + (nI 1)), .int (r 6), .ref ab, .ref af, .ref an, .ref aw])), (ab, .inl (gI G, 1920, .inl (dB r))), (af, .inl (gI G, 120, .inl (upd (dF r) m (nI (bsj r m B 4))))), (an, .inl (gI G, 120, .inl (upd (dN r) m (-6)))), (aw, .inl (gI G, 7, .inl (dW r)))] := hD
        have hPj := hP.sub (ws' := [(o, .inr (0, [.int (r 0), .int (r 1), .int (r 2), .int ((r 3) + (siz r m B ((bsj r m B 4 : Nat) : Int))), .int (r 4), .int ((r 5) + (nI 1)), .int (r 6), .ref ab, .ref af, .ref an, .ref aw])), (ab, .inl (gI G, 1920, .inl (dB r))), (af, .inl (gI G, 120, .inl (upd (dF r) m (nI (bsj r m B 4))))), (an, .inl (gI G, 120, .inl (upd (dN r) m (-6)))), (aw, .inl (gI G, 7, .inl (dW r)))]) [0, 1, 2, 3, 4] rfl
        have hwj : ([(o, .inr (0, [.int (r 0), .int (r 1), .int (r 2), .int ((r 3) + (siz r m B ((bsj r m B 4 : Nat) : Int))), .int (r 4), .int ((r 5) + (nI 1)), .int (r 6), .ref ab, .ref af, .ref an, .ref aw])), (ab, .inl (gI G, 1920, .inl (dB r))), (af, .inl (gI G, 120, .inl (upd (dF r) m (nI (bsj r m B 4))))), (an, .inl (gI G, 120, .inl (upd (dN r) m (-6)))), (aw, .inl (gI G, 7, .inl (dW r)))] : va_W) = [(o, dO (fld r m B) ab af an aw), (ab, .inl (gI G, 1920, .inl (dB (fld r m B)))), (af, .inl (gI G, 120, .inl (dF (fld r m B)))), (an, .inl (gI G, 120, .inl (dN (fld r m B)))), (aw, .inl (gI G, 7, .inl (dW (fld r m B))))] := (wlc (dO_fld hm) (wlc (wli (dB_fld hm).symm) (wlc (wli (dF_fld hm)) (wlc (wli (by first | exact (congrArg (upd (dN r) m) (cI_t (show bst r m B = 1 from by show bsj r m B 4 = 1; omega)).symm).trans (dN_fld hm) | exact (congrArg (upd (dN r) m) (cI_f (show ¬ bst r m B = 1 from by show ¬ bsj r m B 4 = 1; omega)).symm).trans (dN_fld hm))) (wlc (wli dW_fld.symm) rfl)))))
        rw [hwj] at hPj
        exact e_wv hx hb hr hlk hPj hS dX0_fold_115
      · skip
        refine lv_iload_n hx hb dX0_fold_87 rfl (lv_at hl 3 rfl) ?_
        refine lv_goto (tgt := 93) hx hb dX0_fold_88 (by decide) ?_
        refine n_iast hx hb hK hP hD hS 3 0 rfl rfl (by omega) (by omega) dX0_fold_93 (fun H locs hP hD hS => ?_)
        have hP : va_P G.1 vwCl [(o, dO r ab af an aw), (ab, .inl (gI G, 1920, .inl (dB r))), (af, .inl (gI G, 120, .inl (upd (dF r) m (nI (bsj r m B 4))))), (an, .inl (gI G, 120, .inl (upd (dN r) m (tw r m B)))), (aw, .inl (gI G, 7, .inl (dW r)))] H := hP
        have hD : va_D A [(o, dO r ab af an aw), (ab, .inl (gI G, 1920, .inl (dB r))), (af, .inl (gI G, 120, .inl (upd (dF r) m (nI (bsj r m B 4))))), (an, .inl (gI G, 120, .inl (upd (dN r) m (tw r m B)))), (aw, .inl (gI G, 7, .inl (dW r)))] := hD
        refine lv_aload_n hx hb dX0_fold_94 rfl (lv_at hl 4 rfl) ?_
        refine lv_dup hx hb dX0_fold_95 rfl ?_
        refine va_get (ci := 0) (v := .int (r 3)) (C := RX0) (T := TX0) (N := 11) hx hb hts inGX0 hown hK hP 0 rfl rfl 3 (by decide) (hts _ mw_1_29) (fun _ h9 => h9) rfl dX0_fold_96 ?_
        refine lv_iload hx hb dX0_fold_99 (lv_at hl 1 rfl) ?_
        refine lv_iadd hx hb dX0_fold_101 ?_
        refine va_put (ci := 0) (v := .int ((r 3) + (siz r m B ((bsj r m B 4 : Nat) : Int)))) (ty := .int) (C := RX0) (T := TX0) (N := 11) hx hb hts inGX0 tyX0 tyX0_ok nmX0 hown hK hP hD hS 0 rfl rfl 3 (by decide) (hts _ mw_1_29) (fun _ h9 => h9) rfl (by decide +kernel) rfl rfl (Nat.le_of_ble_eq_true rfl) dX0_fold_102 (fun H locs hP hD hS => ?_)
        have hP : va_P G.1 vwCl [(o, .inr (0, [.int (r 0), .int (r 1), .int (r 2), .int ((r 3) + (siz r m B ((bsj r m B 4 : Nat) : Int))), .int (r 4), .int (r 5), .int (r 6), .ref ab, .ref af, .ref an, .ref aw])), (ab, .inl (gI G, 1920, .inl (dB r))), (af, .inl (gI G, 120, .inl (upd (dF r) m (nI (bsj r m B 4))))), (an, .inl (gI G, 120, .inl (upd (dN r) m (tw r m B)))), (aw, .inl (gI G, 7, .inl (dW r)))] H := hP
        have hD : va_D A [(o, .inr (0, [.int (r 0), .int (r 1), .int (r 2), .int ((r 3) + (siz r m B ((bsj r m B 4 : Nat) : Int))), .int (r 4), .int (r 5), .int (r 6), .ref ab, .ref af, .ref an, .ref aw])), (ab, .inl (gI G, 1920, .inl (dB r))), (af, .inl (gI G, 120, .inl (upd (dF r) m (nI (bsj r m B 4))))), (an, .inl (gI G, 120, .inl (upd (dN r) m (tw r m B)))), (aw, .inl (gI G, 7, .inl (dW r)))] := hD
        refine lv_aload_n hx hb dX0_fold_105 rfl (lv_at hl 4 rfl) ?_
        refine lv_dup hx hb dX0_fold_106 rfl ?_
        refine va_get (ci := 0) (v := .int (r 5)) (C := RX0) (T := TX0) (N := 11) hx hb hts inGX0 hown hK hP 0 rfl rfl 5 (by decide) (hts _ mw_1_33) (fun _ h9 => h9) rfl dX0_fold_107 ?_
        refine lv_iconst (v := nI 1) hx hb dX0_fold_110 (by decide) ?_
        refine lv_iadd hx hb dX0_fold_111 ?_
        refine va_put (ci := 0) (v := .int ((r 5) + (nI 1))) (ty := .int) (C := RX0) (T := TX0) (N := 11) hx hb hts inGX0 tyX0 tyX0_ok nmX0 hown hK hP hD hS 0 rfl rfl 5 (by decide) (hts _ mw_1_33) (fun _ h9 => h9) rfl (by decide +kernel) rfl rfl (Nat.le_of_ble_eq_true rfl) dX0_fold_112 (fun H locs hP hD hS => ?_)
        have hP : va_P G.1 vwCl [(o, .inr (0, [.int (r 0), .int (r 1), .int (r 2), .int ((r 3) + (siz r m B ((bsj r m B 4 : Nat) : Int))), .int (r 4), .int ((r 5) + (nI 1)), .int (r 6), .ref ab, .ref af, .ref an, .ref aw])), (ab, .inl (gI G, 1920, .inl (dB r))), (af, .inl (gI G, 120, .inl (upd (dF r) m (nI (bsj r m B 4))))), (an, .inl (gI G, 120, .inl (upd (dN r) m (tw r m B)))), (aw, .inl (gI G, 7, .inl (dW r)))] H := hP
        have hD : va_D A [(o, .inr (0, [.int (r 0), .int (r 1), .int (r 2), .int ((r 3) + (siz r m B ((bsj r m B 4 : Nat) : Int))), .int (r 4), .int ((r 5) + (nI 1)), .int (r 6), .ref ab, .ref af, .ref an, .ref aw])), (ab, .inl (gI G, 1920, .inl (dB r))), (af, .inl (gI G, 120, .inl (upd (dF r) m (nI (bsj r m B 4))))), (an, .inl (gI G, 120, .inl (upd (dN r) m (tw r m B)))), (aw, .inl (gI G, 7, .inl (dW r)))] := hD
        have hPj := hP.sub (ws' := [(o, .inr (0, [.int (r 0), .int (r 1), .int (r 2), .int ((r 3) + (siz r m B ((bsj r m B 4 : Nat) : Int))), .int (r 4), .int ((r 5) + (nI 1)), .int (r 6), .ref ab, .ref af, .ref an, .ref aw])), (ab, .inl (gI G, 1920, .inl (dB r))), (af, .inl (gI G, 120, .inl (upd (dF r) m (nI (bsj r m B 4))))), (an, .inl (gI G, 120, .inl (upd (dN r) m (tw r m B)))), (aw, .inl (gI G, 7, .inl (dW r)))]) [0, 1, 2, 3, 4] rfl
        have hwj : ([(o, .inr (0, [.int (r 0), .int (r 1), .int (r 2), .int ((r 3) + (siz r m B ((bsj r m B 4 : Nat) : Int))), .int (r 4), .int ((r 5) + (nI 1)), .int (r 6), .ref ab, .ref af, .ref an, .ref aw])), (ab, .inl (gI G, 1920, .inl (dB r))), (af, .inl (gI G, 120, .inl (upd (dF r) m (nI (bsj r m B 4))))), (an, .inl (gI G, 120, .inl (upd (dN r) m (tw r m B)))), (aw, .inl (gI G, 7, .inl (dW r)))] : va_W) = [(o, dO (fld r m B) ab af an aw), (ab, .inl (gI G, 1920, .inl (dB (fld r m B)))), (af, .inl (gI G, 120, .inl (dF (fld r m B)))), (an, .inl (gI G, 120, .inl (dN (fld r m B)))), (aw, .inl (gI G, 7, .inl (dW (fld r m B))))] := (wlc (dO_fld hm) (wlc (wli (dB_fld hm).symm) (wlc (wli (dF_fld hm)) (wlc (wli (by first | exact (congrArg (upd (dN r) m) (cI_t (show bst r m B = 1 from by show bsj r m B 4 = 1; omega)).symm).trans (dN_fld hm) | exact (congrArg (upd (dN r) m) (cI_f (show ¬ bst r m B = 1 from by show ¬ bsj r m B 4 = 1; omega)).symm).trans (dN_fld hm))) (wlc (wli dW_fld.symm) rfl)))))
        rw [hwj] at hPj
        exact e_wv hx hb hr hlk hPj hS dX0_fold_115
    · skip
      refine lv_aload_n hx hb dX0_fold_30 rfl (lv_at hl 4 rfl) ?_
      refine lv_iload_n hx hb dX0_fold_31 rfl (lv_at hl 5 rfl) ?_
      refine lv_iload hx hb dX0_fold_32 (lv_at hl 0 rfl) ?_
      refine lv_iload_n hx hb dX0_fold_34 rfl (lv_at hl 3 rfl) ?_
      refine k_roV (ci := 0) (q0 := 0) (As := [.int (nI m), .int (fof k), .int (tw r m B)]) (rest := []) hF (c_X0_sizeIn l G o ab af an aw r m (fof k) ((3 : Int) - (k : Int)) (tw r m B) ((tw r m B).toInt) (by omega) (by omega) (fof_i hk) rfl) hKx hP ⟨_, rfl, rfl⟩ rfl rfl mw_1_195 mw_1_196 mw_1_197 mw_1_2 mw_1_198 hd_X0_sizeIn ⟨Nat.le_of_ble_eq_true rfl, Nat.le_of_ble_eq_true rfl⟩ (Rd.of hKx hZ hS) (hP.sub (ws' := [(o, dO r ab af an aw), (ab, .inl (gI G, 1920, .inl (dB r))), (af, .inl (gI G, 120, .inl (dF r))), (an, .inl (gI G, 120, .inl (dN r))), (aw, .inl (gI G, 7, .inl (dW r)))]) [0, 1, 2, 3, 4] rfl) rfl hl.1 rfl (Nat.le_of_ble_eq_true rfl) dX0_fold_35 ⟨Nat.zero_le _, Nat.zero_le _⟩ ?_
      refine lv_cv (y := siz r m B ((3 : Int) - (k : Int))) (szc_tw) ?_
      refine lv_istore (lv' := [(7, .int (siz r m B ((3 : Int) - (k : Int)))), (6, .int (fof k)), (5, .int (siz r m B ((bsj r m B k : Nat) : Int))), (4, .int (nI (bsj r m B k))), (3, .int (tw r m B)), (0, .ref o), (1, .int (nI m)), (2, .int but)]) hx hb dX0_fold_38 hl (by decide) rfl (fun ls hl => ?_)
      refine lv_iload hx hb dX0_fold_40 (lv_at hl 0 rfl) ?_
      refine lv_bipush (v := (-6)) hx hb dX0_fold_42 (by decide) ?_
      refine z_eq hx hb (tgt := 62) ((siz r m B ((3 : Int) - (k : Int))).toInt) (-6) dX0_fold_44 (by decide) rfl (by decide) (fun c_44 => ?_) (fun c_44 => ?_)
      · skip
        refine lv_iinc (v := fof k + (-1)) (lv' := [(6, .int (fof k + (-1))), (7, .int (siz r m B ((3 : Int) - (k : Int)))), (5, .int (siz r m B ((bsj r m B k : Nat) : Int))), (4, .int (nI (bsj r m B k))), (3, .int (tw r m B)), (0, .ref o), (1, .int (nI m)), (2, .int but)]) hx hb dX0_fold_62 hl (k := 1) rfl (rfl) (by decide) rfl (fun ls hl => ?_)
        refine lv_goto (tgt := 25) hx hb dX0_fold_65 (by decide) ?_
        exact ih (k + 1) _ _ ls (by omega) ⟨(by omega), (hP.sub (ws' := [(o, dO r ab af an aw), (ab, .inl (gI G, 1920, .inl (dB r))), (af, .inl (gI G, 120, .inl (dF r))), (an, .inl (gI G, 120, .inl (dN r))), (aw, .inl (gI G, 7, .inl (dW r)))]) [0, 1, 2, 3, 4] rfl), (hD.sub (ws' := [(o, dO r ab af an aw), (ab, .inl (gI G, 1920, .inl (dB r))), (af, .inl (gI G, 120, .inl (dF r))), (an, .inl (gI G, 120, .inl (dN r))), (aw, .inl (gI G, 7, .inl (dW r)))]) [0, 1, 2, 3, 4] (by decide) rfl), hS, lv_sub hl [0, 2, 3, 4, 5, 6, 7] (lvc (fof_s k (by omega)) (lvc (by first | (rw [bsj_t ⟨fun z => c_44 (congrArg Int32.toInt z), c_51⟩, show ((3 - k : Nat) : Int) = (3 : Int) - (k : Int) by omega]; done) | (rw [bsj_f (fun z => by first | exact z.1 (Int32.toInt_inj.mp c_44) | exact absurd z.2 (by omega))]; done)) (lvc (by first | exact (fof_n k (by omega)).trans (congrArg nI (bsj_t ⟨fun z => c_44 (congrArg Int32.toInt z), c_51⟩).symm) | exact congrArg nI (bsj_f (fun z => by first | exact z.1 (Int32.toInt_inj.mp c_44) | exact absurd z.2 (by omega))).symm) (lvr (lvr (lvr (lvr rfl)))))))⟩
      · skip
        refine lv_iload hx hb dX0_fold_47 (lv_at hl 0 rfl) ?_
        refine lv_iload hx hb dX0_fold_49 (lv_at hl 2 rfl) ?_
        refine z_gt hx hb (tgt := 62) ((siz r m B ((3 : Int) - (k : Int))).toInt) ((siz r m B ((bsj r m B k : Nat) : Int)).toInt) dX0_fold_51 (by decide) rfl rfl (fun c_51 => ?_) (fun c_51 => ?_)
        · skip
          refine lv_iinc (v := fof k + (-1)) (lv' := [(6, .int (fof k + (-1))), (7, .int (siz r m B ((3 : Int) - (k : Int)))), (5, .int (siz r m B ((bsj r m B k : Nat) : Int))), (4, .int (nI (bsj r m B k))), (3, .int (tw r m B)), (0, .ref o), (1, .int (nI m)), (2, .int but)]) hx hb dX0_fold_62 hl (k := 1) rfl (rfl) (by decide) rfl (fun ls hl => ?_)
          refine lv_goto (tgt := 25) hx hb dX0_fold_65 (by decide) ?_
          exact ih (k + 1) _ _ ls (by omega) ⟨(by omega), (hP.sub (ws' := [(o, dO r ab af an aw), (ab, .inl (gI G, 1920, .inl (dB r))), (af, .inl (gI G, 120, .inl (dF r))), (an, .inl (gI G, 120, .inl (dN r))), (aw, .inl (gI G, 7, .inl (dW r)))]) [0, 1, 2, 3, 4] rfl), (hD.sub (ws' := [(o, dO r ab af an aw), (ab, .inl (gI G, 1920, .inl (dB r))), (af, .inl (gI G, 120, .inl (dF r))), (an, .inl (gI G, 120, .inl (dN r))), (aw, .inl (gI G, 7, .inl (dW r)))]) [0, 1, 2, 3, 4] (by decide) rfl), hS, lv_sub hl [0, 2, 3, 4, 5, 6, 7] (lvc (fof_s k (by omega)) (lvc (by first | (rw [bsj_t ⟨fun z => c_44 (congrArg Int32.toInt z), c_51⟩, show ((3 - k : Nat) : Int) = (3 : Int) - (k : Int) by omega]; done) | (rw [bsj_f (fun z => by first | exact z.1 (Int32.toInt_inj.mp c_44) | exact absurd z.2 (by omega))]; done)) (lvc (by first | exact (fof_n k (by omega)).trans (congrArg nI (bsj_t ⟨fun z => c_44 (congrArg Int32.toInt z), c_51⟩).symm) | exact congrArg nI (bsj_f (fun z => by first | exact z.1 (Int32.toInt_inj.mp c_44) | exact absurd z.2 (by omega))).symm) (lvr (lvr (lvr (lvr rfl)))))))⟩
        · skip
          refine lv_iload hx hb dX0_fold_54 (lv_at hl 0 rfl) ?_
          refine lv_istore (lv' := [(5, .int (siz r m B ((3 : Int) - (k : Int)))), (7, .int (siz r m B ((3 : Int) - (k : Int)))), (6, .int (fof k)), (4, .int (nI (bsj r m B k))), (3, .int (tw r m B)), (0, .ref o), (1, .int (nI m)), (2, .int but)]) hx hb dX0_fold_56 hl (by decide) rfl (fun ls hl => ?_)
          refine lv_iload hx hb dX0_fold_58 (lv_at hl 2 rfl) ?_
          refine lv_istore (lv' := [(4, .int (fof k)), (5, .int (siz r m B ((3 : Int) - (k : Int)))), (7, .int (siz r m B ((3 : Int) - (k : Int)))), (6, .int (fof k)), (3, .int (tw r m B)), (0, .ref o), (1, .int (nI m)), (2, .int but)]) hx hb dX0_fold_60 hl (by decide) rfl (fun ls hl => ?_)
          refine lv_iinc (v := fof k + (-1)) (lv' := [(6, .int (fof k + (-1))), (4, .int (fof k)), (5, .int (siz r m B ((3 : Int) - (k : Int)))), (7, .int (siz r m B ((3 : Int) - (k : Int)))), (3, .int (tw r m B)), (0, .ref o), (1, .int (nI m)), (2, .int but)]) hx hb dX0_fold_62 hl (k := 3) rfl (rfl) (by decide) rfl (fun ls hl => ?_)
          refine lv_goto (tgt := 25) hx hb dX0_fold_65 (by decide) ?_
          exact ih (k + 1) _ _ ls (by omega) ⟨(by omega), (hP.sub (ws' := [(o, dO r ab af an aw), (ab, .inl (gI G, 1920, .inl (dB r))), (af, .inl (gI G, 120, .inl (dF r))), (an, .inl (gI G, 120, .inl (dN r))), (aw, .inl (gI G, 7, .inl (dW r)))]) [0, 1, 2, 3, 4] rfl), (hD.sub (ws' := [(o, dO r ab af an aw), (ab, .inl (gI G, 1920, .inl (dB r))), (af, .inl (gI G, 120, .inl (dF r))), (an, .inl (gI G, 120, .inl (dN r))), (aw, .inl (gI G, 7, .inl (dW r)))]) [0, 1, 2, 3, 4] (by decide) rfl), hS, lv_sub hl [0, 2, 1, 4, 5, 6, 7] (lvc (fof_s k (by omega)) (lvc (by first | (rw [bsj_t ⟨fun z => c_44 (congrArg Int32.toInt z), c_51⟩, show ((3 - k : Nat) : Int) = (3 : Int) - (k : Int) by omega]; done) | (rw [bsj_f (fun z => by first | exact z.1 (Int32.toInt_inj.mp c_44) | exact absurd z.2 (by omega))]; done)) (lvc (by first | exact (fof_n k (by omega)).trans (congrArg nI (bsj_t ⟨fun z => c_44 (congrArg Int32.toInt z), c_51⟩).symm) | exact congrArg nI (bsj_f (fun z => by first | exact z.1 (Int32.toInt_inj.mp c_44) | exact absurd z.2 (by omega))).symm) (lvr (lvr (lvr (lvr rfl)))))))⟩
  · skip
    exact absurd c_4 (by omega)
set_option maxHeartbeats 4000000 in
set_option maxRecDepth 100000 in
theorem c_X0_placeInRow (l : Launch) (G : gT) (o : Nat) (ab : Nat) (af : Nat) (an : Nat) (aw : Nat) (r : Nat → Int32) (m : Nat) (hm : m < 120) (hB : Bs r 7) : Ro l G yX0_placeInRow cX0_placeInRow 3 (some .int) 0 [(o, dO r ab af an aw), (ab, .inl (gI G, 1920, .inl (dB r))), (af, .inl (gI G, 120, .inl (dF r))), (an, .inl (gI G, 120, .inl (dN r))), (aw, .inl (gI G, 7, .inl (dW r)))] [.ref o, .int (nI m)] (plo r m) := by
  refine Ro.mk (by decide) (Nat.le_of_ble_eq_true rfl) (fun pq eq sq mq bq tq cq ls hr hlk hF hKx hZ hP hl => ?_)
  have hx := hF.1
  have hb := hF.2.1
  have hml := hF.2.2.1
  have hown : sq.vm.findClass RX0 = some mq.cls := hF.2.2.2.1
  have hts : ∀ w ∈ GW, w.before _ sq = true := hF.2.2.2.2
  have hK := hKx.1
  have hl : lv_has ls 3 [(0, .ref o), (1, .int (nI m))] := hl
  have hS : va_S (fun _ => False) sq.heap sq.heap [] := va_S.rf
  have hP : va_P G.1 vwCl [(o, dO r ab af an aw), (ab, .inl (gI G, 1920, .inl (dB r))), (af, .inl (gI G, 120, .inl (dF r))), (an, .inl (gI G, 120, .inl (dN r))), (aw, .inl (gI G, 7, .inl (dW r)))] sq.heap := hP
  obtain ⟨h0, ht, h1, hkp, h2, ho, h6, hc, hRx⟩ := id hB
  refine lv_iconst (v := nI 0) hx hb dX0_placeInRow_0 (by decide) ?_
  refine lv_istore_n (lv' := [(2, .int (nI 0)), (0, .ref o), (1, .int (nI m))]) hx hb dX0_placeInRow_1 rfl hl (by decide) rfl (fun ls hl => ?_)
  refine wloop (n := 0) [] (fun k ls => (k ≤ ny r) ∧ (plo r m = plf r m (ny r - k) k) ∧ lv_has ls 3 [(2, .int (nI k)), (0, .ref o), (1, .int (nI m))]) (fun k => ny r - k) ?_ 0 ⟨(by omega), (rfl), lv_sub hl [0, 1, 2] rfl⟩
  intro k ih
  intro ls ⟨hk, hp, hl⟩
  refine lv_iload_n hx hb dX0_placeInRow_2 rfl (lv_at hl 0 rfl) ?_
  refine lv_aload_n hx hb dX0_placeInRow_3 rfl (lv_at hl 1 rfl) ?_
  refine va_get (ci := 0) (v := .int (r 6)) (C := RX0) (T := TX0) (N := 11) hx hb hts inGX0 hown hK hP 0 rfl rfl 6 (by decide) (hts _ mw_1_35) (fun _ h9 => h9) rfl dX0_placeInRow_4 ?_
  refine lv_cv (y := nI (ny r)) (h6) ?_
  refine z_ge hx hb (tgt := 37) ((k : Nat) : Int) ((ny r : Nat) : Int) dX0_placeInRow_7 (by decide) (toI (by omega)) (toI (by omega)) (fun c_7 => ?_) (fun c_7 => ?_)
  · skip
    refine lv_bipush (v := (-6)) hx hb dX0_placeInRow_37 (by decide) ?_
    exact e_ri hx hb hr hlk ((hp.trans (plf_e (by omega))).symm) dX0_placeInRow_39
  · skip
    refine lv_iload_n hx hb dX0_placeInRow_10 rfl (lv_at hl 0 rfl) ?_
    refine lv_aload_n hx hb dX0_placeInRow_11 rfl (lv_at hl 1 rfl) ?_
    refine va_get (ci := 0) (v := .ref aw) (C := RX0) (T := TX0) (N := 11) hx hb hts inGX0 hown hK hP 0 rfl rfl 10 (by decide) (hts _ mw_1_42) (fun _ h9 => h9) rfl dX0_placeInRow_12 ?_
    refine va_alen (v := nI 7) hx hb hK hP 4 0 rfl rfl rfl dX0_placeInRow_15 ?_
    refine z_ge hx hb (tgt := 37) ((k : Nat) : Int) 7 dX0_placeInRow_16 (by decide) (toI (by omega)) (by decide) (fun c_16 => ?_) (fun c_16 => ?_)
    · skip
      exact absurd c_16 (by omega)
    · skip
      refine lv_aload_n hx hb dX0_placeInRow_19 rfl (lv_at hl 1 rfl) ?_
      refine va_get (ci := 0) (v := .ref aw) (C := RX0) (T := TX0) (N := 11) hx hb hts inGX0 hown hK hP 0 rfl rfl 10 (by decide) (hts _ mw_1_42) (fun _ h9 => h9) rfl dX0_placeInRow_20 ?_
      refine lv_iload_n hx hb dX0_placeInRow_23 rfl (lv_at hl 0 rfl) ?_
      refine n_iald hx hb hK hP 4 0 rfl rfl (by omega) (by omega) dX0_placeInRow_24 ?_
      refine lv_cv (y := r (7 + k)) (if_pos (by omega)) ?_
      refine lv_iload_n hx hb dX0_placeInRow_25 rfl (lv_at hl 2 rfl) ?_
      refine z_ne hx hb (tgt := 31) ((r (7 + k)).toInt) ((m : Nat) : Int) dX0_placeInRow_26 (by decide) rfl (toI (by omega)) (fun c_26 => ?_) (fun c_26 => ?_)
      · skip
        refine lv_iinc (v := nI (k + 1)) (lv' := [(2, .int (nI (k + 1))), (0, .ref o), (1, .int (nI m))]) hx hb dX0_placeInRow_31 hl (k := 0) rfl (nI_add _ _) (by decide) rfl (fun ls hl => ?_)
        refine lv_goto (tgt := 2) hx hb dX0_placeInRow_34 (by decide) ?_
        exact ih (k + 1) ls (by omega) ⟨(by omega), (hp.trans (plf_f (by omega) c_26)), lv_sub hl [0, 1, 2] rfl⟩
      · skip
        refine lv_iload_n hx hb dX0_placeInRow_29 rfl (lv_at hl 0 rfl) ?_
        exact e_ri hx hb hr hlk ((hp.trans (plf_t (by omega) c_26)).symm) dX0_placeInRow_30
set_option maxHeartbeats 4000000 in
set_option maxRecDepth 100000 in
theorem c_X0_leaveRow (l : Launch) (G : gT) (sz : Nat) (o : Nat) (ab : Nat) (af : Nat) (an : Nat) (aw : Nat) (r : Nat → Int32) (k : Nat) (hB : Bs r 7) (hk : k < ny r) : Rv l G yX0_leaveRow cX0_leaveRow 3 none 1 sz [(o, dO r ab af an aw), (ab, .inl (gI G, 1920, .inl (dB r))), (af, .inl (gI G, 120, .inl (dF r))), (an, .inl (gI G, 120, .inl (dN r))), (aw, .inl (gI G, 7, .inl (dW r)))] [.ref o, .int (nI k)] [(o, dO (tko r k) ab af an aw), (ab, .inl (gI G, 1920, .inl (dB (tko r k)))), (af, .inl (gI G, 120, .inl (dF (tko r k)))), (an, .inl (gI G, 120, .inl (dN (tko r k)))), (aw, .inl (gI G, 7, .inl (dW (tko r k))))] := by
  refine Rv.mk (by decide) (Nat.le_of_ble_eq_true rfl) (fun pq eq sq mq bq tq cq ls A hr hlk hF hKx hZ hA hP hD hS hl => ?_)
  have hx := hF.1
  have hb := hF.2.1
  have hml := hF.2.2.1
  have hown : sq.vm.findClass RX0 = some mq.cls := hF.2.2.2.1
  have hts : ∀ w ∈ GW, w.before _ sq = true := hF.2.2.2.2
  have hK := hKx.1
  have hl : lv_has ls 3 [(0, .ref o), (1, .int (nI k))] := hl
  have hP : va_P G.1 vwCl [(o, dO r ab af an aw), (ab, .inl (gI G, 1920, .inl (dB r))), (af, .inl (gI G, 120, .inl (dF r))), (an, .inl (gI G, 120, .inl (dN r))), (aw, .inl (gI G, 7, .inl (dW r)))] sq.heap := hP
  have hD : va_D A [(o, dO r ab af an aw), (ab, .inl (gI G, 1920, .inl (dB r))), (af, .inl (gI G, 120, .inl (dF r))), (an, .inl (gI G, 120, .inl (dN r))), (aw, .inl (gI G, 7, .inl (dW r)))] := hD
  obtain ⟨h0, ht, h1, hkp, h2, ho, h6, hc, hRx⟩ := id hB
  refine lv_iload_n hx hb dX0_leaveRow_0 rfl (lv_at hl 1 rfl) ?_
  refine lv_iconst (v := nI 0) hx hb dX0_leaveRow_1 (by decide) ?_
  refine va_mmax hx hb (hml.trans hl.1.symm) hown (hts _ mw_1_173) (hts _ mw_1_174) (hts _ mw_1_5) (hts _ mw_1_175) (Nat.le_of_ble_eq_true rfl) (Nat.le_of_ble_eq_true rfl) (Nat.zero_le _) (Nat.zero_le _) dX0_leaveRow_2 ?_
  refine lv_cv (y := nI k) (max_n0 (by omega)) ?_
  refine lv_iconst (v := nI 1) hx hb dX0_leaveRow_5 (by decide) ?_
  refine n_iadd hx hb dX0_leaveRow_6 ?_
  refine lv_istore_n (lv' := [(2, .int (nI (k + 1))), (0, .ref o), (1, .int (nI k))]) hx hb dX0_leaveRow_7 rfl hl (by decide) rfl (fun ls hl => ?_)
  have hPj := hP.sub (ws' := [(o, dO r ab af an aw), (ab, .inl (gI G, 1920, .inl (dB r))), (af, .inl (gI G, 120, .inl (dF r))), (an, .inl (gI G, 120, .inl (dN r))), (aw, .inl (gI G, 7, .inl (dW r)))]) [0, 1, 2, 3, 4] rfl
  have hDj := hD.sub (ws' := [(o, dO r ab af an aw), (ab, .inl (gI G, 1920, .inl (dB r))), (af, .inl (gI G, 120, .inl (dF r))), (an, .inl (gI G, 120, .inl (dN r))), (aw, .inl (gI G, 7, .inl (dW r)))]) [0, 1, 2, 3, 4] (by decide) rfl
  have hwj : ([(o, dO r ab af an aw), (ab, .inl (gI G, 1920, .inl (dB r))), (af, .inl (gI G, 120, .inl (dF r))), (an, .inl (gI G, 120, .inl (dN r))), (aw, .inl (gI G, 7, .inl (dW r)))] : va_W) = [(o, dO r ab af an aw), (ab, .inl (gI G, 1920, .inl (dB r))), (af, .inl (gI G, 120, .inl (dF r))), (an, .inl (gI G, 120, .inl (dN r))), (aw, .inl (gI G, 7, .inl (dW (tkk r k k))))] := (wlc (rfl) (wlc (rfl) (wlc (rfl) (wlc (rfl) (wlc (wli dW_tk0.symm) rfl)))))
  rw [hwj] at hPj hDj
  refine wloopH [] (fun q H locs ls => (k ≤ q) ∧ (q ≤ ny r - 1) ∧ va_P G.1 vwCl [(o, dO r ab af an aw), (ab, .inl (gI G, 1920, .inl (dB r))), (af, .inl (gI G, 120, .inl (dF r))), (an, .inl (gI G, 120, .inl (dN r))), (aw, .inl (gI G, 7, .inl (dW (tkk r k q))))] H ∧ va_D A [(o, dO r ab af an aw), (ab, .inl (gI G, 1920, .inl (dB r))), (af, .inl (gI G, 120, .inl (dF r))), (an, .inl (gI G, 120, .inl (dN r))), (aw, .inl (gI G, 7, .inl (dW (tkk r k q))))] ∧ va_S A sq.heap H locs ∧ lv_has ls 3 [(2, .int (nI (q + 1))), (0, .ref o), (1, .int (nI k))]) (fun q => ny r - q) ?_ k ⟨(by omega), (by omega), hPj, hDj, hS, lv_sub hl [0, 1, 2] rfl⟩
  intro q ih
  intro H locs ls ⟨hq1, hq2, hP, hD, hS, hl⟩
  refine lv_iload_n hx hb dX0_leaveRow_8 rfl (lv_at hl 0 rfl) ?_
  refine lv_aload_n hx hb dX0_leaveRow_9 rfl (lv_at hl 1 rfl) ?_
  refine va_get (ci := 0) (v := .int (r 6)) (C := RX0) (T := TX0) (N := 11) hx hb hts inGX0 hown hK hP 0 rfl rfl 6 (by decide) (hts _ mw_1_35) (fun _ h9 => h9) rfl dX0_leaveRow_10 ?_
  refine lv_cv (y := nI (ny r)) (h6) ?_
  refine z_ge hx hb (tgt := 45) ((q + 1 : Nat) : Int) ((ny r : Nat) : Int) dX0_leaveRow_13 (by decide) (toI (by omega)) (toI (by omega)) (fun c_13 => ?_) (fun c_13 => ?_)
  · skip
    have hq3 : q = ny r - 1 := by omega
    subst hq3
    refine lv_aload_n hx hb dX0_leaveRow_45 rfl (lv_at hl 1 rfl) ?_
    refine lv_dup hx hb dX0_leaveRow_46 rfl ?_
    refine va_get (ci := 0) (v := .int (r 6)) (C := RX0) (T := TX0) (N := 11) hx hb hts inGX0 hown hK hP 0 rfl rfl 6 (by decide) (hts _ mw_1_35) (fun _ h9 => h9) rfl dX0_leaveRow_47 ?_
    refine lv_cv (y := nI (ny r)) (h6) ?_
    refine lv_iconst (v := nI 1) hx hb dX0_leaveRow_50 (by decide) ?_
    refine n_isub hx hb (by omega) dX0_leaveRow_51 ?_
    refine va_put (ci := 0) (v := .int (nI ((ny r) - 1))) (ty := .int) (C := RX0) (T := TX0) (N := 11) hx hb hts inGX0 tyX0 tyX0_ok nmX0 hown hK hP hD hS 0 rfl rfl 6 (by decide) (hts _ mw_1_35) (fun _ h9 => h9) rfl (by decide +kernel) rfl rfl (Nat.le_of_ble_eq_true rfl) dX0_leaveRow_52 (fun H locs hP hD hS => ?_)
    have hP : va_P G.1 vwCl [(o, .inr (0, [.int (r 0), .int (r 1), .int (r 2), .int (r 3), .int (r 4), .int (r 5), .int (nI ((ny r) - 1)), .ref ab, .ref af, .ref an, .ref aw])), (ab, .inl (gI G, 1920, .inl (dB r))), (af, .inl (gI G, 120, .inl (dF r))), (an, .inl (gI G, 120, .inl (dN r))), (aw, .inl (gI G, 7, .inl (dW (tkk r k (ny r - 1)))))] H := hP
    have hD : va_D A [(o, .inr (0, [.int (r 0), .int (r 1), .int (r 2), .int (r 3), .int (r 4), .int (r 5), .int (nI ((ny r) - 1)), .ref ab, .ref af, .ref an, .ref aw])), (ab, .inl (gI G, 1920, .inl (dB r))), (af, .inl (gI G, 120, .inl (dF r))), (an, .inl (gI G, 120, .inl (dN r))), (aw, .inl (gI G, 7, .inl (dW (tkk r k (ny r - 1)))))] := hD
    have hPj := hP.sub (ws' := [(o, .inr (0, [.int (r 0), .int (r 1), .int (r 2), .int (r 3), .int (r 4), .int (r 5), .int (nI ((ny r) - 1)), .ref ab, .ref af, .ref an, .ref aw])), (ab, .inl (gI G, 1920, .inl (dB r))), (af, .inl (gI G, 120, .inl (dF r))), (an, .inl (gI G, 120, .inl (dN r))), (aw, .inl (gI G, 7, .inl (dW (tkk r k (ny r - 1)))))]) [0, 1, 2, 3, 4] rfl
    have hwj : ([(o, .inr (0, [.int (r 0), .int (r 1), .int (r 2), .int (r 3), .int (r 4), .int (r 5), .int (nI ((ny r) - 1)), .ref ab, .ref af, .ref an, .ref aw])), (ab, .inl (gI G, 1920, .inl (dB r))), (af, .inl (gI G, 120, .inl (dF r))), (an, .inl (gI G, 120, .inl (dN r))), (aw, .inl (gI G, 7, .inl (dW (tkk r k (ny r - 1)))))] : va_W) = [(o, dO (tko r k) ab af an aw), (ab, .inl (gI G, 1920, .inl (dB (tko r k)))), (af, .inl (gI G, 120, .inl (dF (tko r k)))), (an, .inl (gI G, 120, .inl (dN (tko r k)))), (aw, .inl (gI G, 7, .inl (dW (tko r k))))] := (wlc (dO_tko) (wlc (wli (dB_tko (by omega)).symm) (wlc (wli (dF_tko (by omega)).symm) (wlc (wli (dN_tko (by omega)).symm) (wlc (rfl) rfl)))))
    rw [hwj] at hPj
    exact e_wv hx hb hr hlk hPj hS dX0_leaveRow_55
  · skip
    refine lv_iload_n hx hb dX0_leaveRow_16 rfl (lv_at hl 0 rfl) ?_
    refine lv_aload_n hx hb dX0_leaveRow_17 rfl (lv_at hl 1 rfl) ?_
    refine va_get (ci := 0) (v := .ref aw) (C := RX0) (T := TX0) (N := 11) hx hb hts inGX0 hown hK hP 0 rfl rfl 10 (by decide) (hts _ mw_1_42) (fun _ h9 => h9) rfl dX0_leaveRow_18 ?_
    refine va_alen (v := nI 7) hx hb hK hP 4 0 rfl rfl rfl dX0_leaveRow_21 ?_
    refine z_ge hx hb (tgt := 45) ((q + 1 : Nat) : Int) 7 dX0_leaveRow_22 (by decide) (toI (by omega)) (by decide) (fun c_22 => ?_) (fun c_22 => ?_)
    · skip
      exact absurd c_22 (by omega)
    · skip
      refine lv_aload_n hx hb dX0_leaveRow_25 rfl (lv_at hl 1 rfl) ?_
      refine va_get (ci := 0) (v := .ref aw) (C := RX0) (T := TX0) (N := 11) hx hb hts inGX0 hown hK hP 0 rfl rfl 10 (by decide) (hts _ mw_1_42) (fun _ h9 => h9) rfl dX0_leaveRow_26 ?_
      refine lv_iload_n hx hb dX0_leaveRow_29 rfl (lv_at hl 0 rfl) ?_
      refine lv_iconst (v := nI 1) hx hb dX0_leaveRow_30 (by decide) ?_
      refine n_isub hx hb (by omega) dX0_leaveRow_31 ?_
      refine lv_aload_n hx hb dX0_leaveRow_32 rfl (lv_at hl 1 rfl) ?_
      refine va_get (ci := 0) (v := .ref aw) (C := RX0) (T := TX0) (N := 11) hx hb hts inGX0 hown hK hP 0 rfl rfl 10 (by decide) (hts _ mw_1_42) (fun _ h9 => h9) rfl dX0_leaveRow_33 ?_
      refine lv_iload_n hx hb dX0_leaveRow_36 rfl (lv_at hl 0 rfl) ?_
      refine n_iald hx hb hK hP 4 0 rfl rfl (by omega) (by omega) dX0_leaveRow_37 ?_
      refine n_iast hx hb hK hP hD hS 4 0 rfl rfl (by omega) (by omega) dX0_leaveRow_38 (fun H locs hP hD hS => ?_)
      have hP : va_P G.1 vwCl [(o, dO r ab af an aw), (ab, .inl (gI G, 1920, .inl (dB r))), (af, .inl (gI G, 120, .inl (dF r))), (an, .inl (gI G, 120, .inl (dN r))), (aw, .inl (gI G, 7, .inl (upd (dW (tkk r k q)) ((q + 1) - 1) ((dW (tkk r k q)) (q + 1)))))] H := hP
      have hD : va_D A [(o, dO r ab af an aw), (ab, .inl (gI G, 1920, .inl (dB r))), (af, .inl (gI G, 120, .inl (dF r))), (an, .inl (gI G, 120, .inl (dN r))), (aw, .inl (gI G, 7, .inl (upd (dW (tkk r k q)) ((q + 1) - 1) ((dW (tkk r k q)) (q + 1)))))] := hD
      refine lv_iinc (v := nI (q + 1 + 1)) (lv' := [(2, .int (nI (q + 1 + 1))), (0, .ref o), (1, .int (nI k))]) hx hb dX0_leaveRow_39 hl (k := 0) rfl (nI_add _ _) (by decide) rfl (fun ls hl => ?_)
      refine lv_goto (tgt := 8) hx hb dX0_leaveRow_42 (by decide) ?_
      have w_1 : ([(o, dO r ab af an aw), (ab, .inl (gI G, 1920, .inl (dB r))), (af, .inl (gI G, 120, .inl (dF r))), (an, .inl (gI G, 120, .inl (dN r))), (aw, .inl (gI G, 7, .inl (upd (dW (tkk r k q)) ((q + 1) - 1) ((dW (tkk r k q)) (q + 1)))))] : va_W) = [(o, dO r ab af an aw), (ab, .inl (gI G, 1920, .inl (dB r))), (af, .inl (gI G, 120, .inl (dF r))), (an, .inl (gI G, 120, .inl (dN r))), (aw, .inl (gI G, 7, .inl (dW (tkk r k (q + 1)))))] := (wlc (rfl) (wlc (rfl) (wlc (rfl) (wlc (rfl) (wlc (wli (dW_tkk hq1 (by omega))) rfl)))))
      have hPj := hP.sub (ws' := [(o, dO r ab af an aw), (ab, .inl (gI G, 1920, .inl (dB r))), (af, .inl (gI G, 120, .inl (dF r))), (an, .inl (gI G, 120, .inl (dN r))), (aw, .inl (gI G, 7, .inl (upd (dW (tkk r k q)) ((q + 1) - 1) ((dW (tkk r k q)) (q + 1)))))]) [0, 1, 2, 3, 4] rfl
      have hDj := hD.sub (ws' := [(o, dO r ab af an aw), (ab, .inl (gI G, 1920, .inl (dB r))), (af, .inl (gI G, 120, .inl (dF r))), (an, .inl (gI G, 120, .inl (dN r))), (aw, .inl (gI G, 7, .inl (upd (dW (tkk r k q)) ((q + 1) - 1) ((dW (tkk r k q)) (q + 1)))))]) [0, 1, 2, 3, 4] (by decide) rfl
      rw [w_1] at hPj hDj
      exact ih (q + 1) _ _ ls (by omega) ⟨(by omega), (by omega), hPj, hDj, hS, lv_sub hl [0, 1, 2] (lvc (by first | rfl | exact congrArg nI (by omega)) (lvr (lvr rfl)))⟩
set_option maxHeartbeats 4000000 in
set_option maxRecDepth 100000 in
theorem c_X0_writeBits (l : Launch) (G : gT) (sz : Nat) (o : Nat) (ab : Nat) (af : Nat) (an : Nat) (aw : Nat) (r : Nat → Int32) (s : Nat) (m : Nat) (v : Int32) (hs : s < 16) (hm : m < 120) : Rv l G yX0_writeBits cX0_writeBits 5 none 0 sz [(o, dO r ab af an aw), (ab, .inl (gI G, 1920, .inl (dB r))), (af, .inl (gI G, 120, .inl (dF r))), (an, .inl (gI G, 120, .inl (dN r))), (aw, .inl (gI G, 7, .inl (dW r)))] [.ref o, .int (nI s), .int (nI m), .int v] [(o, dO (upd r (255 + 16 * m + s) v) ab af an aw), (ab, .inl (gI G, 1920, .inl (dB (upd r (255 + 16 * m + s) v)))), (af, .inl (gI G, 120, .inl (dF (upd r (255 + 16 * m + s) v)))), (an, .inl (gI G, 120, .inl (dN (upd r (255 + 16 * m + s) v)))), (aw, .inl (gI G, 7, .inl (dW (upd r (255 + 16 * m + s) v))))] := by
  refine Rv.mk (by decide) (Nat.le_of_ble_eq_true rfl) (fun pq eq sq mq bq tq cq ls A hr hlk hF hKx hZ hA hP hD hS hl => ?_)
  have hx := hF.1
  have hb := hF.2.1
  have hml := hF.2.2.1
  have hown : sq.vm.findClass RX0 = some mq.cls := hF.2.2.2.1
  have hts : ∀ w ∈ GW, w.before _ sq = true := hF.2.2.2.2
  have hK := hKx.1
  have hl : lv_has ls 5 [(0, .ref o), (1, .int (nI s)), (2, .int (nI m)), (3, .int v)] := hl
  have hP : va_P G.1 vwCl [(o, dO r ab af an aw), (ab, .inl (gI G, 1920, .inl (dB r))), (af, .inl (gI G, 120, .inl (dF r))), (an, .inl (gI G, 120, .inl (dN r))), (aw, .inl (gI G, 7, .inl (dW r)))] sq.heap := hP
  have hD : va_D A [(o, dO r ab af an aw), (ab, .inl (gI G, 1920, .inl (dB r))), (af, .inl (gI G, 120, .inl (dF r))), (an, .inl (gI G, 120, .inl (dN r))), (aw, .inl (gI G, 7, .inl (dW r)))] := hD
  refine lv_iload_n hx hb dX0_writeBits_0 rfl (lv_at hl 2 rfl) ?_
  refine lv_bipush (v := nI 16) hx hb dX0_writeBits_1 (by decide) ?_
  refine n_imul hx hb dX0_writeBits_3 ?_
  refine lv_iload_n hx hb dX0_writeBits_4 rfl (lv_at hl 1 rfl) ?_
  refine n_iadd hx hb dX0_writeBits_5 ?_
  refine lv_istore (lv' := [(4, .int (nI (m * 16 + s))), (0, .ref o), (1, .int (nI s)), (2, .int (nI m)), (3, .int v)]) hx hb dX0_writeBits_6 hl (by decide) rfl (fun ls hl => ?_)
  refine lv_iload hx hb dX0_writeBits_8 (lv_at hl 0 rfl) ?_
  refine z0_lt hx hb (tgt := 31) ((m * 16 + s : Nat) : Int) dX0_writeBits_10 (by decide) (toI (by omega)) (fun c_10 => ?_) (fun c_10 => ?_)
  · skip
    exact absurd c_10 (by omega)
  · skip
    refine lv_iload hx hb dX0_writeBits_13 (lv_at hl 0 rfl) ?_
    refine lv_aload_n hx hb dX0_writeBits_15 rfl (lv_at hl 1 rfl) ?_
    refine va_get (ci := 0) (v := .ref ab) (C := RX0) (T := TX0) (N := 11) hx hb hts inGX0 hown hK hP 0 rfl rfl 7 (by decide) (hts _ mw_1_36) (fun _ h9 => h9) rfl dX0_writeBits_16 ?_
    refine va_alen (v := nI 1920) hx hb hK hP 1 0 rfl rfl rfl dX0_writeBits_19 ?_
    refine z_ge hx hb (tgt := 31) ((m * 16 + s : Nat) : Int) 1920 dX0_writeBits_20 (by decide) (toI (by omega)) (by decide) (fun c_20 => ?_) (fun c_20 => ?_)
    · skip
      exact absurd c_20 (by omega)
    · skip
      refine lv_aload_n hx hb dX0_writeBits_23 rfl (lv_at hl 1 rfl) ?_
      refine va_get (ci := 0) (v := .ref ab) (C := RX0) (T := TX0) (N := 11) hx hb hts inGX0 hown hK hP 0 rfl rfl 7 (by decide) (hts _ mw_1_36) (fun _ h9 => h9) rfl dX0_writeBits_24 ?_
      refine lv_iload hx hb dX0_writeBits_27 (lv_at hl 0 rfl) ?_
      refine lv_iload_n hx hb dX0_writeBits_29 rfl (lv_at hl 4 rfl) ?_
      refine n_iast hx hb hK hP hD hS 1 0 rfl rfl (by omega) (by omega) dX0_writeBits_30 (fun H locs hP hD hS => ?_)
      have hP : va_P G.1 vwCl [(o, dO r ab af an aw), (ab, .inl (gI G, 1920, .inl (upd (dB r) (m * 16 + s) v))), (af, .inl (gI G, 120, .inl (dF r))), (an, .inl (gI G, 120, .inl (dN r))), (aw, .inl (gI G, 7, .inl (dW r)))] H := hP
      have hD : va_D A [(o, dO r ab af an aw), (ab, .inl (gI G, 1920, .inl (upd (dB r) (m * 16 + s) v))), (af, .inl (gI G, 120, .inl (dF r))), (an, .inl (gI G, 120, .inl (dN r))), (aw, .inl (gI G, 7, .inl (dW r)))] := hD
      have hPj := hP.sub (ws' := [(o, dO r ab af an aw), (ab, .inl (gI G, 1920, .inl (upd (dB r) (m * 16 + s) v))), (af, .inl (gI G, 120, .inl (dF r))), (an, .inl (gI G, 120, .inl (dN r))), (aw, .inl (gI G, 7, .inl (dW r)))]) [0, 1, 2, 3, 4] rfl
      have hwj : ([(o, dO r ab af an aw), (ab, .inl (gI G, 1920, .inl (upd (dB r) (m * 16 + s) v))), (af, .inl (gI G, 120, .inl (dF r))), (an, .inl (gI G, 120, .inl (dN r))), (aw, .inl (gI G, 7, .inl (dW r)))] : va_W) = [(o, dO (upd r (255 + 16 * m + s) v) ab af an aw), (ab, .inl (gI G, 1920, .inl (dB (upd r (255 + 16 * m + s) v)))), (af, .inl (gI G, 120, .inl (dF (upd r (255 + 16 * m + s) v)))), (an, .inl (gI G, 120, .inl (dN (upd r (255 + 16 * m + s) v)))), (aw, .inl (gI G, 7, .inl (dW (upd r (255 + 16 * m + s) v))))] := (wlc ((dO_e (fun j hj => upd_n (by omega))).symm) (wlc (wli (dB_w hs hm)) (wlc (wli (dF_e (fun q hq => upd_n (by omega))).symm) (wlc (wli (dN_e (fun q hq => ⟨upd_n (by omega), upd_n (by omega)⟩)).symm) (wlc (wli (dW_e (fun q hq => upd_n (by omega))).symm) rfl)))))
      rw [hwj] at hPj
      exact e_wv hx hb hr hlk hPj hS dX0_writeBits_31
set_option maxHeartbeats 4000000 in
set_option maxRecDepth 100000 in
theorem c_X0_bringToTheEnd (l : Launch) (G : gT) (sz : Nat) (o : Nat) (ab : Nat) (af : Nat) (an : Nat) (aw : Nat) (r : Nat → Int32) (m : Nat) (hm : m < 120) (hB : Bs r 6) (hCt : Ct r) (hpf : plo r m = -6 ↔ 0 < (r (15 + m)).toInt) : Rv l G yX0_bringToTheEnd cX0_bringToTheEnd 3 none 4 sz [(o, dO r ab af an aw), (ab, .inl (gI G, 1920, .inl (dB r))), (af, .inl (gI G, 120, .inl (dF r))), (an, .inl (gI G, 120, .inl (dN r))), (aw, .inl (gI G, 7, .inl (dW r)))] [.ref o, .int (nI m)] [(o, dO (ten (lk1 r m) m) ab af an aw), (ab, .inl (gI G, 1920, .inl (dB (ten (lk1 r m) m)))), (af, .inl (gI G, 120, .inl (dF (ten (lk1 r m) m)))), (an, .inl (gI G, 120, .inl (dN (ten (lk1 r m) m)))), (aw, .inl (gI G, 7, .inl (dW (ten (lk1 r m) m))))] := by
  refine Rv.mk (by decide) (Nat.le_of_ble_eq_true rfl) (fun pq eq sq mq bq tq cq ls A hr hlk hF hKx hZ hA hP hD hS hl => ?_)
  have hx := hF.1
  have hb := hF.2.1
  have hml := hF.2.2.1
  have hown : sq.vm.findClass RX0 = some mq.cls := hF.2.2.2.1
  have hts : ∀ w ∈ GW, w.before _ sq = true := hF.2.2.2.2
  have hK := hKx.1
  have hl : lv_has ls 3 [(0, .ref o), (1, .int (nI m))] := hl
  have hP : va_P G.1 vwCl [(o, dO r ab af an aw), (ab, .inl (gI G, 1920, .inl (dB r))), (af, .inl (gI G, 120, .inl (dF r))), (an, .inl (gI G, 120, .inl (dN r))), (aw, .inl (gI G, 7, .inl (dW r)))] sq.heap := hP
  have hD : va_D A [(o, dO r ab af an aw), (ab, .inl (gI G, 1920, .inl (dB r))), (af, .inl (gI G, 120, .inl (dF r))), (an, .inl (gI G, 120, .inl (dN r))), (aw, .inl (gI G, 7, .inl (dW r)))] := hD
  obtain ⟨h0, ht, h1, hkp, h2, ho, h6, hc, hRx⟩ := id hB
  have hB1 := Bs_lk1 (m := m) hB (by omega)
  have hBt := Bs_te1 (m := m) hB1 (by omega)
  obtain ⟨-, -, -, -, -, -, g6, gc, -⟩ := id hBt
  refine wjoinH 66 [] (fun H locs ls => va_P G.1 vwCl [(o, dO (te1 (lk1 r m) m) ab af an aw), (ab, .inl (gI G, 1920, .inl (dB (te1 (lk1 r m) m)))), (af, .inl (gI G, 120, .inl (dF (te1 (lk1 r m) m)))), (an, .inl (gI G, 120, .inl (dN (te1 (lk1 r m) m)))), (aw, .inl (gI G, 7, .inl (dW (te1 (lk1 r m) m))))] H ∧ va_D A [(o, dO (te1 (lk1 r m) m) ab af an aw), (ab, .inl (gI G, 1920, .inl (dB (te1 (lk1 r m) m)))), (af, .inl (gI G, 120, .inl (dF (te1 (lk1 r m) m)))), (an, .inl (gI G, 120, .inl (dN (te1 (lk1 r m) m)))), (aw, .inl (gI G, 7, .inl (dW (te1 (lk1 r m) m))))] ∧ va_S A sq.heap H locs ∧ lv_has ls 3 [(0, .ref o), (1, .int (nI m))]) ?_ (fun J66 => ?_)
  · skip
    intro H locs ls ⟨hP, hD, hS, hl⟩
    refine lv_aload_n hx hb dX0_bringToTheEnd_66 rfl (lv_at hl 0 rfl) ?_
    refine va_get (ci := 0) (v := .int ((te1 (lk1 r m) m) 6)) (C := RX0) (T := TX0) (N := 11) hx hb hts inGX0 hown hK hP 0 rfl rfl 6 (by decide) (hts _ mw_1_35) (fun _ h9 => h9) rfl dX0_bringToTheEnd_67 ?_
    refine lv_cv (y := nI (ny (te1 (lk1 r m) m))) (g6) ?_
    refine z0_lt hx hb (tgt := 105) ((ny (te1 (lk1 r m) m) : Nat) : Int) dX0_bringToTheEnd_70 (by decide) (toI (by omega)) (fun c_70 => ?_) (fun c_70 => ?_)
    · skip
      exact absurd c_70 (by omega)
    · skip
      refine lv_aload_n hx hb dX0_bringToTheEnd_73 rfl (lv_at hl 0 rfl) ?_
      refine va_get (ci := 0) (v := .int ((te1 (lk1 r m) m) 6)) (C := RX0) (T := TX0) (N := 11) hx hb hts inGX0 hown hK hP 0 rfl rfl 6 (by decide) (hts _ mw_1_35) (fun _ h9 => h9) rfl dX0_bringToTheEnd_74 ?_
      refine lv_cv (y := nI (ny (te1 (lk1 r m) m))) (g6) ?_
      refine lv_aload_n hx hb dX0_bringToTheEnd_77 rfl (lv_at hl 0 rfl) ?_
      refine va_get (ci := 0) (v := .ref aw) (C := RX0) (T := TX0) (N := 11) hx hb hts inGX0 hown hK hP 0 rfl rfl 10 (by decide) (hts _ mw_1_42) (fun _ h9 => h9) rfl dX0_bringToTheEnd_78 ?_
      refine va_alen (v := nI 7) hx hb hK hP 4 0 rfl rfl rfl dX0_bringToTheEnd_81 ?_
      refine z_ge hx hb (tgt := 105) ((ny (te1 (lk1 r m) m) : Nat) : Int) 7 dX0_bringToTheEnd_82 (by decide) (toI (by omega)) (by decide) (fun c_82 => ?_) (fun c_82 => ?_)
      · skip
        exact absurd c_82 (by omega)
      · skip
        refine lv_aload_n hx hb dX0_bringToTheEnd_85 rfl (lv_at hl 0 rfl) ?_
        refine va_get (ci := 0) (v := .ref aw) (C := RX0) (T := TX0) (N := 11) hx hb hts inGX0 hown hK hP 0 rfl rfl 10 (by decide) (hts _ mw_1_42) (fun _ h9 => h9) rfl dX0_bringToTheEnd_86 ?_
        refine lv_aload_n hx hb dX0_bringToTheEnd_89 rfl (lv_at hl 0 rfl) ?_
        refine va_get (ci := 0) (v := .int ((te1 (lk1 r m) m) 6)) (C := RX0) (T := TX0) (N := 11) hx hb hts inGX0 hown hK hP 0 rfl rfl 6 (by decide) (hts _ mw_1_35) (fun _ h9 => h9) rfl dX0_bringToTheEnd_90 ?_
        refine lv_cv (y := nI (ny (te1 (lk1 r m) m))) (g6) ?_
        refine lv_iload_n hx hb dX0_bringToTheEnd_93 rfl (lv_at hl 1 rfl) ?_
        refine n_iast hx hb hK hP hD hS 4 0 rfl rfl (by omega) (by omega) dX0_bringToTheEnd_94 (fun H locs hP hD hS => ?_)
        have hP : va_P G.1 vwCl [(o, dO (te1 (lk1 r m) m) ab af an aw), (ab, .inl (gI G, 1920, .inl (dB (te1 (lk1 r m) m)))), (af, .inl (gI G, 120, .inl (dF (te1 (lk1 r m) m)))), (an, .inl (gI G, 120, .inl (dN (te1 (lk1 r m) m)))), (aw, .inl (gI G, 7, .inl (upd (dW (te1 (lk1 r m) m)) (ny (te1 (lk1 r m) m)) (nI m))))] H := hP
        have hD : va_D A [(o, dO (te1 (lk1 r m) m) ab af an aw), (ab, .inl (gI G, 1920, .inl (dB (te1 (lk1 r m) m)))), (af, .inl (gI G, 120, .inl (dF (te1 (lk1 r m) m)))), (an, .inl (gI G, 120, .inl (dN (te1 (lk1 r m) m)))), (aw, .inl (gI G, 7, .inl (upd (dW (te1 (lk1 r m) m)) (ny (te1 (lk1 r m) m)) (nI m))))] := hD
        refine lv_aload_n hx hb dX0_bringToTheEnd_95 rfl (lv_at hl 0 rfl) ?_
        refine lv_dup hx hb dX0_bringToTheEnd_96 rfl ?_
        refine va_get (ci := 0) (v := .int ((te1 (lk1 r m) m) 6)) (C := RX0) (T := TX0) (N := 11) hx hb hts inGX0 hown hK hP 0 rfl rfl 6 (by decide) (hts _ mw_1_35) (fun _ h9 => h9) rfl dX0_bringToTheEnd_97 ?_
        refine lv_cv (y := nI (ny (te1 (lk1 r m) m))) (g6) ?_
        refine lv_iconst (v := nI 1) hx hb dX0_bringToTheEnd_100 (by decide) ?_
        refine n_iadd hx hb dX0_bringToTheEnd_101 ?_
        refine va_put (ci := 0) (v := .int (nI (ny (te1 (lk1 r m) m) + 1))) (ty := .int) (C := RX0) (T := TX0) (N := 11) hx hb hts inGX0 tyX0 tyX0_ok nmX0 hown hK hP hD hS 0 rfl rfl 6 (by decide) (hts _ mw_1_35) (fun _ h9 => h9) rfl (by decide +kernel) rfl rfl (Nat.le_of_ble_eq_true rfl) dX0_bringToTheEnd_102 (fun H locs hP hD hS => ?_)
        have hP : va_P G.1 vwCl [(o, .inr (0, [.int ((te1 (lk1 r m) m) 0), .int ((te1 (lk1 r m) m) 1), .int ((te1 (lk1 r m) m) 2), .int ((te1 (lk1 r m) m) 3), .int ((te1 (lk1 r m) m) 4), .int ((te1 (lk1 r m) m) 5), .int (nI (ny (te1 (lk1 r m) m) + 1)), .ref ab, .ref af, .ref an, .ref aw])), (ab, .inl (gI G, 1920, .inl (dB (te1 (lk1 r m) m)))), (af, .inl (gI G, 120, .inl (dF (te1 (lk1 r m) m)))), (an, .inl (gI G, 120, .inl (dN (te1 (lk1 r m) m)))), (aw, .inl (gI G, 7, .inl (upd (dW (te1 (lk1 r m) m)) (ny (te1 (lk1 r m) m)) (nI m))))] H := hP
        have hD : va_D A [(o, .inr (0, [.int ((te1 (lk1 r m) m) 0), .int ((te1 (lk1 r m) m) 1), .int ((te1 (lk1 r m) m) 2), .int ((te1 (lk1 r m) m) 3), .int ((te1 (lk1 r m) m) 4), .int ((te1 (lk1 r m) m) 5), .int (nI (ny (te1 (lk1 r m) m) + 1)), .ref ab, .ref af, .ref an, .ref aw])), (ab, .inl (gI G, 1920, .inl (dB (te1 (lk1 r m) m)))), (af, .inl (gI G, 120, .inl (dF (te1 (lk1 r m) m)))), (an, .inl (gI G, 120, .inl (dN (te1 (lk1 r m) m)))), (aw, .inl (gI G, 7, .inl (upd (dW (te1 (lk1 r m) m)) (ny (te1 (lk1 r m) m)) (nI m))))] := hD
        have hPj := hP.sub (ws' := [(o, .inr (0, [.int ((te1 (lk1 r m) m) 0), .int ((te1 (lk1 r m) m) 1), .int ((te1 (lk1 r m) m) 2), .int ((te1 (lk1 r m) m) 3), .int ((te1 (lk1 r m) m) 4), .int ((te1 (lk1 r m) m) 5), .int (nI (ny (te1 (lk1 r m) m) + 1)), .ref ab, .ref af, .ref an, .ref aw])), (ab, .inl (gI G, 1920, .inl (dB (te1 (lk1 r m) m)))), (af, .inl (gI G, 120, .inl (dF (te1 (lk1 r m) m)))), (an, .inl (gI G, 120, .inl (dN (te1 (lk1 r m) m)))), (aw, .inl (gI G, 7, .inl (upd (dW (te1 (lk1 r m) m)) (ny (te1 (lk1 r m) m)) (nI m))))]) [0, 1, 2, 3, 4] rfl
        have hwj : ([(o, .inr (0, [.int ((te1 (lk1 r m) m) 0), .int ((te1 (lk1 r m) m) 1), .int ((te1 (lk1 r m) m) 2), .int ((te1 (lk1 r m) m) 3), .int ((te1 (lk1 r m) m) 4), .int ((te1 (lk1 r m) m) 5), .int (nI (ny (te1 (lk1 r m) m) + 1)), .ref ab, .ref af, .ref an, .ref aw])), (ab, .inl (gI G, 1920, .inl (dB (te1 (lk1 r m) m)))), (af, .inl (gI G, 120, .inl (dF (te1 (lk1 r m) m)))), (an, .inl (gI G, 120, .inl (dN (te1 (lk1 r m) m)))), (aw, .inl (gI G, 7, .inl (upd (dW (te1 (lk1 r m) m)) (ny (te1 (lk1 r m) m)) (nI m))))] : va_W) = [(o, dO (ten (lk1 r m) m) ab af an aw), (ab, .inl (gI G, 1920, .inl (dB (ten (lk1 r m) m)))), (af, .inl (gI G, 120, .inl (dF (ten (lk1 r m) m)))), (an, .inl (gI G, 120, .inl (dN (ten (lk1 r m) m)))), (aw, .inl (gI G, 7, .inl (dW (ten (lk1 r m) m))))] := (wlc (dO_ten) (wlc (wli (dB_ten (by omega)).symm) (wlc (wli (dF_ten (by omega)).symm) (wlc (wli (dN_ten (by omega)).symm) (wlc (wli (dW_ten (by omega))) rfl)))))
        rw [hwj] at hPj
        exact e_wv hx hb hr hlk hPj hS dX0_bringToTheEnd_105
  · skip
    refine lv_aload_n hx hb dX0_bringToTheEnd_0 rfl (lv_at hl 0 rfl) ?_
    refine lv_iload_n hx hb dX0_bringToTheEnd_1 rfl (lv_at hl 1 rfl) ?_
    refine k_roV (ci := 0) (q0 := 0) (As := [.int (nI m)]) (rest := []) hF (c_X0_placeInRow l G o ab af an aw r m (by omega) (hB.mono (by omega))) hKx hP ⟨_, rfl, rfl⟩ rfl rfl mw_2_102 mw_2_103 mw_2_104 mw_1_2 mw_2_105 hd_X0_placeInRow ⟨Nat.le_of_ble_eq_true rfl, Nat.le_of_ble_eq_true rfl⟩ (Rd.of hKx hZ hS) (hP.sub (ws' := [(o, dO r ab af an aw), (ab, .inl (gI G, 1920, .inl (dB r))), (af, .inl (gI G, 120, .inl (dF r))), (an, .inl (gI G, 120, .inl (dN r))), (aw, .inl (gI G, 7, .inl (dW r)))]) [0, 1, 2, 3, 4] rfl) rfl hl.1 rfl (Nat.le_of_ble_eq_true rfl) dX0_bringToTheEnd_2 ⟨Nat.zero_le _, Nat.zero_le _⟩ ?_
    refine lv_istore_n (lv' := [(2, .int (plo r m)), (0, .ref o), (1, .int (nI m))]) hx hb dX0_bringToTheEnd_5 rfl hl (by decide) rfl (fun ls hl => ?_)
    refine lv_iload_n hx hb dX0_bringToTheEnd_6 rfl (lv_at hl 0 rfl) ?_
    refine lv_bipush (v := (-6)) hx hb dX0_bringToTheEnd_7 (by decide) ?_
    refine z_eq hx hb (tgt := 20) ((plo r m).toInt) (-6) dX0_bringToTheEnd_9 (by decide) rfl (by decide) (fun c_9 => ?_) (fun c_9 => ?_)
    · skip
      have hf0 := hpf.mp (Int32.toInt_inj.mp c_9)
      have eX : te1 (lk1 r m) m = ufd r m := te1_out hf0 (Int32.toInt_inj.mp c_9) (by omega)
      refine lv_iload_n hx hb dX0_bringToTheEnd_20 rfl (lv_at hl 2 rfl) ?_
      refine k_roN (As := [.int (nI m)]) (rest := []) hF (c_X3_isMonth l G (nI m) ((m : Nat) : Int) (toI (by omega))) hKx.2.2.1 mw_1_189 mw_1_1 mw_1_190 hd_X3_isMonth ⟨Nat.le_of_ble_eq_true rfl, Nat.le_of_ble_eq_true rfl⟩ (Rd.of hKx hZ hS) (hP.sub (ws' := []) [] rfl) rfl hl.1 rfl (Nat.le_of_ble_eq_true rfl) dX0_bringToTheEnd_21 ⟨Nat.zero_le _, Nat.zero_le _⟩ ?_
      refine p0_eq hx hb (tgt := 66) dX0_bringToTheEnd_24 (by decide) (fun c_24 => ?_) (fun c_24 => ?_)
      · skip
        exact absurd (show (0 : Int) ≤ ((m : Nat) : Int) ∧ ((m : Nat) : Int) < 120 by omega) c_24
      · skip
        refine lv_aload_n hx hb dX0_bringToTheEnd_27 rfl (lv_at hl 1 rfl) ?_
        refine lv_dup hx hb dX0_bringToTheEnd_28 rfl ?_
        refine va_get (ci := 0) (v := .int (r 3)) (C := RX0) (T := TX0) (N := 11) hx hb hts inGX0 hown hK hP 0 rfl rfl 3 (by decide) (hts _ mw_1_29) (fun _ h9 => h9) rfl dX0_bringToTheEnd_29 ?_
        refine lv_aload_n hx hb dX0_bringToTheEnd_32 rfl (lv_at hl 1 rfl) ?_
        refine lv_iload_n hx hb dX0_bringToTheEnd_33 rfl (lv_at hl 2 rfl) ?_
        refine k_roV (ci := 0) (q0 := 0) (As := [.int (nI m)]) (rest := [.int (r 3), .ref o]) hF (c_X0_sizeOf l G o ab af an aw r m (by omega) (hCt.1) (hCt.2.2) (hCt.2.1)) hKx hP ⟨_, rfl, rfl⟩ rfl rfl mw_1_180 mw_1_181 mw_1_182 mw_1_2 mw_1_183 hd_X0_sizeOf ⟨Nat.le_of_ble_eq_true rfl, Nat.le_of_ble_eq_true rfl⟩ (Rd.of hKx hZ hS) (hP.sub (ws' := [(o, dO r ab af an aw), (ab, .inl (gI G, 1920, .inl (dB r))), (af, .inl (gI G, 120, .inl (dF r))), (an, .inl (gI G, 120, .inl (dN r))), (aw, .inl (gI G, 7, .inl (dW r)))]) [0, 1, 2, 3, 4] rfl) rfl hl.1 rfl (Nat.le_of_ble_eq_true rfl) dX0_bringToTheEnd_34 ⟨Nat.zero_le _, Nat.zero_le _⟩ ?_
        refine lv_iadd hx hb dX0_bringToTheEnd_37 ?_
        refine va_put (ci := 0) (v := .int ((r 3) + (szo r m))) (ty := .int) (C := RX0) (T := TX0) (N := 11) hx hb hts inGX0 tyX0 tyX0_ok nmX0 hown hK hP hD hS 0 rfl rfl 3 (by decide) (hts _ mw_1_29) (fun _ h9 => h9) rfl (by decide +kernel) rfl rfl (Nat.le_of_ble_eq_true rfl) dX0_bringToTheEnd_38 (fun H locs hP hD hS => ?_)
        have hP : va_P G.1 vwCl [(o, .inr (0, [.int (r 0), .int (r 1), .int (r 2), .int ((r 3) + (szo r m)), .int (r 4), .int (r 5), .int (r 6), .ref ab, .ref af, .ref an, .ref aw])), (ab, .inl (gI G, 1920, .inl (dB r))), (af, .inl (gI G, 120, .inl (dF r))), (an, .inl (gI G, 120, .inl (dN r))), (aw, .inl (gI G, 7, .inl (dW r)))] H := hP
        have hD : va_D A [(o, .inr (0, [.int (r 0), .int (r 1), .int (r 2), .int ((r 3) + (szo r m)), .int (r 4), .int (r 5), .int (r 6), .ref ab, .ref af, .ref an, .ref aw])), (ab, .inl (gI G, 1920, .inl (dB r))), (af, .inl (gI G, 120, .inl (dF r))), (an, .inl (gI G, 120, .inl (dN r))), (aw, .inl (gI G, 7, .inl (dW r)))] := hD
        refine lv_aload_n hx hb dX0_bringToTheEnd_41 rfl (lv_at hl 1 rfl) ?_
        refine lv_dup hx hb dX0_bringToTheEnd_42 rfl ?_
        refine va_get (ci := 0) (v := .int (r 4)) (C := RX0) (T := TX0) (N := 11) hx hb hts inGX0 hown hK hP 0 rfl rfl 4 (by decide) (hts _ mw_1_31) (fun _ h9 => h9) rfl dX0_bringToTheEnd_43 ?_
        refine lv_iconst (v := nI 1) hx hb dX0_bringToTheEnd_46 (by decide) ?_
        refine lv_iadd hx hb dX0_bringToTheEnd_47 ?_
        refine va_put (ci := 0) (v := .int ((r 4) + (nI 1))) (ty := .int) (C := RX0) (T := TX0) (N := 11) hx hb hts inGX0 tyX0 tyX0_ok nmX0 hown hK hP hD hS 0 rfl rfl 4 (by decide) (hts _ mw_1_31) (fun _ h9 => h9) rfl (by decide +kernel) rfl rfl (Nat.le_of_ble_eq_true rfl) dX0_bringToTheEnd_48 (fun H locs hP hD hS => ?_)
        have hP : va_P G.1 vwCl [(o, .inr (0, [.int (r 0), .int (r 1), .int (r 2), .int ((r 3) + (szo r m)), .int ((r 4) + (nI 1)), .int (r 5), .int (r 6), .ref ab, .ref af, .ref an, .ref aw])), (ab, .inl (gI G, 1920, .inl (dB r))), (af, .inl (gI G, 120, .inl (dF r))), (an, .inl (gI G, 120, .inl (dN r))), (aw, .inl (gI G, 7, .inl (dW r)))] H := hP
        have hD : va_D A [(o, .inr (0, [.int (r 0), .int (r 1), .int (r 2), .int ((r 3) + (szo r m)), .int ((r 4) + (nI 1)), .int (r 5), .int (r 6), .ref ab, .ref af, .ref an, .ref aw])), (ab, .inl (gI G, 1920, .inl (dB r))), (af, .inl (gI G, 120, .inl (dF r))), (an, .inl (gI G, 120, .inl (dN r))), (aw, .inl (gI G, 7, .inl (dW r)))] := hD
        refine lv_aload_n hx hb dX0_bringToTheEnd_51 rfl (lv_at hl 1 rfl) ?_
        refine va_get (ci := 0) (v := .ref af) (C := RX0) (T := TX0) (N := 11) hx hb hts inGX0 hown hK hP 0 rfl rfl 8 (by decide) (hts _ mw_1_38) (fun _ h9 => h9) rfl dX0_bringToTheEnd_52 ?_
        refine lv_iload_n hx hb dX0_bringToTheEnd_55 rfl (lv_at hl 2 rfl) ?_
        refine lv_iconst (v := nI 5) hx hb dX0_bringToTheEnd_56 (by decide) ?_
        refine n_iast hx hb hK hP hD hS 2 0 rfl rfl (by omega) (by omega) dX0_bringToTheEnd_57 (fun H locs hP hD hS => ?_)
        have hP : va_P G.1 vwCl [(o, .inr (0, [.int (r 0), .int (r 1), .int (r 2), .int ((r 3) + (szo r m)), .int ((r 4) + (nI 1)), .int (r 5), .int (r 6), .ref ab, .ref af, .ref an, .ref aw])), (ab, .inl (gI G, 1920, .inl (dB r))), (af, .inl (gI G, 120, .inl (upd (dF r) m (nI 5)))), (an, .inl (gI G, 120, .inl (dN r))), (aw, .inl (gI G, 7, .inl (dW r)))] H := hP
        have hD : va_D A [(o, .inr (0, [.int (r 0), .int (r 1), .int (r 2), .int ((r 3) + (szo r m)), .int ((r 4) + (nI 1)), .int (r 5), .int (r 6), .ref ab, .ref af, .ref an, .ref aw])), (ab, .inl (gI G, 1920, .inl (dB r))), (af, .inl (gI G, 120, .inl (upd (dF r) m (nI 5)))), (an, .inl (gI G, 120, .inl (dN r))), (aw, .inl (gI G, 7, .inl (dW r)))] := hD
        refine lv_aload_n hx hb dX0_bringToTheEnd_58 rfl (lv_at hl 1 rfl) ?_
        refine va_get (ci := 0) (v := .ref an) (C := RX0) (T := TX0) (N := 11) hx hb hts inGX0 hown hK hP 0 rfl rfl 9 (by decide) (hts _ mw_1_40) (fun _ h9 => h9) rfl dX0_bringToTheEnd_59 ?_
        refine lv_iload_n hx hb dX0_bringToTheEnd_62 rfl (lv_at hl 2 rfl) ?_
        refine lv_bipush (v := (-6)) hx hb dX0_bringToTheEnd_63 (by decide) ?_
        refine n_iast hx hb hK hP hD hS 3 0 rfl rfl (by omega) (by omega) dX0_bringToTheEnd_65 (fun H locs hP hD hS => ?_)
        have hP : va_P G.1 vwCl [(o, .inr (0, [.int (r 0), .int (r 1), .int (r 2), .int ((r 3) + (szo r m)), .int ((r 4) + (nI 1)), .int (r 5), .int (r 6), .ref ab, .ref af, .ref an, .ref aw])), (ab, .inl (gI G, 1920, .inl (dB r))), (af, .inl (gI G, 120, .inl (upd (dF r) m (nI 5)))), (an, .inl (gI G, 120, .inl (upd (dN r) m (-6)))), (aw, .inl (gI G, 7, .inl (dW r)))] H := hP
        have hD : va_D A [(o, .inr (0, [.int (r 0), .int (r 1), .int (r 2), .int ((r 3) + (szo r m)), .int ((r 4) + (nI 1)), .int (r 5), .int (r 6), .ref ab, .ref af, .ref an, .ref aw])), (ab, .inl (gI G, 1920, .inl (dB r))), (af, .inl (gI G, 120, .inl (upd (dF r) m (nI 5)))), (an, .inl (gI G, 120, .inl (upd (dN r) m (-6)))), (aw, .inl (gI G, 7, .inl (dW r)))] := hD
        have w_1 : ([(o, .inr (0, [.int (r 0), .int (r 1), .int (r 2), .int ((r 3) + (szo r m)), .int ((r 4) + (nI 1)), .int (r 5), .int (r 6), .ref ab, .ref af, .ref an, .ref aw])), (ab, .inl (gI G, 1920, .inl (dB r))), (af, .inl (gI G, 120, .inl (upd (dF r) m (nI 5)))), (an, .inl (gI G, 120, .inl (upd (dN r) m (-6)))), (aw, .inl (gI G, 7, .inl (dW r)))] : va_W) = [(o, dO (te1 (lk1 r m) m) ab af an aw), (ab, .inl (gI G, 1920, .inl (dB (te1 (lk1 r m) m)))), (af, .inl (gI G, 120, .inl (dF (te1 (lk1 r m) m)))), (an, .inl (gI G, 120, .inl (dN (te1 (lk1 r m) m)))), (aw, .inl (gI G, 7, .inl (dW (te1 (lk1 r m) m))))] := (wlc (by first | (rw [eX]; done) | (rw [eX]; exact dO_ufd)) (wlc (by first | (rw [eX]; done) | (rw [eX]; exact wli (dB_ufd hm).symm)) (wlc (by first | (rw [eX]; done) | (rw [eX]; exact wli (dF_ufd hm))) (wlc (by first | (rw [eX]; done) | (rw [eX]; exact wli (dN_ufd hm))) (wlc (by first | (rw [eX]; done) | (rw [eX]; exact wli dW_ufd.symm)) rfl)))))
        have hPj := hP.sub (ws' := [(o, .inr (0, [.int (r 0), .int (r 1), .int (r 2), .int ((r 3) + (szo r m)), .int ((r 4) + (nI 1)), .int (r 5), .int (r 6), .ref ab, .ref af, .ref an, .ref aw])), (ab, .inl (gI G, 1920, .inl (dB r))), (af, .inl (gI G, 120, .inl (upd (dF r) m (nI 5)))), (an, .inl (gI G, 120, .inl (upd (dN r) m (-6)))), (aw, .inl (gI G, 7, .inl (dW r)))]) [0, 1, 2, 3, 4] rfl
        have hDj := hD.sub (ws' := [(o, .inr (0, [.int (r 0), .int (r 1), .int (r 2), .int ((r 3) + (szo r m)), .int ((r 4) + (nI 1)), .int (r 5), .int (r 6), .ref ab, .ref af, .ref an, .ref aw])), (ab, .inl (gI G, 1920, .inl (dB r))), (af, .inl (gI G, 120, .inl (upd (dF r) m (nI 5)))), (an, .inl (gI G, 120, .inl (upd (dN r) m (-6)))), (aw, .inl (gI G, 7, .inl (dW r)))]) [0, 1, 2, 3, 4] (by decide) rfl
        rw [w_1] at hPj hDj
        exact J66 _ _ ls ⟨hPj, hDj, hS, lv_sub hl [1, 2] rfl⟩
    · skip
      obtain ⟨k0, hk0, ek0, -⟩ : ∃ j, j < ny r ∧ plo r m = nI j ∧ (r (7 + j)).toInt = (m : Int) := (plo_in r m).resolve_left (fun z => c_9 (congrArg Int32.toInt z))
      have eX : te1 (lk1 r m) m = tko r k0 := te1_in hpf ek0 (by omega)
      refine lv_aload_n hx hb dX0_bringToTheEnd_12 rfl (lv_at hl 1 rfl) ?_
      refine lv_iload_n hx hb dX0_bringToTheEnd_13 rfl (lv_at hl 0 rfl) ?_
      refine lv_cv (y := nI k0) (ek0) ?_
      refine k_rvV (ci := 0) (q0 := 0) (As := [.int (nI k0)]) (rest := []) (wr := []) hF (c_X0_leaveRow l G _ o ab af an aw r k0 (hB.mono (by omega)) (by omega)) ⟨_, rfl, rfl⟩ rfl rfl mw_2_32 mw_2_33 mw_2_34 mw_1_2 mw_2_35 hd_X0_leaveRow ⟨Nat.le_of_ble_eq_true rfl, Nat.le_of_ble_eq_true rfl⟩ hKx hZ hS hP hD hA [0, 1, 2, 3, 4] [] rfl rfl (by decide) (by decide) (by decide) rfl rfl hl.1 rfl (Nat.le_of_ble_eq_true rfl) dX0_bringToTheEnd_14 ⟨Nat.zero_le _, Nat.zero_le _⟩ (fun H locs hP hD hS => ?_)
      have hP : va_P G.1 vwCl [(o, dO (tko r k0) ab af an aw), (ab, .inl (gI G, 1920, .inl (dB (tko r k0)))), (af, .inl (gI G, 120, .inl (dF (tko r k0)))), (an, .inl (gI G, 120, .inl (dN (tko r k0)))), (aw, .inl (gI G, 7, .inl (dW (tko r k0))))] H := hP
      have hD : va_D A [(o, dO (tko r k0) ab af an aw), (ab, .inl (gI G, 1920, .inl (dB (tko r k0)))), (af, .inl (gI G, 120, .inl (dF (tko r k0)))), (an, .inl (gI G, 120, .inl (dN (tko r k0)))), (aw, .inl (gI G, 7, .inl (dW (tko r k0))))] := hD
      refine lv_goto (tgt := 66) hx hb dX0_bringToTheEnd_17 (by decide) ?_
      have w_2 : ([(o, dO (tko r k0) ab af an aw), (ab, .inl (gI G, 1920, .inl (dB (tko r k0)))), (af, .inl (gI G, 120, .inl (dF (tko r k0)))), (an, .inl (gI G, 120, .inl (dN (tko r k0)))), (aw, .inl (gI G, 7, .inl (dW (tko r k0))))] : va_W) = [(o, dO (te1 (lk1 r m) m) ab af an aw), (ab, .inl (gI G, 1920, .inl (dB (te1 (lk1 r m) m)))), (af, .inl (gI G, 120, .inl (dF (te1 (lk1 r m) m)))), (an, .inl (gI G, 120, .inl (dN (te1 (lk1 r m) m)))), (aw, .inl (gI G, 7, .inl (dW (te1 (lk1 r m) m))))] := (wlc (by first | (rw [eX]; done) | (rw [eX]; exact dO_ufd)) (wlc (by first | (rw [eX]; done) | (rw [eX]; exact wli (dB_ufd hm).symm)) (wlc (by first | (rw [eX]; done) | (rw [eX]; exact wli (dF_ufd hm))) (wlc (by first | (rw [eX]; done) | (rw [eX]; exact wli (dN_ufd hm))) (wlc (by first | (rw [eX]; done) | (rw [eX]; exact wli dW_ufd.symm)) rfl)))))
      have hPj := hP.sub (ws' := [(o, dO (tko r k0) ab af an aw), (ab, .inl (gI G, 1920, .inl (dB (tko r k0)))), (af, .inl (gI G, 120, .inl (dF (tko r k0)))), (an, .inl (gI G, 120, .inl (dN (tko r k0)))), (aw, .inl (gI G, 7, .inl (dW (tko r k0))))]) [0, 1, 2, 3, 4] rfl
      have hDj := hD.sub (ws' := [(o, dO (tko r k0) ab af an aw), (ab, .inl (gI G, 1920, .inl (dB (tko r k0)))), (af, .inl (gI G, 120, .inl (dF (tko r k0)))), (an, .inl (gI G, 120, .inl (dN (tko r k0)))), (aw, .inl (gI G, 7, .inl (dW (tko r k0))))]) [0, 1, 2, 3, 4] (by decide) rfl
      rw [w_2] at hPj hDj
      exact J66 _ _ ls ⟨hPj, hDj, hS, lv_sub hl [1, 2] rfl⟩
set_option maxHeartbeats 4000000 in
set_option maxRecDepth 100000 in
theorem c_X0_foldSurplus (l : Launch) (G : gT) (sz : Nat) (o : Nat) (ab : Nat) (af : Nat) (an : Nat) (aw : Nat) (r : Nat → Int32) (hB : Bs r 7) (hCt : Ct r) : Rv l G yX0_foldSurplus cX0_foldSurplus 3 none 4 sz [(o, dO r ab af an aw), (ab, .inl (gI G, 1920, .inl (dB r))), (af, .inl (gI G, 120, .inl (dF r))), (an, .inl (gI G, 120, .inl (dN r))), (aw, .inl (gI G, 7, .inl (dW r)))] [.ref o] [(o, dO (fga r) ab af an aw), (ab, .inl (gI G, 1920, .inl (dB (fga r)))), (af, .inl (gI G, 120, .inl (dF (fga r)))), (an, .inl (gI G, 120, .inl (dN (fga r)))), (aw, .inl (gI G, 7, .inl (dW (fga r))))] := by
  refine Rv.mk (by decide) (Nat.le_of_ble_eq_true rfl) (fun pq eq sq mq bq tq cq ls A hr hlk hF hKx hZ hA hP hD hS hl => ?_)
  have hx := hF.1
  have hb := hF.2.1
  have hml := hF.2.2.1
  have hown : sq.vm.findClass RX0 = some mq.cls := hF.2.2.2.1
  have hts : ∀ w ∈ GW, w.before _ sq = true := hF.2.2.2.2
  have hK := hKx.1
  have hl : lv_has ls 3 [(0, .ref o)] := hl
  have hP : va_P G.1 vwCl [(o, dO r ab af an aw), (ab, .inl (gI G, 1920, .inl (dB r))), (af, .inl (gI G, 120, .inl (dF r))), (an, .inl (gI G, 120, .inl (dN r))), (aw, .inl (gI G, 7, .inl (dW r)))] sq.heap := hP
  have hD : va_D A [(o, dO r ab af an aw), (ab, .inl (gI G, 1920, .inl (dB r))), (af, .inl (gI G, 120, .inl (dF r))), (an, .inl (gI G, 120, .inl (dN r))), (aw, .inl (gI G, 7, .inl (dW r)))] := hD
  obtain ⟨h0, ht, h1, hkp, h2, ho, h6, hc, hRx⟩ := id hB
  refine lv_aload_n hx hb dX0_foldSurplus_0 rfl (lv_at hl 0 rfl) ?_
  refine va_get (ci := 0) (v := .int (r 6)) (C := RX0) (T := TX0) (N := 11) hx hb hts inGX0 hown hK hP 0 rfl rfl 6 (by decide) (hts _ mw_1_35) (fun _ h9 => h9) rfl dX0_foldSurplus_1 ?_
  refine lv_cv (y := nI (ny r)) (h6) ?_
  refine lv_aload_n hx hb dX0_foldSurplus_4 rfl (lv_at hl 0 rfl) ?_
  refine va_get (ci := 0) (v := .int (r 2)) (C := RX0) (T := TX0) (N := 11) hx hb hts inGX0 hown hK hP 0 rfl rfl 2 (by decide) (hts _ mw_1_26) (fun _ h9 => h9) rfl dX0_foldSurplus_5 ?_
  refine lv_cv (y := nI (opn r)) (h2) ?_
  refine lv_isub hx hb dX0_foldSurplus_8 ?_
  refine lv_cv (y := nI (ny r) - nI (opn r)) (rfl) ?_
  refine lv_istore_n (lv' := [(1, .int (nI (ny r) - nI (opn r))), (0, .ref o)]) hx hb dX0_foldSurplus_9 rfl hl (by decide) rfl (fun ls hl => ?_)
  refine lv_iconst (v := nI 0) hx hb dX0_foldSurplus_10 (by decide) ?_
  refine lv_istore_n (lv' := [(2, .int (nI 0)), (1, .int (nI (ny r) - nI (opn r))), (0, .ref o)]) hx hb dX0_foldSurplus_11 rfl hl (by decide) rfl (fun ls hl => ?_)
  have hPj := hP.sub (ws' := [(o, dO r ab af an aw), (ab, .inl (gI G, 1920, .inl (dB r))), (af, .inl (gI G, 120, .inl (dF r))), (an, .inl (gI G, 120, .inl (dN r))), (aw, .inl (gI G, 7, .inl (dW r)))]) [0, 1, 2, 3, 4] rfl
  have hDj := hD.sub (ws' := [(o, dO r ab af an aw), (ab, .inl (gI G, 1920, .inl (dB r))), (af, .inl (gI G, 120, .inl (dF r))), (an, .inl (gI G, 120, .inl (dN r))), (aw, .inl (gI G, 7, .inl (dW r)))]) [0, 1, 2, 3, 4] (by decide) rfl
  have hwj : ([(o, dO r ab af an aw), (ab, .inl (gI G, 1920, .inl (dB r))), (af, .inl (gI G, 120, .inl (dF r))), (an, .inl (gI G, 120, .inl (dN r))), (aw, .inl (gI G, 7, .inl (dW r)))] : va_W) = [(o, dO (fgk r 0) ab af an aw), (ab, .inl (gI G, 1920, .inl (dB (fgk r 0)))), (af, .inl (gI G, 120, .inl (dF (fgk r 0)))), (an, .inl (gI G, 120, .inl (dN (fgk r 0)))), (aw, .inl (gI G, 7, .inl (dW (fgk r 0))))] := (wlc (rfl) (wlc (rfl) (wlc (rfl) (wlc (rfl) (wlc (rfl) rfl)))))
  rw [hwj] at hPj hDj
  refine wloopH [] (fun k H locs ls => (k ≤ ny r - opn r) ∧ va_P G.1 vwCl [(o, dO (fgk r k) ab af an aw), (ab, .inl (gI G, 1920, .inl (dB (fgk r k)))), (af, .inl (gI G, 120, .inl (dF (fgk r k)))), (an, .inl (gI G, 120, .inl (dN (fgk r k)))), (aw, .inl (gI G, 7, .inl (dW (fgk r k))))] H ∧ va_D A [(o, dO (fgk r k) ab af an aw), (ab, .inl (gI G, 1920, .inl (dB (fgk r k)))), (af, .inl (gI G, 120, .inl (dF (fgk r k)))), (an, .inl (gI G, 120, .inl (dN (fgk r k)))), (aw, .inl (gI G, 7, .inl (dW (fgk r k))))] ∧ va_S A sq.heap H locs ∧ lv_has ls 3 [(2, .int (nI k)), (1, .int (nI (ny r) - nI (opn r))), (0, .ref o)]) (fun k => ny r - k) ?_ 0 ⟨(by omega), hPj, hDj, hS, lv_sub hl [0, 1, 2] rfl⟩
  intro k ih
  intro H locs ls ⟨hk, hP, hD, hS, hl⟩
  obtain ⟨hBk, hnk, hok⟩ := Bs_fgk hB (by omega) k (by omega)
  have hCk := Ct_fgk hB (by omega) hCt k (by omega)
  refine lv_iload_n hx hb dX0_foldSurplus_12 rfl (lv_at hl 0 rfl) ?_
  refine lv_iload_n hx hb dX0_foldSurplus_13 rfl (lv_at hl 1 rfl) ?_
  refine z_ge hx hb (tgt := 48) ((k : Nat) : Int) (((ny r : Nat) : Int) - ((opn r : Nat) : Int)) dX0_foldSurplus_14 (by decide) (toI (by omega)) (pk_sub_toInt (by omega) (by omega)) (fun c_14 => ?_) (fun c_14 => ?_)
  · skip
    have hk2 : k = ny r - opn r := by omega
    subst hk2
    have hPj := hP.sub (ws' := [(o, dO (fgk r (ny r - opn r)) ab af an aw), (ab, .inl (gI G, 1920, .inl (dB (fgk r (ny r - opn r))))), (af, .inl (gI G, 120, .inl (dF (fgk r (ny r - opn r))))), (an, .inl (gI G, 120, .inl (dN (fgk r (ny r - opn r))))), (aw, .inl (gI G, 7, .inl (dW (fgk r (ny r - opn r)))))]) [0, 1, 2, 3, 4] rfl
    have hwj : ([(o, dO (fgk r (ny r - opn r)) ab af an aw), (ab, .inl (gI G, 1920, .inl (dB (fgk r (ny r - opn r))))), (af, .inl (gI G, 120, .inl (dF (fgk r (ny r - opn r))))), (an, .inl (gI G, 120, .inl (dN (fgk r (ny r - opn r))))), (aw, .inl (gI G, 7, .inl (dW (fgk r (ny r - opn r)))))] : va_W) = [(o, dO (fga r) ab af an aw), (ab, .inl (gI G, 1920, .inl (dB (fga r)))), (af, .inl (gI G, 120, .inl (dF (fga r)))), (an, .inl (gI G, 120, .inl (dN (fga r)))), (aw, .inl (gI G, 7, .inl (dW (fga r))))] := (wlc (rfl) (wlc (rfl) (wlc (rfl) (wlc (rfl) (wlc (rfl) rfl)))))
    rw [hwj] at hPj
    exact e_wv hx hb hr hlk hPj hS dX0_foldSurplus_48
  · skip
    obtain ⟨m0, hm0, em0⟩ := hBk.2.2.2.2.2.2.2.2 0 (by omega)
    have hfs : fgk r (k + 1) = tko (fld (fgk r k) m0 (-6)) 0 := fgs_e hBk (by omega) hm0 em0
    have hnf : ny (fld (fgk r k) m0 (-6)) = ny (fgk r k) := by unfold ny; rw [fld_o (by omega) (by omega) (by omega) (by omega)]
    refine lv_aload_n hx hb dX0_foldSurplus_17 rfl (lv_at hl 2 rfl) ?_
    refine va_get (ci := 0) (v := .ref aw) (C := RX0) (T := TX0) (N := 11) hx hb hts inGX0 hown hK hP 0 rfl rfl 10 (by decide) (hts _ mw_1_42) (fun _ h9 => h9) rfl dX0_foldSurplus_18 ?_
    refine va_alen (v := nI 7) hx hb hK hP 4 0 rfl rfl rfl dX0_foldSurplus_21 ?_
    refine z0_le hx hb (tgt := 48) 7 dX0_foldSurplus_22 (by decide) (by decide) (fun c_22 => ?_) (fun c_22 => ?_)
    · skip
      exact absurd c_22 (by decide)
    · skip
      refine lv_aload_n hx hb dX0_foldSurplus_25 rfl (lv_at hl 2 rfl) ?_
      refine lv_aload_n hx hb dX0_foldSurplus_26 rfl (lv_at hl 2 rfl) ?_
      refine va_get (ci := 0) (v := .ref aw) (C := RX0) (T := TX0) (N := 11) hx hb hts inGX0 hown hK hP 0 rfl rfl 10 (by decide) (hts _ mw_1_42) (fun _ h9 => h9) rfl dX0_foldSurplus_27 ?_
      refine lv_iconst (v := nI 0) hx hb dX0_foldSurplus_30 (by decide) ?_
      refine n_iald hx hb hK hP 4 0 rfl rfl (by omega) (by omega) dX0_foldSurplus_31 ?_
      refine lv_cv (y := nI m0) ((if_pos (by omega)).trans em0) ?_
      refine lv_bipush (v := (-6)) hx hb dX0_foldSurplus_32 (by decide) ?_
      refine k_rvV (ci := 0) (q0 := 0) (As := [.int (nI m0), .int (-6)]) (rest := []) (wr := []) hF (c_X0_fold l G _ o ab af an aw (fgk r k) m0 (-6) (-6) (by omega) (hCk.1) (hCk.2.1) (by decide)) ⟨_, rfl, rfl⟩ rfl rfl mw_2_20 mw_2_21 mw_2_22 mw_1_2 mw_2_23 hd_X0_fold ⟨Nat.le_of_ble_eq_true rfl, Nat.le_of_ble_eq_true rfl⟩ hKx hZ hS hP hD hA [0, 1, 2, 3, 4] [] rfl rfl (by decide) (by decide) (by decide) rfl rfl hl.1 rfl (Nat.le_of_ble_eq_true rfl) dX0_foldSurplus_34 ⟨Nat.zero_le _, Nat.zero_le _⟩ (fun H locs hP hD hS => ?_)
      have hP : va_P G.1 vwCl [(o, dO (fld (fgk r k) m0 (-6)) ab af an aw), (ab, .inl (gI G, 1920, .inl (dB (fld (fgk r k) m0 (-6))))), (af, .inl (gI G, 120, .inl (dF (fld (fgk r k) m0 (-6))))), (an, .inl (gI G, 120, .inl (dN (fld (fgk r k) m0 (-6))))), (aw, .inl (gI G, 7, .inl (dW (fld (fgk r k) m0 (-6)))))] H := hP
      have hD : va_D A [(o, dO (fld (fgk r k) m0 (-6)) ab af an aw), (ab, .inl (gI G, 1920, .inl (dB (fld (fgk r k) m0 (-6))))), (af, .inl (gI G, 120, .inl (dF (fld (fgk r k) m0 (-6))))), (an, .inl (gI G, 120, .inl (dN (fld (fgk r k) m0 (-6))))), (aw, .inl (gI G, 7, .inl (dW (fld (fgk r k) m0 (-6)))))] := hD
      refine lv_aload_n hx hb dX0_foldSurplus_37 rfl (lv_at hl 2 rfl) ?_
      refine lv_iconst (v := nI 0) hx hb dX0_foldSurplus_38 (by decide) ?_
      refine k_rvV (ci := 0) (q0 := 0) (As := [.int (nI 0)]) (rest := []) (wr := []) hF (c_X0_leaveRow l G _ o ab af an aw (fld (fgk r k) m0 (-6)) 0 ((Bs_fld hBk (by omega)).mono (by omega)) (by omega)) ⟨_, rfl, rfl⟩ rfl rfl mw_2_32 mw_2_33 mw_2_34 mw_1_2 mw_2_35 hd_X0_leaveRow ⟨Nat.le_of_ble_eq_true rfl, Nat.le_of_ble_eq_true rfl⟩ hKx hZ hS hP hD hA [0, 1, 2, 3, 4] [] rfl rfl (by decide) (by decide) (by decide) rfl rfl hl.1 rfl (Nat.le_of_ble_eq_true rfl) dX0_foldSurplus_39 ⟨Nat.zero_le _, Nat.zero_le _⟩ (fun H locs hP hD hS => ?_)
      have hP : va_P G.1 vwCl [(o, dO (tko (fld (fgk r k) m0 (-6)) 0) ab af an aw), (ab, .inl (gI G, 1920, .inl (dB (tko (fld (fgk r k) m0 (-6)) 0)))), (af, .inl (gI G, 120, .inl (dF (tko (fld (fgk r k) m0 (-6)) 0)))), (an, .inl (gI G, 120, .inl (dN (tko (fld (fgk r k) m0 (-6)) 0)))), (aw, .inl (gI G, 7, .inl (dW (tko (fld (fgk r k) m0 (-6)) 0))))] H := hP
      have hD : va_D A [(o, dO (tko (fld (fgk r k) m0 (-6)) 0) ab af an aw), (ab, .inl (gI G, 1920, .inl (dB (tko (fld (fgk r k) m0 (-6)) 0)))), (af, .inl (gI G, 120, .inl (dF (tko (fld (fgk r k) m0 (-6)) 0)))), (an, .inl (gI G, 120, .inl (dN (tko (fld (fgk r k) m0 (-6)) 0)))), (aw, .inl (gI G, 7, .inl (dW (tko (fld (fgk r k) m0 (-6)) 0))))] := hD
      refine lv_iinc (v := nI (k + 1)) (lv' := [(2, .int (nI (k + 1))), (1, .int (nI (ny r) - nI (opn r))), (0, .ref o)]) hx hb dX0_foldSurplus_42 hl (k := 0) rfl (nI_add _ _) (by decide) rfl (fun ls hl => ?_)
      refine lv_goto (tgt := 12) hx hb dX0_foldSurplus_45 (by decide) ?_
      have w_1 : ([(o, dO (tko (fld (fgk r k) m0 (-6)) 0) ab af an aw), (ab, .inl (gI G, 1920, .inl (dB (tko (fld (fgk r k) m0 (-6)) 0)))), (af, .inl (gI G, 120, .inl (dF (tko (fld (fgk r k) m0 (-6)) 0)))), (an, .inl (gI G, 120, .inl (dN (tko (fld (fgk r k) m0 (-6)) 0)))), (aw, .inl (gI G, 7, .inl (dW (tko (fld (fgk r k) m0 (-6)) 0))))] : va_W) = [(o, dO (fgk r (k + 1)) ab af an aw), (ab, .inl (gI G, 1920, .inl (dB (fgk r (k + 1))))), (af, .inl (gI G, 120, .inl (dF (fgk r (k + 1))))), (an, .inl (gI G, 120, .inl (dN (fgk r (k + 1))))), (aw, .inl (gI G, 7, .inl (dW (fgk r (k + 1)))))] := (wlc (by rw [hfs]) (wlc (by rw [hfs]) (wlc (by rw [hfs]) (wlc (by rw [hfs]) (wlc (by rw [hfs]) rfl)))))
      have hPj := hP.sub (ws' := [(o, dO (tko (fld (fgk r k) m0 (-6)) 0) ab af an aw), (ab, .inl (gI G, 1920, .inl (dB (tko (fld (fgk r k) m0 (-6)) 0)))), (af, .inl (gI G, 120, .inl (dF (tko (fld (fgk r k) m0 (-6)) 0)))), (an, .inl (gI G, 120, .inl (dN (tko (fld (fgk r k) m0 (-6)) 0)))), (aw, .inl (gI G, 7, .inl (dW (tko (fld (fgk r k) m0 (-6)) 0))))]) [0, 1, 2, 3, 4] rfl
      have hDj := hD.sub (ws' := [(o, dO (tko (fld (fgk r k) m0 (-6)) 0) ab af an aw), (ab, .inl (gI G, 1920, .inl (dB (tko (fld (fgk r k) m0 (-6)) 0)))), (af, .inl (gI G, 120, .inl (dF (tko (fld (fgk r k) m0 (-6)) 0)))), (an, .inl (gI G, 120, .inl (dN (tko (fld (fgk r k) m0 (-6)) 0)))), (aw, .inl (gI G, 7, .inl (dW (tko (fld (fgk r k) m0 (-6)) 0))))]) [0, 1, 2, 3, 4] (by decide) rfl
      rw [w_1] at hPj hDj
      exact ih (k + 1) _ _ ls (by omega) ⟨(by omega), hPj, hDj, hS, lv_sub hl [0, 1, 2] rfl⟩
set_option maxHeartbeats 4000000 in
set_option maxRecDepth 100000 in
theorem c_X0_lookAt (l : Launch) (G : gT) (sz : Nat) (o : Nat) (ab : Nat) (af : Nat) (an : Nat) (aw : Nat) (r : Nat → Int32) (m : Nat) (hm : m < 120) (hCv : Cv r) : Rv l G yX0_lookAt cX0_lookAt 2 none 5 sz [(o, dO r ab af an aw), (ab, .inl (gI G, 1920, .inl (dB r))), (af, .inl (gI G, 120, .inl (dF r))), (an, .inl (gI G, 120, .inl (dN r))), (aw, .inl (gI G, 7, .inl (dW r)))] [.ref o, .int (nI m)] [(o, dO (lok r m) ab af an aw), (ab, .inl (gI G, 1920, .inl (dB (lok r m)))), (af, .inl (gI G, 120, .inl (dF (lok r m)))), (an, .inl (gI G, 120, .inl (dN (lok r m)))), (aw, .inl (gI G, 7, .inl (dW (lok r m))))] := by
  refine Rv.mk (by decide) (Nat.le_of_ble_eq_true rfl) (fun pq eq sq mq bq tq cq ls A hr hlk hF hKx hZ hA hP hD hS hl => ?_)
  have hx := hF.1
  have hb := hF.2.1
  have hml := hF.2.2.1
  have hown : sq.vm.findClass RX0 = some mq.cls := hF.2.2.2.1
  have hts : ∀ w ∈ GW, w.before _ sq = true := hF.2.2.2.2
  have hK := hKx.1
  have hl : lv_has ls 2 [(0, .ref o), (1, .int (nI m))] := hl
  have hP : va_P G.1 vwCl [(o, dO r ab af an aw), (ab, .inl (gI G, 1920, .inl (dB r))), (af, .inl (gI G, 120, .inl (dF r))), (an, .inl (gI G, 120, .inl (dN r))), (aw, .inl (gI G, 7, .inl (dW r)))] sq.heap := hP
  have hD : va_D A [(o, dO r ab af an aw), (ab, .inl (gI G, 1920, .inl (dB r))), (af, .inl (gI G, 120, .inl (dF r))), (an, .inl (gI G, 120, .inl (dN r))), (aw, .inl (gI G, 7, .inl (dW r)))] := hD
  have hB6 : Bs r 6 := hCv.1.1
  have hCt := hCv.2.2.1
  have hz := cfm_e (hCt.1 m hm)
  have hT := Bs_ten (Bs_lk1 (m := m) hB6 (by omega)) (by omega) hm
  have hCT : Ct (ten (lk1 r m) m) := Ct_ag (Ct_lk1 hCt hm) (Ag_ten (Bs_lk1 (hB6.mono (by omega)) (by omega)) (Nat.le_refl 7))
  refine lv_aload_n hx hb dX0_lookAt_0 rfl (lv_at hl 0 rfl) ?_
  refine lv_iload_n hx hb dX0_lookAt_1 rfl (lv_at hl 1 rfl) ?_
  refine k_roV (ci := 0) (q0 := 0) (As := [.int (nI m)]) (rest := []) hF (c_X0_isOld l G o ab af an aw r m (by omega) (hB6.mono (by omega))) hKx hP ⟨_, rfl, rfl⟩ rfl rfl mw_2_90 mw_2_91 mw_2_92 mw_1_2 mw_2_93 hd_X0_isOld ⟨Nat.le_of_ble_eq_true rfl, Nat.le_of_ble_eq_true rfl⟩ (Rd.of hKx hZ hS) (hP.sub (ws' := [(o, dO r ab af an aw), (ab, .inl (gI G, 1920, .inl (dB r))), (af, .inl (gI G, 120, .inl (dF r))), (an, .inl (gI G, 120, .inl (dN r))), (aw, .inl (gI G, 7, .inl (dW r)))]) [0, 1, 2, 3, 4] rfl) rfl hl.1 rfl (Nat.le_of_ble_eq_true rfl) dX0_lookAt_2 ⟨Nat.zero_le _, Nat.zero_le _⟩ ?_
  refine p0_eq hx hb (tgt := 25) dX0_lookAt_5 (by decide) (fun c_5 => ?_) (fun c_5 => ?_)
  · skip
    have hPj := hP.sub (ws' := [(o, dO r ab af an aw), (ab, .inl (gI G, 1920, .inl (dB r))), (af, .inl (gI G, 120, .inl (dF r))), (an, .inl (gI G, 120, .inl (dN r))), (aw, .inl (gI G, 7, .inl (dW r)))]) [0, 1, 2, 3, 4] rfl
    have hwj : ([(o, dO r ab af an aw), (ab, .inl (gI G, 1920, .inl (dB r))), (af, .inl (gI G, 120, .inl (dF r))), (an, .inl (gI G, 120, .inl (dN r))), (aw, .inl (gI G, 7, .inl (dW r)))] : va_W) = [(o, dO (lok r m) ab af an aw), (ab, .inl (gI G, 1920, .inl (dB (lok r m)))), (af, .inl (gI G, 120, .inl (dF (lok r m)))), (an, .inl (gI G, 120, .inl (dN (lok r m)))), (aw, .inl (gI G, 7, .inl (dW (lok r m))))] := (wlc (by rw [show lok r m = r from cI_f (fun z => by first | exact c_5 z.1 | exact z.2 (hz.mp c_13))]) (wlc (by rw [show lok r m = r from cI_f (fun z => by first | exact c_5 z.1 | exact z.2 (hz.mp c_13))]) (wlc (by rw [show lok r m = r from cI_f (fun z => by first | exact c_5 z.1 | exact z.2 (hz.mp c_13))]) (wlc (by rw [show lok r m = r from cI_f (fun z => by first | exact c_5 z.1 | exact z.2 (hz.mp c_13))]) (wlc (by rw [show lok r m = r from cI_f (fun z => by first | exact c_5 z.1 | exact z.2 (hz.mp c_13))]) rfl)))))
    rw [hwj] at hPj
    exact e_wv hx hb hr hlk hPj hS dX0_lookAt_25
  · skip
    refine lv_aload_n hx hb dX0_lookAt_8 rfl (lv_at hl 0 rfl) ?_
    refine lv_iload_n hx hb dX0_lookAt_9 rfl (lv_at hl 1 rfl) ?_
    refine k_roV (ci := 0) (q0 := 0) (As := [.int (nI m)]) (rest := []) hF (c_X0_formOf l G o ab af an aw r m (by omega)) hKx hP ⟨_, rfl, rfl⟩ rfl rfl mw_1_184 mw_1_185 mw_1_186 mw_1_2 mw_1_187 hd_X0_formOf ⟨Nat.le_of_ble_eq_true rfl, Nat.le_of_ble_eq_true rfl⟩ (Rd.of hKx hZ hS) (hP.sub (ws' := [(o, dO r ab af an aw), (ab, .inl (gI G, 1920, .inl (dB r))), (af, .inl (gI G, 120, .inl (dF r))), (an, .inl (gI G, 120, .inl (dN r))), (aw, .inl (gI G, 7, .inl (dW r)))]) [0, 1, 2, 3, 4] rfl) rfl hl.1 rfl (Nat.le_of_ble_eq_true rfl) dX0_lookAt_10 ⟨Nat.zero_le _, Nat.zero_le _⟩ ?_
    refine z0_eq hx hb (tgt := 25) ((cfm (r (15 + m))).toInt) dX0_lookAt_13 (by decide) rfl (fun c_13 => ?_) (fun c_13 => ?_)
    · skip
      have hPj := hP.sub (ws' := [(o, dO r ab af an aw), (ab, .inl (gI G, 1920, .inl (dB r))), (af, .inl (gI G, 120, .inl (dF r))), (an, .inl (gI G, 120, .inl (dN r))), (aw, .inl (gI G, 7, .inl (dW r)))]) [0, 1, 2, 3, 4] rfl
      have hwj : ([(o, dO r ab af an aw), (ab, .inl (gI G, 1920, .inl (dB r))), (af, .inl (gI G, 120, .inl (dF r))), (an, .inl (gI G, 120, .inl (dN r))), (aw, .inl (gI G, 7, .inl (dW r)))] : va_W) = [(o, dO (lok r m) ab af an aw), (ab, .inl (gI G, 1920, .inl (dB (lok r m)))), (af, .inl (gI G, 120, .inl (dF (lok r m)))), (an, .inl (gI G, 120, .inl (dN (lok r m)))), (aw, .inl (gI G, 7, .inl (dW (lok r m))))] := (wlc (by rw [show lok r m = r from cI_f (fun z => by first | exact c_5 z.1 | exact z.2 (hz.mp c_13))]) (wlc (by rw [show lok r m = r from cI_f (fun z => by first | exact c_5 z.1 | exact z.2 (hz.mp c_13))]) (wlc (by rw [show lok r m = r from cI_f (fun z => by first | exact c_5 z.1 | exact z.2 (hz.mp c_13))]) (wlc (by rw [show lok r m = r from cI_f (fun z => by first | exact c_5 z.1 | exact z.2 (hz.mp c_13))]) (wlc (by rw [show lok r m = r from cI_f (fun z => by first | exact c_5 z.1 | exact z.2 (hz.mp c_13))]) rfl)))))
      rw [hwj] at hPj
      exact e_wv hx hb hr hlk hPj hS dX0_lookAt_25
    · skip
      refine lv_aload_n hx hb dX0_lookAt_16 rfl (lv_at hl 0 rfl) ?_
      refine lv_iload_n hx hb dX0_lookAt_17 rfl (lv_at hl 1 rfl) ?_
      refine k_rvV (ci := 0) (q0 := 0) (As := [.int (nI m)]) (rest := []) (wr := []) hF (c_X0_bringToTheEnd l G _ o ab af an aw r m (by omega) (hB6) (hCt) (plo_f hCv hm c_5)) ⟨_, rfl, rfl⟩ rfl rfl mw_2_98 mw_2_99 mw_2_100 mw_1_2 mw_2_101 hd_X0_bringToTheEnd ⟨Nat.le_of_ble_eq_true rfl, Nat.le_of_ble_eq_true rfl⟩ hKx hZ hS hP hD hA [0, 1, 2, 3, 4] [] rfl rfl (by decide) (by decide) (by decide) rfl rfl hl.1 rfl (Nat.le_of_ble_eq_true rfl) dX0_lookAt_18 ⟨Nat.zero_le _, Nat.zero_le _⟩ (fun H locs hP hD hS => ?_)
      have hP : va_P G.1 vwCl [(o, dO (ten (lk1 r m) m) ab af an aw), (ab, .inl (gI G, 1920, .inl (dB (ten (lk1 r m) m)))), (af, .inl (gI G, 120, .inl (dF (ten (lk1 r m) m)))), (an, .inl (gI G, 120, .inl (dN (ten (lk1 r m) m)))), (aw, .inl (gI G, 7, .inl (dW (ten (lk1 r m) m))))] H := hP
      have hD : va_D A [(o, dO (ten (lk1 r m) m) ab af an aw), (ab, .inl (gI G, 1920, .inl (dB (ten (lk1 r m) m)))), (af, .inl (gI G, 120, .inl (dF (ten (lk1 r m) m)))), (an, .inl (gI G, 120, .inl (dN (ten (lk1 r m) m)))), (aw, .inl (gI G, 7, .inl (dW (ten (lk1 r m) m))))] := hD
      refine lv_aload_n hx hb dX0_lookAt_21 rfl (lv_at hl 0 rfl) ?_
      refine k_rvV (ci := 0) (q0 := 0) (As := []) (rest := []) (wr := []) hF (c_X0_foldSurplus l G _ o ab af an aw (ten (lk1 r m) m) (hT) (hCT)) ⟨_, rfl, rfl⟩ rfl rfl mw_2_110 mw_2_17 mw_2_18 mw_1_2 mw_2_19 hd_X0_foldSurplus ⟨Nat.le_of_ble_eq_true rfl, Nat.le_of_ble_eq_true rfl⟩ hKx hZ hS hP hD hA [0, 1, 2, 3, 4] [] rfl rfl (by decide) (by decide) (by decide) rfl rfl hl.1 rfl (Nat.le_of_ble_eq_true rfl) dX0_lookAt_22 ⟨Nat.zero_le _, Nat.zero_le _⟩ (fun H locs hP hD hS => ?_)
      have hP : va_P G.1 vwCl [(o, dO (fga (ten (lk1 r m) m)) ab af an aw), (ab, .inl (gI G, 1920, .inl (dB (fga (ten (lk1 r m) m))))), (af, .inl (gI G, 120, .inl (dF (fga (ten (lk1 r m) m))))), (an, .inl (gI G, 120, .inl (dN (fga (ten (lk1 r m) m))))), (aw, .inl (gI G, 7, .inl (dW (fga (ten (lk1 r m) m)))))] H := hP
      have hD : va_D A [(o, dO (fga (ten (lk1 r m) m)) ab af an aw), (ab, .inl (gI G, 1920, .inl (dB (fga (ten (lk1 r m) m))))), (af, .inl (gI G, 120, .inl (dF (fga (ten (lk1 r m) m))))), (an, .inl (gI G, 120, .inl (dN (fga (ten (lk1 r m) m))))), (aw, .inl (gI G, 7, .inl (dW (fga (ten (lk1 r m) m)))))] := hD
      have hPj := hP.sub (ws' := [(o, dO (fga (ten (lk1 r m) m)) ab af an aw), (ab, .inl (gI G, 1920, .inl (dB (fga (ten (lk1 r m) m))))), (af, .inl (gI G, 120, .inl (dF (fga (ten (lk1 r m) m))))), (an, .inl (gI G, 120, .inl (dN (fga (ten (lk1 r m) m))))), (aw, .inl (gI G, 7, .inl (dW (fga (ten (lk1 r m) m)))))]) [0, 1, 2, 3, 4] rfl
      have hwj : ([(o, dO (fga (ten (lk1 r m) m)) ab af an aw), (ab, .inl (gI G, 1920, .inl (dB (fga (ten (lk1 r m) m))))), (af, .inl (gI G, 120, .inl (dF (fga (ten (lk1 r m) m))))), (an, .inl (gI G, 120, .inl (dN (fga (ten (lk1 r m) m))))), (aw, .inl (gI G, 7, .inl (dW (fga (ten (lk1 r m) m)))))] : va_W) = [(o, dO (lok r m) ab af an aw), (ab, .inl (gI G, 1920, .inl (dB (lok r m)))), (af, .inl (gI G, 120, .inl (dF (lok r m)))), (an, .inl (gI G, 120, .inl (dN (lok r m)))), (aw, .inl (gI G, 7, .inl (dW (lok r m))))] := (wlc (by rw [show lok r m = fga (ten (lk1 r m) m) from cI_t ⟨c_5, fun z => c_13 (hz.mpr z)⟩]) (wlc (by rw [show lok r m = fga (ten (lk1 r m) m) from cI_t ⟨c_5, fun z => c_13 (hz.mpr z)⟩]) (wlc (by rw [show lok r m = fga (ten (lk1 r m) m) from cI_t ⟨c_5, fun z => c_13 (hz.mpr z)⟩]) (wlc (by rw [show lok r m = fga (ten (lk1 r m) m) from cI_t ⟨c_5, fun z => c_13 (hz.mpr z)⟩]) (wlc (by rw [show lok r m = fga (ten (lk1 r m) m) from cI_t ⟨c_5, fun z => c_13 (hz.mpr z)⟩]) rfl)))))
      rw [hwj] at hPj
      exact e_wv hx hb hr hlk hPj hS dX0_lookAt_25
