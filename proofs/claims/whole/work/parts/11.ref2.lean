theorem hd_X4_fold : hdY yX4_fold 3 := ⟨by decide +kernel, by decide +kernel, by decide +kernel⟩
theorem hd_X4_placeOf : hdY yX4_placeOf 2 := ⟨by decide +kernel, by decide +kernel, by decide +kernel⟩
theorem hd_X4_takeOut : hdY yX4_takeOut 2 := ⟨by decide +kernel, by decide +kernel, by decide +kernel⟩
theorem hd_X4_unfold : hdY yX4_unfold 2 := ⟨by decide +kernel, by decide +kernel, by decide +kernel⟩
theorem hd_X4_foldAgain : hdY yX4_foldAgain 1 := ⟨by decide +kernel, by decide +kernel, by decide +kernel⟩
theorem hd_X4_toEnd : hdY yX4_toEnd 2 := ⟨by decide +kernel, by decide +kernel, by decide +kernel⟩
theorem hd_X4_look : hdY yX4_look 2 := ⟨by decide +kernel, by decide +kernel, by decide +kernel⟩
theorem hd_X4_lay : hdY yX4_lay 5 := ⟨by decide +kernel, by decide +kernel, by decide +kernel⟩
set_option maxHeartbeats 4000000 in
set_option maxRecDepth 100000 in
theorem c_X4_fold (l : Launch) (G : gT) (sz : Nat) (a : Nat) (r : Nat → Int32) (m : Nat) (but : Int32) (B : Int) (hm : m < 120) (hB : but.toInt = B) : Rv l G yX4_fold cX4_fold 6 none 5 sz [(a, .inl (gI G, 2175, .inl r))] [.ref a, .int (nI m), .int but] [(a, .inl (gI G, 2175, .inl (fld r m B)))] := by
  refine Rv.mk (by decide) (Nat.le_of_ble_eq_true rfl) (fun pq eq sq mq bq tq cq ls A hr hlk hF hKx hZ hA hP hD hS hl => ?_)
  have hx := hF.1
  have hb := hF.2.1
  have hml := hF.2.2.1
  have hown : sq.vm.findClass RX4 = some mq.cls := hF.2.2.2.1
  have hts : ∀ w ∈ GW, w.before _ sq = true := hF.2.2.2.2
  have hK := hKx.1
  have hl : lv_has ls 6 [(0, .ref a), (1, .int (nI m)), (2, .int but)] := hl
  have hP : va_P G.1 vwCl [(a, .inl (gI G, 2175, .inl r))] sq.heap := hP
  have hD : va_D A [(a, .inl (gI G, 2175, .inl r))] := hD
  refine lv_iconst (v := nI 4) hx hb dX4_fold_0 (by decide) ?_
  refine lv_istore_n (lv' := [(3, .int (nI 4)), (0, .ref a), (1, .int (nI m)), (2, .int but)]) hx hb dX4_fold_1 rfl hl (by decide) rfl (fun ls hl => ?_)
  refine lv_iconst (v := nI 3) hx hb dX4_fold_2 (by decide) ?_
  refine lv_istore (lv' := [(4, .int (nI 3)), (3, .int (nI 4)), (0, .ref a), (1, .int (nI m)), (2, .int but)]) hx hb dX4_fold_3 hl (by decide) rfl (fun ls hl => ?_)
  have hPj := hP.sub (ws' := [(a, .inl (gI G, 2175, .inl r))]) [0] rfl
  have hDj := hD.sub (ws' := [(a, .inl (gI G, 2175, .inl r))]) [0] (by decide) rfl
  refine wloopH [] (fun k H locs ls => (k ≤ 4) ∧ va_P G.1 vwCl [(a, .inl (gI G, 2175, .inl r))] H ∧ va_D A [(a, .inl (gI G, 2175, .inl r))] ∧ va_S A sq.heap H locs ∧ lv_has ls 6 [(4, .int (fof k)), (3, .int (nI (bsj r m B k))), (0, .ref a), (1, .int (nI m)), (2, .int but)]) (fun k => 4 - k) ?_ 0 ⟨(by omega), hPj, hDj, hS, lv_sub hl [0, 1, 2, 3, 4] (lvr (lvc (by first | rfl | exact congrArg nI (by omega)) (lvr (lvr (lvr rfl)))))⟩
  intro k ih
  intro H locs ls ⟨hk, hP, hD, hS, hl⟩
  have hbs := bsj_le r m B k
  refine lv_iload hx hb dX4_fold_5 (lv_at hl 0 rfl) ?_
  refine z0_lt hx hb (tgt := 52) ((3 : Int) - (k : Int)) dX4_fold_7 (by decide) (fof_i hk) (fun c_7 => ?_) (fun c_7 => ?_)
  · skip
    have hk2 : k = 4 := by omega
    subst hk2
    refine lv_aload_n hx hb dX4_fold_52 rfl (lv_at hl 2 rfl) ?_
    refine lv_sipush (v := nI 135) hx hb dX4_fold_53 (by decide) ?_
    refine lv_iload_n hx hb dX4_fold_56 rfl (lv_at hl 3 rfl) ?_
    refine n_iadd hx hb dX4_fold_57 ?_
    refine lv_iload_n hx hb dX4_fold_58 rfl (lv_at hl 1 rfl) ?_
    refine lv_iconst (v := nI 1) hx hb dX4_fold_59 (by decide) ?_
    refine z_ne hx hb (tgt := 72) ((bsj r m B 4 : Nat) : Int) 1 dX4_fold_60 (by decide) (toI (by omega)) (by decide) (fun c_60 => ?_) (fun c_60 => ?_)
    · skip
      refine lv_iconst (v := nI 0) hx hb dX4_fold_72 (by decide) ?_
      refine n_iast hx hb hK hP hD hS 0 0 rfl rfl (by omega) (by omega) dX4_fold_73 (fun H locs hP hD hS => ?_)
      have hP : va_P G.1 vwCl [(a, .inl (gI G, 2175, .inl (upd r (135 + m) (nI 0))))] H := hP
      have hD : va_D A [(a, .inl (gI G, 2175, .inl (upd r (135 + m) (nI 0))))] := hD
      have hw_1 : ([(a, .inl (gI G, 2175, .inl (upd r (135 + m) (nI 0))))] : va_W) = [(a, .inl (gI G, 2175, .inl (fl1 r m B)))] := (wlc (wli (by unfold fl1; first | exact congrArg (upd r (135 + m)) (cI_t (show bsj r m B 4 = 1 by omega)).symm | exact congrArg (upd r (135 + m)) (cI_f (show ¬ bsj r m B 4 = 1 by omega)).symm)) rfl)
      rw [hw_1] at hP hD
      refine lv_aload_n hx hb dX4_fold_74 rfl (lv_at hl 2 rfl) ?_
      refine lv_bipush (v := nI 15) hx hb dX4_fold_75 (by decide) ?_
      refine lv_iload_n hx hb dX4_fold_77 rfl (lv_at hl 3 rfl) ?_
      refine n_iadd hx hb dX4_fold_78 ?_
      refine lv_iload_n hx hb dX4_fold_79 rfl (lv_at hl 1 rfl) ?_
      refine lv_iconst (v := nI 1) hx hb dX4_fold_80 (by decide) ?_
      refine n_iadd hx hb dX4_fold_81 ?_
      refine n_iast hx hb hK hP hD hS 0 0 rfl rfl (by omega) (by omega) dX4_fold_82 (fun H locs hP hD hS => ?_)
      have hP : va_P G.1 vwCl [(a, .inl (gI G, 2175, .inl (upd (fl1 r m B) (15 + m) (nI (bsj r m B 4 + 1)))))] H := hP
      have hD : va_D A [(a, .inl (gI G, 2175, .inl (upd (fl1 r m B) (15 + m) (nI (bsj r m B 4 + 1)))))] := hD
      have hw_2 : ([(a, .inl (gI G, 2175, .inl (upd (fl1 r m B) (15 + m) (nI (bsj r m B 4 + 1)))))] : va_W) = [(a, .inl (gI G, 2175, .inl (fl2 r m B)))] := (wlc (wli (rfl)) rfl)
      rw [hw_2] at hP hD
      refine lv_aload_n hx hb dX4_fold_83 rfl (lv_at hl 2 rfl) ?_
      refine lv_iconst (v := nI 3) hx hb dX4_fold_84 (by decide) ?_
      refine lv_dup2_11 hx hb dX4_fold_85 rfl rfl ?_
      refine n_iald hx hb hK hP 0 0 rfl rfl (by omega) (by omega) dX4_fold_86 ?_
      refine lv_aload_n hx hb dX4_fold_87 rfl (lv_at hl 2 rfl) ?_
      refine lv_iload_n hx hb dX4_fold_88 rfl (lv_at hl 3 rfl) ?_
      refine k_roS (As := [.ref a, .int (nI m)]) (rest := [.int ((fl2 r m B) 3), .int (nI 3), .ref a]) hF (c_X4_sizeOf l G a (fl2 r m B) m (by omega)) mw_3_132 mw_3_133 mw_1_5 mw_3_134 hd_X4_sizeOf ⟨Nat.le_of_ble_eq_true rfl, Nat.le_of_ble_eq_true rfl⟩ (Rd.of hKx hZ hS) (hP.sub (ws' := [(a, .inl (gI G, 2175, .inl (fl2 r m B)))]) [0] rfl) rfl hl.1 rfl (Nat.le_of_ble_eq_true rfl) dX4_fold_89 ⟨Nat.zero_le _, Nat.zero_le _⟩ ?_
      refine lv_iadd hx hb dX4_fold_92 ?_
      refine n_iast hx hb hK hP hD hS 0 0 rfl rfl (by omega) (by omega) dX4_fold_93 (fun H locs hP hD hS => ?_)
      have hP : va_P G.1 vwCl [(a, .inl (gI G, 2175, .inl (upd (fl2 r m B) 3 (((fl2 r m B) 3) + (szo (fl2 r m B) m)))))] H := hP
      have hD : va_D A [(a, .inl (gI G, 2175, .inl (upd (fl2 r m B) 3 (((fl2 r m B) 3) + (szo (fl2 r m B) m)))))] := hD
      have hw_3 : ([(a, .inl (gI G, 2175, .inl (upd (fl2 r m B) 3 (((fl2 r m B) 3) + (szo (fl2 r m B) m)))))] : va_W) = [(a, .inl (gI G, 2175, .inl (fl3 r m B)))] := (wlc (wli (rfl)) rfl)
      rw [hw_3] at hP hD
      refine lv_aload_n hx hb dX4_fold_94 rfl (lv_at hl 2 rfl) ?_
      refine lv_iconst (v := nI 5) hx hb dX4_fold_95 (by decide) ?_
      refine lv_dup2_11 hx hb dX4_fold_96 rfl rfl ?_
      refine n_iald hx hb hK hP 0 0 rfl rfl (by omega) (by omega) dX4_fold_97 ?_
      refine lv_iconst (v := nI 1) hx hb dX4_fold_98 (by decide) ?_
      refine lv_iadd hx hb dX4_fold_99 ?_
      refine n_iast hx hb hK hP hD hS 0 0 rfl rfl (by omega) (by omega) dX4_fold_100 (fun H locs hP hD hS => ?_)
      have hP : va_P G.1 vwCl [(a, .inl (gI G, 2175, .inl (upd (fl3 r m B) 5 (((fl3 r m B) 5) + (nI 1)))))] H := hP
      have hD : va_D A [(a, .inl (gI G, 2175, .inl (upd (fl3 r m B) 5 (((fl3 r m B) 5) + (nI 1)))))] := hD
      have hw_4 : ([(a, .inl (gI G, 2175, .inl (upd (fl3 r m B) 5 (((fl3 r m B) 5) + (nI 1)))))] : va_W) = [(a, .inl (gI G, 2175, .inl (fld r m B)))] := (wlc (wli (rfl)) rfl)
      rw [hw_4] at hP hD
      have hPj := hP.sub (ws' := [(a, .inl (gI G, 2175, .inl (fld r m B)))]) [0] rfl
      exact e_wv hx hb hr hlk hPj hS dX4_fold_101
    · skip
      refine lv_aload_n hx hb dX4_fold_63 rfl (lv_at hl 2 rfl) ?_
      refine lv_iload_n hx hb dX4_fold_64 rfl (lv_at hl 3 rfl) ?_
      refine lv_iload_n hx hb dX4_fold_65 rfl (lv_at hl 4 rfl) ?_
      refine k_roS (As := [.ref a, .int (nI m), .int but]) (rest := [.int (nI (135 + m)), .ref a]) hF (c_X4_twin l G a r m but B (by omega) hB) mw_3_123 mw_3_124 mw_1_5 mw_3_125 hd_X4_twin ⟨Nat.le_of_ble_eq_true rfl, Nat.le_of_ble_eq_true rfl⟩ (Rd.of hKx hZ hS) (hP.sub (ws' := [(a, .inl (gI G, 2175, .inl r))]) [0] rfl) rfl hl.1 rfl (Nat.le_of_ble_eq_true rfl) dX4_fold_66 ⟨Nat.zero_le _, Nat.zero_le _⟩ ?_
      refine lv_goto (tgt := 73) hx hb dX4_fold_69 (by decide) ?_
      refine n_iast hx hb hK hP hD hS 0 0 rfl rfl (by omega) (by omega) dX4_fold_73 (fun H locs hP hD hS => ?_)
      have hP : va_P G.1 vwCl [(a, .inl (gI G, 2175, .inl (upd r (135 + m) (tw r m B))))] H := hP
      have hD : va_D A [(a, .inl (gI G, 2175, .inl (upd r (135 + m) (tw r m B))))] := hD
      have hw_5 : ([(a, .inl (gI G, 2175, .inl (upd r (135 + m) (tw r m B))))] : va_W) = [(a, .inl (gI G, 2175, .inl (fl1 r m B)))] := (wlc (wli (by unfold fl1; first | exact congrArg (upd r (135 + m)) (cI_t (show bsj r m B 4 = 1 by omega)).symm | exact congrArg (upd r (135 + m)) (cI_f (show ¬ bsj r m B 4 = 1 by omega)).symm)) rfl)
      rw [hw_5] at hP hD
      refine lv_aload_n hx hb dX4_fold_74 rfl (lv_at hl 2 rfl) ?_
      refine lv_bipush (v := nI 15) hx hb dX4_fold_75 (by decide) ?_
      refine lv_iload_n hx hb dX4_fold_77 rfl (lv_at hl 3 rfl) ?_
      refine n_iadd hx hb dX4_fold_78 ?_
      refine lv_iload_n hx hb dX4_fold_79 rfl (lv_at hl 1 rfl) ?_
      refine lv_iconst (v := nI 1) hx hb dX4_fold_80 (by decide) ?_
      refine n_iadd hx hb dX4_fold_81 ?_
      refine n_iast hx hb hK hP hD hS 0 0 rfl rfl (by omega) (by omega) dX4_fold_82 (fun H locs hP hD hS => ?_)
      have hP : va_P G.1 vwCl [(a, .inl (gI G, 2175, .inl (upd (fl1 r m B) (15 + m) (nI (bsj r m B 4 + 1)))))] H := hP
      have hD : va_D A [(a, .inl (gI G, 2175, .inl (upd (fl1 r m B) (15 + m) (nI (bsj r m B 4 + 1)))))] := hD
      have hw_6 : ([(a, .inl (gI G, 2175, .inl (upd (fl1 r m B) (15 + m) (nI (bsj r m B 4 + 1)))))] : va_W) = [(a, .inl (gI G, 2175, .inl (fl2 r m B)))] := (wlc (wli (rfl)) rfl)
      rw [hw_6] at hP hD
      refine lv_aload_n hx hb dX4_fold_83 rfl (lv_at hl 2 rfl) ?_
      refine lv_iconst (v := nI 3) hx hb dX4_fold_84 (by decide) ?_
      refine lv_dup2_11 hx hb dX4_fold_85 rfl rfl ?_
      refine n_iald hx hb hK hP 0 0 rfl rfl (by omega) (by omega) dX4_fold_86 ?_
      refine lv_aload_n hx hb dX4_fold_87 rfl (lv_at hl 2 rfl) ?_
      refine lv_iload_n hx hb dX4_fold_88 rfl (lv_at hl 3 rfl) ?_
      refine k_roS (As := [.ref a, .int (nI m)]) (rest := [.int ((fl2 r m B) 3), .int (nI 3), .ref a]) hF (c_X4_sizeOf l G a (fl2 r m B) m (by omega)) mw_3_132 mw_3_133 mw_1_5 mw_3_134 hd_X4_sizeOf ⟨Nat.le_of_ble_eq_true rfl, Nat.le_of_ble_eq_true rfl⟩ (Rd.of hKx hZ hS) (hP.sub (ws' := [(a, .inl (gI G, 2175, .inl (fl2 r m B)))]) [0] rfl) rfl hl.1 rfl (Nat.le_of_ble_eq_true rfl) dX4_fold_89 ⟨Nat.zero_le _, Nat.zero_le _⟩ ?_
      refine lv_iadd hx hb dX4_fold_92 ?_
      refine n_iast hx hb hK hP hD hS 0 0 rfl rfl (by omega) (by omega) dX4_fold_93 (fun H locs hP hD hS => ?_)
      have hP : va_P G.1 vwCl [(a, .inl (gI G, 2175, .inl (upd (fl2 r m B) 3 (((fl2 r m B) 3) + (szo (fl2 r m B) m)))))] H := hP
      have hD : va_D A [(a, .inl (gI G, 2175, .inl (upd (fl2 r m B) 3 (((fl2 r m B) 3) + (szo (fl2 r m B) m)))))] := hD
      have hw_7 : ([(a, .inl (gI G, 2175, .inl (upd (fl2 r m B) 3 (((fl2 r m B) 3) + (szo (fl2 r m B) m)))))] : va_W) = [(a, .inl (gI G, 2175, .inl (fl3 r m B)))] := (wlc (wli (rfl)) rfl)
      rw [hw_7] at hP hD
      refine lv_aload_n hx hb dX4_fold_94 rfl (lv_at hl 2 rfl) ?_
      refine lv_iconst (v := nI 5) hx hb dX4_fold_95 (by decide) ?_
      refine lv_dup2_11 hx hb dX4_fold_96 rfl rfl ?_
      refine n_iald hx hb hK hP 0 0 rfl rfl (by omega) (by omega) dX4_fold_97 ?_
      refine lv_iconst (v := nI 1) hx hb dX4_fold_98 (by decide) ?_
      refine lv_iadd hx hb dX4_fold_99 ?_
      refine n_iast hx hb hK hP hD hS 0 0 rfl rfl (by omega) (by omega) dX4_fold_100 (fun H locs hP hD hS => ?_)
      have hP : va_P G.1 vwCl [(a, .inl (gI G, 2175, .inl (upd (fl3 r m B) 5 (((fl3 r m B) 5) + (nI 1)))))] H := hP
      have hD : va_D A [(a, .inl (gI G, 2175, .inl (upd (fl3 r m B) 5 (((fl3 r m B) 5) + (nI 1)))))] := hD
      have hw_8 : ([(a, .inl (gI G, 2175, .inl (upd (fl3 r m B) 5 (((fl3 r m B) 5) + (nI 1)))))] : va_W) = [(a, .inl (gI G, 2175, .inl (fld r m B)))] := (wlc (wli (rfl)) rfl)
      rw [hw_8] at hP hD
      have hPj := hP.sub (ws' := [(a, .inl (gI G, 2175, .inl (fld r m B)))]) [0] rfl
      exact e_wv hx hb hr hlk hPj hS dX4_fold_101
  · skip
    refine lv_aload_n hx hb dX4_fold_10 rfl (lv_at hl 2 rfl) ?_
    refine lv_iload_n hx hb dX4_fold_11 rfl (lv_at hl 3 rfl) ?_
    refine lv_iload hx hb dX4_fold_12 (lv_at hl 0 rfl) ?_
    refine lv_iload_n hx hb dX4_fold_14 rfl (lv_at hl 4 rfl) ?_
    refine k_roS (As := [.ref a, .int (nI m), .int (fof k), .int but]) (rest := []) hF (c_X4_sizeIn l G a r m (fof k) ((3 : Int) - (k : Int)) but B (by omega) (fof_i hk) hB) mw_3_111 mw_3_112 mw_1_5 mw_3_113 hd_X4_sizeIn ⟨Nat.le_of_ble_eq_true rfl, Nat.le_of_ble_eq_true rfl⟩ (Rd.of hKx hZ hS) (hP.sub (ws' := [(a, .inl (gI G, 2175, .inl r))]) [0] rfl) rfl hl.1 rfl (Nat.le_of_ble_eq_true rfl) dX4_fold_15 ⟨Nat.zero_le _, Nat.zero_le _⟩ ?_
    refine lv_istore (lv' := [(5, .int (siz r m B ((3 : Int) - (k : Int)))), (4, .int (fof k)), (3, .int (nI (bsj r m B k))), (0, .ref a), (1, .int (nI m)), (2, .int but)]) hx hb dX4_fold_18 hl (by decide) rfl (fun ls hl => ?_)
    refine lv_iload hx hb dX4_fold_20 (lv_at hl 0 rfl) ?_
    refine lv_bipush (v := (-6)) hx hb dX4_fold_22 (by decide) ?_
    refine z_eq hx hb (tgt := 44) ((siz r m B ((3 : Int) - (k : Int))).toInt) (-6) dX4_fold_24 (by decide) rfl (by decide) (fun c_24 => ?_) (fun c_24 => ?_)
    · skip
      refine lv_iload_n hx hb dX4_fold_44 rfl (lv_at hl 2 rfl) ?_
      refine lv_istore_n (lv' := [(3, .int (nI (bsj r m B k))), (5, .int (siz r m B ((3 : Int) - (k : Int)))), (4, .int (fof k)), (0, .ref a), (1, .int (nI m)), (2, .int but)]) hx hb dX4_fold_45 rfl hl (by decide) rfl (fun ls hl => ?_)
      refine lv_iinc (v := fof k + (-1)) (lv' := [(4, .int (fof k + (-1))), (3, .int (nI (bsj r m B k))), (5, .int (siz r m B ((3 : Int) - (k : Int)))), (0, .ref a), (1, .int (nI m)), (2, .int but)]) hx hb dX4_fold_46 hl (k := 2) rfl (rfl) (by decide) rfl (fun ls hl => ?_)
      refine lv_goto (tgt := 5) hx hb dX4_fold_49 (by decide) ?_
      exact ih (k + 1) _ _ ls (by omega) ⟨(by omega), (hP.sub (ws' := [(a, .inl (gI G, 2175, .inl r))]) [0] rfl), (hD.sub (ws' := [(a, .inl (gI G, 2175, .inl r))]) [0] (by decide) rfl), hS, lv_sub hl [0, 1, 3, 4, 5] (lvc (fof_s k (by omega)) (lvc (by first | exact (fof_n k (by omega)).trans (congrArg nI (bsj_t ⟨fun z => c_24 (congrArg Int32.toInt z), c_36⟩).symm) | exact congrArg nI (bsj_f (fun z => by first | exact z.1 (Int32.toInt_inj.mp c_24) | exact absurd z.2 (by omega))).symm) (lvr (lvr (lvr rfl)))))⟩
    · skip
      refine lv_iload hx hb dX4_fold_27 (lv_at hl 0 rfl) ?_
      refine lv_aload_n hx hb dX4_fold_29 rfl (lv_at hl 3 rfl) ?_
      refine lv_iload_n hx hb dX4_fold_30 rfl (lv_at hl 4 rfl) ?_
      refine lv_iload_n hx hb dX4_fold_31 rfl (lv_at hl 2 rfl) ?_
      refine lv_iload_n hx hb dX4_fold_32 rfl (lv_at hl 5 rfl) ?_
      refine k_roS (As := [.ref a, .int (nI m), .int (nI (bsj r m B k)), .int but]) (rest := [.int (siz r m B ((3 : Int) - (k : Int)))]) hF (c_X4_sizeIn l G a r m (nI (bsj r m B k)) ((bsj r m B k : Nat) : Int) but B (by omega) (toI (by omega)) hB) mw_3_111 mw_3_112 mw_1_5 mw_3_113 hd_X4_sizeIn ⟨Nat.le_of_ble_eq_true rfl, Nat.le_of_ble_eq_true rfl⟩ (Rd.of hKx hZ hS) (hP.sub (ws' := [(a, .inl (gI G, 2175, .inl r))]) [0] rfl) rfl hl.1 rfl (Nat.le_of_ble_eq_true rfl) dX4_fold_33 ⟨Nat.zero_le _, Nat.zero_le _⟩ ?_
      refine z_gt hx hb (tgt := 44) ((siz r m B ((3 : Int) - (k : Int))).toInt) ((siz r m B ((bsj r m B k : Nat) : Int)).toInt) dX4_fold_36 (by decide) rfl rfl (fun c_36 => ?_) (fun c_36 => ?_)
      · skip
        refine lv_iload_n hx hb dX4_fold_44 rfl (lv_at hl 2 rfl) ?_
        refine lv_istore_n (lv' := [(3, .int (nI (bsj r m B k))), (5, .int (siz r m B ((3 : Int) - (k : Int)))), (4, .int (fof k)), (0, .ref a), (1, .int (nI m)), (2, .int but)]) hx hb dX4_fold_45 rfl hl (by decide) rfl (fun ls hl => ?_)
        refine lv_iinc (v := fof k + (-1)) (lv' := [(4, .int (fof k + (-1))), (3, .int (nI (bsj r m B k))), (5, .int (siz r m B ((3 : Int) - (k : Int)))), (0, .ref a), (1, .int (nI m)), (2, .int but)]) hx hb dX4_fold_46 hl (k := 2) rfl (rfl) (by decide) rfl (fun ls hl => ?_)
        refine lv_goto (tgt := 5) hx hb dX4_fold_49 (by decide) ?_
        exact ih (k + 1) _ _ ls (by omega) ⟨(by omega), (hP.sub (ws' := [(a, .inl (gI G, 2175, .inl r))]) [0] rfl), (hD.sub (ws' := [(a, .inl (gI G, 2175, .inl r))]) [0] (by decide) rfl), hS, lv_sub hl [0, 1, 3, 4, 5] (lvc (fof_s k (by omega)) (lvc (by first | exact (fof_n k (by omega)).trans (congrArg nI (bsj_t ⟨fun z => c_24 (congrArg Int32.toInt z), c_36⟩).symm) | exact congrArg nI (bsj_f (fun z => by first | exact z.1 (Int32.toInt_inj.mp c_24) | exact absurd z.2 (by omega))).symm) (lvr (lvr (lvr rfl)))))⟩
      · skip
        refine lv_iload hx hb dX4_fold_39 (lv_at hl 1 rfl) ?_
        refine lv_goto (tgt := 45) hx hb dX4_fold_41 (by decide) ?_
        refine lv_istore_n (lv' := [(3, .int (fof k)), (5, .int (siz r m B ((3 : Int) - (k : Int)))), (4, .int (fof k)), (0, .ref a), (1, .int (nI m)), (2, .int but)]) hx hb dX4_fold_45 rfl hl (by decide) rfl (fun ls hl => ?_)
        refine lv_iinc (v := fof k + (-1)) (lv' := [(4, .int (fof k + (-1))), (3, .int (fof k)), (5, .int (siz r m B ((3 : Int) - (k : Int)))), (0, .ref a), (1, .int (nI m)), (2, .int but)]) hx hb dX4_fold_46 hl (k := 2) rfl (rfl) (by decide) rfl (fun ls hl => ?_)
        refine lv_goto (tgt := 5) hx hb dX4_fold_49 (by decide) ?_
        exact ih (k + 1) _ _ ls (by omega) ⟨(by omega), (hP.sub (ws' := [(a, .inl (gI G, 2175, .inl r))]) [0] rfl), (hD.sub (ws' := [(a, .inl (gI G, 2175, .inl r))]) [0] (by decide) rfl), hS, lv_sub hl [0, 1, 3, 4, 5] (lvc (fof_s k (by omega)) (lvc (by first | exact (fof_n k (by omega)).trans (congrArg nI (bsj_t ⟨fun z => c_24 (congrArg Int32.toInt z), c_36⟩).symm) | exact congrArg nI (bsj_f (fun z => by first | exact z.1 (Int32.toInt_inj.mp c_24) | exact absurd z.2 (by omega))).symm) (lvr (lvr (lvr rfl)))))⟩
set_option maxHeartbeats 4000000 in
set_option maxRecDepth 100000 in
theorem c_X4_placeOf (l : Launch) (G : gT) (a : Nat) (r : Nat → Int32) (m : Nat) (hm : m < 120) (h6 : r 6 = nI (ny r)) (hc : ny r ≤ 8) : Ro l G yX4_placeOf cX4_placeOf 3 (some .int) 0 [(a, .inl (gI G, 2175, .inl r))] [.ref a, .int (nI m)] (plo r m) := by
  refine Ro.mk (by decide) (Nat.le_of_ble_eq_true rfl) (fun pq eq sq mq bq tq cq ls hr hlk hF hKx hZ hP hl => ?_)
  have hx := hF.1
  have hb := hF.2.1
  have hml := hF.2.2.1
  have hown : sq.vm.findClass RX4 = some mq.cls := hF.2.2.2.1
  have hts : ∀ w ∈ GW, w.before _ sq = true := hF.2.2.2.2
  have hK := hKx.1
  have hl : lv_has ls 3 [(0, .ref a), (1, .int (nI m))] := hl
  have hS : va_S (fun _ => False) sq.heap sq.heap [] := va_S.rf
  have hP : va_P G.1 vwCl [(a, .inl (gI G, 2175, .inl r))] sq.heap := hP
  refine lv_iconst (v := nI 0) hx hb dX4_placeOf_0 (by decide) ?_
  refine lv_istore_n (lv' := [(2, .int (nI 0)), (0, .ref a), (1, .int (nI m))]) hx hb dX4_placeOf_1 rfl hl (by decide) rfl (fun ls hl => ?_)
  refine wloop (n := 0) [] (fun k ls => (k ≤ ny r) ∧ (plo r m = plf r m (ny r - k) k) ∧ lv_has ls 3 [(2, .int (nI k)), (0, .ref a), (1, .int (nI m))]) (fun k => ny r - k) ?_ 0 ⟨(by omega), (rfl), lv_sub hl [0, 1, 2] rfl⟩
  intro k ih
  intro ls ⟨hk, ht, hl⟩
  refine lv_iload_n hx hb dX4_placeOf_2 rfl (lv_at hl 0 rfl) ?_
  refine lv_aload_n hx hb dX4_placeOf_3 rfl (lv_at hl 1 rfl) ?_
  refine lv_bipush (v := nI 6) hx hb dX4_placeOf_4 (by decide) ?_
  refine n_iald hx hb hK hP 0 0 rfl rfl (by omega) (by omega) dX4_placeOf_6 ?_
  refine lv_cv (y := nI (ny r)) (h6) ?_
  refine z_ge hx hb (tgt := 28) ((k : Nat) : Int) ((ny r : Nat) : Int) dX4_placeOf_7 (by decide) (toI (by omega)) (toI (by omega)) (fun c_7 => ?_) (fun c_7 => ?_)
  · skip
    refine lv_bipush (v := (-6)) hx hb dX4_placeOf_28 (by decide) ?_
    exact e_ri hx hb hr hlk ((ht.trans (plf_e (by omega))).symm) dX4_placeOf_30
  · skip
    refine lv_aload_n hx hb dX4_placeOf_10 rfl (lv_at hl 1 rfl) ?_
    refine lv_bipush (v := nI 7) hx hb dX4_placeOf_11 (by decide) ?_
    refine lv_iload_n hx hb dX4_placeOf_13 rfl (lv_at hl 0 rfl) ?_
    refine n_iadd hx hb dX4_placeOf_14 ?_
    refine n_iald hx hb hK hP 0 0 rfl rfl (by omega) (by omega) dX4_placeOf_15 ?_
    refine lv_iload_n hx hb dX4_placeOf_16 rfl (lv_at hl 2 rfl) ?_
    refine z_ne hx hb (tgt := 22) ((r (7 + k)).toInt) ((m : Nat) : Int) dX4_placeOf_17 (by decide) rfl (toI (by omega)) (fun c_17 => ?_) (fun c_17 => ?_)
    · skip
      refine lv_iinc (v := nI (k + 1)) (lv' := [(2, .int (nI (k + 1))), (0, .ref a), (1, .int (nI m))]) hx hb dX4_placeOf_22 hl (k := 0) rfl (nI_add _ _) (by decide) rfl (fun ls hl => ?_)
      refine lv_goto (tgt := 2) hx hb dX4_placeOf_25 (by decide) ?_
      exact ih (k + 1) ls (by omega) ⟨(by omega), (ht.trans (plf_f (by omega) c_17)), lv_sub hl [0, 1, 2] rfl⟩
    · skip
      refine lv_iload_n hx hb dX4_placeOf_20 rfl (lv_at hl 0 rfl) ?_
      exact e_ri hx hb hr hlk ((ht.trans (plf_t (by omega) c_17)).symm) dX4_placeOf_21
set_option maxHeartbeats 4000000 in
set_option maxRecDepth 100000 in
theorem c_X4_takeOut (l : Launch) (G : gT) (sz : Nat) (a : Nat) (r : Nat → Int32) (k : Nat) (h6 : r 6 = nI (ny r)) (hc : ny r ≤ 8) (hk : k < ny r) : Rv l G yX4_takeOut cX4_takeOut 3 none 0 sz [(a, .inl (gI G, 2175, .inl r))] [.ref a, .int (nI k)] [(a, .inl (gI G, 2175, .inl (tko r k)))] := by
  refine Rv.mk (by decide) (Nat.le_of_ble_eq_true rfl) (fun pq eq sq mq bq tq cq ls A hr hlk hF hKx hZ hA hP hD hS hl => ?_)
  have hx := hF.1
  have hb := hF.2.1
  have hml := hF.2.2.1
  have hown : sq.vm.findClass RX4 = some mq.cls := hF.2.2.2.1
  have hts : ∀ w ∈ GW, w.before _ sq = true := hF.2.2.2.2
  have hK := hKx.1
  have hl : lv_has ls 3 [(0, .ref a), (1, .int (nI k))] := hl
  have hP : va_P G.1 vwCl [(a, .inl (gI G, 2175, .inl r))] sq.heap := hP
  have hD : va_D A [(a, .inl (gI G, 2175, .inl r))] := hD
  refine lv_aload_n hx hb dX4_takeOut_0 rfl (lv_at hl 0 rfl) ?_
  refine lv_bipush (v := nI 6) hx hb dX4_takeOut_1 (by decide) ?_
  refine lv_dup2_11 hx hb dX4_takeOut_3 rfl rfl ?_
  refine n_iald hx hb hK hP 0 0 rfl rfl (by omega) (by omega) dX4_takeOut_4 ?_
  refine lv_cv (y := nI (ny r)) (h6) ?_
  refine lv_iconst (v := nI 1) hx hb dX4_takeOut_5 (by decide) ?_
  refine n_isub hx hb (by omega) dX4_takeOut_6 ?_
  refine n_iast hx hb hK hP hD hS 0 0 rfl rfl (by omega) (by omega) dX4_takeOut_7 (fun H locs hP hD hS => ?_)
  have hP : va_P G.1 vwCl [(a, .inl (gI G, 2175, .inl (upd r 6 (nI ((ny r) - 1)))))] H := hP
  have hD : va_D A [(a, .inl (gI G, 2175, .inl (upd r 6 (nI ((ny r) - 1)))))] := hD
  have hw_1 : ([(a, .inl (gI G, 2175, .inl (upd r 6 (nI ((ny r) - 1)))))] : va_W) = [(a, .inl (gI G, 2175, .inl (tkk r k k)))] := (wlc (wli (tkk_0)) rfl)
  rw [hw_1] at hP hD
  refine lv_iload_n hx hb dX4_takeOut_8 rfl (lv_at hl 1 rfl) ?_
  refine lv_istore_n (lv' := [(2, .int (nI k)), (0, .ref a), (1, .int (nI k))]) hx hb dX4_takeOut_9 rfl hl (by decide) rfl (fun ls hl => ?_)
  have hPj := hP.sub (ws' := [(a, .inl (gI G, 2175, .inl (tkk r k k)))]) [0] rfl
  have hDj := hD.sub (ws' := [(a, .inl (gI G, 2175, .inl (tkk r k k)))]) [0] (by decide) rfl
  refine wloopH [] (fun i H locs ls => (k ≤ i) ∧ (i ≤ ny r - 1) ∧ va_P G.1 vwCl [(a, .inl (gI G, 2175, .inl (tkk r k i)))] H ∧ va_D A [(a, .inl (gI G, 2175, .inl (tkk r k i)))] ∧ va_S A sq.heap H locs ∧ lv_has ls 3 [(2, .int (nI i)), (0, .ref a), (1, .int (nI k))]) (fun i => ny r - 1 - i) ?_ k ⟨(by omega), (by omega), hPj, hDj, hS, lv_sub hl [0, 1, 2] rfl⟩
  intro i ih
  intro H locs ls ⟨hi1, hi2, hP, hD, hS, hl⟩
  refine lv_iload_n hx hb dX4_takeOut_10 rfl (lv_at hl 0 rfl) ?_
  refine lv_aload_n hx hb dX4_takeOut_11 rfl (lv_at hl 1 rfl) ?_
  refine lv_bipush (v := nI 6) hx hb dX4_takeOut_12 (by decide) ?_
  refine n_iald hx hb hK hP 0 0 rfl rfl (by omega) (by omega) dX4_takeOut_14 ?_
  refine lv_cv (y := nI (ny r - 1)) (tkk_6) ?_
  refine z_ge hx hb (tgt := 38) ((i : Nat) : Int) ((ny r - 1 : Nat) : Int) dX4_takeOut_15 (by decide) (toI (by omega)) (toI (by omega)) (fun c_15 => ?_) (fun c_15 => ?_)
  · skip
    have hi3 : i = ny r - 1 := by omega
    subst hi3
    have hPj := hP.sub (ws' := [(a, .inl (gI G, 2175, .inl (tkk r k (ny r - 1))))]) [0] rfl
    have hwj : ([(a, .inl (gI G, 2175, .inl (tkk r k (ny r - 1))))] : va_W) = [(a, .inl (gI G, 2175, .inl (tko r k)))] := (wlc (rfl) rfl)
    rw [hwj] at hPj
    exact e_wv hx hb hr hlk hPj hS dX4_takeOut_38
  · skip
    refine lv_aload_n hx hb dX4_takeOut_18 rfl (lv_at hl 1 rfl) ?_
    refine lv_bipush (v := nI 7) hx hb dX4_takeOut_19 (by decide) ?_
    refine lv_iload_n hx hb dX4_takeOut_21 rfl (lv_at hl 0 rfl) ?_
    refine n_iadd hx hb dX4_takeOut_22 ?_
    refine lv_aload_n hx hb dX4_takeOut_23 rfl (lv_at hl 1 rfl) ?_
    refine lv_bipush (v := nI 7) hx hb dX4_takeOut_24 (by decide) ?_
    refine lv_iload_n hx hb dX4_takeOut_26 rfl (lv_at hl 0 rfl) ?_
    refine n_iadd hx hb dX4_takeOut_27 ?_
    refine lv_iconst (v := nI 1) hx hb dX4_takeOut_28 (by decide) ?_
    refine n_iadd hx hb dX4_takeOut_29 ?_
    refine n_iald hx hb hK hP 0 0 rfl rfl (by omega) (by omega) dX4_takeOut_30 ?_
    refine n_iast hx hb hK hP hD hS 0 0 rfl rfl (by omega) (by omega) dX4_takeOut_31 (fun H locs hP hD hS => ?_)
    have hP : va_P G.1 vwCl [(a, .inl (gI G, 2175, .inl (upd (tkk r k i) (7 + i) ((tkk r k i) (7 + i + 1)))))] H := hP
    have hD : va_D A [(a, .inl (gI G, 2175, .inl (upd (tkk r k i) (7 + i) ((tkk r k i) (7 + i + 1)))))] := hD
    refine lv_iinc (v := nI (i + 1)) (lv' := [(2, .int (nI (i + 1))), (0, .ref a), (1, .int (nI k))]) hx hb dX4_takeOut_32 hl (k := 0) rfl (nI_add _ _) (by decide) rfl (fun ls hl => ?_)
    refine lv_goto (tgt := 10) hx hb dX4_takeOut_35 (by decide) ?_
    have w_2 : ([(a, .inl (gI G, 2175, .inl (upd (tkk r k i) (7 + i) ((tkk r k i) (7 + i + 1)))))] : va_W) = [(a, .inl (gI G, 2175, .inl (tkk r k (i + 1))))] := (wlc (wli (tkk_s hi1)) rfl)
    have hPj := hP.sub (ws' := [(a, .inl (gI G, 2175, .inl (upd (tkk r k i) (7 + i) ((tkk r k i) (7 + i + 1)))))]) [0] rfl
    have hDj := hD.sub (ws' := [(a, .inl (gI G, 2175, .inl (upd (tkk r k i) (7 + i) ((tkk r k i) (7 + i + 1)))))]) [0] (by decide) rfl
    rw [w_2] at hPj hDj
    exact ih (i + 1) _ _ ls (by omega) ⟨(by omega), (by omega), hPj, hDj, hS, lv_sub hl [0, 1, 2] rfl⟩
set_option maxHeartbeats 4000000 in
set_option maxRecDepth 100000 in
theorem c_X4_unfold (l : Launch) (G : gT) (sz : Nat) (a : Nat) (r : Nat → Int32) (m : Nat) (hm : m < 120) : Rv l G yX4_unfold cX4_unfold 2 none 5 sz [(a, .inl (gI G, 2175, .inl r))] [.ref a, .int (nI m)] [(a, .inl (gI G, 2175, .inl (ufd r m)))] := by
  refine Rv.mk (by decide) (Nat.le_of_ble_eq_true rfl) (fun pq eq sq mq bq tq cq ls A hr hlk hF hKx hZ hA hP hD hS hl => ?_)
  have hx := hF.1
  have hb := hF.2.1
  have hml := hF.2.2.1
  have hown : sq.vm.findClass RX4 = some mq.cls := hF.2.2.2.1
  have hts : ∀ w ∈ GW, w.before _ sq = true := hF.2.2.2.2
  have hK := hKx.1
  have hl : lv_has ls 2 [(0, .ref a), (1, .int (nI m))] := hl
  have hP : va_P G.1 vwCl [(a, .inl (gI G, 2175, .inl r))] sq.heap := hP
  have hD : va_D A [(a, .inl (gI G, 2175, .inl r))] := hD
  refine lv_aload_n hx hb dX4_unfold_0 rfl (lv_at hl 0 rfl) ?_
  refine lv_iconst (v := nI 3) hx hb dX4_unfold_1 (by decide) ?_
  refine lv_dup2_11 hx hb dX4_unfold_2 rfl rfl ?_
  refine n_iald hx hb hK hP 0 0 rfl rfl (by omega) (by omega) dX4_unfold_3 ?_
  refine lv_aload_n hx hb dX4_unfold_4 rfl (lv_at hl 0 rfl) ?_
  refine lv_iload_n hx hb dX4_unfold_5 rfl (lv_at hl 1 rfl) ?_
  refine k_roS (As := [.ref a, .int (nI m)]) (rest := [.int (r 3), .int (nI 3), .ref a]) hF (c_X4_sizeOf l G a r m (by omega)) mw_3_132 mw_3_133 mw_1_5 mw_3_134 hd_X4_sizeOf ⟨Nat.le_of_ble_eq_true rfl, Nat.le_of_ble_eq_true rfl⟩ (Rd.of hKx hZ hS) (hP.sub (ws' := [(a, .inl (gI G, 2175, .inl r))]) [0] rfl) rfl hl.1 rfl (Nat.le_of_ble_eq_true rfl) dX4_unfold_6 ⟨Nat.zero_le _, Nat.zero_le _⟩ ?_
  refine lv_iadd hx hb dX4_unfold_9 ?_
  refine n_iast hx hb hK hP hD hS 0 0 rfl rfl (by omega) (by omega) dX4_unfold_10 (fun H locs hP hD hS => ?_)
  have hP : va_P G.1 vwCl [(a, .inl (gI G, 2175, .inl (upd r 3 ((r 3) + (szo r m)))))] H := hP
  have hD : va_D A [(a, .inl (gI G, 2175, .inl (upd r 3 ((r 3) + (szo r m)))))] := hD
  have hw_1 : ([(a, .inl (gI G, 2175, .inl (upd r 3 ((r 3) + (szo r m)))))] : va_W) = [(a, .inl (gI G, 2175, .inl (uf1 r m)))] := (wlc (wli (rfl)) rfl)
  rw [hw_1] at hP hD
  refine lv_aload_n hx hb dX4_unfold_11 rfl (lv_at hl 0 rfl) ?_
  refine lv_iconst (v := nI 4) hx hb dX4_unfold_12 (by decide) ?_
  refine lv_dup2_11 hx hb dX4_unfold_13 rfl rfl ?_
  refine n_iald hx hb hK hP 0 0 rfl rfl (by omega) (by omega) dX4_unfold_14 ?_
  refine lv_iconst (v := nI 1) hx hb dX4_unfold_15 (by decide) ?_
  refine lv_iadd hx hb dX4_unfold_16 ?_
  refine n_iast hx hb hK hP hD hS 0 0 rfl rfl (by omega) (by omega) dX4_unfold_17 (fun H locs hP hD hS => ?_)
  have hP : va_P G.1 vwCl [(a, .inl (gI G, 2175, .inl (upd (uf1 r m) 4 (((uf1 r m) 4) + (nI 1)))))] H := hP
  have hD : va_D A [(a, .inl (gI G, 2175, .inl (upd (uf1 r m) 4 (((uf1 r m) 4) + (nI 1)))))] := hD
  have hw_2 : ([(a, .inl (gI G, 2175, .inl (upd (uf1 r m) 4 (((uf1 r m) 4) + (nI 1)))))] : va_W) = [(a, .inl (gI G, 2175, .inl (uf2 r m)))] := (wlc (wli (rfl)) rfl)
  rw [hw_2] at hP hD
  refine lv_aload_n hx hb dX4_unfold_18 rfl (lv_at hl 0 rfl) ?_
  refine lv_bipush (v := nI 15) hx hb dX4_unfold_19 (by decide) ?_
  refine lv_iload_n hx hb dX4_unfold_21 rfl (lv_at hl 1 rfl) ?_
  refine n_iadd hx hb dX4_unfold_22 ?_
  refine lv_iconst (v := nI 0) hx hb dX4_unfold_23 (by decide) ?_
  refine n_iast hx hb hK hP hD hS 0 0 rfl rfl (by omega) (by omega) dX4_unfold_24 (fun H locs hP hD hS => ?_)
  have hP : va_P G.1 vwCl [(a, .inl (gI G, 2175, .inl (upd (uf2 r m) (15 + m) (nI 0))))] H := hP
  have hD : va_D A [(a, .inl (gI G, 2175, .inl (upd (uf2 r m) (15 + m) (nI 0))))] := hD
  have hw_3 : ([(a, .inl (gI G, 2175, .inl (upd (uf2 r m) (15 + m) (nI 0))))] : va_W) = [(a, .inl (gI G, 2175, .inl (ufd r m)))] := (wlc (wli (rfl)) rfl)
  rw [hw_3] at hP hD
  have hPj := hP.sub (ws' := [(a, .inl (gI G, 2175, .inl (ufd r m)))]) [0] rfl
  exact e_wv hx hb hr hlk hPj hS dX4_unfold_25
set_option maxHeartbeats 4000000 in
set_option maxRecDepth 100000 in
theorem c_X4_foldAgain (l : Launch) (G : gT) (sz : Nat) (a : Nat) (r : Nat → Int32) (hB : Bs r 8) : Rv l G yX4_foldAgain cX4_foldAgain 2 none 6 sz [(a, .inl (gI G, 2175, .inl r))] [.ref a] [(a, .inl (gI G, 2175, .inl (fga r)))] := by
  refine Rv.mk (by decide) (Nat.le_of_ble_eq_true rfl) (fun pq eq sq mq bq tq cq ls A hr hlk hF hKx hZ hA hP hD hS hl => ?_)
  have hx := hF.1
  have hb := hF.2.1
  have hml := hF.2.2.1
  have hown : sq.vm.findClass RX4 = some mq.cls := hF.2.2.2.1
  have hts : ∀ w ∈ GW, w.before _ sq = true := hF.2.2.2.2
  have hK := hKx.1
  have hl : lv_has ls 2 [(0, .ref a)] := hl
  have hP : va_P G.1 vwCl [(a, .inl (gI G, 2175, .inl r))] sq.heap := hP
  have hD : va_D A [(a, .inl (gI G, 2175, .inl r))] := hD
  have hPj := hP.sub (ws' := [(a, .inl (gI G, 2175, .inl r))]) [0] rfl
  have hDj := hD.sub (ws' := [(a, .inl (gI G, 2175, .inl r))]) [0] (by decide) rfl
  have hwj : ([(a, .inl (gI G, 2175, .inl r))] : va_W) = [(a, .inl (gI G, 2175, .inl (fgk r 0)))] := (wlc (rfl) rfl)
  rw [hwj] at hPj hDj
  refine wloopH [] (fun j H locs ls => (j ≤ ny r - opn r) ∧ va_P G.1 vwCl [(a, .inl (gI G, 2175, .inl (fgk r j)))] H ∧ va_D A [(a, .inl (gI G, 2175, .inl (fgk r j)))] ∧ va_S A sq.heap H locs ∧ lv_has ls 2 [(0, .ref a)]) (fun j => ny r - j) ?_ 0 ⟨(by omega), hPj, hDj, hS, lv_sub hl [0] rfl⟩
  intro j ih
  intro H locs ls ⟨hj, hP, hD, hS, hl⟩
  obtain ⟨hBj, hnj, hoj⟩ := Bs_fgk hB (Nat.le_refl 8) j (by omega)
  obtain ⟨-, -, -, -, h2, ho, h6, hc, hRx⟩ := id hBj
  refine lv_aload_n hx hb dX4_foldAgain_0 rfl (lv_at hl 0 rfl) ?_
  refine lv_bipush (v := nI 6) hx hb dX4_foldAgain_1 (by decide) ?_
  refine n_iald hx hb hK hP 0 0 rfl rfl (by omega) (by omega) dX4_foldAgain_3 ?_
  refine lv_cv (y := nI (ny (fgk r j))) (h6) ?_
  refine lv_aload_n hx hb dX4_foldAgain_4 rfl (lv_at hl 0 rfl) ?_
  refine lv_iconst (v := nI 2) hx hb dX4_foldAgain_5 (by decide) ?_
  refine n_iald hx hb hK hP 0 0 rfl rfl (by omega) (by omega) dX4_foldAgain_6 ?_
  refine lv_cv (y := nI (opn (fgk r j))) (h2) ?_
  refine z_le hx hb (tgt := 30) ((ny (fgk r j) : Nat) : Int) ((opn (fgk r j) : Nat) : Int) dX4_foldAgain_7 (by decide) (toI (by omega)) (toI (by omega)) (fun c_7 => ?_) (fun c_7 => ?_)
  · skip
    have hj2 : j = ny r - opn r := by omega
    subst hj2
    have hPj := hP.sub (ws' := [(a, .inl (gI G, 2175, .inl (fgk r (ny r - opn r))))]) [0] rfl
    have hwj : ([(a, .inl (gI G, 2175, .inl (fgk r (ny r - opn r))))] : va_W) = [(a, .inl (gI G, 2175, .inl (fga r)))] := (wlc (rfl) rfl)
    rw [hwj] at hPj
    exact e_wv hx hb hr hlk hPj hS dX4_foldAgain_30
  · skip
    obtain ⟨m0, hm0, em0⟩ := hRx 0 (by omega)
    refine lv_aload_n hx hb dX4_foldAgain_10 rfl (lv_at hl 0 rfl) ?_
    refine lv_bipush (v := nI 7) hx hb dX4_foldAgain_11 (by decide) ?_
    refine n_iald hx hb hK hP 0 0 rfl rfl (by omega) (by omega) dX4_foldAgain_13 ?_
    refine lv_cv (y := nI m0) (em0) ?_
    refine lv_istore_n (lv' := [(1, .int (nI m0)), (0, .ref a)]) hx hb dX4_foldAgain_14 rfl hl (by decide) rfl (fun ls hl => ?_)
    refine lv_aload_n hx hb dX4_foldAgain_15 rfl (lv_at hl 1 rfl) ?_
    refine lv_iconst (v := nI 0) hx hb dX4_foldAgain_16 (by decide) ?_
    refine k_rvS (As := [.ref a, .int (nI 0)]) (rest := []) (wr := []) hF (c_X4_takeOut l G _ a (fgk r j) 0 (by omega) (by omega) (by omega)) mw_3_105 mw_3_106 mw_1_5 mw_3_107 hd_X4_takeOut ⟨Nat.le_of_ble_eq_true rfl, Nat.le_of_ble_eq_true rfl⟩ hKx hZ hS hP hD hA [0] [] rfl rfl (by decide) (by decide) (by decide) rfl rfl hl.1 rfl (Nat.le_of_ble_eq_true rfl) dX4_foldAgain_17 ⟨Nat.zero_le _, Nat.zero_le _⟩ (fun H locs hP hD hS => ?_)
    have hP : va_P G.1 vwCl [(a, .inl (gI G, 2175, .inl (tko (fgk r j) 0)))] H := hP
    have hD : va_D A [(a, .inl (gI G, 2175, .inl (tko (fgk r j) 0)))] := hD
    refine lv_aload_n hx hb dX4_foldAgain_20 rfl (lv_at hl 1 rfl) ?_
    refine lv_iload_n hx hb dX4_foldAgain_21 rfl (lv_at hl 0 rfl) ?_
    refine lv_bipush (v := (-6)) hx hb dX4_foldAgain_22 (by decide) ?_
    refine k_rvS (As := [.ref a, .int (nI m0), .int (-6)]) (rest := []) (wr := []) hF (c_X4_fold l G _ a (tko (fgk r j) 0) m0 (-6) (-6) (by omega) (by decide)) mw_3_108 mw_3_109 mw_1_5 mw_3_110 hd_X4_fold ⟨Nat.le_of_ble_eq_true rfl, Nat.le_of_ble_eq_true rfl⟩ hKx hZ hS hP hD hA [0] [] rfl rfl (by decide) (by decide) (by decide) rfl rfl hl.1 rfl (Nat.le_of_ble_eq_true rfl) dX4_foldAgain_24 ⟨Nat.zero_le _, Nat.zero_le _⟩ (fun H locs hP hD hS => ?_)
    have hP : va_P G.1 vwCl [(a, .inl (gI G, 2175, .inl (fld (tko (fgk r j) 0) m0 (-6))))] H := hP
    have hD : va_D A [(a, .inl (gI G, 2175, .inl (fld (tko (fgk r j) 0) m0 (-6))))] := hD
    refine lv_goto (tgt := 0) hx hb dX4_foldAgain_27 (by decide) ?_
    have w_1 : ([(a, .inl (gI G, 2175, .inl (fld (tko (fgk r j) 0) m0 (-6))))] : va_W) = [(a, .inl (gI G, 2175, .inl (fgk r (j + 1))))] := (wlc (wli (show _ = fld _ _ _ by rw [em0, nI_clamp (by omega)])) rfl)
    have hPj := hP.sub (ws' := [(a, .inl (gI G, 2175, .inl (fld (tko (fgk r j) 0) m0 (-6))))]) [0] rfl
    have hDj := hD.sub (ws' := [(a, .inl (gI G, 2175, .inl (fld (tko (fgk r j) 0) m0 (-6))))]) [0] (by decide) rfl
    rw [w_1] at hPj hDj
    exact ih (j + 1) _ _ ls (by omega) ⟨(by omega), hPj, hDj, hS, lv_sub hl [1] rfl⟩
set_option maxHeartbeats 4000000 in
set_option maxRecDepth 100000 in
theorem c_X4_toEnd (l : Launch) (G : gT) (sz : Nat) (a : Nat) (r : Nat → Int32) (m : Nat) (hm : m < 120) (hB : Bs r 7) : Rv l G yX4_toEnd cX4_toEnd 3 none 1 sz [(a, .inl (gI G, 2175, .inl r))] [.ref a, .int (nI m)] [(a, .inl (gI G, 2175, .inl (ten r m)))] := by
  refine Rv.mk (by decide) (Nat.le_of_ble_eq_true rfl) (fun pq eq sq mq bq tq cq ls A hr hlk hF hKx hZ hA hP hD hS hl => ?_)
  have hx := hF.1
  have hb := hF.2.1
  have hml := hF.2.2.1
  have hown : sq.vm.findClass RX4 = some mq.cls := hF.2.2.2.1
  have hts : ∀ w ∈ GW, w.before _ sq = true := hF.2.2.2.2
  have hK := hKx.1
  have hl : lv_has ls 3 [(0, .ref a), (1, .int (nI m))] := hl
  have hP : va_P G.1 vwCl [(a, .inl (gI G, 2175, .inl r))] sq.heap := hP
  have hD : va_D A [(a, .inl (gI G, 2175, .inl r))] := hD
  obtain ⟨-, -, -, -, h2, ho, h6, hc, hRx⟩ := id hB
  have h1B := Bs_te1 (m := m) hB (by omega)
  obtain ⟨-, -, -, -, -, -, g6, gc, -⟩ := id h1B
  refine lv_aload_n hx hb dX4_toEnd_0 rfl (lv_at hl 0 rfl) ?_
  refine lv_iload_n hx hb dX4_toEnd_1 rfl (lv_at hl 1 rfl) ?_
  refine k_roS (As := [.ref a, .int (nI m)]) (rest := []) hF (c_X4_placeOf l G a r m (by omega) (by omega) (by omega)) mw_3_197 mw_3_198 mw_1_5 mw_3_199 hd_X4_placeOf ⟨Nat.le_of_ble_eq_true rfl, Nat.le_of_ble_eq_true rfl⟩ (Rd.of hKx hZ hS) (hP.sub (ws' := [(a, .inl (gI G, 2175, .inl r))]) [0] rfl) rfl hl.1 rfl (Nat.le_of_ble_eq_true rfl) dX4_toEnd_2 ⟨Nat.zero_le _, Nat.zero_le _⟩ ?_
  refine lv_istore_n (lv' := [(2, .int (plo r m)), (0, .ref a), (1, .int (nI m))]) hx hb dX4_toEnd_5 rfl hl (by decide) rfl (fun ls hl => ?_)
  refine lv_iload_n hx hb dX4_toEnd_6 rfl (lv_at hl 0 rfl) ?_
  refine lv_bipush (v := (-6)) hx hb dX4_toEnd_7 (by decide) ?_
  refine z_eq hx hb (tgt := 17) ((plo r m).toInt) (-6) dX4_toEnd_9 (by decide) rfl (by decide) (fun c_9 => ?_) (fun c_9 => ?_)
  · skip
    have hw_1 : ([(a, .inl (gI G, 2175, .inl r))] : va_W) = [(a, .inl (gI G, 2175, .inl (te1 r m)))] := (wlc (wli ((cI_t (Int32.toInt_inj.mp c_9)).symm)) rfl)
    rw [hw_1] at hP hD
    refine lv_aload_n hx hb dX4_toEnd_17 rfl (lv_at hl 1 rfl) ?_
    refine lv_bipush (v := nI 7) hx hb dX4_toEnd_18 (by decide) ?_
    refine lv_aload_n hx hb dX4_toEnd_20 rfl (lv_at hl 1 rfl) ?_
    refine lv_bipush (v := nI 6) hx hb dX4_toEnd_21 (by decide) ?_
    refine n_iald hx hb hK hP 0 0 rfl rfl (by omega) (by omega) dX4_toEnd_23 ?_
    refine lv_cv (y := nI (ny (te1 r m))) (g6) ?_
    refine n_iadd hx hb dX4_toEnd_24 ?_
    refine lv_iload_n hx hb dX4_toEnd_25 rfl (lv_at hl 2 rfl) ?_
    refine n_iast hx hb hK hP hD hS 0 0 rfl rfl (by omega) (by omega) dX4_toEnd_26 (fun H locs hP hD hS => ?_)
    have hP : va_P G.1 vwCl [(a, .inl (gI G, 2175, .inl (upd (te1 r m) (7 + ny (te1 r m)) (nI m))))] H := hP
    have hD : va_D A [(a, .inl (gI G, 2175, .inl (upd (te1 r m) (7 + ny (te1 r m)) (nI m))))] := hD
    refine lv_aload_n hx hb dX4_toEnd_27 rfl (lv_at hl 1 rfl) ?_
    refine lv_bipush (v := nI 6) hx hb dX4_toEnd_28 (by decide) ?_
    refine lv_dup2_11 hx hb dX4_toEnd_30 rfl rfl ?_
    refine n_iald hx hb hK hP 0 0 rfl rfl (by omega) (by omega) dX4_toEnd_31 ?_
    refine lv_cv (y := nI (ny (te1 r m))) ((upd_n (by omega)).trans g6) ?_
    refine lv_iconst (v := nI 1) hx hb dX4_toEnd_32 (by decide) ?_
    refine n_iadd hx hb dX4_toEnd_33 ?_
    refine n_iast hx hb hK hP hD hS 0 0 rfl rfl (by omega) (by omega) dX4_toEnd_34 (fun H locs hP hD hS => ?_)
    have hP : va_P G.1 vwCl [(a, .inl (gI G, 2175, .inl (upd (upd (te1 r m) (7 + ny (te1 r m)) (nI m)) 6 (nI (ny (te1 r m) + 1)))))] H := hP
    have hD : va_D A [(a, .inl (gI G, 2175, .inl (upd (upd (te1 r m) (7 + ny (te1 r m)) (nI m)) 6 (nI (ny (te1 r m) + 1)))))] := hD
    have hw_2 : ([(a, .inl (gI G, 2175, .inl (upd (upd (te1 r m) (7 + ny (te1 r m)) (nI m)) 6 (nI (ny (te1 r m) + 1)))))] : va_W) = [(a, .inl (gI G, 2175, .inl (ten r m)))] := (wlc (wli (rfl)) rfl)
    rw [hw_2] at hP hD
    have hPj := hP.sub (ws' := [(a, .inl (gI G, 2175, .inl (ten r m)))]) [0] rfl
    exact e_wv hx hb hr hlk hPj hS dX4_toEnd_35
  · skip
    obtain ⟨k0, hk0, ek0, -⟩ : ∃ j, j < ny r ∧ plo r m = nI j ∧ (r (7 + j)).toInt = (m : Int) := (plo_in r m).resolve_left (fun z => c_9 (congrArg Int32.toInt z))
    refine lv_aload_n hx hb dX4_toEnd_12 rfl (lv_at hl 1 rfl) ?_
    refine lv_iload_n hx hb dX4_toEnd_13 rfl (lv_at hl 0 rfl) ?_
    refine lv_cv (y := nI k0) (ek0) ?_
    refine k_rvS (As := [.ref a, .int (nI k0)]) (rest := []) (wr := []) hF (c_X4_takeOut l G _ a r k0 (by omega) (by omega) (by omega)) mw_3_105 mw_3_106 mw_1_5 mw_3_107 hd_X4_takeOut ⟨Nat.le_of_ble_eq_true rfl, Nat.le_of_ble_eq_true rfl⟩ hKx hZ hS hP hD hA [0] [] rfl rfl (by decide) (by decide) (by decide) rfl rfl hl.1 rfl (Nat.le_of_ble_eq_true rfl) dX4_toEnd_14 ⟨Nat.zero_le _, Nat.zero_le _⟩ (fun H locs hP hD hS => ?_)
    have hP : va_P G.1 vwCl [(a, .inl (gI G, 2175, .inl (tko r k0)))] H := hP
    have hD : va_D A [(a, .inl (gI G, 2175, .inl (tko r k0)))] := hD
    have hw_3 : ([(a, .inl (gI G, 2175, .inl (tko r k0)))] : va_W) = [(a, .inl (gI G, 2175, .inl (te1 r m)))] := (wlc (wli (by unfold te1; rw [cI_f (by rw [ek0]; exact nI_ne6 (by omega)), ek0, nI_clamp (by omega)])) rfl)
    rw [hw_3] at hP hD
    refine lv_aload_n hx hb dX4_toEnd_17 rfl (lv_at hl 1 rfl) ?_
    refine lv_bipush (v := nI 7) hx hb dX4_toEnd_18 (by decide) ?_
    refine lv_aload_n hx hb dX4_toEnd_20 rfl (lv_at hl 1 rfl) ?_
    refine lv_bipush (v := nI 6) hx hb dX4_toEnd_21 (by decide) ?_
    refine n_iald hx hb hK hP 0 0 rfl rfl (by omega) (by omega) dX4_toEnd_23 ?_
    refine lv_cv (y := nI (ny (te1 r m))) (g6) ?_
    refine n_iadd hx hb dX4_toEnd_24 ?_
    refine lv_iload_n hx hb dX4_toEnd_25 rfl (lv_at hl 2 rfl) ?_
    refine n_iast hx hb hK hP hD hS 0 0 rfl rfl (by omega) (by omega) dX4_toEnd_26 (fun H locs hP hD hS => ?_)
    have hP : va_P G.1 vwCl [(a, .inl (gI G, 2175, .inl (upd (te1 r m) (7 + ny (te1 r m)) (nI m))))] H := hP
    have hD : va_D A [(a, .inl (gI G, 2175, .inl (upd (te1 r m) (7 + ny (te1 r m)) (nI m))))] := hD
    refine lv_aload_n hx hb dX4_toEnd_27 rfl (lv_at hl 1 rfl) ?_
    refine lv_bipush (v := nI 6) hx hb dX4_toEnd_28 (by decide) ?_
    refine lv_dup2_11 hx hb dX4_toEnd_30 rfl rfl ?_
    refine n_iald hx hb hK hP 0 0 rfl rfl (by omega) (by omega) dX4_toEnd_31 ?_
    refine lv_cv (y := nI (ny (te1 r m))) ((upd_n (by omega)).trans g6) ?_
    refine lv_iconst (v := nI 1) hx hb dX4_toEnd_32 (by decide) ?_
    refine n_iadd hx hb dX4_toEnd_33 ?_
    refine n_iast hx hb hK hP hD hS 0 0 rfl rfl (by omega) (by omega) dX4_toEnd_34 (fun H locs hP hD hS => ?_)
    have hP : va_P G.1 vwCl [(a, .inl (gI G, 2175, .inl (upd (upd (te1 r m) (7 + ny (te1 r m)) (nI m)) 6 (nI (ny (te1 r m) + 1)))))] H := hP
    have hD : va_D A [(a, .inl (gI G, 2175, .inl (upd (upd (te1 r m) (7 + ny (te1 r m)) (nI m)) 6 (nI (ny (te1 r m) + 1)))))] := hD
    have hw_4 : ([(a, .inl (gI G, 2175, .inl (upd (upd (te1 r m) (7 + ny (te1 r m)) (nI m)) 6 (nI (ny (te1 r m) + 1)))))] : va_W) = [(a, .inl (gI G, 2175, .inl (ten r m)))] := (wlc (wli (rfl)) rfl)
    rw [hw_4] at hP hD
    have hPj := hP.sub (ws' := [(a, .inl (gI G, 2175, .inl (ten r m)))]) [0] rfl
    exact e_wv hx hb hr hlk hPj hS dX4_toEnd_35
set_option maxHeartbeats 4000000 in
set_option maxRecDepth 100000 in
theorem c_X4_look (l : Launch) (G : gT) (sz : Nat) (h : Nat) (an : Nat) (tr : Nat) (ah : Nat) (ch : Int32) (ak : Nat) (ai : Nat) (ap : Nat) (sy : Int32) (af : Nat) (sp : Int32) (a : Nat) (r : Nat → Int32) (m : Nat) (hm : m < 120) (hB : Bs r 7) : Rv l G yX4_look cX4_look 3 none 7 sz [(h, .inr (4, [.ref an, .ref tr, .ref ah, .int ch, .ref ak, .ref ai, .ref ap, .int sy, .ref af, .int sp])), (af, .inl (gI G, 121, .inl (fun q9 => nI (fdy q9)))), (a, .inl (gI G, 2175, .inl r))] [.ref h, .ref a, .int (nI m)] [(h, .inr (4, [.ref an, .ref tr, .ref ah, .int ch, .ref ak, .ref ai, .ref ap, .int sy, .ref af, .int sp])), (af, .inl (gI G, 121, .inl (fun q9 => nI (fdy q9)))), (a, .inl (gI G, 2175, .inl (lok r m)))] := by
  refine Rv.mk (by decide) (Nat.le_of_ble_eq_true rfl) (fun pq eq sq mq bq tq cq ls A hr hlk hF hKx hZ hA hP hD hS hl => ?_)
  have hx := hF.1
  have hb := hF.2.1
  have hml := hF.2.2.1
  have hown : sq.vm.findClass RX4 = some mq.cls := hF.2.2.2.1
  have hts : ∀ w ∈ GW, w.before _ sq = true := hF.2.2.2.2
  have hK := hKx.1
  have hl : lv_has ls 3 [(0, .ref h), (1, .ref a), (2, .int (nI m))] := hl
  have hP : va_P G.1 vwCl [(h, .inr (4, [.ref an, .ref tr, .ref ah, .int ch, .ref ak, .ref ai, .ref ap, .int sy, .ref af, .int sp])), (af, .inl (gI G, 121, .inl (fun q9 => nI (fdy q9)))), (a, .inl (gI G, 2175, .inl r))] sq.heap := hP
  have hD : va_D A [(h, .inr (4, [.ref an, .ref tr, .ref ah, .int ch, .ref ak, .ref ai, .ref ap, .int sy, .ref af, .int sp])), (af, .inl (gI G, 121, .inl (fun q9 => nI (fdy q9)))), (a, .inl (gI G, 2175, .inl r))] := hD
  have hB1 := Bs_lk1 (m := m) hB (by omega)
  have hB2 := Bs_ten (m := m) hB1 (Nat.le_refl 7) hm
  refine lv_aload_n hx hb dX4_look_0 rfl (lv_at hl 0 rfl) ?_
  refine lv_aload_n hx hb dX4_look_1 rfl (lv_at hl 1 rfl) ?_
  refine lv_iload_n hx hb dX4_look_2 rfl (lv_at hl 2 rfl) ?_
  refine k_roV (ci := 4) (q0 := 0) (As := [.ref a, .int (nI m)]) (rest := []) hF (c_X4_isOld l G h an tr ah ch ak ai ap sy af sp a r m (by omega) (hB.mono (by omega))) hKx hP ⟨_, rfl, rfl⟩ rfl rfl mw_3_152 mw_3_154 mw_p1_12 mw_1_5 mw_3_155 hd_X4_isOld ⟨Nat.le_of_ble_eq_true rfl, Nat.le_of_ble_eq_true rfl⟩ (Rd.of hKx hZ hS) (hP.sub (ws' := [(h, .inr (4, [.ref an, .ref tr, .ref ah, .int ch, .ref ak, .ref ai, .ref ap, .int sy, .ref af, .int sp])), (af, .inl (gI G, 121, .inl (fun q9 => nI (fdy q9)))), (a, .inl (gI G, 2175, .inl r))]) [0, 1, 2] rfl) rfl hl.1 rfl (Nat.le_of_ble_eq_true rfl) dX4_look_3 ⟨Nat.zero_le _, Nat.zero_le _⟩ ?_
  refine p0_eq hx hb (tgt := 19) dX4_look_6 (by decide) (fun c_6 => ?_) (fun c_6 => ?_)
  · skip
    have hPj := hP.sub (ws' := [(h, .inr (4, [.ref an, .ref tr, .ref ah, .int ch, .ref ak, .ref ai, .ref ap, .int sy, .ref af, .int sp])), (af, .inl (gI G, 121, .inl (fun q9 => nI (fdy q9)))), (a, .inl (gI G, 2175, .inl r))]) [0, 1, 2] rfl
    have hwj : ([(h, .inr (4, [.ref an, .ref tr, .ref ah, .int ch, .ref ak, .ref ai, .ref ap, .int sy, .ref af, .int sp])), (af, .inl (gI G, 121, .inl (fun q9 => nI (fdy q9)))), (a, .inl (gI G, 2175, .inl r))] : va_W) = [(h, .inr (4, [.ref an, .ref tr, .ref ah, .int ch, .ref ak, .ref ai, .ref ap, .int sy, .ref af, .int sp])), (af, .inl (gI G, 121, .inl (fun q9 => nI (fdy q9)))), (a, .inl (gI G, 2175, .inl (lok r m)))] := (wlc (rfl) (wlc (rfl) (wlc (wli (cI_f (fun z => by first | exact c_6 z.1 | exact z.2 c_16)).symm) rfl)))
    rw [hwj] at hPj
    exact e_wv hx hb hr hlk hPj hS dX4_look_19
  · skip
    refine lv_aload_n hx hb dX4_look_9 rfl (lv_at hl 1 rfl) ?_
    refine lv_bipush (v := nI 15) hx hb dX4_look_10 (by decide) ?_
    refine lv_iload_n hx hb dX4_look_12 rfl (lv_at hl 2 rfl) ?_
    refine n_iadd hx hb dX4_look_13 ?_
    refine n_iald hx hb hK hP 2 0 rfl rfl (by omega) (by omega) dX4_look_14 ?_
    refine lv_iconst (v := nI 1) hx hb dX4_look_15 (by decide) ?_
    refine z_ne hx hb (tgt := 20) ((r (15 + m)).toInt) 1 dX4_look_16 (by decide) rfl (by decide) (fun c_16 => ?_) (fun c_16 => ?_)
    · skip
      refine lv_aload_n hx hb dX4_look_20 rfl (lv_at hl 1 rfl) ?_
      refine lv_bipush (v := nI 15) hx hb dX4_look_21 (by decide) ?_
      refine lv_iload_n hx hb dX4_look_23 rfl (lv_at hl 2 rfl) ?_
      refine n_iadd hx hb dX4_look_24 ?_
      refine n_iald hx hb hK hP 2 0 rfl rfl (by omega) (by omega) dX4_look_25 ?_
      refine z0_le hx hb (tgt := 34) ((r (15 + m)).toInt) dX4_look_26 (by decide) rfl (fun c_26 => ?_) (fun c_26 => ?_)
      · skip
        have hw_1 : ([(h, .inr (4, [.ref an, .ref tr, .ref ah, .int ch, .ref ak, .ref ai, .ref ap, .int sy, .ref af, .int sp])), (af, .inl (gI G, 121, .inl (fun q9 => nI (fdy q9)))), (a, .inl (gI G, 2175, .inl r))] : va_W) = [(h, .inr (4, [.ref an, .ref tr, .ref ah, .int ch, .ref ak, .ref ai, .ref ap, .int sy, .ref af, .int sp])), (af, .inl (gI G, 121, .inl (fun q9 => nI (fdy q9)))), (a, .inl (gI G, 2175, .inl (lk1 r m)))] := (wlc rfl (wlc rfl (wlc (wli ((cI_f (by omega)).symm)) rfl)))
        rw [hw_1] at hP hD
        refine lv_aload_n hx hb dX4_look_34 rfl (lv_at hl 1 rfl) ?_
        refine lv_iload_n hx hb dX4_look_35 rfl (lv_at hl 2 rfl) ?_
        refine k_rvS (As := [.ref a, .int (nI m)]) (rest := []) (wr := [(h, .inr (4, [.ref an, .ref tr, .ref ah, .int ch, .ref ak, .ref ai, .ref ap, .int sy, .ref af, .int sp])), (af, .inl (gI G, 121, .inl (fun q9 => nI (fdy q9))))]) hF (c_X4_toEnd l G _ a (lk1 r m) m (by omega) (hB1)) mw_3_194 mw_3_195 mw_1_5 mw_3_196 hd_X4_toEnd ⟨Nat.le_of_ble_eq_true rfl, Nat.le_of_ble_eq_true rfl⟩ hKx hZ hS hP hD hA [2] [0, 1] rfl rfl (by decide) (by decide) (by decide) rfl rfl hl.1 rfl (Nat.le_of_ble_eq_true rfl) dX4_look_36 ⟨Nat.zero_le _, Nat.zero_le _⟩ (fun H locs hP hD hS => ?_)
        have hP : va_P G.1 vwCl [(h, .inr (4, [.ref an, .ref tr, .ref ah, .int ch, .ref ak, .ref ai, .ref ap, .int sy, .ref af, .int sp])), (af, .inl (gI G, 121, .inl (fun q9 => nI (fdy q9)))), (a, .inl (gI G, 2175, .inl (ten (lk1 r m) m)))] H := hP
        have hD : va_D A [(h, .inr (4, [.ref an, .ref tr, .ref ah, .int ch, .ref ak, .ref ai, .ref ap, .int sy, .ref af, .int sp])), (af, .inl (gI G, 121, .inl (fun q9 => nI (fdy q9)))), (a, .inl (gI G, 2175, .inl (ten (lk1 r m) m)))] := hD
        refine lv_aload_n hx hb dX4_look_39 rfl (lv_at hl 1 rfl) ?_
        refine k_rvS (As := [.ref a]) (rest := []) (wr := [(h, .inr (4, [.ref an, .ref tr, .ref ah, .int ch, .ref ak, .ref ai, .ref ap, .int sy, .ref af, .int sp])), (af, .inl (gI G, 121, .inl (fun q9 => nI (fdy q9))))]) hF (c_X4_foldAgain l G _ a (ten (lk1 r m) m) (hB2)) mw_3_102 mw_3_103 mw_1_5 mw_3_104 hd_X4_foldAgain ⟨Nat.le_of_ble_eq_true rfl, Nat.le_of_ble_eq_true rfl⟩ hKx hZ hS hP hD hA [2] [0, 1] rfl rfl (by decide) (by decide) (by decide) rfl rfl hl.1 rfl (Nat.le_of_ble_eq_true rfl) dX4_look_40 ⟨Nat.zero_le _, Nat.zero_le _⟩ (fun H locs hP hD hS => ?_)
        have hP : va_P G.1 vwCl [(h, .inr (4, [.ref an, .ref tr, .ref ah, .int ch, .ref ak, .ref ai, .ref ap, .int sy, .ref af, .int sp])), (af, .inl (gI G, 121, .inl (fun q9 => nI (fdy q9)))), (a, .inl (gI G, 2175, .inl (fga (ten (lk1 r m) m))))] H := hP
        have hD : va_D A [(h, .inr (4, [.ref an, .ref tr, .ref ah, .int ch, .ref ak, .ref ai, .ref ap, .int sy, .ref af, .int sp])), (af, .inl (gI G, 121, .inl (fun q9 => nI (fdy q9)))), (a, .inl (gI G, 2175, .inl (fga (ten (lk1 r m) m))))] := hD
        have hw_2 : ([(h, .inr (4, [.ref an, .ref tr, .ref ah, .int ch, .ref ak, .ref ai, .ref ap, .int sy, .ref af, .int sp])), (af, .inl (gI G, 121, .inl (fun q9 => nI (fdy q9)))), (a, .inl (gI G, 2175, .inl (fga (ten (lk1 r m) m))))] : va_W) = [(h, .inr (4, [.ref an, .ref tr, .ref ah, .int ch, .ref ak, .ref ai, .ref ap, .int sy, .ref af, .int sp])), (af, .inl (gI G, 121, .inl (fun q9 => nI (fdy q9)))), (a, .inl (gI G, 2175, .inl (lok r m)))] := (wlc rfl (wlc rfl (wlc (wli ((cI_t ⟨c_6, c_16⟩).symm)) rfl)))
        rw [hw_2] at hP hD
        have hPj := hP.sub (ws' := [(h, .inr (4, [.ref an, .ref tr, .ref ah, .int ch, .ref ak, .ref ai, .ref ap, .int sy, .ref af, .int sp])), (af, .inl (gI G, 121, .inl (fun q9 => nI (fdy q9)))), (a, .inl (gI G, 2175, .inl (lok r m)))]) [0, 1, 2] rfl
        exact e_wv hx hb hr hlk hPj hS dX4_look_43
      · skip
        refine lv_aload_n hx hb dX4_look_29 rfl (lv_at hl 1 rfl) ?_
        refine lv_iload_n hx hb dX4_look_30 rfl (lv_at hl 2 rfl) ?_
        refine k_rvS (As := [.ref a, .int (nI m)]) (rest := []) (wr := [(h, .inr (4, [.ref an, .ref tr, .ref ah, .int ch, .ref ak, .ref ai, .ref ap, .int sy, .ref af, .int sp])), (af, .inl (gI G, 121, .inl (fun q9 => nI (fdy q9))))]) hF (c_X4_unfold l G _ a r m (by omega)) mw_3_191 mw_3_192 mw_1_5 mw_3_193 hd_X4_unfold ⟨Nat.le_of_ble_eq_true rfl, Nat.le_of_ble_eq_true rfl⟩ hKx hZ hS hP hD hA [2] [0, 1] rfl rfl (by decide) (by decide) (by decide) rfl rfl hl.1 rfl (Nat.le_of_ble_eq_true rfl) dX4_look_31 ⟨Nat.zero_le _, Nat.zero_le _⟩ (fun H locs hP hD hS => ?_)
        have hP : va_P G.1 vwCl [(h, .inr (4, [.ref an, .ref tr, .ref ah, .int ch, .ref ak, .ref ai, .ref ap, .int sy, .ref af, .int sp])), (af, .inl (gI G, 121, .inl (fun q9 => nI (fdy q9)))), (a, .inl (gI G, 2175, .inl (ufd r m)))] H := hP
        have hD : va_D A [(h, .inr (4, [.ref an, .ref tr, .ref ah, .int ch, .ref ak, .ref ai, .ref ap, .int sy, .ref af, .int sp])), (af, .inl (gI G, 121, .inl (fun q9 => nI (fdy q9)))), (a, .inl (gI G, 2175, .inl (ufd r m)))] := hD
        have hw_3 : ([(h, .inr (4, [.ref an, .ref tr, .ref ah, .int ch, .ref ak, .ref ai, .ref ap, .int sy, .ref af, .int sp])), (af, .inl (gI G, 121, .inl (fun q9 => nI (fdy q9)))), (a, .inl (gI G, 2175, .inl (ufd r m)))] : va_W) = [(h, .inr (4, [.ref an, .ref tr, .ref ah, .int ch, .ref ak, .ref ai, .ref ap, .int sy, .ref af, .int sp])), (af, .inl (gI G, 121, .inl (fun q9 => nI (fdy q9)))), (a, .inl (gI G, 2175, .inl (lk1 r m)))] := (wlc rfl (wlc rfl (wlc (wli ((cI_t c_26).symm)) rfl)))
        rw [hw_3] at hP hD
        refine lv_aload_n hx hb dX4_look_34 rfl (lv_at hl 1 rfl) ?_
        refine lv_iload_n hx hb dX4_look_35 rfl (lv_at hl 2 rfl) ?_
        refine k_rvS (As := [.ref a, .int (nI m)]) (rest := []) (wr := [(h, .inr (4, [.ref an, .ref tr, .ref ah, .int ch, .ref ak, .ref ai, .ref ap, .int sy, .ref af, .int sp])), (af, .inl (gI G, 121, .inl (fun q9 => nI (fdy q9))))]) hF (c_X4_toEnd l G _ a (lk1 r m) m (by omega) (hB1)) mw_3_194 mw_3_195 mw_1_5 mw_3_196 hd_X4_toEnd ⟨Nat.le_of_ble_eq_true rfl, Nat.le_of_ble_eq_true rfl⟩ hKx hZ hS hP hD hA [2] [0, 1] rfl rfl (by decide) (by decide) (by decide) rfl rfl hl.1 rfl (Nat.le_of_ble_eq_true rfl) dX4_look_36 ⟨Nat.zero_le _, Nat.zero_le _⟩ (fun H locs hP hD hS => ?_)
        have hP : va_P G.1 vwCl [(h, .inr (4, [.ref an, .ref tr, .ref ah, .int ch, .ref ak, .ref ai, .ref ap, .int sy, .ref af, .int sp])), (af, .inl (gI G, 121, .inl (fun q9 => nI (fdy q9)))), (a, .inl (gI G, 2175, .inl (ten (lk1 r m) m)))] H := hP
        have hD : va_D A [(h, .inr (4, [.ref an, .ref tr, .ref ah, .int ch, .ref ak, .ref ai, .ref ap, .int sy, .ref af, .int sp])), (af, .inl (gI G, 121, .inl (fun q9 => nI (fdy q9)))), (a, .inl (gI G, 2175, .inl (ten (lk1 r m) m)))] := hD
        refine lv_aload_n hx hb dX4_look_39 rfl (lv_at hl 1 rfl) ?_
        refine k_rvS (As := [.ref a]) (rest := []) (wr := [(h, .inr (4, [.ref an, .ref tr, .ref ah, .int ch, .ref ak, .ref ai, .ref ap, .int sy, .ref af, .int sp])), (af, .inl (gI G, 121, .inl (fun q9 => nI (fdy q9))))]) hF (c_X4_foldAgain l G _ a (ten (lk1 r m) m) (hB2)) mw_3_102 mw_3_103 mw_1_5 mw_3_104 hd_X4_foldAgain ⟨Nat.le_of_ble_eq_true rfl, Nat.le_of_ble_eq_true rfl⟩ hKx hZ hS hP hD hA [2] [0, 1] rfl rfl (by decide) (by decide) (by decide) rfl rfl hl.1 rfl (Nat.le_of_ble_eq_true rfl) dX4_look_40 ⟨Nat.zero_le _, Nat.zero_le _⟩ (fun H locs hP hD hS => ?_)
        have hP : va_P G.1 vwCl [(h, .inr (4, [.ref an, .ref tr, .ref ah, .int ch, .ref ak, .ref ai, .ref ap, .int sy, .ref af, .int sp])), (af, .inl (gI G, 121, .inl (fun q9 => nI (fdy q9)))), (a, .inl (gI G, 2175, .inl (fga (ten (lk1 r m) m))))] H := hP
        have hD : va_D A [(h, .inr (4, [.ref an, .ref tr, .ref ah, .int ch, .ref ak, .ref ai, .ref ap, .int sy, .ref af, .int sp])), (af, .inl (gI G, 121, .inl (fun q9 => nI (fdy q9)))), (a, .inl (gI G, 2175, .inl (fga (ten (lk1 r m) m))))] := hD
        have hw_4 : ([(h, .inr (4, [.ref an, .ref tr, .ref ah, .int ch, .ref ak, .ref ai, .ref ap, .int sy, .ref af, .int sp])), (af, .inl (gI G, 121, .inl (fun q9 => nI (fdy q9)))), (a, .inl (gI G, 2175, .inl (fga (ten (lk1 r m) m))))] : va_W) = [(h, .inr (4, [.ref an, .ref tr, .ref ah, .int ch, .ref ak, .ref ai, .ref ap, .int sy, .ref af, .int sp])), (af, .inl (gI G, 121, .inl (fun q9 => nI (fdy q9)))), (a, .inl (gI G, 2175, .inl (lok r m)))] := (wlc rfl (wlc rfl (wlc (wli ((cI_t ⟨c_6, c_16⟩).symm)) rfl)))
        rw [hw_4] at hP hD
        have hPj := hP.sub (ws' := [(h, .inr (4, [.ref an, .ref tr, .ref ah, .int ch, .ref ak, .ref ai, .ref ap, .int sy, .ref af, .int sp])), (af, .inl (gI G, 121, .inl (fun q9 => nI (fdy q9)))), (a, .inl (gI G, 2175, .inl (lok r m)))]) [0, 1, 2] rfl
        exact e_wv hx hb hr hlk hPj hS dX4_look_43
    · skip
      have hPj := hP.sub (ws' := [(h, .inr (4, [.ref an, .ref tr, .ref ah, .int ch, .ref ak, .ref ai, .ref ap, .int sy, .ref af, .int sp])), (af, .inl (gI G, 121, .inl (fun q9 => nI (fdy q9)))), (a, .inl (gI G, 2175, .inl r))]) [0, 1, 2] rfl
      have hwj : ([(h, .inr (4, [.ref an, .ref tr, .ref ah, .int ch, .ref ak, .ref ai, .ref ap, .int sy, .ref af, .int sp])), (af, .inl (gI G, 121, .inl (fun q9 => nI (fdy q9)))), (a, .inl (gI G, 2175, .inl r))] : va_W) = [(h, .inr (4, [.ref an, .ref tr, .ref ah, .int ch, .ref ak, .ref ai, .ref ap, .int sy, .ref af, .int sp])), (af, .inl (gI G, 121, .inl (fun q9 => nI (fdy q9)))), (a, .inl (gI G, 2175, .inl (lok r m)))] := (wlc (rfl) (wlc (rfl) (wlc (wli (cI_f (fun z => by first | exact c_6 z.1 | exact z.2 c_16)).symm) rfl)))
      rw [hwj] at hPj
      exact e_wv hx hb hr hlk hPj hS dX4_look_19
set_option maxHeartbeats 4000000 in
set_option maxRecDepth 100000 in
theorem c_X4_lay (l : Launch) (G : gT) (sz : Nat) (h : Nat) (an : Nat) (tr : Nat) (ah : Nat) (ch : Int32) (ak : Nat) (ai : Nat) (ap : Nat) (sy : Int32) (af : Nat) (sp : Int32) (a : Nat) (r : Nat → Int32) (s : Nat) (m : Nat) (x : Int32) (P : Prop) (hm : m < 120) (hs : s < 16) (hB : Bs r 7) : Rv l G yX4_lay cX4_lay 8 none 7 sz [(h, .inr (4, [.ref an, .ref tr, .ref ah, .int ch, .ref ak, .ref ai, .ref ap, .int sy, .ref af, .int sp])), (af, .inl (gI G, 121, .inl (fun q9 => nI (fdy q9)))), (a, .inl (gI G, 2175, .inl r))] [.ref h, .ref a, .int (nI s), .int (nI m), .int x, .int (pI P)] [(h, .inr (4, [.ref an, .ref tr, .ref ah, .int ch, .ref ak, .ref ai, .ref ap, .int sy, .ref af, .int sp])), (af, .inl (gI G, 121, .inl (fun q9 => nI (fdy q9)))), (a, .inl (gI G, 2175, .inl (lay r s m x P)))] := by
  refine Rv.mk (by decide) (Nat.le_of_ble_eq_true rfl) (fun pq eq sq mq bq tq cq ls A hr hlk hF hKx hZ hA hP hD hS hl => ?_)
  have hx := hF.1
  have hb := hF.2.1
  have hml := hF.2.2.1
  have hown : sq.vm.findClass RX4 = some mq.cls := hF.2.2.2.1
  have hts : ∀ w ∈ GW, w.before _ sq = true := hF.2.2.2.2
  have hK := hKx.1
  have hl : lv_has ls 8 [(0, .ref h), (1, .ref a), (2, .int (nI s)), (3, .int (nI m)), (4, .int x), (5, .int (pI P))] := hl
  have hP : va_P G.1 vwCl [(h, .inr (4, [.ref an, .ref tr, .ref ah, .int ch, .ref ak, .ref ai, .ref ap, .int sy, .ref af, .int sp])), (af, .inl (gI G, 121, .inl (fun q9 => nI (fdy q9)))), (a, .inl (gI G, 2175, .inl r))] sq.heap := hP
  have hD : va_D A [(h, .inr (4, [.ref an, .ref tr, .ref ah, .int ch, .ref ak, .ref ai, .ref ap, .int sy, .ref af, .int sp])), (af, .inl (gI G, 121, .inl (fun q9 => nI (fdy q9)))), (a, .inl (gI G, 2175, .inl r))] := hD
  have hB1 := Bs_ly1 (m := m) hB (by omega)
  have hB2 := Bs_ly2 (m := m) hB (by omega)
  have hB3 := Bs_ly3 (s := s) (m := m) (x := x) (P := P) hB (by omega)
  have hB4 := Bs_ten (m := m) hB3 (Nat.le_refl 7) hm
  refine lv_aload_n hx hb dX4_lay_0 rfl (lv_at hl 0 rfl) ?_
  refine lv_aload_n hx hb dX4_lay_1 rfl (lv_at hl 1 rfl) ?_
  refine lv_iload_n hx hb dX4_lay_2 rfl (lv_at hl 3 rfl) ?_
  refine k_roV (ci := 4) (q0 := 0) (As := [.ref a, .int (nI m)]) (rest := []) hF (c_X4_isOld l G h an tr ah ch ak ai ap sy af sp a r m (by omega) (hB.mono (by omega))) hKx hP ⟨_, rfl, rfl⟩ rfl rfl mw_3_152 mw_3_154 mw_p1_12 mw_1_5 mw_3_155 hd_X4_isOld ⟨Nat.le_of_ble_eq_true rfl, Nat.le_of_ble_eq_true rfl⟩ (Rd.of hKx hZ hS) (hP.sub (ws' := [(h, .inr (4, [.ref an, .ref tr, .ref ah, .int ch, .ref ak, .ref ai, .ref ap, .int sy, .ref af, .int sp])), (af, .inl (gI G, 121, .inl (fun q9 => nI (fdy q9)))), (a, .inl (gI G, 2175, .inl r))]) [0, 1, 2] rfl) rfl hl.1 rfl (Nat.le_of_ble_eq_true rfl) dX4_lay_3 ⟨Nat.zero_le _, Nat.zero_le _⟩ ?_
  refine lv_istore (lv' := [(6, .int (pI (m + kpn r ≤ mot (td r)))), (0, .ref h), (1, .ref a), (2, .int (nI s)), (3, .int (nI m)), (4, .int x), (5, .int (pI P))]) hx hb dX4_lay_6 hl (by decide) rfl (fun ls hl => ?_)
  refine lv_iconst (v := nI 0) hx hb dX4_lay_8 (by decide) ?_
  refine lv_istore (lv' := [(7, .int (nI 0)), (6, .int (pI (m + kpn r ≤ mot (td r)))), (0, .ref h), (1, .ref a), (2, .int (nI s)), (3, .int (nI m)), (4, .int x), (5, .int (pI P))]) hx hb dX4_lay_9 hl (by decide) rfl (fun ls hl => ?_)
  have hPj := hP.sub (ws' := [(h, .inr (4, [.ref an, .ref tr, .ref ah, .int ch, .ref ak, .ref ai, .ref ap, .int sy, .ref af, .int sp])), (af, .inl (gI G, 121, .inl (fun q9 => nI (fdy q9)))), (a, .inl (gI G, 2175, .inl r))]) [0, 1, 2] rfl
  have hDj := hD.sub (ws' := [(h, .inr (4, [.ref an, .ref tr, .ref ah, .int ch, .ref ak, .ref ai, .ref ap, .int sy, .ref af, .int sp])), (af, .inl (gI G, 121, .inl (fun q9 => nI (fdy q9)))), (a, .inl (gI G, 2175, .inl r))]) [0, 1, 2] (by decide) rfl
  have hwj : ([(h, .inr (4, [.ref an, .ref tr, .ref ah, .int ch, .ref ak, .ref ai, .ref ap, .int sy, .ref af, .int sp])), (af, .inl (gI G, 121, .inl (fun q9 => nI (fdy q9)))), (a, .inl (gI G, 2175, .inl r))] : va_W) = [(h, .inr (4, [.ref an, .ref tr, .ref ah, .int ch, .ref ak, .ref ai, .ref ap, .int sy, .ref af, .int sp])), (af, .inl (gI G, 121, .inl (fun q9 => nI (fdy q9)))), (a, .inl (gI G, 2175, .inl (lnk r m 0)))] := (wlc (rfl) (wlc (rfl) (wlc (rfl) rfl)))
  rw [hwj] at hPj hDj
  refine wloopH [] (fun k H locs ls => (k ≤ 120) ∧ (k = 0 ∨ m + kpn r ≤ mot (td r)) ∧ va_P G.1 vwCl [(h, .inr (4, [.ref an, .ref tr, .ref ah, .int ch, .ref ak, .ref ai, .ref ap, .int sy, .ref af, .int sp])), (af, .inl (gI G, 121, .inl (fun q9 => nI (fdy q9)))), (a, .inl (gI G, 2175, .inl (lnk r m k)))] H ∧ va_D A [(h, .inr (4, [.ref an, .ref tr, .ref ah, .int ch, .ref ak, .ref ai, .ref ap, .int sy, .ref af, .int sp])), (af, .inl (gI G, 121, .inl (fun q9 => nI (fdy q9)))), (a, .inl (gI G, 2175, .inl (lnk r m k)))] ∧ va_S A sq.heap H locs ∧ lv_has ls 8 [(7, .int (nI k)), (6, .int (pI (m + kpn r ≤ mot (td r)))), (0, .ref h), (1, .ref a), (2, .int (nI s)), (3, .int (nI m)), (4, .int x), (5, .int (pI P))]) (fun k => 120 - k) ?_ 0 ⟨(by omega), (by omega), hPj, hDj, hS, lv_sub hl [0, 1, 2, 3, 4, 5, 6, 7] rfl⟩
  intro k ih
  intro H locs ls ⟨hk, hk0, hP, hD, hS, hl⟩
  refine lv_iload hx hb dX4_lay_11 (lv_at hl 0 rfl) ?_
  refine lv_bipush (v := nI 120) hx hb dX4_lay_13 (by decide) ?_
  refine z_ge hx hb (tgt := 59) ((k : Nat) : Int) 120 dX4_lay_15 (by decide) (toI (by omega)) (by decide) (fun c_15 => ?_) (fun c_15 => ?_)
  · skip
    have hk2 : k = 120 := by omega
    subst hk2
    have hol : m + kpn r ≤ mot (td r) := by omega
    have hw_1 : ([(h, .inr (4, [.ref an, .ref tr, .ref ah, .int ch, .ref ak, .ref ai, .ref ap, .int sy, .ref af, .int sp])), (af, .inl (gI G, 121, .inl (fun q9 => nI (fdy q9)))), (a, .inl (gI G, 2175, .inl (lnk r m 120)))] : va_W) = [(h, .inr (4, [.ref an, .ref tr, .ref ah, .int ch, .ref ak, .ref ai, .ref ap, .int sy, .ref af, .int sp])), (af, .inl (gI G, 121, .inl (fun q9 => nI (fdy q9)))), (a, .inl (gI G, 2175, .inl (ly1 r m)))] := (wlc rfl (wlc rfl (wlc (wli ((cI_t hol).symm)) rfl)))
    rw [hw_1] at hP hD
    refine wjoinH 78 [] (fun H locs ls => va_P G.1 vwCl [(h, .inr (4, [.ref an, .ref tr, .ref ah, .int ch, .ref ak, .ref ai, .ref ap, .int sy, .ref af, .int sp])), (af, .inl (gI G, 121, .inl (fun q9 => nI (fdy q9)))), (a, .inl (gI G, 2175, .inl (ly2 r m)))] H ∧ va_D A [(h, .inr (4, [.ref an, .ref tr, .ref ah, .int ch, .ref ak, .ref ai, .ref ap, .int sy, .ref af, .int sp])), (af, .inl (gI G, 121, .inl (fun q9 => nI (fdy q9)))), (a, .inl (gI G, 2175, .inl (ly2 r m)))] ∧ va_S A sq.heap H locs ∧ lv_has ls 8 [(6, .int (pI (m + kpn r ≤ mot (td r)))), (0, .ref h), (1, .ref a), (2, .int (nI s)), (3, .int (nI m)), (4, .int x), (5, .int (pI P))]) ?_ (fun J78 => ?_)
    · skip
      intro H locs ls ⟨hP, hD, hS, hl⟩
      refine lv_aload_n hx hb dX4_lay_78 rfl (lv_at hl 2 rfl) ?_
      refine lv_iload_n hx hb dX4_lay_79 rfl (lv_at hl 4 rfl) ?_
      refine lv_iload_n hx hb dX4_lay_80 rfl (lv_at hl 3 rfl) ?_
      refine k_roS (As := [.int (nI m), .int (nI s)]) (rest := [.ref a]) hF (c_X4_at l G m s) mw_3_117 mw_3_118 mw_1_5 mw_3_119 hd_X4_at ⟨Nat.le_of_ble_eq_true rfl, Nat.le_of_ble_eq_true rfl⟩ (Rd.of hKx hZ hS) (hP.sub (ws' := []) [] rfl) rfl hl.1 rfl (Nat.le_of_ble_eq_true rfl) dX4_lay_81 ⟨Nat.zero_le _, Nat.zero_le _⟩ ?_
      refine lv_iload hx hb dX4_lay_84 (lv_at hl 6 rfl) ?_
      refine p0_eq hx hb (tgt := 102) dX4_lay_86 (by decide) (fun c_86 => ?_) (fun c_86 => ?_)
      · skip
        refine lv_aload_n hx hb dX4_lay_102 rfl (lv_at hl 2 rfl) ?_
        refine lv_iload_n hx hb dX4_lay_103 rfl (lv_at hl 4 rfl) ?_
        refine lv_iload_n hx hb dX4_lay_104 rfl (lv_at hl 3 rfl) ?_
        refine k_roS (As := [.int (nI m), .int (nI s)]) (rest := [.ref a, .int (nI (255 + 16 * m + s)), .ref a]) hF (c_X4_at l G m s) mw_3_117 mw_3_118 mw_1_5 mw_3_119 hd_X4_at ⟨Nat.le_of_ble_eq_true rfl, Nat.le_of_ble_eq_true rfl⟩ (Rd.of hKx hZ hS) (hP.sub (ws' := []) [] rfl) rfl hl.1 rfl (Nat.le_of_ble_eq_true rfl) dX4_lay_105 ⟨Nat.zero_le _, Nat.zero_le _⟩ ?_
        refine n_iald hx hb hK hP 2 0 rfl rfl (by omega) (by omega) dX4_lay_108 ?_
        refine lv_iload hx hb dX4_lay_109 (lv_at hl 5 rfl) ?_
        refine lv_iconst (v := (-1)) hx hb dX4_lay_111 (by decide) ?_
        refine lv_ixor hx hb dX4_lay_112 ?_
        refine lv_iand hx hb dX4_lay_113 ?_
        refine n_iast hx hb hK hP hD hS 2 0 rfl rfl (by omega) (by omega) dX4_lay_114 (fun H locs hP hD hS => ?_)
        have hP : va_P G.1 vwCl [(h, .inr (4, [.ref an, .ref tr, .ref ah, .int ch, .ref ak, .ref ai, .ref ap, .int sy, .ref af, .int sp])), (af, .inl (gI G, 121, .inl (fun q9 => nI (fdy q9)))), (a, .inl (gI G, 2175, .inl (upd (ly2 r m) (255 + 16 * m + s) (((ly2 r m) (255 + 16 * m + s)) &&& (x ^^^ (-1))))))] H := hP
        have hD : va_D A [(h, .inr (4, [.ref an, .ref tr, .ref ah, .int ch, .ref ak, .ref ai, .ref ap, .int sy, .ref af, .int sp])), (af, .inl (gI G, 121, .inl (fun q9 => nI (fdy q9)))), (a, .inl (gI G, 2175, .inl (upd (ly2 r m) (255 + 16 * m + s) (((ly2 r m) (255 + 16 * m + s)) &&& (x ^^^ (-1))))))] := hD
        have hw_2 : ([(h, .inr (4, [.ref an, .ref tr, .ref ah, .int ch, .ref ak, .ref ai, .ref ap, .int sy, .ref af, .int sp])), (af, .inl (gI G, 121, .inl (fun q9 => nI (fdy q9)))), (a, .inl (gI G, 2175, .inl (upd (ly2 r m) (255 + 16 * m + s) (((ly2 r m) (255 + 16 * m + s)) &&& (x ^^^ (-1))))))] : va_W) = [(h, .inr (4, [.ref an, .ref tr, .ref ah, .int ch, .ref ak, .ref ai, .ref ap, .int sy, .ref af, .int sp])), (af, .inl (gI G, 121, .inl (fun q9 => nI (fdy q9)))), (a, .inl (gI G, 2175, .inl (ly3 r s m x P)))] := (wlc rfl (wlc rfl (wlc (wli (by unfold ly3 lyv; first | exact congrArg (upd _ _) (cI_t c_86).symm | exact congrArg (upd _ _) (cI_f c_86).symm)) rfl)))
        rw [hw_2] at hP hD
        refine lv_iload hx hb dX4_lay_115 (lv_at hl 0 rfl) ?_
        refine p0_eq hx hb (tgt := 129) dX4_lay_117 (by decide) (fun c_117 => ?_) (fun c_117 => ?_)
        · skip
          have hPj := hP.sub (ws' := [(h, .inr (4, [.ref an, .ref tr, .ref ah, .int ch, .ref ak, .ref ai, .ref ap, .int sy, .ref af, .int sp])), (af, .inl (gI G, 121, .inl (fun q9 => nI (fdy q9)))), (a, .inl (gI G, 2175, .inl (ly3 r s m x P)))]) [0, 1, 2] rfl
          have hwj : ([(h, .inr (4, [.ref an, .ref tr, .ref ah, .int ch, .ref ak, .ref ai, .ref ap, .int sy, .ref af, .int sp])), (af, .inl (gI G, 121, .inl (fun q9 => nI (fdy q9)))), (a, .inl (gI G, 2175, .inl (ly3 r s m x P)))] : va_W) = [(h, .inr (4, [.ref an, .ref tr, .ref ah, .int ch, .ref ak, .ref ai, .ref ap, .int sy, .ref af, .int sp])), (af, .inl (gI G, 121, .inl (fun q9 => nI (fdy q9)))), (a, .inl (gI G, 2175, .inl (lay r s m x P)))] := (wlc (rfl) (wlc (rfl) (wlc (by first | rfl | exact wli (cI_f c_117).symm) rfl)))
          rw [hwj] at hPj
          exact e_wv hx hb hr hlk hPj hS dX4_lay_129
        · skip
          refine lv_aload_n hx hb dX4_lay_120 rfl (lv_at hl 2 rfl) ?_
          refine lv_iload_n hx hb dX4_lay_121 rfl (lv_at hl 4 rfl) ?_
          refine k_rvS (As := [.ref a, .int (nI m)]) (rest := []) (wr := [(h, .inr (4, [.ref an, .ref tr, .ref ah, .int ch, .ref ak, .ref ai, .ref ap, .int sy, .ref af, .int sp])), (af, .inl (gI G, 121, .inl (fun q9 => nI (fdy q9))))]) hF (c_X4_toEnd l G _ a (ly3 r s m x P) m (by omega) (hB3)) mw_3_194 mw_3_195 mw_1_5 mw_3_196 hd_X4_toEnd ⟨Nat.le_of_ble_eq_true rfl, Nat.le_of_ble_eq_true rfl⟩ hKx hZ hS hP hD hA [2] [0, 1] rfl rfl (by decide) (by decide) (by decide) rfl rfl hl.1 rfl (Nat.le_of_ble_eq_true rfl) dX4_lay_122 ⟨Nat.zero_le _, Nat.zero_le _⟩ (fun H locs hP hD hS => ?_)
          have hP : va_P G.1 vwCl [(h, .inr (4, [.ref an, .ref tr, .ref ah, .int ch, .ref ak, .ref ai, .ref ap, .int sy, .ref af, .int sp])), (af, .inl (gI G, 121, .inl (fun q9 => nI (fdy q9)))), (a, .inl (gI G, 2175, .inl (ten (ly3 r s m x P) m)))] H := hP
          have hD : va_D A [(h, .inr (4, [.ref an, .ref tr, .ref ah, .int ch, .ref ak, .ref ai, .ref ap, .int sy, .ref af, .int sp])), (af, .inl (gI G, 121, .inl (fun q9 => nI (fdy q9)))), (a, .inl (gI G, 2175, .inl (ten (ly3 r s m x P) m)))] := hD
          refine lv_aload_n hx hb dX4_lay_125 rfl (lv_at hl 2 rfl) ?_
          refine k_rvS (As := [.ref a]) (rest := []) (wr := [(h, .inr (4, [.ref an, .ref tr, .ref ah, .int ch, .ref ak, .ref ai, .ref ap, .int sy, .ref af, .int sp])), (af, .inl (gI G, 121, .inl (fun q9 => nI (fdy q9))))]) hF (c_X4_foldAgain l G _ a (ten (ly3 r s m x P) m) (hB4)) mw_3_102 mw_3_103 mw_1_5 mw_3_104 hd_X4_foldAgain ⟨Nat.le_of_ble_eq_true rfl, Nat.le_of_ble_eq_true rfl⟩ hKx hZ hS hP hD hA [2] [0, 1] rfl rfl (by decide) (by decide) (by decide) rfl rfl hl.1 rfl (Nat.le_of_ble_eq_true rfl) dX4_lay_126 ⟨Nat.zero_le _, Nat.zero_le _⟩ (fun H locs hP hD hS => ?_)
          have hP : va_P G.1 vwCl [(h, .inr (4, [.ref an, .ref tr, .ref ah, .int ch, .ref ak, .ref ai, .ref ap, .int sy, .ref af, .int sp])), (af, .inl (gI G, 121, .inl (fun q9 => nI (fdy q9)))), (a, .inl (gI G, 2175, .inl (fga (ten (ly3 r s m x P) m))))] H := hP
          have hD : va_D A [(h, .inr (4, [.ref an, .ref tr, .ref ah, .int ch, .ref ak, .ref ai, .ref ap, .int sy, .ref af, .int sp])), (af, .inl (gI G, 121, .inl (fun q9 => nI (fdy q9)))), (a, .inl (gI G, 2175, .inl (fga (ten (ly3 r s m x P) m))))] := hD
          have hw_3 : ([(h, .inr (4, [.ref an, .ref tr, .ref ah, .int ch, .ref ak, .ref ai, .ref ap, .int sy, .ref af, .int sp])), (af, .inl (gI G, 121, .inl (fun q9 => nI (fdy q9)))), (a, .inl (gI G, 2175, .inl (fga (ten (ly3 r s m x P) m))))] : va_W) = [(h, .inr (4, [.ref an, .ref tr, .ref ah, .int ch, .ref ak, .ref ai, .ref ap, .int sy, .ref af, .int sp])), (af, .inl (gI G, 121, .inl (fun q9 => nI (fdy q9)))), (a, .inl (gI G, 2175, .inl (lay r s m x P)))] := (wlc rfl (wlc rfl (wlc (wli ((cI_t c_117).symm)) rfl)))
          rw [hw_3] at hP hD
          have hPj := hP.sub (ws' := [(h, .inr (4, [.ref an, .ref tr, .ref ah, .int ch, .ref ak, .ref ai, .ref ap, .int sy, .ref af, .int sp])), (af, .inl (gI G, 121, .inl (fun q9 => nI (fdy q9)))), (a, .inl (gI G, 2175, .inl (lay r s m x P)))]) [0, 1, 2] rfl
          exact e_wv hx hb hr hlk hPj hS dX4_lay_129
      · skip
        refine lv_aload_n hx hb dX4_lay_89 rfl (lv_at hl 2 rfl) ?_
        refine lv_iload_n hx hb dX4_lay_90 rfl (lv_at hl 4 rfl) ?_
        refine lv_iload_n hx hb dX4_lay_91 rfl (lv_at hl 3 rfl) ?_
        refine k_roS (As := [.int (nI m), .int (nI s)]) (rest := [.ref a, .int (nI (255 + 16 * m + s)), .ref a]) hF (c_X4_at l G m s) mw_3_117 mw_3_118 mw_1_5 mw_3_119 hd_X4_at ⟨Nat.le_of_ble_eq_true rfl, Nat.le_of_ble_eq_true rfl⟩ (Rd.of hKx hZ hS) (hP.sub (ws' := []) [] rfl) rfl hl.1 rfl (Nat.le_of_ble_eq_true rfl) dX4_lay_92 ⟨Nat.zero_le _, Nat.zero_le _⟩ ?_
        refine n_iald hx hb hK hP 2 0 rfl rfl (by omega) (by omega) dX4_lay_95 ?_
        refine lv_iload hx hb dX4_lay_96 (lv_at hl 5 rfl) ?_
        refine lv_ior hx hb dX4_lay_98 ?_
        refine lv_goto (tgt := 114) hx hb dX4_lay_99 (by decide) ?_
        refine n_iast hx hb hK hP hD hS 2 0 rfl rfl (by omega) (by omega) dX4_lay_114 (fun H locs hP hD hS => ?_)
        have hP : va_P G.1 vwCl [(h, .inr (4, [.ref an, .ref tr, .ref ah, .int ch, .ref ak, .ref ai, .ref ap, .int sy, .ref af, .int sp])), (af, .inl (gI G, 121, .inl (fun q9 => nI (fdy q9)))), (a, .inl (gI G, 2175, .inl (upd (ly2 r m) (255 + 16 * m + s) (((ly2 r m) (255 + 16 * m + s)) ||| x))))] H := hP
        have hD : va_D A [(h, .inr (4, [.ref an, .ref tr, .ref ah, .int ch, .ref ak, .ref ai, .ref ap, .int sy, .ref af, .int sp])), (af, .inl (gI G, 121, .inl (fun q9 => nI (fdy q9)))), (a, .inl (gI G, 2175, .inl (upd (ly2 r m) (255 + 16 * m + s) (((ly2 r m) (255 + 16 * m + s)) ||| x))))] := hD
        have hw_4 : ([(h, .inr (4, [.ref an, .ref tr, .ref ah, .int ch, .ref ak, .ref ai, .ref ap, .int sy, .ref af, .int sp])), (af, .inl (gI G, 121, .inl (fun q9 => nI (fdy q9)))), (a, .inl (gI G, 2175, .inl (upd (ly2 r m) (255 + 16 * m + s) (((ly2 r m) (255 + 16 * m + s)) ||| x))))] : va_W) = [(h, .inr (4, [.ref an, .ref tr, .ref ah, .int ch, .ref ak, .ref ai, .ref ap, .int sy, .ref af, .int sp])), (af, .inl (gI G, 121, .inl (fun q9 => nI (fdy q9)))), (a, .inl (gI G, 2175, .inl (ly3 r s m x P)))] := (wlc rfl (wlc rfl (wlc (wli (by unfold ly3 lyv; first | exact congrArg (upd _ _) (cI_t c_86).symm | exact congrArg (upd _ _) (cI_f c_86).symm)) rfl)))
        rw [hw_4] at hP hD
        refine lv_iload hx hb dX4_lay_115 (lv_at hl 0 rfl) ?_
        refine p0_eq hx hb (tgt := 129) dX4_lay_117 (by decide) (fun c_117 => ?_) (fun c_117 => ?_)
        · skip
          have hPj := hP.sub (ws' := [(h, .inr (4, [.ref an, .ref tr, .ref ah, .int ch, .ref ak, .ref ai, .ref ap, .int sy, .ref af, .int sp])), (af, .inl (gI G, 121, .inl (fun q9 => nI (fdy q9)))), (a, .inl (gI G, 2175, .inl (ly3 r s m x P)))]) [0, 1, 2] rfl
          have hwj : ([(h, .inr (4, [.ref an, .ref tr, .ref ah, .int ch, .ref ak, .ref ai, .ref ap, .int sy, .ref af, .int sp])), (af, .inl (gI G, 121, .inl (fun q9 => nI (fdy q9)))), (a, .inl (gI G, 2175, .inl (ly3 r s m x P)))] : va_W) = [(h, .inr (4, [.ref an, .ref tr, .ref ah, .int ch, .ref ak, .ref ai, .ref ap, .int sy, .ref af, .int sp])), (af, .inl (gI G, 121, .inl (fun q9 => nI (fdy q9)))), (a, .inl (gI G, 2175, .inl (lay r s m x P)))] := (wlc (rfl) (wlc (rfl) (wlc (by first | rfl | exact wli (cI_f c_117).symm) rfl)))
          rw [hwj] at hPj
          exact e_wv hx hb hr hlk hPj hS dX4_lay_129
        · skip
          refine lv_aload_n hx hb dX4_lay_120 rfl (lv_at hl 2 rfl) ?_
          refine lv_iload_n hx hb dX4_lay_121 rfl (lv_at hl 4 rfl) ?_
          refine k_rvS (As := [.ref a, .int (nI m)]) (rest := []) (wr := [(h, .inr (4, [.ref an, .ref tr, .ref ah, .int ch, .ref ak, .ref ai, .ref ap, .int sy, .ref af, .int sp])), (af, .inl (gI G, 121, .inl (fun q9 => nI (fdy q9))))]) hF (c_X4_toEnd l G _ a (ly3 r s m x P) m (by omega) (hB3)) mw_3_194 mw_3_195 mw_1_5 mw_3_196 hd_X4_toEnd ⟨Nat.le_of_ble_eq_true rfl, Nat.le_of_ble_eq_true rfl⟩ hKx hZ hS hP hD hA [2] [0, 1] rfl rfl (by decide) (by decide) (by decide) rfl rfl hl.1 rfl (Nat.le_of_ble_eq_true rfl) dX4_lay_122 ⟨Nat.zero_le _, Nat.zero_le _⟩ (fun H locs hP hD hS => ?_)
          have hP : va_P G.1 vwCl [(h, .inr (4, [.ref an, .ref tr, .ref ah, .int ch, .ref ak, .ref ai, .ref ap, .int sy, .ref af, .int sp])), (af, .inl (gI G, 121, .inl (fun q9 => nI (fdy q9)))), (a, .inl (gI G, 2175, .inl (ten (ly3 r s m x P) m)))] H := hP
          have hD : va_D A [(h, .inr (4, [.ref an, .ref tr, .ref ah, .int ch, .ref ak, .ref ai, .ref ap, .int sy, .ref af, .int sp])), (af, .inl (gI G, 121, .inl (fun q9 => nI (fdy q9)))), (a, .inl (gI G, 2175, .inl (ten (ly3 r s m x P) m)))] := hD
          refine lv_aload_n hx hb dX4_lay_125 rfl (lv_at hl 2 rfl) ?_
          refine k_rvS (As := [.ref a]) (rest := []) (wr := [(h, .inr (4, [.ref an, .ref tr, .ref ah, .int ch, .ref ak, .ref ai, .ref ap, .int sy, .ref af, .int sp])), (af, .inl (gI G, 121, .inl (fun q9 => nI (fdy q9))))]) hF (c_X4_foldAgain l G _ a (ten (ly3 r s m x P) m) (hB4)) mw_3_102 mw_3_103 mw_1_5 mw_3_104 hd_X4_foldAgain ⟨Nat.le_of_ble_eq_true rfl, Nat.le_of_ble_eq_true rfl⟩ hKx hZ hS hP hD hA [2] [0, 1] rfl rfl (by decide) (by decide) (by decide) rfl rfl hl.1 rfl (Nat.le_of_ble_eq_true rfl) dX4_lay_126 ⟨Nat.zero_le _, Nat.zero_le _⟩ (fun H locs hP hD hS => ?_)
          have hP : va_P G.1 vwCl [(h, .inr (4, [.ref an, .ref tr, .ref ah, .int ch, .ref ak, .ref ai, .ref ap, .int sy, .ref af, .int sp])), (af, .inl (gI G, 121, .inl (fun q9 => nI (fdy q9)))), (a, .inl (gI G, 2175, .inl (fga (ten (ly3 r s m x P) m))))] H := hP
          have hD : va_D A [(h, .inr (4, [.ref an, .ref tr, .ref ah, .int ch, .ref ak, .ref ai, .ref ap, .int sy, .ref af, .int sp])), (af, .inl (gI G, 121, .inl (fun q9 => nI (fdy q9)))), (a, .inl (gI G, 2175, .inl (fga (ten (ly3 r s m x P) m))))] := hD
          have hw_5 : ([(h, .inr (4, [.ref an, .ref tr, .ref ah, .int ch, .ref ak, .ref ai, .ref ap, .int sy, .ref af, .int sp])), (af, .inl (gI G, 121, .inl (fun q9 => nI (fdy q9)))), (a, .inl (gI G, 2175, .inl (fga (ten (ly3 r s m x P) m))))] : va_W) = [(h, .inr (4, [.ref an, .ref tr, .ref ah, .int ch, .ref ak, .ref ai, .ref ap, .int sy, .ref af, .int sp])), (af, .inl (gI G, 121, .inl (fun q9 => nI (fdy q9)))), (a, .inl (gI G, 2175, .inl (lay r s m x P)))] := (wlc rfl (wlc rfl (wlc (wli ((cI_t c_117).symm)) rfl)))
          rw [hw_5] at hP hD
          have hPj := hP.sub (ws' := [(h, .inr (4, [.ref an, .ref tr, .ref ah, .int ch, .ref ak, .ref ai, .ref ap, .int sy, .ref af, .int sp])), (af, .inl (gI G, 121, .inl (fun q9 => nI (fdy q9)))), (a, .inl (gI G, 2175, .inl (lay r s m x P)))]) [0, 1, 2] rfl
          exact e_wv hx hb hr hlk hPj hS dX4_lay_129
    · skip
      refine lv_iload hx hb dX4_lay_59 (lv_at hl 1 rfl) ?_
      refine p0_eq hx hb (tgt := 78) dX4_lay_61 (by decide) (fun c_61 => ?_) (fun c_61 => ?_)
      · skip
        have w_6 : ([(h, .inr (4, [.ref an, .ref tr, .ref ah, .int ch, .ref ak, .ref ai, .ref ap, .int sy, .ref af, .int sp])), (af, .inl (gI G, 121, .inl (fun q9 => nI (fdy q9)))), (a, .inl (gI G, 2175, .inl (ly1 r m)))] : va_W) = [(h, .inr (4, [.ref an, .ref tr, .ref ah, .int ch, .ref ak, .ref ai, .ref ap, .int sy, .ref af, .int sp])), (af, .inl (gI G, 121, .inl (fun q9 => nI (fdy q9)))), (a, .inl (gI G, 2175, .inl (ly2 r m)))] := (wlc (rfl) (wlc (rfl) (wlc (wli (by unfold ly2; first | exact (cI_t (by omega)).symm | exact (cI_f (by omega)).symm)) rfl)))
        have hPj := hP.sub (ws' := [(h, .inr (4, [.ref an, .ref tr, .ref ah, .int ch, .ref ak, .ref ai, .ref ap, .int sy, .ref af, .int sp])), (af, .inl (gI G, 121, .inl (fun q9 => nI (fdy q9)))), (a, .inl (gI G, 2175, .inl (ly1 r m)))]) [0, 1, 2] rfl
        have hDj := hD.sub (ws' := [(h, .inr (4, [.ref an, .ref tr, .ref ah, .int ch, .ref ak, .ref ai, .ref ap, .int sy, .ref af, .int sp])), (af, .inl (gI G, 121, .inl (fun q9 => nI (fdy q9)))), (a, .inl (gI G, 2175, .inl (ly1 r m)))]) [0, 1, 2] (by decide) rfl
        rw [w_6] at hPj hDj
        exact J78 _ _ ls ⟨hPj, hDj, hS, lv_sub hl [1, 2, 3, 4, 5, 6, 7] rfl⟩
      · skip
        refine lv_aload_n hx hb dX4_lay_64 rfl (lv_at hl 3 rfl) ?_
        refine lv_bipush (v := nI 15) hx hb dX4_lay_65 (by decide) ?_
        refine lv_iload_n hx hb dX4_lay_67 rfl (lv_at hl 5 rfl) ?_
        refine n_iadd hx hb dX4_lay_68 ?_
        refine n_iald hx hb hK hP 2 0 rfl rfl (by omega) (by omega) dX4_lay_69 ?_
        refine z0_le hx hb (tgt := 78) (((ly1 r m) (15 + m)).toInt) dX4_lay_70 (by decide) rfl (fun c_70 => ?_) (fun c_70 => ?_)
        · skip
          have w_7 : ([(h, .inr (4, [.ref an, .ref tr, .ref ah, .int ch, .ref ak, .ref ai, .ref ap, .int sy, .ref af, .int sp])), (af, .inl (gI G, 121, .inl (fun q9 => nI (fdy q9)))), (a, .inl (gI G, 2175, .inl (ly1 r m)))] : va_W) = [(h, .inr (4, [.ref an, .ref tr, .ref ah, .int ch, .ref ak, .ref ai, .ref ap, .int sy, .ref af, .int sp])), (af, .inl (gI G, 121, .inl (fun q9 => nI (fdy q9)))), (a, .inl (gI G, 2175, .inl (ly2 r m)))] := (wlc (rfl) (wlc (rfl) (wlc (wli (by unfold ly2; first | exact (cI_t (by omega)).symm | exact (cI_f (by omega)).symm)) rfl)))
          have hPj := hP.sub (ws' := [(h, .inr (4, [.ref an, .ref tr, .ref ah, .int ch, .ref ak, .ref ai, .ref ap, .int sy, .ref af, .int sp])), (af, .inl (gI G, 121, .inl (fun q9 => nI (fdy q9)))), (a, .inl (gI G, 2175, .inl (ly1 r m)))]) [0, 1, 2] rfl
          have hDj := hD.sub (ws' := [(h, .inr (4, [.ref an, .ref tr, .ref ah, .int ch, .ref ak, .ref ai, .ref ap, .int sy, .ref af, .int sp])), (af, .inl (gI G, 121, .inl (fun q9 => nI (fdy q9)))), (a, .inl (gI G, 2175, .inl (ly1 r m)))]) [0, 1, 2] (by decide) rfl
          rw [w_7] at hPj hDj
          exact J78 _ _ ls ⟨hPj, hDj, hS, lv_sub hl [1, 2, 3, 4, 5, 6, 7] rfl⟩
        · skip
          refine lv_aload_n hx hb dX4_lay_73 rfl (lv_at hl 3 rfl) ?_
          refine lv_iload_n hx hb dX4_lay_74 rfl (lv_at hl 5 rfl) ?_
          refine k_rvS (As := [.ref a, .int (nI m)]) (rest := []) (wr := [(h, .inr (4, [.ref an, .ref tr, .ref ah, .int ch, .ref ak, .ref ai, .ref ap, .int sy, .ref af, .int sp])), (af, .inl (gI G, 121, .inl (fun q9 => nI (fdy q9))))]) hF (c_X4_unfold l G _ a (ly1 r m) m (by omega)) mw_3_191 mw_3_192 mw_1_5 mw_3_193 hd_X4_unfold ⟨Nat.le_of_ble_eq_true rfl, Nat.le_of_ble_eq_true rfl⟩ hKx hZ hS hP hD hA [2] [0, 1] rfl rfl (by decide) (by decide) (by decide) rfl rfl hl.1 rfl (Nat.le_of_ble_eq_true rfl) dX4_lay_75 ⟨Nat.zero_le _, Nat.zero_le _⟩ (fun H locs hP hD hS => ?_)
          have hP : va_P G.1 vwCl [(h, .inr (4, [.ref an, .ref tr, .ref ah, .int ch, .ref ak, .ref ai, .ref ap, .int sy, .ref af, .int sp])), (af, .inl (gI G, 121, .inl (fun q9 => nI (fdy q9)))), (a, .inl (gI G, 2175, .inl (ufd (ly1 r m) m)))] H := hP
          have hD : va_D A [(h, .inr (4, [.ref an, .ref tr, .ref ah, .int ch, .ref ak, .ref ai, .ref ap, .int sy, .ref af, .int sp])), (af, .inl (gI G, 121, .inl (fun q9 => nI (fdy q9)))), (a, .inl (gI G, 2175, .inl (ufd (ly1 r m) m)))] := hD
          have w_8 : ([(h, .inr (4, [.ref an, .ref tr, .ref ah, .int ch, .ref ak, .ref ai, .ref ap, .int sy, .ref af, .int sp])), (af, .inl (gI G, 121, .inl (fun q9 => nI (fdy q9)))), (a, .inl (gI G, 2175, .inl (ufd (ly1 r m) m)))] : va_W) = [(h, .inr (4, [.ref an, .ref tr, .ref ah, .int ch, .ref ak, .ref ai, .ref ap, .int sy, .ref af, .int sp])), (af, .inl (gI G, 121, .inl (fun q9 => nI (fdy q9)))), (a, .inl (gI G, 2175, .inl (ly2 r m)))] := (wlc (rfl) (wlc (rfl) (wlc (wli (by unfold ly2; first | exact (cI_t (by omega)).symm | exact (cI_f (by omega)).symm)) rfl)))
          have hPj := hP.sub (ws' := [(h, .inr (4, [.ref an, .ref tr, .ref ah, .int ch, .ref ak, .ref ai, .ref ap, .int sy, .ref af, .int sp])), (af, .inl (gI G, 121, .inl (fun q9 => nI (fdy q9)))), (a, .inl (gI G, 2175, .inl (ufd (ly1 r m) m)))]) [0, 1, 2] rfl
          have hDj := hD.sub (ws' := [(h, .inr (4, [.ref an, .ref tr, .ref ah, .int ch, .ref ak, .ref ai, .ref ap, .int sy, .ref af, .int sp])), (af, .inl (gI G, 121, .inl (fun q9 => nI (fdy q9)))), (a, .inl (gI G, 2175, .inl (ufd (ly1 r m) m)))]) [0, 1, 2] (by decide) rfl
          rw [w_8] at hPj hDj
          exact J78 _ _ ls ⟨hPj, hDj, hS, lv_sub hl [1, 2, 3, 4, 5, 6, 7] rfl⟩
  · skip
    refine lv_iload hx hb dX4_lay_18 (lv_at hl 1 rfl) ?_
    refine p0_eq hx hb (tgt := 59) dX4_lay_20 (by decide) (fun c_20 => ?_) (fun c_20 => ?_)
    · skip
      have hk2 : k = 0 := by omega
      subst hk2
      have hw_9 : ([(h, .inr (4, [.ref an, .ref tr, .ref ah, .int ch, .ref ak, .ref ai, .ref ap, .int sy, .ref af, .int sp])), (af, .inl (gI G, 121, .inl (fun q9 => nI (fdy q9)))), (a, .inl (gI G, 2175, .inl (lnk r m 0)))] : va_W) = [(h, .inr (4, [.ref an, .ref tr, .ref ah, .int ch, .ref ak, .ref ai, .ref ap, .int sy, .ref af, .int sp])), (af, .inl (gI G, 121, .inl (fun q9 => nI (fdy q9)))), (a, .inl (gI G, 2175, .inl (ly1 r m)))] := (wlc rfl (wlc rfl (wlc (wli ((cI_f c_20).symm)) rfl)))
      rw [hw_9] at hP hD
      refine wjoinH 78 [] (fun H locs ls => va_P G.1 vwCl [(h, .inr (4, [.ref an, .ref tr, .ref ah, .int ch, .ref ak, .ref ai, .ref ap, .int sy, .ref af, .int sp])), (af, .inl (gI G, 121, .inl (fun q9 => nI (fdy q9)))), (a, .inl (gI G, 2175, .inl (ly2 r m)))] H ∧ va_D A [(h, .inr (4, [.ref an, .ref tr, .ref ah, .int ch, .ref ak, .ref ai, .ref ap, .int sy, .ref af, .int sp])), (af, .inl (gI G, 121, .inl (fun q9 => nI (fdy q9)))), (a, .inl (gI G, 2175, .inl (ly2 r m)))] ∧ va_S A sq.heap H locs ∧ lv_has ls 8 [(6, .int (pI (m + kpn r ≤ mot (td r)))), (0, .ref h), (1, .ref a), (2, .int (nI s)), (3, .int (nI m)), (4, .int x), (5, .int (pI P))]) ?_ (fun J78 => ?_)
      · skip
        intro H locs ls ⟨hP, hD, hS, hl⟩
        refine lv_aload_n hx hb dX4_lay_78 rfl (lv_at hl 2 rfl) ?_
        refine lv_iload_n hx hb dX4_lay_79 rfl (lv_at hl 4 rfl) ?_
        refine lv_iload_n hx hb dX4_lay_80 rfl (lv_at hl 3 rfl) ?_
        refine k_roS (As := [.int (nI m), .int (nI s)]) (rest := [.ref a]) hF (c_X4_at l G m s) mw_3_117 mw_3_118 mw_1_5 mw_3_119 hd_X4_at ⟨Nat.le_of_ble_eq_true rfl, Nat.le_of_ble_eq_true rfl⟩ (Rd.of hKx hZ hS) (hP.sub (ws' := []) [] rfl) rfl hl.1 rfl (Nat.le_of_ble_eq_true rfl) dX4_lay_81 ⟨Nat.zero_le _, Nat.zero_le _⟩ ?_
        refine lv_iload hx hb dX4_lay_84 (lv_at hl 6 rfl) ?_
        refine p0_eq hx hb (tgt := 102) dX4_lay_86 (by decide) (fun c_86 => ?_) (fun c_86 => ?_)
        · skip
          refine lv_aload_n hx hb dX4_lay_102 rfl (lv_at hl 2 rfl) ?_
          refine lv_iload_n hx hb dX4_lay_103 rfl (lv_at hl 4 rfl) ?_
          refine lv_iload_n hx hb dX4_lay_104 rfl (lv_at hl 3 rfl) ?_
          refine k_roS (As := [.int (nI m), .int (nI s)]) (rest := [.ref a, .int (nI (255 + 16 * m + s)), .ref a]) hF (c_X4_at l G m s) mw_3_117 mw_3_118 mw_1_5 mw_3_119 hd_X4_at ⟨Nat.le_of_ble_eq_true rfl, Nat.le_of_ble_eq_true rfl⟩ (Rd.of hKx hZ hS) (hP.sub (ws' := []) [] rfl) rfl hl.1 rfl (Nat.le_of_ble_eq_true rfl) dX4_lay_105 ⟨Nat.zero_le _, Nat.zero_le _⟩ ?_
          refine n_iald hx hb hK hP 2 0 rfl rfl (by omega) (by omega) dX4_lay_108 ?_
          refine lv_iload hx hb dX4_lay_109 (lv_at hl 5 rfl) ?_
          refine lv_iconst (v := (-1)) hx hb dX4_lay_111 (by decide) ?_
          refine lv_ixor hx hb dX4_lay_112 ?_
          refine lv_iand hx hb dX4_lay_113 ?_
          refine n_iast hx hb hK hP hD hS 2 0 rfl rfl (by omega) (by omega) dX4_lay_114 (fun H locs hP hD hS => ?_)
          have hP : va_P G.1 vwCl [(h, .inr (4, [.ref an, .ref tr, .ref ah, .int ch, .ref ak, .ref ai, .ref ap, .int sy, .ref af, .int sp])), (af, .inl (gI G, 121, .inl (fun q9 => nI (fdy q9)))), (a, .inl (gI G, 2175, .inl (upd (ly2 r m) (255 + 16 * m + s) (((ly2 r m) (255 + 16 * m + s)) &&& (x ^^^ (-1))))))] H := hP
          have hD : va_D A [(h, .inr (4, [.ref an, .ref tr, .ref ah, .int ch, .ref ak, .ref ai, .ref ap, .int sy, .ref af, .int sp])), (af, .inl (gI G, 121, .inl (fun q9 => nI (fdy q9)))), (a, .inl (gI G, 2175, .inl (upd (ly2 r m) (255 + 16 * m + s) (((ly2 r m) (255 + 16 * m + s)) &&& (x ^^^ (-1))))))] := hD
          have hw_10 : ([(h, .inr (4, [.ref an, .ref tr, .ref ah, .int ch, .ref ak, .ref ai, .ref ap, .int sy, .ref af, .int sp])), (af, .inl (gI G, 121, .inl (fun q9 => nI (fdy q9)))), (a, .inl (gI G, 2175, .inl (upd (ly2 r m) (255 + 16 * m + s) (((ly2 r m) (255 + 16 * m + s)) &&& (x ^^^ (-1))))))] : va_W) = [(h, .inr (4, [.ref an, .ref tr, .ref ah, .int ch, .ref ak, .ref ai, .ref ap, .int sy, .ref af, .int sp])), (af, .inl (gI G, 121, .inl (fun q9 => nI (fdy q9)))), (a, .inl (gI G, 2175, .inl (ly3 r s m x P)))] := (wlc rfl (wlc rfl (wlc (wli (by unfold ly3 lyv; first | exact congrArg (upd _ _) (cI_t c_86).symm | exact congrArg (upd _ _) (cI_f c_86).symm)) rfl)))
          rw [hw_10] at hP hD
          refine lv_iload hx hb dX4_lay_115 (lv_at hl 0 rfl) ?_
          refine p0_eq hx hb (tgt := 129) dX4_lay_117 (by decide) (fun c_117 => ?_) (fun c_117 => ?_)
          · skip
            have hPj := hP.sub (ws' := [(h, .inr (4, [.ref an, .ref tr, .ref ah, .int ch, .ref ak, .ref ai, .ref ap, .int sy, .ref af, .int sp])), (af, .inl (gI G, 121, .inl (fun q9 => nI (fdy q9)))), (a, .inl (gI G, 2175, .inl (ly3 r s m x P)))]) [0, 1, 2] rfl
            have hwj : ([(h, .inr (4, [.ref an, .ref tr, .ref ah, .int ch, .ref ak, .ref ai, .ref ap, .int sy, .ref af, .int sp])), (af, .inl (gI G, 121, .inl (fun q9 => nI (fdy q9)))), (a, .inl (gI G, 2175, .inl (ly3 r s m x P)))] : va_W) = [(h, .inr (4, [.ref an, .ref tr, .ref ah, .int ch, .ref ak, .ref ai, .ref ap, .int sy, .ref af, .int sp])), (af, .inl (gI G, 121, .inl (fun q9 => nI (fdy q9)))), (a, .inl (gI G, 2175, .inl (lay r s m x P)))] := (wlc (rfl) (wlc (rfl) (wlc (by first | rfl | exact wli (cI_f c_117).symm) rfl)))
            rw [hwj] at hPj
            exact e_wv hx hb hr hlk hPj hS dX4_lay_129
          · skip
            refine lv_aload_n hx hb dX4_lay_120 rfl (lv_at hl 2 rfl) ?_
            refine lv_iload_n hx hb dX4_lay_121 rfl (lv_at hl 4 rfl) ?_
            refine k_rvS (As := [.ref a, .int (nI m)]) (rest := []) (wr := [(h, .inr (4, [.ref an, .ref tr, .ref ah, .int ch, .ref ak, .ref ai, .ref ap, .int sy, .ref af, .int sp])), (af, .inl (gI G, 121, .inl (fun q9 => nI (fdy q9))))]) hF (c_X4_toEnd l G _ a (ly3 r s m x P) m (by omega) (hB3)) mw_3_194 mw_3_195 mw_1_5 mw_3_196 hd_X4_toEnd ⟨Nat.le_of_ble_eq_true rfl, Nat.le_of_ble_eq_true rfl⟩ hKx hZ hS hP hD hA [2] [0, 1] rfl rfl (by decide) (by decide) (by decide) rfl rfl hl.1 rfl (Nat.le_of_ble_eq_true rfl) dX4_lay_122 ⟨Nat.zero_le _, Nat.zero_le _⟩ (fun H locs hP hD hS => ?_)
            have hP : va_P G.1 vwCl [(h, .inr (4, [.ref an, .ref tr, .ref ah, .int ch, .ref ak, .ref ai, .ref ap, .int sy, .ref af, .int sp])), (af, .inl (gI G, 121, .inl (fun q9 => nI (fdy q9)))), (a, .inl (gI G, 2175, .inl (ten (ly3 r s m x P) m)))] H := hP
            have hD : va_D A [(h, .inr (4, [.ref an, .ref tr, .ref ah, .int ch, .ref ak, .ref ai, .ref ap, .int sy, .ref af, .int sp])), (af, .inl (gI G, 121, .inl (fun q9 => nI (fdy q9)))), (a, .inl (gI G, 2175, .inl (ten (ly3 r s m x P) m)))] := hD
            refine lv_aload_n hx hb dX4_lay_125 rfl (lv_at hl 2 rfl) ?_
            refine k_rvS (As := [.ref a]) (rest := []) (wr := [(h, .inr (4, [.ref an, .ref tr, .ref ah, .int ch, .ref ak, .ref ai, .ref ap, .int sy, .ref af, .int sp])), (af, .inl (gI G, 121, .inl (fun q9 => nI (fdy q9))))]) hF (c_X4_foldAgain l G _ a (ten (ly3 r s m x P) m) (hB4)) mw_3_102 mw_3_103 mw_1_5 mw_3_104 hd_X4_foldAgain ⟨Nat.le_of_ble_eq_true rfl, Nat.le_of_ble_eq_true rfl⟩ hKx hZ hS hP hD hA [2] [0, 1] rfl rfl (by decide) (by decide) (by decide) rfl rfl hl.1 rfl (Nat.le_of_ble_eq_true rfl) dX4_lay_126 ⟨Nat.zero_le _, Nat.zero_le _⟩ (fun H locs hP hD hS => ?_)
            have hP : va_P G.1 vwCl [(h, .inr (4, [.ref an, .ref tr, .ref ah, .int ch, .ref ak, .ref ai, .ref ap, .int sy, .ref af, .int sp])), (af, .inl (gI G, 121, .inl (fun q9 => nI (fdy q9)))), (a, .inl (gI G, 2175, .inl (fga (ten (ly3 r s m x P) m))))] H := hP
            have hD : va_D A [(h, .inr (4, [.ref an, .ref tr, .ref ah, .int ch, .ref ak, .ref ai, .ref ap, .int sy, .ref af, .int sp])), (af, .inl (gI G, 121, .inl (fun q9 => nI (fdy q9)))), (a, .inl (gI G, 2175, .inl (fga (ten (ly3 r s m x P) m))))] := hD
            have hw_11 : ([(h, .inr (4, [.ref an, .ref tr, .ref ah, .int ch, .ref ak, .ref ai, .ref ap, .int sy, .ref af, .int sp])), (af, .inl (gI G, 121, .inl (fun q9 => nI (fdy q9)))), (a, .inl (gI G, 2175, .inl (fga (ten (ly3 r s m x P) m))))] : va_W) = [(h, .inr (4, [.ref an, .ref tr, .ref ah, .int ch, .ref ak, .ref ai, .ref ap, .int sy, .ref af, .int sp])), (af, .inl (gI G, 121, .inl (fun q9 => nI (fdy q9)))), (a, .inl (gI G, 2175, .inl (lay r s m x P)))] := (wlc rfl (wlc rfl (wlc (wli ((cI_t c_117).symm)) rfl)))
            rw [hw_11] at hP hD
            have hPj := hP.sub (ws' := [(h, .inr (4, [.ref an, .ref tr, .ref ah, .int ch, .ref ak, .ref ai, .ref ap, .int sy, .ref af, .int sp])), (af, .inl (gI G, 121, .inl (fun q9 => nI (fdy q9)))), (a, .inl (gI G, 2175, .inl (lay r s m x P)))]) [0, 1, 2] rfl
            exact e_wv hx hb hr hlk hPj hS dX4_lay_129
        · skip
          refine lv_aload_n hx hb dX4_lay_89 rfl (lv_at hl 2 rfl) ?_
          refine lv_iload_n hx hb dX4_lay_90 rfl (lv_at hl 4 rfl) ?_
          refine lv_iload_n hx hb dX4_lay_91 rfl (lv_at hl 3 rfl) ?_
          refine k_roS (As := [.int (nI m), .int (nI s)]) (rest := [.ref a, .int (nI (255 + 16 * m + s)), .ref a]) hF (c_X4_at l G m s) mw_3_117 mw_3_118 mw_1_5 mw_3_119 hd_X4_at ⟨Nat.le_of_ble_eq_true rfl, Nat.le_of_ble_eq_true rfl⟩ (Rd.of hKx hZ hS) (hP.sub (ws' := []) [] rfl) rfl hl.1 rfl (Nat.le_of_ble_eq_true rfl) dX4_lay_92 ⟨Nat.zero_le _, Nat.zero_le _⟩ ?_
          refine n_iald hx hb hK hP 2 0 rfl rfl (by omega) (by omega) dX4_lay_95 ?_
          refine lv_iload hx hb dX4_lay_96 (lv_at hl 5 rfl) ?_
          refine lv_ior hx hb dX4_lay_98 ?_
          refine lv_goto (tgt := 114) hx hb dX4_lay_99 (by decide) ?_
          refine n_iast hx hb hK hP hD hS 2 0 rfl rfl (by omega) (by omega) dX4_lay_114 (fun H locs hP hD hS => ?_)
          have hP : va_P G.1 vwCl [(h, .inr (4, [.ref an, .ref tr, .ref ah, .int ch, .ref ak, .ref ai, .ref ap, .int sy, .ref af, .int sp])), (af, .inl (gI G, 121, .inl (fun q9 => nI (fdy q9)))), (a, .inl (gI G, 2175, .inl (upd (ly2 r m) (255 + 16 * m + s) (((ly2 r m) (255 + 16 * m + s)) ||| x))))] H := hP
          have hD : va_D A [(h, .inr (4, [.ref an, .ref tr, .ref ah, .int ch, .ref ak, .ref ai, .ref ap, .int sy, .ref af, .int sp])), (af, .inl (gI G, 121, .inl (fun q9 => nI (fdy q9)))), (a, .inl (gI G, 2175, .inl (upd (ly2 r m) (255 + 16 * m + s) (((ly2 r m) (255 + 16 * m + s)) ||| x))))] := hD
          have hw_12 : ([(h, .inr (4, [.ref an, .ref tr, .ref ah, .int ch, .ref ak, .ref ai, .ref ap, .int sy, .ref af, .int sp])), (af, .inl (gI G, 121, .inl (fun q9 => nI (fdy q9)))), (a, .inl (gI G, 2175, .inl (upd (ly2 r m) (255 + 16 * m + s) (((ly2 r m) (255 + 16 * m + s)) ||| x))))] : va_W) = [(h, .inr (4, [.ref an, .ref tr, .ref ah, .int ch, .ref ak, .ref ai, .ref ap, .int sy, .ref af, .int sp])), (af, .inl (gI G, 121, .inl (fun q9 => nI (fdy q9)))), (a, .inl (gI G, 2175, .inl (ly3 r s m x P)))] := (wlc rfl (wlc rfl (wlc (wli (by unfold ly3 lyv; first | exact congrArg (upd _ _) (cI_t c_86).symm | exact congrArg (upd _ _) (cI_f c_86).symm)) rfl)))
          rw [hw_12] at hP hD
          refine lv_iload hx hb dX4_lay_115 (lv_at hl 0 rfl) ?_
          refine p0_eq hx hb (tgt := 129) dX4_lay_117 (by decide) (fun c_117 => ?_) (fun c_117 => ?_)
          · skip
            have hPj := hP.sub (ws' := [(h, .inr (4, [.ref an, .ref tr, .ref ah, .int ch, .ref ak, .ref ai, .ref ap, .int sy, .ref af, .int sp])), (af, .inl (gI G, 121, .inl (fun q9 => nI (fdy q9)))), (a, .inl (gI G, 2175, .inl (ly3 r s m x P)))]) [0, 1, 2] rfl
            have hwj : ([(h, .inr (4, [.ref an, .ref tr, .ref ah, .int ch, .ref ak, .ref ai, .ref ap, .int sy, .ref af, .int sp])), (af, .inl (gI G, 121, .inl (fun q9 => nI (fdy q9)))), (a, .inl (gI G, 2175, .inl (ly3 r s m x P)))] : va_W) = [(h, .inr (4, [.ref an, .ref tr, .ref ah, .int ch, .ref ak, .ref ai, .ref ap, .int sy, .ref af, .int sp])), (af, .inl (gI G, 121, .inl (fun q9 => nI (fdy q9)))), (a, .inl (gI G, 2175, .inl (lay r s m x P)))] := (wlc (rfl) (wlc (rfl) (wlc (by first | rfl | exact wli (cI_f c_117).symm) rfl)))
            rw [hwj] at hPj
            exact e_wv hx hb hr hlk hPj hS dX4_lay_129
          · skip
            refine lv_aload_n hx hb dX4_lay_120 rfl (lv_at hl 2 rfl) ?_
            refine lv_iload_n hx hb dX4_lay_121 rfl (lv_at hl 4 rfl) ?_
            refine k_rvS (As := [.ref a, .int (nI m)]) (rest := []) (wr := [(h, .inr (4, [.ref an, .ref tr, .ref ah, .int ch, .ref ak, .ref ai, .ref ap, .int sy, .ref af, .int sp])), (af, .inl (gI G, 121, .inl (fun q9 => nI (fdy q9))))]) hF (c_X4_toEnd l G _ a (ly3 r s m x P) m (by omega) (hB3)) mw_3_194 mw_3_195 mw_1_5 mw_3_196 hd_X4_toEnd ⟨Nat.le_of_ble_eq_true rfl, Nat.le_of_ble_eq_true rfl⟩ hKx hZ hS hP hD hA [2] [0, 1] rfl rfl (by decide) (by decide) (by decide) rfl rfl hl.1 rfl (Nat.le_of_ble_eq_true rfl) dX4_lay_122 ⟨Nat.zero_le _, Nat.zero_le _⟩ (fun H locs hP hD hS => ?_)
            have hP : va_P G.1 vwCl [(h, .inr (4, [.ref an, .ref tr, .ref ah, .int ch, .ref ak, .ref ai, .ref ap, .int sy, .ref af, .int sp])), (af, .inl (gI G, 121, .inl (fun q9 => nI (fdy q9)))), (a, .inl (gI G, 2175, .inl (ten (ly3 r s m x P) m)))] H := hP
            have hD : va_D A [(h, .inr (4, [.ref an, .ref tr, .ref ah, .int ch, .ref ak, .ref ai, .ref ap, .int sy, .ref af, .int sp])), (af, .inl (gI G, 121, .inl (fun q9 => nI (fdy q9)))), (a, .inl (gI G, 2175, .inl (ten (ly3 r s m x P) m)))] := hD
            refine lv_aload_n hx hb dX4_lay_125 rfl (lv_at hl 2 rfl) ?_
            refine k_rvS (As := [.ref a]) (rest := []) (wr := [(h, .inr (4, [.ref an, .ref tr, .ref ah, .int ch, .ref ak, .ref ai, .ref ap, .int sy, .ref af, .int sp])), (af, .inl (gI G, 121, .inl (fun q9 => nI (fdy q9))))]) hF (c_X4_foldAgain l G _ a (ten (ly3 r s m x P) m) (hB4)) mw_3_102 mw_3_103 mw_1_5 mw_3_104 hd_X4_foldAgain ⟨Nat.le_of_ble_eq_true rfl, Nat.le_of_ble_eq_true rfl⟩ hKx hZ hS hP hD hA [2] [0, 1] rfl rfl (by decide) (by decide) (by decide) rfl rfl hl.1 rfl (Nat.le_of_ble_eq_true rfl) dX4_lay_126 ⟨Nat.zero_le _, Nat.zero_le _⟩ (fun H locs hP hD hS => ?_)
            have hP : va_P G.1 vwCl [(h, .inr (4, [.ref an, .ref tr, .ref ah, .int ch, .ref ak, .ref ai, .ref ap, .int sy, .ref af, .int sp])), (af, .inl (gI G, 121, .inl (fun q9 => nI (fdy q9)))), (a, .inl (gI G, 2175, .inl (fga (ten (ly3 r s m x P) m))))] H := hP
            have hD : va_D A [(h, .inr (4, [.ref an, .ref tr, .ref ah, .int ch, .ref ak, .ref ai, .ref ap, .int sy, .ref af, .int sp])), (af, .inl (gI G, 121, .inl (fun q9 => nI (fdy q9)))), (a, .inl (gI G, 2175, .inl (fga (ten (ly3 r s m x P) m))))] := hD
            have hw_13 : ([(h, .inr (4, [.ref an, .ref tr, .ref ah, .int ch, .ref ak, .ref ai, .ref ap, .int sy, .ref af, .int sp])), (af, .inl (gI G, 121, .inl (fun q9 => nI (fdy q9)))), (a, .inl (gI G, 2175, .inl (fga (ten (ly3 r s m x P) m))))] : va_W) = [(h, .inr (4, [.ref an, .ref tr, .ref ah, .int ch, .ref ak, .ref ai, .ref ap, .int sy, .ref af, .int sp])), (af, .inl (gI G, 121, .inl (fun q9 => nI (fdy q9)))), (a, .inl (gI G, 2175, .inl (lay r s m x P)))] := (wlc rfl (wlc rfl (wlc (wli ((cI_t c_117).symm)) rfl)))
            rw [hw_13] at hP hD
            have hPj := hP.sub (ws' := [(h, .inr (4, [.ref an, .ref tr, .ref ah, .int ch, .ref ak, .ref ai, .ref ap, .int sy, .ref af, .int sp])), (af, .inl (gI G, 121, .inl (fun q9 => nI (fdy q9)))), (a, .inl (gI G, 2175, .inl (lay r s m x P)))]) [0, 1, 2] rfl
            exact e_wv hx hb hr hlk hPj hS dX4_lay_129
      · skip
        refine lv_iload hx hb dX4_lay_59 (lv_at hl 1 rfl) ?_
        refine p0_eq hx hb (tgt := 78) dX4_lay_61 (by decide) (fun c_61 => ?_) (fun c_61 => ?_)
        · skip
          have w_14 : ([(h, .inr (4, [.ref an, .ref tr, .ref ah, .int ch, .ref ak, .ref ai, .ref ap, .int sy, .ref af, .int sp])), (af, .inl (gI G, 121, .inl (fun q9 => nI (fdy q9)))), (a, .inl (gI G, 2175, .inl (ly1 r m)))] : va_W) = [(h, .inr (4, [.ref an, .ref tr, .ref ah, .int ch, .ref ak, .ref ai, .ref ap, .int sy, .ref af, .int sp])), (af, .inl (gI G, 121, .inl (fun q9 => nI (fdy q9)))), (a, .inl (gI G, 2175, .inl (ly2 r m)))] := (wlc (rfl) (wlc (rfl) (wlc (wli (by unfold ly2; first | exact (cI_t (by omega)).symm | exact (cI_f (by omega)).symm)) rfl)))
          have hPj := hP.sub (ws' := [(h, .inr (4, [.ref an, .ref tr, .ref ah, .int ch, .ref ak, .ref ai, .ref ap, .int sy, .ref af, .int sp])), (af, .inl (gI G, 121, .inl (fun q9 => nI (fdy q9)))), (a, .inl (gI G, 2175, .inl (ly1 r m)))]) [0, 1, 2] rfl
          have hDj := hD.sub (ws' := [(h, .inr (4, [.ref an, .ref tr, .ref ah, .int ch, .ref ak, .ref ai, .ref ap, .int sy, .ref af, .int sp])), (af, .inl (gI G, 121, .inl (fun q9 => nI (fdy q9)))), (a, .inl (gI G, 2175, .inl (ly1 r m)))]) [0, 1, 2] (by decide) rfl
          rw [w_14] at hPj hDj
          exact J78 _ _ ls ⟨hPj, hDj, hS, lv_sub hl [1, 2, 3, 4, 5, 6, 7] rfl⟩
        · skip
          refine lv_aload_n hx hb dX4_lay_64 rfl (lv_at hl 3 rfl) ?_
          refine lv_bipush (v := nI 15) hx hb dX4_lay_65 (by decide) ?_
          refine lv_iload_n hx hb dX4_lay_67 rfl (lv_at hl 5 rfl) ?_
          refine n_iadd hx hb dX4_lay_68 ?_
          refine n_iald hx hb hK hP 2 0 rfl rfl (by omega) (by omega) dX4_lay_69 ?_
          refine z0_le hx hb (tgt := 78) (((ly1 r m) (15 + m)).toInt) dX4_lay_70 (by decide) rfl (fun c_70 => ?_) (fun c_70 => ?_)
          · skip
            have w_15 : ([(h, .inr (4, [.ref an, .ref tr, .ref ah, .int ch, .ref ak, .ref ai, .ref ap, .int sy, .ref af, .int sp])), (af, .inl (gI G, 121, .inl (fun q9 => nI (fdy q9)))), (a, .inl (gI G, 2175, .inl (ly1 r m)))] : va_W) = [(h, .inr (4, [.ref an, .ref tr, .ref ah, .int ch, .ref ak, .ref ai, .ref ap, .int sy, .ref af, .int sp])), (af, .inl (gI G, 121, .inl (fun q9 => nI (fdy q9)))), (a, .inl (gI G, 2175, .inl (ly2 r m)))] := (wlc (rfl) (wlc (rfl) (wlc (wli (by unfold ly2; first | exact (cI_t (by omega)).symm | exact (cI_f (by omega)).symm)) rfl)))
            have hPj := hP.sub (ws' := [(h, .inr (4, [.ref an, .ref tr, .ref ah, .int ch, .ref ak, .ref ai, .ref ap, .int sy, .ref af, .int sp])), (af, .inl (gI G, 121, .inl (fun q9 => nI (fdy q9)))), (a, .inl (gI G, 2175, .inl (ly1 r m)))]) [0, 1, 2] rfl
            have hDj := hD.sub (ws' := [(h, .inr (4, [.ref an, .ref tr, .ref ah, .int ch, .ref ak, .ref ai, .ref ap, .int sy, .ref af, .int sp])), (af, .inl (gI G, 121, .inl (fun q9 => nI (fdy q9)))), (a, .inl (gI G, 2175, .inl (ly1 r m)))]) [0, 1, 2] (by decide) rfl
            rw [w_15] at hPj hDj
            exact J78 _ _ ls ⟨hPj, hDj, hS, lv_sub hl [1, 2, 3, 4, 5, 6, 7] rfl⟩
          · skip
            refine lv_aload_n hx hb dX4_lay_73 rfl (lv_at hl 3 rfl) ?_
            refine lv_iload_n hx hb dX4_lay_74 rfl (lv_at hl 5 rfl) ?_
            refine k_rvS (As := [.ref a, .int (nI m)]) (rest := []) (wr := [(h, .inr (4, [.ref an, .ref tr, .ref ah, .int ch, .ref ak, .ref ai, .ref ap, .int sy, .ref af, .int sp])), (af, .inl (gI G, 121, .inl (fun q9 => nI (fdy q9))))]) hF (c_X4_unfold l G _ a (ly1 r m) m (by omega)) mw_3_191 mw_3_192 mw_1_5 mw_3_193 hd_X4_unfold ⟨Nat.le_of_ble_eq_true rfl, Nat.le_of_ble_eq_true rfl⟩ hKx hZ hS hP hD hA [2] [0, 1] rfl rfl (by decide) (by decide) (by decide) rfl rfl hl.1 rfl (Nat.le_of_ble_eq_true rfl) dX4_lay_75 ⟨Nat.zero_le _, Nat.zero_le _⟩ (fun H locs hP hD hS => ?_)
            have hP : va_P G.1 vwCl [(h, .inr (4, [.ref an, .ref tr, .ref ah, .int ch, .ref ak, .ref ai, .ref ap, .int sy, .ref af, .int sp])), (af, .inl (gI G, 121, .inl (fun q9 => nI (fdy q9)))), (a, .inl (gI G, 2175, .inl (ufd (ly1 r m) m)))] H := hP
            have hD : va_D A [(h, .inr (4, [.ref an, .ref tr, .ref ah, .int ch, .ref ak, .ref ai, .ref ap, .int sy, .ref af, .int sp])), (af, .inl (gI G, 121, .inl (fun q9 => nI (fdy q9)))), (a, .inl (gI G, 2175, .inl (ufd (ly1 r m) m)))] := hD
            have w_16 : ([(h, .inr (4, [.ref an, .ref tr, .ref ah, .int ch, .ref ak, .ref ai, .ref ap, .int sy, .ref af, .int sp])), (af, .inl (gI G, 121, .inl (fun q9 => nI (fdy q9)))), (a, .inl (gI G, 2175, .inl (ufd (ly1 r m) m)))] : va_W) = [(h, .inr (4, [.ref an, .ref tr, .ref ah, .int ch, .ref ak, .ref ai, .ref ap, .int sy, .ref af, .int sp])), (af, .inl (gI G, 121, .inl (fun q9 => nI (fdy q9)))), (a, .inl (gI G, 2175, .inl (ly2 r m)))] := (wlc (rfl) (wlc (rfl) (wlc (wli (by unfold ly2; first | exact (cI_t (by omega)).symm | exact (cI_f (by omega)).symm)) rfl)))
            have hPj := hP.sub (ws' := [(h, .inr (4, [.ref an, .ref tr, .ref ah, .int ch, .ref ak, .ref ai, .ref ap, .int sy, .ref af, .int sp])), (af, .inl (gI G, 121, .inl (fun q9 => nI (fdy q9)))), (a, .inl (gI G, 2175, .inl (ufd (ly1 r m) m)))]) [0, 1, 2] rfl
            have hDj := hD.sub (ws' := [(h, .inr (4, [.ref an, .ref tr, .ref ah, .int ch, .ref ak, .ref ai, .ref ap, .int sy, .ref af, .int sp])), (af, .inl (gI G, 121, .inl (fun q9 => nI (fdy q9)))), (a, .inl (gI G, 2175, .inl (ufd (ly1 r m) m)))]) [0, 1, 2] (by decide) rfl
            rw [w_16] at hPj hDj
            exact J78 _ _ ls ⟨hPj, hDj, hS, lv_sub hl [1, 2, 3, 4, 5, 6, 7] rfl⟩
    · skip
      refine lv_aload_n hx hb dX4_lay_23 rfl (lv_at hl 3 rfl) ?_
      refine lv_bipush (v := nI 15) hx hb dX4_lay_24 (by decide) ?_
      refine lv_iload hx hb dX4_lay_26 (lv_at hl 0 rfl) ?_
      refine n_iadd hx hb dX4_lay_28 ?_
      refine n_iald hx hb hK hP 2 0 rfl rfl (by omega) (by omega) dX4_lay_29 ?_
      refine lv_iconst (v := nI 2) hx hb dX4_lay_30 (by decide) ?_
      refine z_ne hx hb (tgt := 53) (((lnk r m k) (15 + k)).toInt) 2 dX4_lay_31 (by decide) rfl (by decide) (fun c_31 => ?_) (fun c_31 => ?_)
      · skip
        refine lv_iinc (v := nI (k + 1)) (lv' := [(7, .int (nI (k + 1))), (6, .int (pI (m + kpn r ≤ mot (td r)))), (0, .ref h), (1, .ref a), (2, .int (nI s)), (3, .int (nI m)), (4, .int x), (5, .int (pI P))]) hx hb dX4_lay_53 hl (k := 0) rfl (nI_add _ _) (by decide) rfl (fun ls hl => ?_)
        refine lv_goto (tgt := 11) hx hb dX4_lay_56 (by decide) ?_
        have w_17 : ([(h, .inr (4, [.ref an, .ref tr, .ref ah, .int ch, .ref ak, .ref ai, .ref ap, .int sy, .ref af, .int sp])), (af, .inl (gI G, 121, .inl (fun q9 => nI (fdy q9)))), (a, .inl (gI G, 2175, .inl (lnk r m k)))] : va_W) = [(h, .inr (4, [.ref an, .ref tr, .ref ah, .int ch, .ref ak, .ref ai, .ref ap, .int sy, .ref af, .int sp])), (af, .inl (gI G, 121, .inl (fun q9 => nI (fdy q9)))), (a, .inl (gI G, 2175, .inl (lnk r m (k + 1))))] := (wlc (rfl) (wlc (rfl) (wlc (wli (by first | exact lnk_t ⟨c_31, c_43⟩ | exact lnk_f (fun z => by first | exact c_31 z.1 | exact c_43 z.2))) rfl)))
        have hPj := hP.sub (ws' := [(h, .inr (4, [.ref an, .ref tr, .ref ah, .int ch, .ref ak, .ref ai, .ref ap, .int sy, .ref af, .int sp])), (af, .inl (gI G, 121, .inl (fun q9 => nI (fdy q9)))), (a, .inl (gI G, 2175, .inl (lnk r m k)))]) [0, 1, 2] rfl
        have hDj := hD.sub (ws' := [(h, .inr (4, [.ref an, .ref tr, .ref ah, .int ch, .ref ak, .ref ai, .ref ap, .int sy, .ref af, .int sp])), (af, .inl (gI G, 121, .inl (fun q9 => nI (fdy q9)))), (a, .inl (gI G, 2175, .inl (lnk r m k)))]) [0, 1, 2] (by decide) rfl
        rw [w_17] at hPj hDj
        exact ih (k + 1) _ _ ls (by omega) ⟨(by omega), (by omega), hPj, hDj, hS, lv_sub hl [0, 1, 2, 3, 4, 5, 6, 7] rfl⟩
      · skip
        refine lv_aload_n hx hb dX4_lay_34 rfl (lv_at hl 3 rfl) ?_
        refine lv_sipush (v := nI 135) hx hb dX4_lay_35 (by decide) ?_
        refine lv_iload hx hb dX4_lay_38 (lv_at hl 0 rfl) ?_
        refine n_iadd hx hb dX4_lay_40 ?_
        refine n_iald hx hb hK hP 2 0 rfl rfl (by omega) (by omega) dX4_lay_41 ?_
        refine lv_iload_n hx hb dX4_lay_42 rfl (lv_at hl 5 rfl) ?_
        refine z_ne hx hb (tgt := 53) (((lnk r m k) (135 + k)).toInt) ((m : Nat) : Int) dX4_lay_43 (by decide) rfl (toI (by omega)) (fun c_43 => ?_) (fun c_43 => ?_)
        · skip
          refine lv_iinc (v := nI (k + 1)) (lv' := [(7, .int (nI (k + 1))), (6, .int (pI (m + kpn r ≤ mot (td r)))), (0, .ref h), (1, .ref a), (2, .int (nI s)), (3, .int (nI m)), (4, .int x), (5, .int (pI P))]) hx hb dX4_lay_53 hl (k := 0) rfl (nI_add _ _) (by decide) rfl (fun ls hl => ?_)
          refine lv_goto (tgt := 11) hx hb dX4_lay_56 (by decide) ?_
          have w_18 : ([(h, .inr (4, [.ref an, .ref tr, .ref ah, .int ch, .ref ak, .ref ai, .ref ap, .int sy, .ref af, .int sp])), (af, .inl (gI G, 121, .inl (fun q9 => nI (fdy q9)))), (a, .inl (gI G, 2175, .inl (lnk r m k)))] : va_W) = [(h, .inr (4, [.ref an, .ref tr, .ref ah, .int ch, .ref ak, .ref ai, .ref ap, .int sy, .ref af, .int sp])), (af, .inl (gI G, 121, .inl (fun q9 => nI (fdy q9)))), (a, .inl (gI G, 2175, .inl (lnk r m (k + 1))))] := (wlc (rfl) (wlc (rfl) (wlc (wli (by first | exact lnk_t ⟨c_31, c_43⟩ | exact lnk_f (fun z => by first | exact c_31 z.1 | exact c_43 z.2))) rfl)))
          have hPj := hP.sub (ws' := [(h, .inr (4, [.ref an, .ref tr, .ref ah, .int ch, .ref ak, .ref ai, .ref ap, .int sy, .ref af, .int sp])), (af, .inl (gI G, 121, .inl (fun q9 => nI (fdy q9)))), (a, .inl (gI G, 2175, .inl (lnk r m k)))]) [0, 1, 2] rfl
          have hDj := hD.sub (ws' := [(h, .inr (4, [.ref an, .ref tr, .ref ah, .int ch, .ref ak, .ref ai, .ref ap, .int sy, .ref af, .int sp])), (af, .inl (gI G, 121, .inl (fun q9 => nI (fdy q9)))), (a, .inl (gI G, 2175, .inl (lnk r m k)))]) [0, 1, 2] (by decide) rfl
          rw [w_18] at hPj hDj
          exact ih (k + 1) _ _ ls (by omega) ⟨(by omega), (by omega), hPj, hDj, hS, lv_sub hl [0, 1, 2, 3, 4, 5, 6, 7] rfl⟩
        · skip
          refine lv_aload_n hx hb dX4_lay_46 rfl (lv_at hl 3 rfl) ?_
          refine lv_iload hx hb dX4_lay_47 (lv_at hl 0 rfl) ?_
          refine lv_iload_n hx hb dX4_lay_49 rfl (lv_at hl 5 rfl) ?_
          refine k_rvS (As := [.ref a, .int (nI k), .int (nI m)]) (rest := []) (wr := [(h, .inr (4, [.ref an, .ref tr, .ref ah, .int ch, .ref ak, .ref ai, .ref ap, .int sy, .ref af, .int sp])), (af, .inl (gI G, 121, .inl (fun q9 => nI (fdy q9))))]) hF (c_X4_fold l G _ a (lnk r m k) k (nI m) ((m : Nat) : Int) (by omega) (toI (by omega))) mw_3_108 mw_3_109 mw_1_5 mw_3_110 hd_X4_fold ⟨Nat.le_of_ble_eq_true rfl, Nat.le_of_ble_eq_true rfl⟩ hKx hZ hS hP hD hA [2] [0, 1] rfl rfl (by decide) (by decide) (by decide) rfl rfl hl.1 rfl (Nat.le_of_ble_eq_true rfl) dX4_lay_50 ⟨Nat.zero_le _, Nat.zero_le _⟩ (fun H locs hP hD hS => ?_)
          have hP : va_P G.1 vwCl [(h, .inr (4, [.ref an, .ref tr, .ref ah, .int ch, .ref ak, .ref ai, .ref ap, .int sy, .ref af, .int sp])), (af, .inl (gI G, 121, .inl (fun q9 => nI (fdy q9)))), (a, .inl (gI G, 2175, .inl (fld (lnk r m k) k ((m : Nat) : Int))))] H := hP
          have hD : va_D A [(h, .inr (4, [.ref an, .ref tr, .ref ah, .int ch, .ref ak, .ref ai, .ref ap, .int sy, .ref af, .int sp])), (af, .inl (gI G, 121, .inl (fun q9 => nI (fdy q9)))), (a, .inl (gI G, 2175, .inl (fld (lnk r m k) k ((m : Nat) : Int))))] := hD
          refine lv_iinc (v := nI (k + 1)) (lv' := [(7, .int (nI (k + 1))), (6, .int (pI (m + kpn r ≤ mot (td r)))), (0, .ref h), (1, .ref a), (2, .int (nI s)), (3, .int (nI m)), (4, .int x), (5, .int (pI P))]) hx hb dX4_lay_53 hl (k := 0) rfl (nI_add _ _) (by decide) rfl (fun ls hl => ?_)
          refine lv_goto (tgt := 11) hx hb dX4_lay_56 (by decide) ?_
          have w_19 : ([(h, .inr (4, [.ref an, .ref tr, .ref ah, .int ch, .ref ak, .ref ai, .ref ap, .int sy, .ref af, .int sp])), (af, .inl (gI G, 121, .inl (fun q9 => nI (fdy q9)))), (a, .inl (gI G, 2175, .inl (fld (lnk r m k) k ((m : Nat) : Int))))] : va_W) = [(h, .inr (4, [.ref an, .ref tr, .ref ah, .int ch, .ref ak, .ref ai, .ref ap, .int sy, .ref af, .int sp])), (af, .inl (gI G, 121, .inl (fun q9 => nI (fdy q9)))), (a, .inl (gI G, 2175, .inl (lnk r m (k + 1))))] := (wlc (rfl) (wlc (rfl) (wlc (wli (by first | exact lnk_t ⟨c_31, c_43⟩ | exact lnk_f (fun z => by first | exact c_31 z.1 | exact c_43 z.2))) rfl)))
          have hPj := hP.sub (ws' := [(h, .inr (4, [.ref an, .ref tr, .ref ah, .int ch, .ref ak, .ref ai, .ref ap, .int sy, .ref af, .int sp])), (af, .inl (gI G, 121, .inl (fun q9 => nI (fdy q9)))), (a, .inl (gI G, 2175, .inl (fld (lnk r m k) k ((m : Nat) : Int))))]) [0, 1, 2] rfl
          have hDj := hD.sub (ws' := [(h, .inr (4, [.ref an, .ref tr, .ref ah, .int ch, .ref ak, .ref ai, .ref ap, .int sy, .ref af, .int sp])), (af, .inl (gI G, 121, .inl (fun q9 => nI (fdy q9)))), (a, .inl (gI G, 2175, .inl (fld (lnk r m k) k ((m : Nat) : Int))))]) [0, 1, 2] (by decide) rfl
          rw [w_19] at hPj hDj
          exact ih (k + 1) _ _ ls (by omega) ⟨(by omega), (by omega), hPj, hDj, hS, lv_sub hl [0, 1, 2, 3, 4, 5, 6, 7] rfl⟩
