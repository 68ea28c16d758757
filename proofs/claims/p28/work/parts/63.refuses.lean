theorem hd_L_cell : hdY yL_cell 2 := ⟨by decide +kernel, by decide +kernel, by decide +kernel⟩
theorem hd_L_refuses : hdY yL_refuses 2 := ⟨by decide +kernel, by decide +kernel, by decide +kernel⟩
theorem hd_L_alike : hdY yL_alike 3 := ⟨by decide +kernel, by decide +kernel, by decide +kernel⟩
theorem hd_L_holds : hdY yL_holds 2 := ⟨by decide +kernel, by decide +kernel, by decide +kernel⟩
theorem hd_L_act : hdY yL_act 3 := ⟨by decide +kernel, by decide +kernel, by decide +kernel⟩
set_option maxHeartbeats 4000000 in
set_option maxRecDepth 100000 in
theorem c_refuses (l : Launch) {q : Sx} (hok : OkD q) (x : Nat) (hx0 : x < 2147483648) (G : gT) (me sz : Nat) (w0 : va_W) (hC : CS G me q w0) : Ru l G yL_refuses cL_refuses 4 (some .boolean) 10 sz w0 [.ref me, .int (nI x)] 1 (CS G me q) := by
  have htd : td (qr q) < 3650 := hok.1.1.1.1.2.1
  have h0e : qr q 0 = nI (td (qr q)) := hok.1.1.1.1.1
  have h0r : (qr q 0).toInt = ((td (qr q) : Nat) : Int) := by rw [h0e]; exact toI (by omega)
  have hf : 0 ≤ (rmL 10).cells ∧ 0 ≤ (rmL 10).slots := ⟨Nat.zero_le _, Nat.zero_le _⟩
  refine Ru.mk (by decide) (Nat.le_of_ble_eq_true rfl) (fun pq eq sq mq bq tq cq ls A hr hlk hF hKx hZ hA hP hD hS hl => ?_)
  have hx := hF.1
  have hb := hF.2.1
  have hml := hF.2.2.1
  have hown : sq.vm.findClass "FoldedMonthsLaw" = some mq.cls := hF.2.2.2.1
  have hts : ∀ w ∈ GW, w.before _ sq = true := hF.2.2.2.2
  have hl : lv_has ls 4 [(0, .ref me), (1, .int (nI x))] := hl
  refine lv_aload_n hx hb dL_refuses_0 rfl (lv_at hl 0 rfl) ?_
  refine lv_iconst (v := nI 0) hx hb dL_refuses_1 (by decide) ?_
  refine kA (As := [.int (nI 0)]) (rest := []) (wr := []) (wc := w0) (b := me) hF (a_today hok) hC rfl mw_1_156 mw_1_157 mw_1_158 mw_1_1 mw_1_159 hd_X3_count ⟨Nat.le_of_ble_eq_true rfl, Nat.le_of_ble_eq_true rfl⟩ hKx hZ hS hP hD hA rfl hl.1 rfl (Nat.le_of_ble_eq_true rfl) dL_refuses_2 hf (fun w2 H locs hC1 hP hD hS => ?_)
  refine lv_istore_n (lv' := [(2, .int (nI (td (qr q)))), (0, .ref me), (1, .int (nI x))]) hx hb dL_refuses_5 rfl hl (by decide) rfl (fun ls hl => ?_)
  refine lv_aload_n hx hb dL_refuses_6 rfl (lv_at hl 1 rfl) ?_
  refine lv_iconst (v := nI 2) hx hb dL_refuses_7 (by decide) ?_
  refine lv_iload_n hx hb dL_refuses_8 rfl (lv_at hl 2 rfl) ?_
  refine lv_bipush (v := nI 9) hx hb dL_refuses_9 (by decide) ?_
  refine n_irem hx hb (by omega) (by omega) (by omega) dL_refuses_11 ?_
  refine n_iadd hx hb dL_refuses_12 ?_
  refine lv_iconst (v := nI 1) hx hb dL_refuses_13 (by decide) ?_
  refine kA (As := [.int (nI (2 + x % 9)), .int (nI 1)]) (rest := []) (wr := []) (wc := w2) (b := me) hF (a_set_e l hok (nI (2 + x % 9)) (nI 1) (show (nI (2 + x % 9) : Int32).toInt = ((2 + x % 9 : Nat) : Int) from (toI (by omega))) (show (nI 1 : Int32).toInt = 1 from (by decide)) (eSt_1 (by omega)) (by decide)) hC1 rfl mw_1_221 mw_1_222 mw_1_223 mw_1_1 mw_1_224 hd_X3_set ⟨Nat.le_of_ble_eq_true rfl, Nat.le_of_ble_eq_true rfl⟩ hKx hZ hS hP hD hA rfl hl.1 rfl (Nat.le_of_ble_eq_true rfl) dL_refuses_14 hf (fun w4 H locs hC3 hP hD hS => ?_)
  refine lv_bipush (v := (-2)) hx hb dL_refuses_17 (by decide) ?_
  refine z_ne hx hb (tgt := 145) (-2) (-2) dL_refuses_19 (by decide) (by decide) (by decide) (fun c_19 => absurd rfl c_19) (fun c_19 => ?_)
  refine lv_aload_n hx hb dL_refuses_22 rfl (lv_at hl 1 rfl) ?_
  refine lv_iconst (v := nI 1) hx hb dL_refuses_23 (by decide) ?_
  refine lv_bipush (v := nI 7) hx hb dL_refuses_24 (by decide) ?_
  refine lv_iload_n hx hb dL_refuses_26 rfl (lv_at hl 2 rfl) ?_
  refine lv_bipush (v := nI 9) hx hb dL_refuses_27 (by decide) ?_
  refine n_irem hx hb (by omega) (by omega) (by omega) dL_refuses_29 ?_
  refine n_iadd hx hb dL_refuses_30 ?_
  refine kA (As := [.int (nI 1), .int (nI (7 + x % 9))]) (rest := []) (wr := []) (wc := w4) (b := me) hF (a_set_e l hok (nI 1) (nI (7 + x % 9)) (show (nI 1 : Int32).toInt = 1 from (by decide)) (show (nI (7 + x % 9) : Int32).toInt = ((7 + x % 9 : Nat) : Int) from (toI (by omega))) (eSt_1 (by omega)) (by decide)) hC3 rfl mw_1_221 mw_1_222 mw_1_223 mw_1_1 mw_1_224 hd_X3_set ⟨Nat.le_of_ble_eq_true rfl, Nat.le_of_ble_eq_true rfl⟩ hKx hZ hS hP hD hA rfl hl.1 rfl (Nat.le_of_ble_eq_true rfl) dL_refuses_31 hf (fun w6 H locs hC5 hP hD hS => ?_)
  refine lv_bipush (v := (-2)) hx hb dL_refuses_34 (by decide) ?_
  refine z_ne hx hb (tgt := 145) (-2) (-2) dL_refuses_36 (by decide) (by decide) (by decide) (fun c_36 => absurd rfl c_36) (fun c_36 => ?_)
  refine lv_aload_n hx hb dL_refuses_39 rfl (lv_at hl 1 rfl) ?_
  refine lv_iconst (v := nI 0) hx hb dL_refuses_40 (by decide) ?_
  refine lv_bipush (v := nI 13) hx hb dL_refuses_41 (by decide) ?_
  refine kA (As := [.int (nI 0), .int (nI 13)]) (rest := []) (wr := []) (wc := w6) (b := me) hF (a_set_e l hok (nI 0) (nI 13) (show (nI 0 : Int32).toInt = 0 from (by decide)) (show (nI 13 : Int32).toInt = 13 from (by decide)) (eSt_1 (by omega)) (by decide)) hC5 rfl mw_1_221 mw_1_222 mw_1_223 mw_1_1 mw_1_224 hd_X3_set ⟨Nat.le_of_ble_eq_true rfl, Nat.le_of_ble_eq_true rfl⟩ hKx hZ hS hP hD hA rfl hl.1 rfl (Nat.le_of_ble_eq_true rfl) dL_refuses_43 hf (fun w8 H locs hC7 hP hD hS => ?_)
  refine lv_bipush (v := (-2)) hx hb dL_refuses_46 (by decide) ?_
  refine z_ne hx hb (tgt := 145) (-2) (-2) dL_refuses_48 (by decide) (by decide) (by decide) (fun c_48 => absurd rfl c_48) (fun c_48 => ?_)
  refine lv_aload_n hx hb dL_refuses_51 rfl (lv_at hl 1 rfl) ?_
  refine lv_iconst (v := nI 0) hx hb dL_refuses_52 (by decide) ?_
  refine kA (As := [.int (nI 0)]) (rest := []) (wr := []) (wc := w8) (b := me) hF (a_pass_e l hok (nI 0) (show (nI 0 : Int32).toInt = 0 from (by decide)) (ePs_2 (by omega)) (by decide)) hC7 rfl mw_2_36 mw_2_37 mw_2_38 mw_1_1 mw_2_39 hd_X3_pass ⟨Nat.le_of_ble_eq_true rfl, Nat.le_of_ble_eq_true rfl⟩ hKx hZ hS hP hD hA rfl hl.1 rfl (Nat.le_of_ble_eq_true rfl) dL_refuses_53 hf (fun w10 H locs hC9 hP hD hS => ?_)
  refine lv_bipush (v := (-2)) hx hb dL_refuses_56 (by decide) ?_
  refine z_ne hx hb (tgt := 145) (-2) (-2) dL_refuses_58 (by decide) (by decide) (by decide) (fun c_58 => absurd rfl c_58) (fun c_58 => ?_)
  refine lv_aload_n hx hb dL_refuses_61 rfl (lv_at hl 1 rfl) ?_
  refine lv_sipush (v := nI 401) hx hb dL_refuses_62 (by decide) ?_
  refine lv_iload_n hx hb dL_refuses_65 rfl (lv_at hl 2 rfl) ?_
  refine lv_bipush (v := nI 9) hx hb dL_refuses_66 (by decide) ?_
  refine n_irem hx hb (by omega) (by omega) (by omega) dL_refuses_68 ?_
  refine n_iadd hx hb dL_refuses_69 ?_
  refine kA (As := [.int (nI (401 + x % 9))]) (rest := []) (wr := []) (wc := w10) (b := me) hF (a_pass_e l hok (nI (401 + x % 9)) (show (nI (401 + x % 9) : Int32).toInt = ((401 + x % 9 : Nat) : Int) from (toI (by omega))) (ePs_2 (by omega)) (by decide)) hC9 rfl mw_2_36 mw_2_37 mw_2_38 mw_1_1 mw_2_39 hd_X3_pass ⟨Nat.le_of_ble_eq_true rfl, Nat.le_of_ble_eq_true rfl⟩ hKx hZ hS hP hD hA rfl hl.1 rfl (Nat.le_of_ble_eq_true rfl) dL_refuses_70 hf (fun w12 H locs hC11 hP hD hS => ?_)
  refine lv_bipush (v := (-2)) hx hb dL_refuses_73 (by decide) ?_
  refine z_ne hx hb (tgt := 145) (-2) (-2) dL_refuses_75 (by decide) (by decide) (by decide) (fun c_75 => absurd rfl c_75) (fun c_75 => ?_)
  refine lv_aload_n hx hb dL_refuses_78 rfl (lv_at hl 1 rfl) ?_
  refine lv_bipush (v := nI 16) hx hb dL_refuses_79 (by decide) ?_
  refine lv_iload_n hx hb dL_refuses_81 rfl (lv_at hl 2 rfl) ?_
  refine lv_bipush (v := nI 9) hx hb dL_refuses_82 (by decide) ?_
  refine n_irem hx hb (by omega) (by omega) (by omega) dL_refuses_84 ?_
  refine n_iadd hx hb dL_refuses_85 ?_
  refine lv_iconst (v := nI 0) hx hb dL_refuses_86 (by decide) ?_
  refine lv_iconst (v := nI 0) hx hb dL_refuses_87 (by decide) ?_
  refine kA (As := [.int (nI (16 + x % 9)), .int (nI 0), .int (nI 0)]) (rest := []) (wr := []) (wc := w12) (b := me) hF (a_mark_e l hok (nI (16 + x % 9)) (nI 0) (nI 0) (show (nI (16 + x % 9) : Int32).toInt = ((16 + x % 9 : Nat) : Int) from (toI (by omega))) (show (nI 0 : Int32).toInt = 0 from (by decide)) (show (nI 0 : Int32).toInt = 0 from (by decide)) (eMk_1 (by omega)) (by decide)) hC11 rfl mw_2_49 mw_2_50 mw_2_51 mw_1_1 mw_2_52 hd_X3_mark ⟨Nat.le_of_ble_eq_true rfl, Nat.le_of_ble_eq_true rfl⟩ hKx hZ hS hP hD hA rfl hl.1 rfl (Nat.le_of_ble_eq_true rfl) dL_refuses_88 hf (fun w14 H locs hC13 hP hD hS => ?_)
  refine lv_iconst (v := (-1)) hx hb dL_refuses_91 (by decide) ?_
  refine z_ne hx hb (tgt := 145) (-1) (-1) dL_refuses_92 (by decide) (by decide) (by decide) (fun c_92 => absurd rfl c_92) (fun c_92 => ?_)
  refine lv_aload_n hx hb dL_refuses_95 rfl (lv_at hl 1 rfl) ?_
  refine lv_iconst (v := (-1)) hx hb dL_refuses_96 (by decide) ?_
  refine lv_iconst (v := nI 0) hx hb dL_refuses_97 (by decide) ?_
  refine lv_iconst (v := nI 0) hx hb dL_refuses_98 (by decide) ?_
  refine kA (As := [.int (-1), .int (nI 0), .int (nI 0)]) (rest := []) (wr := []) (wc := w14) (b := me) hF (a_mark_e l hok (-1) (nI 0) (nI 0) (show ((-1) : Int32).toInt = (-1) from (by decide)) (show (nI 0 : Int32).toInt = 0 from (by decide)) (show (nI 0 : Int32).toInt = 0 from (by decide)) (eMk_1 (by omega)) (by decide)) hC13 rfl mw_2_49 mw_2_50 mw_2_51 mw_1_1 mw_2_52 hd_X3_mark ⟨Nat.le_of_ble_eq_true rfl, Nat.le_of_ble_eq_true rfl⟩ hKx hZ hS hP hD hA rfl hl.1 rfl (Nat.le_of_ble_eq_true rfl) dL_refuses_99 hf (fun w16 H locs hC15 hP hD hS => ?_)
  refine lv_iconst (v := (-1)) hx hb dL_refuses_102 (by decide) ?_
  refine z_ne hx hb (tgt := 145) (-1) (-1) dL_refuses_103 (by decide) (by decide) (by decide) (fun c_103 => absurd rfl c_103) (fun c_103 => ?_)
  refine lv_aload_n hx hb dL_refuses_106 rfl (lv_at hl 1 rfl) ?_
  refine lv_iload_n hx hb dL_refuses_107 rfl (lv_at hl 2 rfl) ?_
  refine lv_bipush (v := nI 16) hx hb dL_refuses_108 (by decide) ?_
  refine n_irem hx hb (by omega) (by omega) (by omega) dL_refuses_110 ?_
  refine lv_sipush (v := nI 3650) hx hb dL_refuses_111 (by decide) ?_
  refine lv_iconst (v := nI 0) hx hb dL_refuses_114 (by decide) ?_
  refine kA (As := [.int (nI (x % 16)), .int (nI 3650), .int (nI 0)]) (rest := []) (wr := []) (wc := w16) (b := me) hF (a_mark_e l hok (nI (x % 16)) (nI 3650) (nI 0) (show (nI (x % 16) : Int32).toInt = ((x % 16 : Nat) : Int) from (toI (by omega))) (show (nI 3650 : Int32).toInt = 3650 from (by decide)) (show (nI 0 : Int32).toInt = 0 from (by decide)) (eMk_1 (by omega)) (by decide)) hC15 rfl mw_2_49 mw_2_50 mw_2_51 mw_1_1 mw_2_52 hd_X3_mark ⟨Nat.le_of_ble_eq_true rfl, Nat.le_of_ble_eq_true rfl⟩ hKx hZ hS hP hD hA rfl hl.1 rfl (Nat.le_of_ble_eq_true rfl) dL_refuses_115 hf (fun w18 H locs hC17 hP hD hS => ?_)
  refine lv_iconst (v := (-1)) hx hb dL_refuses_118 (by decide) ?_
  refine z_ne hx hb (tgt := 145) (-1) (-1) dL_refuses_119 (by decide) (by decide) (by decide) (fun c_119 => absurd rfl c_119) (fun c_119 => ?_)
  refine lv_aload_n hx hb dL_refuses_122 rfl (lv_at hl 1 rfl) ?_
  refine lv_iload_n hx hb dL_refuses_123 rfl (lv_at hl 2 rfl) ?_
  refine lv_bipush (v := nI 16) hx hb dL_refuses_124 (by decide) ?_
  refine n_irem hx hb (by omega) (by omega) (by omega) dL_refuses_126 ?_
  refine lv_iconst (v := nI 0) hx hb dL_refuses_127 (by decide) ?_
  refine lv_iconst (v := (-1)) hx hb dL_refuses_128 (by decide) ?_
  refine lv_iload_n hx hb dL_refuses_129 rfl (lv_at hl 2 rfl) ?_
  refine lv_bipush (v := nI 9) hx hb dL_refuses_130 (by decide) ?_
  refine n_irem hx hb (by omega) (by omega) (by omega) dL_refuses_132 ?_
  refine lv_isub hx hb dL_refuses_133 ?_
  refine kA (As := [.int (nI (x % 16)), .int (nI 0), .int ((-1) - (nI (x % 9)))]) (rest := []) (wr := []) (wc := w18) (b := me) hF (a_clear_e l hok (nI (x % 16)) (nI 0) ((-1) - (nI (x % 9))) (show (nI (x % 16) : Int32).toInt = ((x % 16 : Nat) : Int) from (toI (by omega))) (show (nI 0 : Int32).toInt = 0 from (by decide)) (m1_sub (x % 9) (Nat.mod_lt _ (by decide))) (eMk_1 (by omega)) (by decide)) hC17 rfl mw_2_111 mw_2_112 mw_2_113 mw_1_1 mw_2_114 hd_X3_clear ⟨Nat.le_of_ble_eq_true rfl, Nat.le_of_ble_eq_true rfl⟩ hKx hZ hS hP hD hA rfl hl.1 rfl (Nat.le_of_ble_eq_true rfl) dL_refuses_134 hf (fun w20 H locs hC19 hP hD hS => ?_)
  refine lv_iconst (v := (-1)) hx hb dL_refuses_137 (by decide) ?_
  refine z_ne hx hb (tgt := 145) (-1) (-1) dL_refuses_138 (by decide) (by decide) (by decide) (fun c_138 => absurd rfl c_138) (fun c_138 => ?_)
  refine lv_iconst (v := nI 1) hx hb dL_refuses_141 (by decide) ?_
  refine lv_goto (tgt := 146) hx hb dL_refuses_142 (by decide) ?_
  refine lv_istore_n (lv' := [(3, .int (nI 1)), (2, .int (nI (td (qr q)))), (0, .ref me), (1, .int (nI x))]) hx hb dL_refuses_146 rfl hl (by decide) rfl (fun ls hl => ?_)
  refine lv_iload_n hx hb dL_refuses_147 rfl (lv_at hl 0 rfl) ?_
  refine z0_eq hx hb (tgt := 273) 1 dL_refuses_148 (by decide) (by decide) (fun c_148 => absurd c_148 (by decide)) (fun c_148 => ?_)
  refine lv_aload_n hx hb dL_refuses_151 rfl (lv_at hl 2 rfl) ?_
  refine lv_iload_n hx hb dL_refuses_152 rfl (lv_at hl 3 rfl) ?_
  refine lv_bipush (v := nI 16) hx hb dL_refuses_153 (by decide) ?_
  refine n_irem hx hb (by omega) (by omega) (by omega) dL_refuses_155 ?_
  refine lv_iconst (v := nI 5) hx hb dL_refuses_156 (by decide) ?_
  refine lv_iconst (v := nI 4) hx hb dL_refuses_157 (by decide) ?_
  refine kA (As := [.int (nI (x % 16)), .int (nI 5), .int (nI 4)]) (rest := []) (wr := []) (wc := w20) (b := me) hF (a_mark_e l hok (nI (x % 16)) (nI 5) (nI 4) (show (nI (x % 16) : Int32).toInt = ((x % 16 : Nat) : Int) from (toI (by omega))) (show (nI 5 : Int32).toInt = 5 from (by decide)) (show (nI 4 : Int32).toInt = 4 from (by decide)) (eMk_2 (by omega) (by omega) (by omega) (by omega)) (by decide)) hC19 rfl mw_2_49 mw_2_50 mw_2_51 mw_1_1 mw_2_52 hd_X3_mark ⟨Nat.le_of_ble_eq_true rfl, Nat.le_of_ble_eq_true rfl⟩ hKx hZ hS hP hD hA rfl hl.1 rfl (Nat.le_of_ble_eq_true rfl) dL_refuses_158 hf (fun w22 H locs hC21 hP hD hS => ?_)
  refine lv_bipush (v := (-2)) hx hb dL_refuses_161 (by decide) ?_
  refine z_ne hx hb (tgt := 273) (-2) (-2) dL_refuses_163 (by decide) (by decide) (by decide) (fun c_163 => absurd rfl c_163) (fun c_163 => ?_)
  refine lv_aload_n hx hb dL_refuses_166 rfl (lv_at hl 2 rfl) ?_
  refine lv_iload_n hx hb dL_refuses_167 rfl (lv_at hl 3 rfl) ?_
  refine lv_bipush (v := nI 16) hx hb dL_refuses_168 (by decide) ?_
  refine n_irem hx hb (by omega) (by omega) (by omega) dL_refuses_170 ?_
  refine lv_sipush (v := nI 3649) hx hb dL_refuses_171 (by decide) ?_
  refine lv_iconst (v := nI 0) hx hb dL_refuses_174 (by decide) ?_
  refine kA (As := [.int (nI (x % 16)), .int (nI 3649), .int (nI 0)]) (rest := []) (wr := []) (wc := w22) (b := me) hF (a_clear_e l hok (nI (x % 16)) (nI 3649) (nI 0) (show (nI (x % 16) : Int32).toInt = ((x % 16 : Nat) : Int) from (toI (by omega))) (show (nI 3649 : Int32).toInt = 3649 from (by decide)) (show (nI 0 : Int32).toInt = 0 from (by decide)) (eMk_2 (by omega) (by omega) (by omega) (by omega)) (by decide)) hC21 rfl mw_2_111 mw_2_112 mw_2_113 mw_1_1 mw_2_114 hd_X3_clear ⟨Nat.le_of_ble_eq_true rfl, Nat.le_of_ble_eq_true rfl⟩ hKx hZ hS hP hD hA rfl hl.1 rfl (Nat.le_of_ble_eq_true rfl) dL_refuses_175 hf (fun w24 H locs hC23 hP hD hS => ?_)
  refine lv_bipush (v := (-2)) hx hb dL_refuses_178 (by decide) ?_
  refine z_ne hx hb (tgt := 273) (-2) (-2) dL_refuses_180 (by decide) (by decide) (by decide) (fun c_180 => absurd rfl c_180) (fun c_180 => ?_)
  refine lv_aload_n hx hb dL_refuses_183 rfl (lv_at hl 2 rfl) ?_
  refine lv_bipush (v := nI 16) hx hb dL_refuses_184 (by decide) ?_
  refine lv_iconst (v := nI 0) hx hb dL_refuses_186 (by decide) ?_
  refine lv_iconst (v := nI 0) hx hb dL_refuses_187 (by decide) ?_
  refine kA (As := [.int (nI 16), .int (nI 0), .int (nI 0)]) (rest := []) (wr := []) (wc := w24) (b := me) hF (a_marks_e l hok (nI 16) (nI 0) (nI 0) (show (nI 16 : Int32).toInt = 16 from (by decide)) (show (nI 0 : Int32).toInt = 0 from (by decide)) (show (nI 0 : Int32).toInt = 0 from (by decide)) (eDy_1 (by omega)) (by decide)) hC23 rfl mw_2_115 mw_2_116 mw_2_117 mw_1_1 mw_2_118 hd_X3_marks ⟨Nat.le_of_ble_eq_true rfl, Nat.le_of_ble_eq_true rfl⟩ hKx hZ hS hP hD hA rfl hl.1 rfl (Nat.le_of_ble_eq_true rfl) dL_refuses_188 hf (fun w26 H locs hC25 hP hD hS => ?_)
  refine lv_iconst (v := (-1)) hx hb dL_refuses_191 (by decide) ?_
  refine z_ne hx hb (tgt := 273) (-1) (-1) dL_refuses_192 (by decide) (by decide) (by decide) (fun c_192 => absurd rfl c_192) (fun c_192 => ?_)
  refine lv_aload_n hx hb dL_refuses_195 rfl (lv_at hl 2 rfl) ?_
  refine lv_iload_n hx hb dL_refuses_196 rfl (lv_at hl 3 rfl) ?_
  refine lv_bipush (v := nI 16) hx hb dL_refuses_197 (by decide) ?_
  refine n_irem hx hb (by omega) (by omega) (by omega) dL_refuses_199 ?_
  refine lv_bipush (v := nI 7) hx hb dL_refuses_200 (by decide) ?_
  refine lv_bipush (v := nI 6) hx hb dL_refuses_202 (by decide) ?_
  refine kA (As := [.int (nI (x % 16)), .int (nI 7), .int (nI 6)]) (rest := []) (wr := []) (wc := w26) (b := me) hF (a_marks_e l hok (nI (x % 16)) (nI 7) (nI 6) (show (nI (x % 16) : Int32).toInt = ((x % 16 : Nat) : Int) from (toI (by omega))) (show (nI 7 : Int32).toInt = 7 from (by decide)) (show (nI 6 : Int32).toInt = 6 from (by decide)) (eDy_2 (by omega) (by omega) (by omega) (by omega)) (by decide)) hC25 rfl mw_2_115 mw_2_116 mw_2_117 mw_1_1 mw_2_118 hd_X3_marks ⟨Nat.le_of_ble_eq_true rfl, Nat.le_of_ble_eq_true rfl⟩ hKx hZ hS hP hD hA rfl hl.1 rfl (Nat.le_of_ble_eq_true rfl) dL_refuses_204 hf (fun w28 H locs hC27 hP hD hS => ?_)
  refine lv_bipush (v := (-2)) hx hb dL_refuses_207 (by decide) ?_
  refine z_ne hx hb (tgt := 273) (-2) (-2) dL_refuses_209 (by decide) (by decide) (by decide) (fun c_209 => absurd rfl c_209) (fun c_209 => ?_)
  refine lv_aload_n hx hb dL_refuses_212 rfl (lv_at hl 2 rfl) ?_
  refine lv_iload_n hx hb dL_refuses_213 rfl (lv_at hl 3 rfl) ?_
  refine lv_bipush (v := nI 16) hx hb dL_refuses_214 (by decide) ?_
  refine n_irem hx hb (by omega) (by omega) (by omega) dL_refuses_216 ?_
  refine lv_sipush (v := nI 3650) hx hb dL_refuses_217 (by decide) ?_
  refine kA (As := [.int (nI (x % 16)), .int (nI 3650)]) (rest := []) (wr := []) (wc := w28) (b := me) hF (a_isMarked_e l hok (nI (x % 16)) (nI 3650) (show (nI (x % 16) : Int32).toInt = ((x % 16 : Nat) : Int) from (toI (by omega))) (show (nI 3650 : Int32).toInt = 3650 from (by decide)) (by omega)) hC27 rfl mw_2_129 mw_2_130 mw_2_131 mw_1_1 mw_2_132 hd_X3_isMarked ⟨Nat.le_of_ble_eq_true rfl, Nat.le_of_ble_eq_true rfl⟩ hKx hZ hS hP hD hA rfl hl.1 rfl (Nat.le_of_ble_eq_true rfl) dL_refuses_220 hf (fun w30 H locs hC29 hP hD hS => ?_)
  refine lv_iconst (v := (-1)) hx hb dL_refuses_223 (by decide) ?_
  refine z_ne hx hb (tgt := 273) (-1) (-1) dL_refuses_224 (by decide) (by decide) (by decide) (fun c_224 => absurd rfl c_224) (fun c_224 => ?_)
  refine lv_aload_n hx hb dL_refuses_227 rfl (lv_at hl 2 rfl) ?_
  refine lv_iload_n hx hb dL_refuses_228 rfl (lv_at hl 3 rfl) ?_
  refine lv_bipush (v := nI 16) hx hb dL_refuses_229 (by decide) ?_
  refine n_irem hx hb (by omega) (by omega) (by omega) dL_refuses_231 ?_
  refine lv_bipush (v := nI 16) hx hb dL_refuses_232 (by decide) ?_
  refine lv_iconst (v := nI 0) hx hb dL_refuses_234 (by decide) ?_
  refine lv_iconst (v := nI 0) hx hb dL_refuses_235 (by decide) ?_
  refine kA (As := [.int (nI (x % 16)), .int (nI 16), .int (nI 0), .int (nI 0)]) (rest := []) (wr := []) (wc := w30) (b := me) hF (a_both_e l hok (nI (x % 16)) (nI 16) (nI 0) (nI 0) (show (nI (x % 16) : Int32).toInt = ((x % 16 : Nat) : Int) from (toI (by omega))) (show (nI 16 : Int32).toInt = 16 from (by decide)) (show (nI 0 : Int32).toInt = 0 from (by decide)) (show (nI 0 : Int32).toInt = 0 from (by decide)) (eDy_1 (by omega)) (by decide)) hC29 rfl mw_2_136 mw_2_137 mw_2_138 mw_1_1 mw_2_139 hd_X3_both ⟨Nat.le_of_ble_eq_true rfl, Nat.le_of_ble_eq_true rfl⟩ hKx hZ hS hP hD hA rfl hl.1 rfl (Nat.le_of_ble_eq_true rfl) dL_refuses_236 hf (fun w32 H locs hC31 hP hD hS => ?_)
  refine lv_iconst (v := (-1)) hx hb dL_refuses_239 (by decide) ?_
  refine z_ne hx hb (tgt := 273) (-1) (-1) dL_refuses_240 (by decide) (by decide) (by decide) (fun c_240 => absurd rfl c_240) (fun c_240 => ?_)
  refine lv_aload_n hx hb dL_refuses_243 rfl (lv_at hl 2 rfl) ?_
  refine lv_iconst (v := nI 0) hx hb dL_refuses_244 (by decide) ?_
  refine lv_iconst (v := nI 0) hx hb dL_refuses_245 (by decide) ?_
  refine lv_iconst (v := nI 0) hx hb dL_refuses_246 (by decide) ?_
  refine kA (As := [.int (nI 0), .int (nI 0), .int (nI 0)]) (rest := []) (wr := []) (wc := w32) (b := me) hF (a_crowded_e l hok (nI 0) (nI 0) (nI 0) (show (nI 0 : Int32).toInt = 0 from (by decide)) (show (nI 0 : Int32).toInt = 0 from (by decide)) (show (nI 0 : Int32).toInt = 0 from (by decide)) (by omega) (eCr_2 (by omega) (by omega))) hC31 rfl mw_2_145 mw_2_146 mw_2_147 mw_1_1 mw_2_148 hd_X3_crowded ⟨Nat.le_of_ble_eq_true rfl, Nat.le_of_ble_eq_true rfl⟩ hKx hZ hS hP hD hA rfl hl.1 rfl (Nat.le_of_ble_eq_true rfl) dL_refuses_247 hf (fun w34 H locs hC33 hP hD hS => ?_)
  refine lv_bipush (v := (-2)) hx hb dL_refuses_250 (by decide) ?_
  refine z_ne hx hb (tgt := 273) (-2) (-2) dL_refuses_252 (by decide) (by decide) (by decide) (fun c_252 => absurd rfl c_252) (fun c_252 => ?_)
  refine lv_aload_n hx hb dL_refuses_255 rfl (lv_at hl 2 rfl) ?_
  refine lv_bipush (v := nI 17) hx hb dL_refuses_256 (by decide) ?_
  refine lv_sipush (v := nI 3650) hx hb dL_refuses_258 (by decide) ?_
  refine lv_iconst (v := nI 0) hx hb dL_refuses_261 (by decide) ?_
  refine kA (As := [.int (nI 17), .int (nI 3650), .int (nI 0)]) (rest := []) (wr := []) (wc := w34) (b := me) hF (a_crowded_e l hok (nI 17) (nI 3650) (nI 0) (show (nI 17 : Int32).toInt = 17 from (by decide)) (show (nI 3650 : Int32).toInt = 3650 from (by decide)) (show (nI 0 : Int32).toInt = 0 from (by decide)) (by omega) (eCr_1 (by omega))) hC33 rfl mw_2_145 mw_2_146 mw_2_147 mw_1_1 mw_2_148 hd_X3_crowded ⟨Nat.le_of_ble_eq_true rfl, Nat.le_of_ble_eq_true rfl⟩ hKx hZ hS hP hD hA rfl hl.1 rfl (Nat.le_of_ble_eq_true rfl) dL_refuses_262 hf (fun w36 H locs hC35 hP hD hS => ?_)
  refine lv_iconst (v := (-1)) hx hb dL_refuses_265 (by decide) ?_
  refine z_ne hx hb (tgt := 273) (-1) (-1) dL_refuses_266 (by decide) (by decide) (by decide) (fun c_266 => absurd rfl c_266) (fun c_266 => ?_)
  refine lv_iconst (v := nI 1) hx hb dL_refuses_269 (by decide) ?_
  refine lv_goto (tgt := 274) hx hb dL_refuses_270 (by decide) ?_
  refine lv_istore_n (lv' := [(3, .int (nI 1)), (2, .int (nI (td (qr q)))), (0, .ref me), (1, .int (nI x))]) hx hb dL_refuses_274 rfl hl (by decide) rfl (fun ls hl => ?_)
  refine lv_iload_n hx hb dL_refuses_275 rfl (lv_at hl 0 rfl) ?_
  refine z0_eq hx hb (tgt := 404) 1 dL_refuses_276 (by decide) (by decide) (fun c_276 => absurd c_276 (by decide)) (fun c_276 => ?_)
  refine lv_aload_n hx hb dL_refuses_279 rfl (lv_at hl 2 rfl) ?_
  refine lv_iload_n hx hb dL_refuses_280 rfl (lv_at hl 3 rfl) ?_
  refine lv_bipush (v := nI 16) hx hb dL_refuses_281 (by decide) ?_
  refine n_irem hx hb (by omega) (by omega) (by omega) dL_refuses_283 ?_
  refine lv_iconst (v := nI 0) hx hb dL_refuses_284 (by decide) ?_
  refine lv_iconst (v := nI 0) hx hb dL_refuses_285 (by decide) ?_
  refine lv_iconst (v := nI 2) hx hb dL_refuses_286 (by decide) ?_
  refine kA (As := [.int (nI (x % 16)), .int (nI 0), .int (nI 0), .int (nI 2)]) (rest := []) (wr := []) (wc := w36) (b := me) hF (a_longest_e l hok (nI (x % 16)) (nI 0) (nI 0) (nI 2) (show (nI (x % 16) : Int32).toInt = ((x % 16 : Nat) : Int) from (toI (by omega))) (show (nI 0 : Int32).toInt = 0 from (by decide)) (show (nI 0 : Int32).toInt = 0 from (by decide)) (show (nI 2 : Int32).toInt = 2 from (by decide)) (by omega) (eLo_2 (by omega) (by omega))) hC35 rfl mw_2_158 mw_2_159 mw_2_160 mw_1_1 mw_2_161 hd_X3_longest ⟨Nat.le_of_ble_eq_true rfl, Nat.le_of_ble_eq_true rfl⟩ hKx hZ hS hP hD hA rfl hl.1 rfl (Nat.le_of_ble_eq_true rfl) dL_refuses_287 hf (fun w38 H locs hC37 hP hD hS => ?_)
  refine lv_bipush (v := (-2)) hx hb dL_refuses_290 (by decide) ?_
  refine z_ne hx hb (tgt := 404) (-2) (-2) dL_refuses_292 (by decide) (by decide) (by decide) (fun c_292 => absurd rfl c_292) (fun c_292 => ?_)
  refine lv_aload_n hx hb dL_refuses_295 rfl (lv_at hl 2 rfl) ?_
  refine lv_bipush (v := nI 16) hx hb dL_refuses_296 (by decide) ?_
  refine lv_iconst (v := nI 0) hx hb dL_refuses_298 (by decide) ?_
  refine lv_iconst (v := nI 0) hx hb dL_refuses_299 (by decide) ?_
  refine lv_bipush (v := nI 9) hx hb dL_refuses_300 (by decide) ?_
  refine kA (As := [.int (nI 16), .int (nI 0), .int (nI 0), .int (nI 9)]) (rest := []) (wr := []) (wc := w38) (b := me) hF (a_longest_e l hok (nI 16) (nI 0) (nI 0) (nI 9) (show (nI 16 : Int32).toInt = 16 from (by decide)) (show (nI 0 : Int32).toInt = 0 from (by decide)) (show (nI 0 : Int32).toInt = 0 from (by decide)) (show (nI 9 : Int32).toInt = 9 from (by decide)) (by omega) (eLo_1 (by omega))) hC37 rfl mw_2_158 mw_2_159 mw_2_160 mw_1_1 mw_2_161 hd_X3_longest ⟨Nat.le_of_ble_eq_true rfl, Nat.le_of_ble_eq_true rfl⟩ hKx hZ hS hP hD hA rfl hl.1 rfl (Nat.le_of_ble_eq_true rfl) dL_refuses_302 hf (fun w40 H locs hC39 hP hD hS => ?_)
  refine lv_iconst (v := (-1)) hx hb dL_refuses_305 (by decide) ?_
  refine z_ne hx hb (tgt := 404) (-1) (-1) dL_refuses_306 (by decide) (by decide) (by decide) (fun c_306 => absurd rfl c_306) (fun c_306 => ?_)
  refine lv_aload_n hx hb dL_refuses_309 rfl (lv_at hl 2 rfl) ?_
  refine lv_iload_n hx hb dL_refuses_310 rfl (lv_at hl 3 rfl) ?_
  refine lv_bipush (v := nI 16) hx hb dL_refuses_311 (by decide) ?_
  refine n_irem hx hb (by omega) (by omega) (by omega) dL_refuses_313 ?_
  refine lv_iconst (v := (-1)) hx hb dL_refuses_314 (by decide) ?_
  refine kA (As := [.int (nI (x % 16)), .int (-1)]) (rest := []) (wr := []) (wc := w40) (b := me) hF (a_nextMark_e l hok (nI (x % 16)) (-1) (show (nI (x % 16) : Int32).toInt = ((x % 16 : Nat) : Int) from (toI (by omega))) (show ((-1) : Int32).toInt = (-1) from (by decide)) (by omega)) hC39 rfl mw_2_171 mw_2_172 mw_2_173 mw_1_1 mw_2_174 hd_X3_nextMark ⟨Nat.le_of_ble_eq_true rfl, Nat.le_of_ble_eq_true rfl⟩ hKx hZ hS hP hD hA rfl hl.1 rfl (Nat.le_of_ble_eq_true rfl) dL_refuses_315 hf (fun w42 H locs hC41 hP hD hS => ?_)
  refine lv_iconst (v := (-1)) hx hb dL_refuses_318 (by decide) ?_
  refine z_ne hx hb (tgt := 404) (-1) (-1) dL_refuses_319 (by decide) (by decide) (by decide) (fun c_319 => absurd rfl c_319) (fun c_319 => ?_)
  refine lv_aload_n hx hb dL_refuses_322 rfl (lv_at hl 2 rfl) ?_
  refine lv_bipush (v := nI 120) hx hb dL_refuses_323 (by decide) ?_
  refine lv_iload_n hx hb dL_refuses_325 rfl (lv_at hl 3 rfl) ?_
  refine lv_bipush (v := nI 9) hx hb dL_refuses_326 (by decide) ?_
  refine n_irem hx hb (by omega) (by omega) (by omega) dL_refuses_328 ?_
  refine n_iadd hx hb dL_refuses_329 ?_
  refine lv_iconst (v := nI 0) hx hb dL_refuses_330 (by decide) ?_
  refine kA (As := [.int (nI (120 + x % 9)), .int (nI 0)]) (rest := []) (wr := []) (wc := w42) (b := me) hF (a_ofMonth_e l hok (nI (120 + x % 9)) (nI 0) (show (nI (120 + x % 9) : Int32).toInt = ((120 + x % 9 : Nat) : Int) from (toI (by omega))) (by omega)) hC41 rfl mw_2_175 mw_2_176 mw_2_177 mw_1_1 mw_2_178 hd_X3_ofMonth ⟨Nat.le_of_ble_eq_true rfl, Nat.le_of_ble_eq_true rfl⟩ hKx hZ hS hP hD hA rfl hl.1 rfl (Nat.le_of_ble_eq_true rfl) dL_refuses_331 hf (fun w44 H locs hC43 hP hD hS => ?_)
  refine lv_iconst (v := (-1)) hx hb dL_refuses_334 (by decide) ?_
  refine z_ne hx hb (tgt := 404) (-1) (-1) dL_refuses_335 (by decide) (by decide) (by decide) (fun c_335 => absurd rfl c_335) (fun c_335 => ?_)
  refine lv_aload_n hx hb dL_refuses_338 rfl (lv_at hl 2 rfl) ?_
  refine lv_iload_n hx hb dL_refuses_339 rfl (lv_at hl 3 rfl) ?_
  refine lv_bipush (v := nI 120) hx hb dL_refuses_340 (by decide) ?_
  refine n_irem hx hb (by omega) (by omega) (by omega) dL_refuses_342 ?_
  refine lv_bipush (v := nI 10) hx hb dL_refuses_343 (by decide) ?_
  refine lv_iload_n hx hb dL_refuses_345 rfl (lv_at hl 3 rfl) ?_
  refine lv_bipush (v := nI 9) hx hb dL_refuses_346 (by decide) ?_
  refine n_irem hx hb (by omega) (by omega) (by omega) dL_refuses_348 ?_
  refine n_iadd hx hb dL_refuses_349 ?_
  refine kA (As := [.int (nI (x % 120)), .int (nI (10 + x % 9))]) (rest := []) (wr := []) (wc := w44) (b := me) hF (a_ofMonth_e2 hok (x % 120) (nI (10 + x % 9)) (by omega) (show (nI (10 + x % 9) : Int32).toInt = ((10 + x % 9 : Nat) : Int) from (toI (by omega))) (by omega)) hC43 rfl mw_2_175 mw_2_176 mw_2_177 mw_1_1 mw_2_178 hd_X3_ofMonth ⟨Nat.le_of_ble_eq_true rfl, Nat.le_of_ble_eq_true rfl⟩ hKx hZ hS hP hD hA rfl hl.1 rfl (Nat.le_of_ble_eq_true rfl) dL_refuses_350 hf (fun w46 H locs hC45 hP hD hS => ?_)
  refine lv_bipush (v := (-2)) hx hb dL_refuses_353 (by decide) ?_
  refine z_ne hx hb (tgt := 404) (-2) (-2) dL_refuses_355 (by decide) (by decide) (by decide) (fun c_355 => absurd rfl c_355) (fun c_355 => ?_)
  refine lv_aload_n hx hb dL_refuses_358 rfl (lv_at hl 2 rfl) ?_
  refine lv_bipush (v := nI 16) hx hb dL_refuses_359 (by decide) ?_
  refine lv_iconst (v := nI 0) hx hb dL_refuses_361 (by decide) ?_
  refine kA (As := [.int (nI 16), .int (nI 0)]) (rest := []) (wr := []) (wc := w46) (b := me) hF (a_inMonth_e l hok (nI 16) (nI 0) (show (nI 16 : Int32).toInt = 16 from (by decide)) (show (nI 0 : Int32).toInt = 0 from (by decide)) (by omega)) hC45 rfl mw_2_190 mw_2_191 mw_2_192 mw_1_1 mw_2_193 hd_X3_inMonth ⟨Nat.le_of_ble_eq_true rfl, Nat.le_of_ble_eq_true rfl⟩ hKx hZ hS hP hD hA rfl hl.1 rfl (Nat.le_of_ble_eq_true rfl) dL_refuses_362 hf (fun w48 H locs hC47 hP hD hS => ?_)
  refine lv_iconst (v := (-1)) hx hb dL_refuses_365 (by decide) ?_
  refine z_ne hx hb (tgt := 404) (-1) (-1) dL_refuses_366 (by decide) (by decide) (by decide) (fun c_366 => absurd rfl c_366) (fun c_366 => ?_)
  refine lv_aload_n hx hb dL_refuses_369 rfl (lv_at hl 2 rfl) ?_
  refine lv_iconst (v := nI 0) hx hb dL_refuses_370 (by decide) ?_
  refine lv_bipush (v := nI 120) hx hb dL_refuses_371 (by decide) ?_
  refine kA (As := [.int (nI 0), .int (nI 120)]) (rest := []) (wr := []) (wc := w48) (b := me) hF (a_inMonth_e l hok (nI 0) (nI 120) (show (nI 0 : Int32).toInt = 0 from (by decide)) (show (nI 120 : Int32).toInt = 120 from (by decide)) (by omega)) hC47 rfl mw_2_190 mw_2_191 mw_2_192 mw_1_1 mw_2_193 hd_X3_inMonth ⟨Nat.le_of_ble_eq_true rfl, Nat.le_of_ble_eq_true rfl⟩ hKx hZ hS hP hD hA rfl hl.1 rfl (Nat.le_of_ble_eq_true rfl) dL_refuses_373 hf (fun w50 H locs hC49 hP hD hS => ?_)
  refine lv_iconst (v := (-1)) hx hb dL_refuses_376 (by decide) ?_
  refine z_ne hx hb (tgt := 404) (-1) (-1) dL_refuses_377 (by decide) (by decide) (by decide) (fun c_377 => absurd rfl c_377) (fun c_377 => ?_)
  refine lv_aload_n hx hb dL_refuses_380 rfl (lv_at hl 2 rfl) ?_
  refine lv_iload_n hx hb dL_refuses_381 rfl (lv_at hl 3 rfl) ?_
  refine lv_bipush (v := nI 10) hx hb dL_refuses_382 (by decide) ?_
  refine n_irem hx hb (by omega) (by omega) (by omega) dL_refuses_384 ?_
  refine lv_iconst (v := nI 1) hx hb dL_refuses_385 (by decide) ?_
  refine lv_iload_n hx hb dL_refuses_386 rfl (lv_at hl 3 rfl) ?_
  refine lv_bipush (v := nI 12) hx hb dL_refuses_387 (by decide) ?_
  refine n_irem hx hb (by omega) (by omega) (by omega) dL_refuses_389 ?_
  refine n_iadd hx hb dL_refuses_390 ?_
  refine lv_bipush (v := nI 32) hx hb dL_refuses_391 (by decide) ?_
  refine kA (As := [.int (nI (x % 10)), .int (nI (1 + x % 12)), .int (nI 32)]) (rest := []) (wr := []) (wc := w50) (b := me) hF (a_dayOf_e l hok (x % 10) (1 + x % 12) (nI 32) (show (nI 32 : Int32).toInt = 32 from (by decide)) (by omega) (by omega) (by have := (dys_in (12 * (x % 10) + (1 + x % 12) - 1)).2; omega)) hC49 rfl mw_2_194 mw_2_195 mw_2_196 mw_1_1 mw_2_197 hd_X3_dayOf ⟨Nat.le_of_ble_eq_true rfl, Nat.le_of_ble_eq_true rfl⟩ hKx hZ hS hP hD hA rfl hl.1 rfl (Nat.le_of_ble_eq_true rfl) dL_refuses_393 hf (fun w52 H locs hC51 hP hD hS => ?_)
  refine lv_iconst (v := (-1)) hx hb dL_refuses_396 (by decide) ?_
  refine z_ne hx hb (tgt := 404) (-1) (-1) dL_refuses_397 (by decide) (by decide) (by decide) (fun c_397 => absurd rfl c_397) (fun c_397 => ?_)
  refine lv_iconst (v := nI 1) hx hb dL_refuses_400 (by decide) ?_
  refine lv_goto (tgt := 405) hx hb dL_refuses_401 (by decide) ?_
  refine lv_istore_n (lv' := [(3, .int (nI 1)), (2, .int (nI (td (qr q)))), (0, .ref me), (1, .int (nI x))]) hx hb dL_refuses_405 rfl hl (by decide) rfl (fun ls hl => ?_)
  refine lv_iload_n hx hb dL_refuses_406 rfl (lv_at hl 0 rfl) ?_
  refine z0_eq hx hb (tgt := 539) 1 dL_refuses_407 (by decide) (by decide) (fun c_407 => absurd c_407 (by decide)) (fun c_407 => ?_)
  refine lv_aload_n hx hb dL_refuses_410 rfl (lv_at hl 2 rfl) ?_
  refine lv_iload_n hx hb dL_refuses_411 rfl (lv_at hl 3 rfl) ?_
  refine lv_sipush (v := nI 3650) hx hb dL_refuses_412 (by decide) ?_
  refine n_irem hx hb (by omega) (by omega) (by omega) dL_refuses_415 ?_
  refine lv_iconst (v := nI 4) hx hb dL_refuses_416 (by decide) ?_
  refine lv_iload_n hx hb dL_refuses_417 rfl (lv_at hl 3 rfl) ?_
  refine lv_bipush (v := nI 9) hx hb dL_refuses_418 (by decide) ?_
  refine n_irem hx hb (by omega) (by omega) (by omega) dL_refuses_420 ?_
  refine n_iadd hx hb dL_refuses_421 ?_
  refine kA (As := [.int (nI (x % 3650)), .int (nI (4 + x % 9))]) (rest := []) (wr := []) (wc := w52) (b := me) hF (a_dateOf_e l hok (x % 3650) (nI (4 + x % 9)) (by omega) (show (nI (4 + x % 9) : Int32).toInt = ((4 + x % 9 : Nat) : Int) from (toI (by omega))) (by omega)) hC51 rfl mw_2_198 mw_2_199 mw_2_200 mw_1_1 mw_2_201 hd_X3_dateOf ⟨Nat.le_of_ble_eq_true rfl, Nat.le_of_ble_eq_true rfl⟩ hKx hZ hS hP hD hA rfl hl.1 rfl (Nat.le_of_ble_eq_true rfl) dL_refuses_422 hf (fun w54 H locs hC53 hP hD hS => ?_)
  refine lv_bipush (v := (-2)) hx hb dL_refuses_425 (by decide) ?_
  refine z_ne hx hb (tgt := 539) (-2) (-2) dL_refuses_427 (by decide) (by decide) (by decide) (fun c_427 => absurd rfl c_427) (fun c_427 => ?_)
  refine lv_aload_n hx hb dL_refuses_430 rfl (lv_at hl 2 rfl) ?_
  refine lv_bipush (v := nI 13) hx hb dL_refuses_431 (by decide) ?_
  refine lv_iload_n hx hb dL_refuses_433 rfl (lv_at hl 3 rfl) ?_
  refine lv_bipush (v := nI 9) hx hb dL_refuses_434 (by decide) ?_
  refine n_irem hx hb (by omega) (by omega) (by omega) dL_refuses_436 ?_
  refine n_iadd hx hb dL_refuses_437 ?_
  refine kA (As := [.int (nI (13 + x % 9))]) (rest := []) (wr := []) (wc := w54) (b := me) hF (a_count_e hok (nI (13 + x % 9)) (show (nI (13 + x % 9) : Int32).toInt = ((13 + x % 9 : Nat) : Int) from (toI (by omega))) (by omega)) hC53 rfl mw_1_156 mw_1_157 mw_1_158 mw_1_1 mw_1_159 hd_X3_count ⟨Nat.le_of_ble_eq_true rfl, Nat.le_of_ble_eq_true rfl⟩ hKx hZ hS hP hD hA rfl hl.1 rfl (Nat.le_of_ble_eq_true rfl) dL_refuses_438 hf (fun w56 H locs hC55 hP hD hS => ?_)
  refine lv_bipush (v := (-2)) hx hb dL_refuses_441 (by decide) ?_
  refine z_ne hx hb (tgt := 539) (-2) (-2) dL_refuses_443 (by decide) (by decide) (by decide) (fun c_443 => absurd rfl c_443) (fun c_443 => ?_)
  refine lv_aload_n hx hb dL_refuses_446 rfl (lv_at hl 2 rfl) ?_
  refine lv_iload_n hx hb dL_refuses_447 rfl (lv_at hl 3 rfl) ?_
  refine lv_bipush (v := nI 120) hx hb dL_refuses_448 (by decide) ?_
  refine n_irem hx hb (by omega) (by omega) (by omega) dL_refuses_450 ?_
  refine lv_iconst (v := nI 5) hx hb dL_refuses_451 (by decide) ?_
  refine kA (As := [.int (nI (x % 120)), .int (nI 5)]) (rest := []) (wr := []) (wc := w56) (b := me) hF (a_sizeAs_e2 l hok (x % 120) (nI 5) (by omega) (show (nI 5 : Int32).toInt = 5 from (by decide)) (by omega)) hC55 rfl mw_2_202 mw_2_203 mw_2_204 mw_1_1 mw_2_205 hd_X3_sizeAs ⟨Nat.le_of_ble_eq_true rfl, Nat.le_of_ble_eq_true rfl⟩ hKx hZ hS hP hD hA rfl hl.1 rfl (Nat.le_of_ble_eq_true rfl) dL_refuses_452 hf (fun w58 H locs hC57 hP hD hS => ?_)
  refine lv_bipush (v := (-2)) hx hb dL_refuses_455 (by decide) ?_
  refine z_ne hx hb (tgt := 539) (-2) (-2) dL_refuses_457 (by decide) (by decide) (by decide) (fun c_457 => absurd rfl c_457) (fun c_457 => ?_)
  refine lv_aload_n hx hb dL_refuses_460 rfl (lv_at hl 2 rfl) ?_
  refine lv_iconst (v := (-1)) hx hb dL_refuses_461 (by decide) ?_
  refine lv_bipush (v := nI 9) hx hb dL_refuses_462 (by decide) ?_
  refine kA (As := [.int (-1), .int (nI 9)]) (rest := []) (wr := []) (wc := w58) (b := me) hF (a_sizeAs_e l hok (-1) (nI 9) (show ((-1) : Int32).toInt = (-1) from (by decide)) (by omega)) hC57 rfl mw_2_202 mw_2_203 mw_2_204 mw_1_1 mw_2_205 hd_X3_sizeAs ⟨Nat.le_of_ble_eq_true rfl, Nat.le_of_ble_eq_true rfl⟩ hKx hZ hS hP hD hA rfl hl.1 rfl (Nat.le_of_ble_eq_true rfl) dL_refuses_464 hf (fun w60 H locs hC59 hP hD hS => ?_)
  refine lv_iconst (v := (-1)) hx hb dL_refuses_467 (by decide) ?_
  refine z_ne hx hb (tgt := 539) (-1) (-1) dL_refuses_468 (by decide) (by decide) (by decide) (fun c_468 => absurd rfl c_468) (fun c_468 => ?_)
  refine lv_aload_n hx hb dL_refuses_471 rfl (lv_at hl 2 rfl) ?_
  refine lv_sipush (v := nI 3650) hx hb dL_refuses_472 (by decide) ?_
  refine lv_iconst (v := nI 0) hx hb dL_refuses_475 (by decide) ?_
  refine kA (As := [.int (nI 3650), .int (nI 0)]) (rest := []) (wr := []) (wc := w60) (b := me) hF (a_workOf_e l hok (nI 3650) (nI 0) (show (nI 3650 : Int32).toInt = 3650 from (by decide)) (show (nI 0 : Int32).toInt = 0 from (by decide)) (eDy_1 (by omega)) (by decide)) hC59 rfl mw_2_208 mw_2_209 mw_2_210 mw_1_1 mw_2_211 hd_X3_workOf ⟨Nat.le_of_ble_eq_true rfl, Nat.le_of_ble_eq_true rfl⟩ hKx hZ hS hP hD hA rfl hl.1 rfl (Nat.le_of_ble_eq_true rfl) dL_refuses_476 hf (fun w62 H locs hC61 hP hD hS => ?_)
  refine lv_iconst (v := (-1)) hx hb dL_refuses_479 (by decide) ?_
  refine z_ne hx hb (tgt := 539) (-1) (-1) dL_refuses_480 (by decide) (by decide) (by decide) (fun c_480 => absurd rfl c_480) (fun c_480 => ?_)
  refine lv_aload_n hx hb dL_refuses_483 rfl (lv_at hl 2 rfl) ?_
  refine lv_bipush (v := nI 9) hx hb dL_refuses_484 (by decide) ?_
  refine lv_bipush (v := nI 8) hx hb dL_refuses_486 (by decide) ?_
  refine kA (As := [.int (nI 9), .int (nI 8)]) (rest := []) (wr := []) (wc := w62) (b := me) hF (a_workOf_e l hok (nI 9) (nI 8) (show (nI 9 : Int32).toInt = 9 from (by decide)) (show (nI 8 : Int32).toInt = 8 from (by decide)) (eDy_2 trivial (by omega) (by omega) (by omega)) (by decide)) hC61 rfl mw_2_208 mw_2_209 mw_2_210 mw_1_1 mw_2_211 hd_X3_workOf ⟨Nat.le_of_ble_eq_true rfl, Nat.le_of_ble_eq_true rfl⟩ hKx hZ hS hP hD hA rfl hl.1 rfl (Nat.le_of_ble_eq_true rfl) dL_refuses_488 hf (fun w64 H locs hC63 hP hD hS => ?_)
  refine lv_bipush (v := (-2)) hx hb dL_refuses_491 (by decide) ?_
  refine z_ne hx hb (tgt := 539) (-2) (-2) dL_refuses_493 (by decide) (by decide) (by decide) (fun c_493 => absurd rfl c_493) (fun c_493 => ?_)
  refine lv_aload_n hx hb dL_refuses_496 rfl (lv_at hl 2 rfl) ?_
  refine lv_bipush (v := nI 9) hx hb dL_refuses_497 (by decide) ?_
  refine lv_bipush (v := nI 8) hx hb dL_refuses_499 (by decide) ?_
  refine kA (As := [.int (nI 9), .int (nI 8)]) (rest := []) (wr := []) (wc := w64) (b := me) hF (a_bestOpen_e l hok (nI 9) (nI 8) (show (nI 9 : Int32).toInt = 9 from (by decide)) (show (nI 8 : Int32).toInt = 8 from (by decide)) (eDy_2 trivial (by omega) (by omega) (by omega)) (by decide)) hC63 rfl mw_2_212 mw_2_213 mw_2_214 mw_1_1 mw_2_215 hd_X3_bestOpen ⟨Nat.le_of_ble_eq_true rfl, Nat.le_of_ble_eq_true rfl⟩ hKx hZ hS hP hD hA rfl hl.1 rfl (Nat.le_of_ble_eq_true rfl) dL_refuses_501 hf (fun w66 H locs hC65 hP hD hS => ?_)
  refine lv_bipush (v := (-2)) hx hb dL_refuses_504 (by decide) ?_
  refine z_ne hx hb (tgt := 539) (-2) (-2) dL_refuses_506 (by decide) (by decide) (by decide) (fun c_506 => absurd rfl c_506) (fun c_506 => ?_)
  refine lv_aload_n hx hb dL_refuses_509 rfl (lv_at hl 2 rfl) ?_
  refine lv_iload_n hx hb dL_refuses_510 rfl (lv_at hl 3 rfl) ?_
  refine lv_bipush (v := nI 33) hx hb dL_refuses_511 (by decide) ?_
  refine n_irem hx hb (by omega) (by omega) (by omega) dL_refuses_513 ?_
  refine lv_i2l (v := (nI (x % 33)).toInt64) hx hb dL_refuses_514 rfl ?_
  refine kA (As := [.long ((nI (x % 33)).toInt64)]) (rest := []) (wr := []) (wc := w66) (b := me) hF (a_put_s hok (x % 33) (by omega)) hC65 rfl mw_2_216 mw_2_217 mw_2_218 mw_1_1 mw_2_219 hd_X3_put ⟨Nat.le_of_ble_eq_true rfl, Nat.le_of_ble_eq_true rfl⟩ hKx hZ hS hP hD hA rfl hl.1 rfl (Nat.le_of_ble_eq_true rfl) dL_refuses_515 hf (fun w68 H locs hC67 hP hD hS => ?_)
  refine lv_bipush (v := (-2)) hx hb dL_refuses_518 (by decide) ?_
  refine z_ne hx hb (tgt := 539) (-2) (-2) dL_refuses_520 (by decide) (by decide) (by decide) (fun c_520 => absurd rfl c_520) (fun c_520 => ?_)
  refine lv_aload_n hx hb dL_refuses_523 rfl (lv_at hl 2 rfl) ?_
  refine lv_ldc2 (v := 127) hx hb hown (hts _ mw_2_229) dL_refuses_524 ?_
  refine kA (As := [.long 127]) (rest := []) (wr := []) (wc := w68) (b := me) hF (a_put_127 hok) hC67 rfl mw_2_216 mw_2_217 mw_2_218 mw_1_1 mw_2_219 hd_X3_put ⟨Nat.le_of_ble_eq_true rfl, Nat.le_of_ble_eq_true rfl⟩ hKx hZ hS hP hD hA rfl hl.1 rfl (Nat.le_of_ble_eq_true rfl) dL_refuses_527 hf (fun w70 H locs hC69 hP hD hS => ?_)
  refine lv_bipush (v := (-2)) hx hb dL_refuses_530 (by decide) ?_
  refine z_ne hx hb (tgt := 539) (-2) (-2) dL_refuses_532 (by decide) (by decide) (by decide) (fun c_532 => absurd rfl c_532) (fun c_532 => ?_)
  refine lv_iconst (v := nI 1) hx hb dL_refuses_535 (by decide) ?_
  refine lv_goto (tgt := 540) hx hb dL_refuses_536 (by decide) ?_
  refine lv_istore_n (lv' := [(3, .int (nI 1)), (2, .int (nI (td (qr q)))), (0, .ref me), (1, .int (nI x))]) hx hb dL_refuses_540 rfl hl (by decide) rfl (fun ls hl => ?_)
  refine lv_iload_n hx hb dL_refuses_541 rfl (lv_at hl 0 rfl) ?_
  refine z0_eq hx hb (tgt := 623) 1 dL_refuses_542 (by decide) (by decide) (fun c_542 => absurd c_542 (by decide)) (fun c_542 => ?_)
  refine lv_aload_n hx hb dL_refuses_545 rfl (lv_at hl 2 rfl) ?_
  refine lv_iconst (v := nI 2) hx hb dL_refuses_546 (by decide) ?_
  refine lv_iload_n hx hb dL_refuses_547 rfl (lv_at hl 3 rfl) ?_
  refine lv_bipush (v := nI 9) hx hb dL_refuses_548 (by decide) ?_
  refine n_irem hx hb (by omega) (by omega) (by omega) dL_refuses_550 ?_
  refine n_iadd hx hb dL_refuses_551 ?_
  refine kA (As := [.int (nI (2 + x % 9))]) (rest := []) (wr := []) (wc := w70) (b := me) hF (a_save_e l hok (nI (2 + x % 9)) (show (nI (2 + x % 9) : Int32).toInt = ((2 + x % 9 : Nat) : Int) from (toI (by omega))) (by omega)) hC69 rfl mw_2_230 mw_2_231 mw_2_232 mw_1_1 mw_2_233 hd_X3_save ⟨Nat.le_of_ble_eq_true rfl, Nat.le_of_ble_eq_true rfl⟩ hKx hZ hS hP hD hA rfl hl.1 rfl (Nat.le_of_ble_eq_true rfl) dL_refuses_552 hf (fun w72 H locs hC71 hP hD hS => ?_)
  refine lv_bipush (v := (-2)) hx hb dL_refuses_555 (by decide) ?_
  refine z_ne hx hb (tgt := 623) (-2) (-2) dL_refuses_557 (by decide) (by decide) (by decide) (fun c_557 => absurd rfl c_557) (fun c_557 => ?_)
  refine lv_aload_n hx hb dL_refuses_560 rfl (lv_at hl 2 rfl) ?_
  refine lv_iconst (v := (-1)) hx hb dL_refuses_561 (by decide) ?_
  refine lv_iload_n hx hb dL_refuses_562 rfl (lv_at hl 3 rfl) ?_
  refine lv_bipush (v := nI 9) hx hb dL_refuses_563 (by decide) ?_
  refine n_irem hx hb (by omega) (by omega) (by omega) dL_refuses_565 ?_
  refine lv_isub hx hb dL_refuses_566 ?_
  refine kA (As := [.int ((-1) - (nI (x % 9)))]) (rest := []) (wr := []) (wc := w72) (b := me) hF (a_restore_e l hok ((-1) - (nI (x % 9))) (m1_sub (x % 9) (Nat.mod_lt _ (by decide))) (by omega)) hC71 rfl mw_2_234 mw_2_235 mw_2_236 mw_1_1 mw_2_237 hd_X3_restore ⟨Nat.le_of_ble_eq_true rfl, Nat.le_of_ble_eq_true rfl⟩ hKx hZ hS hP hD hA rfl hl.1 rfl (Nat.le_of_ble_eq_true rfl) dL_refuses_567 hf (fun w74 H locs hC73 hP hD hS => ?_)
  refine lv_bipush (v := (-2)) hx hb dL_refuses_570 (by decide) ?_
  refine z_ne hx hb (tgt := 623) (-2) (-2) dL_refuses_572 (by decide) (by decide) (by decide) (fun c_572 => absurd rfl c_572) (fun c_572 => ?_)
  have j647 : ∀ (w : va_W) (H : Heap) (locs : List Loc) (ls : Array Slot), CS G me q w → va_P G.1 vwCl ([] ++ w) H → va_D A ([] ++ w) → va_S A sq.heap H locs → lv_has ls 4 [(3, .int (nI 1)), (2, .int (nI (td (qr q)))), (0, .ref me), (1, .int (nI x))] → W pq l eq (rmL 10) sq mq [Value.ref me, Value.int (nI x)].toArray bq tq cq H locs 0 0 (MQ bq (Qu G A 1 (CS G me q)) [Value.ref me, Value.int (nI x)].toArray sq 0 0 A) (F0 mq 647 ls []) := by
    intro w H locs ls hC hP hD hS hl
    refine lv_iconst (v := nI 1) hx hb dL_refuses_647 (by decide) ?_
    refine lv_goto (tgt := 652) hx hb dL_refuses_648 (by decide) ?_
    exact e_uz hx hb hr hlk nz_1 (ws := w) hP hD hS hC rfl dL_refuses_652
  have j619 : ∀ (w : va_W) (H : Heap) (locs : List Loc) (ls : Array Slot), CS G me q w → va_P G.1 vwCl ([] ++ w) H → va_D A ([] ++ w) → va_S A sq.heap H locs → lv_has ls 4 [(3, .int (nI 1)), (2, .int (nI (td (qr q)))), (0, .ref me), (1, .int (nI x))] → W pq l eq (rmL 10) sq mq [Value.ref me, Value.int (nI x)].toArray bq tq cq H locs 0 0 (MQ bq (Qu G A 1 (CS G me q)) [Value.ref me, Value.int (nI x)].toArray sq 0 0 A) (F0 mq 619 ls []) := by
    intro w H locs ls hC hP hD hS hl
    refine lv_iconst (v := nI 1) hx hb dL_refuses_619 (by decide) ?_
    refine lv_goto (tgt := 624) hx hb dL_refuses_620 (by decide) ?_
    refine lv_istore_n (lv' := [(3, .int (nI 1)), (2, .int (nI (td (qr q)))), (0, .ref me), (1, .int (nI x))]) hx hb dL_refuses_624 rfl hl (by decide) rfl (fun ls hl => ?_)
    refine lv_iload_n hx hb dL_refuses_625 rfl (lv_at hl 0 rfl) ?_
    refine z0_eq hx hb (tgt := 651) 1 dL_refuses_626 (by decide) (by decide) (fun c_626 => absurd c_626 (by decide)) (fun c_626 => ?_)
    refine lv_aload_n hx hb dL_refuses_629 rfl (lv_at hl 2 rfl) ?_
    refine kA (As := []) (rest := []) (wr := []) (wc := w) (b := me) hF (a_fault l hok) hC rfl mw_2_238 mw_2_239 mw_3_0 mw_1_1 mw_3_1 hd_X3_fault ⟨Nat.le_of_ble_eq_true rfl, Nat.le_of_ble_eq_true rfl⟩ hKx hZ hS hP hD hA rfl hl.1 rfl (Nat.le_of_ble_eq_true rfl) dL_refuses_630 hf (fun w76 H locs hC75 hP hD hS => ?_)
    refine lv_bipush (v := (-6)) hx hb dL_refuses_633 (by decide) ?_
    refine z_eq hx hb (tgt := 647) ((fV (qp q) (qn q) 0).toInt) (-6) dL_refuses_635 (by decide) rfl (by decide) (fun c_635 => ?_) (fun c_635 => ?_)
    · skip
      exact j647 _ _ _ ls hC75 hP hD hS hl
    · skip
      refine lv_aload_n hx hb dL_refuses_638 rfl (lv_at hl 2 rfl) ?_
      refine kA (As := []) (rest := []) (wr := []) (wc := w76) (b := me) hF (a_carryOut_t l hok (by omega)) hC75 rfl mw_3_39 mw_3_40 mw_3_41 mw_1_1 mw_3_42 hd_X3_carryOut ⟨Nat.le_of_ble_eq_true rfl, Nat.le_of_ble_eq_true rfl⟩ hKx hZ hS hP hD hA rfl hl.1 rfl (Nat.le_of_ble_eq_true rfl) dL_refuses_639 hf (fun w78 H locs hC77 hP hD hS => ?_)
      refine lv_bipush (v := (-3)) hx hb dL_refuses_642 (by decide) ?_
      refine z_ne hx hb (tgt := 651) (-3) (-3) dL_refuses_644 (by decide) (by decide) (by decide) (fun c_644 => absurd rfl c_644) (fun c_644 => ?_)
      exact j647 _ _ _ ls hC77 hP hD hS hl
  have j595 : ∀ (w : va_W) (H : Heap) (locs : List Loc) (ls : Array Slot), CS G me q w → va_P G.1 vwCl ([] ++ w) H → va_D A ([] ++ w) → va_S A sq.heap H locs → lv_has ls 4 [(3, .int (nI 1)), (2, .int (nI (td (qr q)))), (0, .ref me), (1, .int (nI x))] → W pq l eq (rmL 10) sq mq [Value.ref me, Value.int (nI x)].toArray bq tq cq H locs 0 0 (MQ bq (Qu G A 1 (CS G me q)) [Value.ref me, Value.int (nI x)].toArray sq 0 0 A) (F0 mq 595 ls []) := by
    intro w H locs ls hC hP hD hS hl
    refine lv_iload_n hx hb dL_refuses_595 rfl (lv_at hl 1 rfl) ?_
    refine lv_sipush (v := nI 3649) hx hb dL_refuses_596 (by decide) ?_
    refine z_eq hx hb (tgt := 619) ((td (qr q) : Nat) : Int) 3649 dL_refuses_599 (by decide) (toI (by omega)) (by decide) (fun c_599 => ?_) (fun c_599 => ?_)
    · skip
      exact j619 _ _ _ ls hC hP hD hS hl
    · skip
      refine lv_aload_n hx hb dL_refuses_602 rfl (lv_at hl 2 rfl) ?_
      refine lv_iload_n hx hb dL_refuses_603 rfl (lv_at hl 3 rfl) ?_
      refine lv_bipush (v := nI 16) hx hb dL_refuses_604 (by decide) ?_
      refine n_irem hx hb (by omega) (by omega) (by omega) dL_refuses_606 ?_
      refine lv_iconst (v := nI 0) hx hb dL_refuses_607 (by decide) ?_
      refine lv_iload_n hx hb dL_refuses_608 rfl (lv_at hl 1 rfl) ?_
      refine lv_iconst (v := nI 1) hx hb dL_refuses_609 (by decide) ?_
      refine n_iadd hx hb dL_refuses_610 ?_
      refine kA (As := [.int (nI (x % 16)), .int (nI 0), .int (nI (td (qr q) + 1))]) (rest := []) (wr := []) (wc := w) (b := me) hF (a_mark_e l hok (nI (x % 16)) (nI 0) (nI (td (qr q) + 1)) (show (nI (x % 16) : Int32).toInt = ((x % 16 : Nat) : Int) from (toI (by omega))) (show (nI 0 : Int32).toInt = 0 from (by decide)) (show (nI (td (qr q) + 1) : Int32).toInt = ((td (qr q) + 1 : Nat) : Int) from (toI (by omega))) (eMk_5 (by omega) (by omega) (by omega) (by omega) (by omega)) (by decide)) hC rfl mw_2_49 mw_2_50 mw_2_51 mw_1_1 mw_2_52 hd_X3_mark ⟨Nat.le_of_ble_eq_true rfl, Nat.le_of_ble_eq_true rfl⟩ hKx hZ hS hP hD hA rfl hl.1 rfl (Nat.le_of_ble_eq_true rfl) dL_refuses_611 hf (fun w80 H locs hC79 hP hD hS => ?_)
      refine lv_bipush (v := (-5)) hx hb dL_refuses_614 (by decide) ?_
      refine z_ne hx hb (tgt := 623) (-5) (-5) dL_refuses_616 (by decide) (by decide) (by decide) (fun c_616 => absurd rfl c_616) (fun c_616 => ?_)
      exact j619 _ _ _ ls hC79 hP hD hS hl
  refine lv_iload_n hx hb dL_refuses_575 rfl (lv_at hl 1 rfl) ?_
  refine z0_eq hx hb (tgt := 595) ((td (qr q) : Nat) : Int) dL_refuses_576 (by decide) (toI (by omega)) (fun c_576 => ?_) (fun c_576 => ?_)
  · skip
    exact j595 _ _ _ ls hC73 hP hD hS hl
  · skip
    refine lv_aload_n hx hb dL_refuses_579 rfl (lv_at hl 2 rfl) ?_
    refine lv_iconst (v := nI 0) hx hb dL_refuses_580 (by decide) ?_
    refine lv_iconst (v := nI 1) hx hb dL_refuses_581 (by decide) ?_
    refine lv_iload_n hx hb dL_refuses_582 rfl (lv_at hl 3 rfl) ?_
    refine lv_bipush (v := nI 12) hx hb dL_refuses_583 (by decide) ?_
    refine n_irem hx hb (by omega) (by omega) (by omega) dL_refuses_585 ?_
    refine n_iadd hx hb dL_refuses_586 ?_
    refine kA (As := [.int (nI 0), .int (nI (1 + x % 12))]) (rest := []) (wr := []) (wc := w74) (b := me) hF (a_set_e l hok (nI 0) (nI (1 + x % 12)) (show (nI 0 : Int32).toInt = 0 from (by decide)) (show (nI (1 + x % 12) : Int32).toInt = ((1 + x % 12 : Nat) : Int) from (toI (by omega))) (eSt_2 (by omega) (by omega)) (by decide)) hC73 rfl mw_1_221 mw_1_222 mw_1_223 mw_1_1 mw_1_224 hd_X3_set ⟨Nat.le_of_ble_eq_true rfl, Nat.le_of_ble_eq_true rfl⟩ hKx hZ hS hP hD hA rfl hl.1 rfl (Nat.le_of_ble_eq_true rfl) dL_refuses_587 hf (fun w82 H locs hC81 hP hD hS => ?_)
    refine lv_bipush (v := (-5)) hx hb dL_refuses_590 (by decide) ?_
    refine z_ne hx hb (tgt := 623) (-5) (-5) dL_refuses_592 (by decide) (by decide) (by decide) (fun c_592 => absurd rfl c_592) (fun c_592 => ?_)
    exact j595 _ _ _ ls hC81 hP hD hS hl
