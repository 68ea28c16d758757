theorem hd_X3_charactersIn : hdY yX3_charactersIn 1 := ⟨by decide +kernel, by decide +kernel, by decide +kernel⟩
set_option maxHeartbeats 4000000 in
set_option maxRecDepth 100000 in
theorem c_X3_charactersIn (l : Launch) (G : gT) (Wd : Nat) (hW : Wd < 18446744073709551616) : Ro l G yX3_charactersIn cX3_charactersIn 6 (some .int) 0 [] [.long (lw Wd)] (nI (chN Wd)) := by
  refine Ro.mk (by decide) (Nat.le_of_ble_eq_true rfl) (fun pq eq sq mq bq tq cq ls hr hlk hF hKx hZ hP hl => ?_)
  have hx := hF.1
  have hb := hF.2.1
  have hml := hF.2.2.1
  have hown : sq.vm.findClass RX3 = some mq.cls := hF.2.2.2.1
  have hts : ∀ w ∈ GW, w.before _ sq = true := hF.2.2.2.2
  have hK := hKx.1
  have hl : lv_has ls 6 [(0, .long (lw Wd))] := hl
  have hS : va_S (fun _ => False) sq.heap sq.heap [] := va_S.rf
  have hP : va_P G.1 vwCl [] sq.heap := hP
  refine lv_lload_n hx hb dX3_charactersIn_0 rfl (lv_at hl 0 rfl) ?_
  refine lv_cvq (y := .long (lw (Wd / 256 ^ 0))) (congrArg Value.long (by rw [Nat.pow_zero, Nat.div_one])) ?_
  refine lv_lstore_n (lv' := [(2, .long (lw (Wd / 256 ^ 0))), (0, .long (lw Wd))]) hx hb dX3_charactersIn_1 rfl hl (by decide) rfl (fun ls hl => ?_)
  refine lv_iconst (v := nI 0) hx hb dX3_charactersIn_2 (by decide) ?_
  refine lv_istore (lv' := [(4, .int (nI 0)), (2, .long (lw (Wd / 256 ^ 0))), (0, .long (lw Wd))]) hx hb dX3_charactersIn_3 hl (by decide) rfl (fun ls hl => ?_)
  refine wloop (n := 0) [] (fun k ls => (k ≤ 8) ∧ (chN Wd = chk Wd (8 - k) k) ∧ lv_has ls 6 [(4, .int (nI k)), (2, .long (lw (Wd / 256 ^ k))), (0, .long (lw Wd))]) (fun k => 8 - k) ?_ 0 ⟨(by omega), (rfl), lv_sub hl [0, 1, 2] rfl⟩
  intro k ih
  intro ls ⟨hk, hC, hl⟩
  have hbl := byt_lt (W := Wd) (k := k)
  refine lv_iload hx hb dX3_charactersIn_5 (lv_at hl 0 rfl) ?_
  refine lv_bipush (v := nI 8) hx hb dX3_charactersIn_7 (by decide) ?_
  refine z_ge hx hb (tgt := 53) ((k : Nat) : Int) 8 dX3_charactersIn_9 (by decide) (toI (by omega)) (by decide) (fun c_9 => ?_) (fun c_9 => ?_)
  · skip
    refine lv_iload hx hb dX3_charactersIn_53 (lv_at hl 0 rfl) ?_
    exact e_ri hx hb hr hlk (by first | exact (congrArg nI (hC.trans (chk_z (by omega) hz1))).symm | exact (congrArg nI (hC.trans (chk_e (by omega)))).symm) dX3_charactersIn_55
  · skip
    refine lv_lload_n hx hb dX3_charactersIn_12 rfl (lv_at hl 1 rfl) ?_
    refine lv_lconst (v := 0) hx hb dX3_charactersIn_13 (by decide) ?_
    refine W.lcmp hx hb dX3_charactersIn_14 ?_
    refine zc_eq hx hb (tgt := 53) dX3_charactersIn_15 (by decide) rfl (by decide) (fun c_15 => ?_) (fun c_15 => ?_)
    · skip
      have hz1 : Wd / 256 ^ k = 0 := (lw_0 (byt_le hW)).mp c_15
      refine lv_iload hx hb dX3_charactersIn_53 (lv_at hl 0 rfl) ?_
      exact e_ri hx hb hr hlk (by first | exact (congrArg nI (hC.trans (chk_z (by omega) hz1))).symm | exact (congrArg nI (hC.trans (chk_e (by omega)))).symm) dX3_charactersIn_55
    · skip
      have hz0 : ¬ Wd / 256 ^ k = 0 := fun z => c_15 ((lw_0 (byt_le hW)).mpr z)
      refine lv_lload_n hx hb dX3_charactersIn_18 rfl (lv_at hl 1 rfl) ?_
      refine lv_ldc2 (v := 255) hx hb hown (hts _ mw_2_217) dX3_charactersIn_19 ?_
      refine lv_land hx hb dX3_charactersIn_22 ?_
      refine lv_cvq (y := .long (lw (byt Wd (k)))) (congrArg Value.long (lw_and (byt_le hW))) ?_
      refine lv_l2i (v := (lw (byt Wd (k))).toInt32) hx hb dX3_charactersIn_23 rfl ?_
      refine lv_cv (y := nI (byt Wd k)) (lw_l2i (Nat.lt_trans byt_lt (by decide))) ?_
      refine lv_istore (lv' := [(5, .int (nI (byt Wd k))), (4, .int (nI k)), (2, .long (lw (Wd / 256 ^ k))), (0, .long (lw Wd))]) hx hb dX3_charactersIn_24 hl (by decide) rfl (fun ls hl => ?_)
      refine lv_iload hx hb dX3_charactersIn_26 (lv_at hl 0 rfl) ?_
      refine lv_bipush (v := nI 33) hx hb dX3_charactersIn_28 (by decide) ?_
      refine z_lt hx hb (tgt := 40) ((byt Wd k : Nat) : Int) 33 dX3_charactersIn_30 (by decide) (toI (by omega)) (by decide) (fun c_30 => ?_) (fun c_30 => ?_)
      · skip
        refine lv_iconst (v := nI 0) hx hb dX3_charactersIn_40 (by decide) ?_
        exact e_ri hx hb hr hlk ((congrArg nI (hC.trans (chk_b (by omega) hz0 (fun z => by have hq9 := z.1; have hq8 := z.2; omega)))).symm) dX3_charactersIn_41
      · skip
        refine lv_iload hx hb dX3_charactersIn_33 (lv_at hl 0 rfl) ?_
        refine lv_bipush (v := nI 126) hx hb dX3_charactersIn_35 (by decide) ?_
        refine z_le hx hb (tgt := 42) ((byt Wd k : Nat) : Int) 126 dX3_charactersIn_37 (by decide) (toI (by omega)) (by decide) (fun c_37 => ?_) (fun c_37 => ?_)
        · skip
          refine lv_lload_n hx hb dX3_charactersIn_42 rfl (lv_at hl 2 rfl) ?_
          refine lv_bipush (v := nI 8) hx hb dX3_charactersIn_43 (by decide) ?_
          refine lv_lushr (v := ((lw (Wd / 256 ^ k)).toUInt64 >>> ((nI 8).toInt64.toUInt64 &&& Int64.toUInt64 63)).toInt64) hx hb dX3_charactersIn_45 rfl ?_
          refine lv_cvq (y := .long (lw (Wd / 256 ^ (k + 1)))) (congrArg Value.long ((lw_sh (byt_le hW) (by decide)).trans (congrArg lw byt_sh))) ?_
          refine lv_lstore_n (lv' := [(2, .long (lw (Wd / 256 ^ (k + 1)))), (5, .int (nI (byt Wd k))), (4, .int (nI k)), (0, .long (lw Wd))]) hx hb dX3_charactersIn_46 rfl hl (by decide) rfl (fun ls hl => ?_)
          refine lv_iinc (v := nI (k + 1)) (lv' := [(4, .int (nI (k + 1))), (2, .long (lw (Wd / 256 ^ (k + 1)))), (5, .int (nI (byt Wd k))), (0, .long (lw Wd))]) hx hb dX3_charactersIn_47 hl (k := 2) rfl (nI_add _ _) (by decide) rfl (fun ls hl => ?_)
          refine lv_goto (tgt := 5) hx hb dX3_charactersIn_50 (by decide) ?_
          exact ih (k + 1) ls (by omega) ⟨(by omega), (hC.trans (chk_g (by omega) hz0 ⟨by omega, by omega⟩)), lv_sub hl [0, 1, 3] rfl⟩
        · skip
          refine lv_iconst (v := nI 0) hx hb dX3_charactersIn_40 (by decide) ?_
          exact e_ri hx hb hr hlk ((congrArg nI (hC.trans (chk_b (by omega) hz0 (fun z => by have hq9 := z.1; have hq8 := z.2; omega)))).symm) dX3_charactersIn_41
