theorem hd_X4_init : hdY yX4_init 0 := ⟨by decide +kernel, by decide +kernel, by decide +kernel⟩
theorem hd_X1_init : hdY yX1_init 0 := ⟨by decide +kernel, by decide +kernel, by decide +kernel⟩
set_option maxHeartbeats 4000000 in
set_option maxRecDepth 100000 in
theorem c_X4_init (l : Launch) (G : gT) (sz : Nat) (h : Nat)  : Rn l G yX4_init cX4_init 3 1 7 21953 sz [(h, .inr (4, [.null, .null, .null, .int 0, .null, .null, .null, .int 0, .null, .int 0]))] [.ref h] (fun ws9 => ∃ (an : Nat) (tr : Nat) (ah : Nat) (ak : Nat) (ai : Nat) (ap : Nat) (af : Nat), ws9 = [(h, .inr (4, [.ref an, .ref tr, .ref ah, .int 0, .ref ak, .ref ai, .ref ap, .int 0, .ref af, .int 0])), (an, .inl (gI G, 2175, .inl ini)), (tr, .inl (gI G, 2175, .inl (fun _ => 0))), (ah, .inl (gI G, 13050, .inl (fun _ => 0))), (ak, .inl (gI G, 4350, .inl (fun _ => 0))), (ai, .inl (gZ G, 2, .inl (fun _ => 0))), (ap, .inl (gI G, 80, .inl (fun _ => 0))), (af, .inl (gI G, 121, .inl (fun q9 => nI (fdy q9))))]) := by
  refine Rn.mk (by decide) rfl (Nat.le_of_ble_eq_true rfl) (fun pq eq sq mq bq tq cq ls A hr hlk hini hF hKy hZ hA hP hD hS hl => ?_)
  have hKx := hKy.1
  have hx := hF.1
  have hb := hF.2.1
  have hml := hF.2.2.1
  have hown : sq.vm.findClass RX4 = some mq.cls := hF.2.2.2.1
  have hts : ∀ w ∈ GW, w.before _ sq = true := hF.2.2.2.2
  have hK := hKx.1
  have hl : lv_has ls 3 [(0, .ref h)] := hl
  have hP : va_P G.1 vwCl [(h, .inr (4, [.null, .null, .null, .int 0, .null, .null, .null, .int 0, .null, .int 0]))] sq.heap := hP
  have hD : va_D A [(h, .inr (4, [.null, .null, .null, .int 0, .null, .null, .null, .int 0, .null, .int 0]))] := hD
  refine lv_aload_n hx hb dX4_init_0 rfl (lv_at hl 0 rfl) ?_
  refine W.objInit hx hb hown (hts _ mw_3_53) (hts _ mw_1_15) (hts _ mw_1_16) rfl (hml.trans hl.1.symm).symm rfl dX4_init_1 (Nat.le_of_ble_eq_true rfl) (Nat.le_of_ble_eq_true rfl) ?_
  refine W.eq (g2 := F0 mq 4 ls []) rfl ?_
  refine lv_aload_n hx hb dX4_init_4 rfl (lv_at hl 0 rfl) ?_
  refine lv_sipush (v := nI 2175) hx hb dX4_init_5 (by decide) ?_
  refine n_newI hx hb hKy (hts _ mw_1_68) hP hD hS hA (N := 2175) (by decide) (Nat.le_of_ble_eq_true rfl) (Nat.le_of_ble_eq_true rfl) dX4_init_8 (fun a1 H hP hD hS => ?_)
  have hP : va_P G.1 vwCl [(h, .inr (4, [.null, .null, .null, .int 0, .null, .null, .null, .int 0, .null, .int 0])), (a1, .inl (gI G, 2175, .inl (fun _ => 0)))] H := hP
  have hD : va_D A [(h, .inr (4, [.null, .null, .null, .int 0, .null, .null, .null, .int 0, .null, .int 0])), (a1, .inl (gI G, 2175, .inl (fun _ => 0)))] := hD
  refine va_putF (ci := 4) (v := .ref a1) (ty := .array .int) (C := RX4) (T := TX4) (N := 10) hx hb hts inGX4 tyX4 tyX4_ok nmX4 hown hK hP hD hS 0 rfl rfl 0 (by decide) (hts _ mw_3_54) (fun _ h9 => h9) rfl hini rfl (by decide +kernel) rfl rfl (Nat.le_of_ble_eq_true rfl) dX4_init_10 (fun H locs hP hD hS => ?_)
  have hP : va_P G.1 vwCl [(h, .inr (4, [.ref a1, .null, .null, .int 0, .null, .null, .null, .int 0, .null, .int 0])), (a1, .inl (gI G, 2175, .inl (fun _ => 0)))] H := hP
  have hD : va_D A [(h, .inr (4, [.ref a1, .null, .null, .int 0, .null, .null, .null, .int 0, .null, .int 0])), (a1, .inl (gI G, 2175, .inl (fun _ => 0)))] := hD
  refine lv_aload_n hx hb dX4_init_13 rfl (lv_at hl 0 rfl) ?_
  refine lv_sipush (v := nI 2175) hx hb dX4_init_14 (by decide) ?_
  refine n_newI hx hb hKy (hts _ mw_1_68) hP hD hS hA (N := 2175) (by decide) (Nat.le_of_ble_eq_true rfl) (Nat.le_of_ble_eq_true rfl) dX4_init_17 (fun a2 H hP hD hS => ?_)
  have hP : va_P G.1 vwCl [(h, .inr (4, [.ref a1, .null, .null, .int 0, .null, .null, .null, .int 0, .null, .int 0])), (a1, .inl (gI G, 2175, .inl (fun _ => 0))), (a2, .inl (gI G, 2175, .inl (fun _ => 0)))] H := hP
  have hD : va_D A [(h, .inr (4, [.ref a1, .null, .null, .int 0, .null, .null, .null, .int 0, .null, .int 0])), (a1, .inl (gI G, 2175, .inl (fun _ => 0))), (a2, .inl (gI G, 2175, .inl (fun _ => 0)))] := hD
  refine va_putF (ci := 4) (v := .ref a2) (ty := .array .int) (C := RX4) (T := TX4) (N := 10) hx hb hts inGX4 tyX4 tyX4_ok nmX4 hown hK hP hD hS 0 rfl rfl 1 (by decide) (hts _ mw_3_55) (fun _ h9 => h9) rfl hini rfl (by decide +kernel) rfl rfl (Nat.le_of_ble_eq_true rfl) dX4_init_19 (fun H locs hP hD hS => ?_)
  have hP : va_P G.1 vwCl [(h, .inr (4, [.ref a1, .ref a2, .null, .int 0, .null, .null, .null, .int 0, .null, .int 0])), (a1, .inl (gI G, 2175, .inl (fun _ => 0))), (a2, .inl (gI G, 2175, .inl (fun _ => 0)))] H := hP
  have hD : va_D A [(h, .inr (4, [.ref a1, .ref a2, .null, .int 0, .null, .null, .null, .int 0, .null, .int 0])), (a1, .inl (gI G, 2175, .inl (fun _ => 0))), (a2, .inl (gI G, 2175, .inl (fun _ => 0)))] := hD
  refine lv_aload_n hx hb dX4_init_22 rfl (lv_at hl 0 rfl) ?_
  refine lv_sipush (v := nI 13050) hx hb dX4_init_23 (by decide) ?_
  refine n_newI hx hb hKy (hts _ mw_1_68) hP hD hS hA (N := 13050) (by decide) (Nat.le_of_ble_eq_true rfl) (Nat.le_of_ble_eq_true rfl) dX4_init_26 (fun a3 H hP hD hS => ?_)
  have hP : va_P G.1 vwCl [(h, .inr (4, [.ref a1, .ref a2, .null, .int 0, .null, .null, .null, .int 0, .null, .int 0])), (a1, .inl (gI G, 2175, .inl (fun _ => 0))), (a2, .inl (gI G, 2175, .inl (fun _ => 0))), (a3, .inl (gI G, 13050, .inl (fun _ => 0)))] H := hP
  have hD : va_D A [(h, .inr (4, [.ref a1, .ref a2, .null, .int 0, .null, .null, .null, .int 0, .null, .int 0])), (a1, .inl (gI G, 2175, .inl (fun _ => 0))), (a2, .inl (gI G, 2175, .inl (fun _ => 0))), (a3, .inl (gI G, 13050, .inl (fun _ => 0)))] := hD
  refine va_putF (ci := 4) (v := .ref a3) (ty := .array .int) (C := RX4) (T := TX4) (N := 10) hx hb hts inGX4 tyX4 tyX4_ok nmX4 hown hK hP hD hS 0 rfl rfl 2 (by decide) (hts _ mw_3_56) (fun _ h9 => h9) rfl hini rfl (by decide +kernel) rfl rfl (Nat.le_of_ble_eq_true rfl) dX4_init_28 (fun H locs hP hD hS => ?_)
  have hP : va_P G.1 vwCl [(h, .inr (4, [.ref a1, .ref a2, .ref a3, .int 0, .null, .null, .null, .int 0, .null, .int 0])), (a1, .inl (gI G, 2175, .inl (fun _ => 0))), (a2, .inl (gI G, 2175, .inl (fun _ => 0))), (a3, .inl (gI G, 13050, .inl (fun _ => 0)))] H := hP
  have hD : va_D A [(h, .inr (4, [.ref a1, .ref a2, .ref a3, .int 0, .null, .null, .null, .int 0, .null, .int 0])), (a1, .inl (gI G, 2175, .inl (fun _ => 0))), (a2, .inl (gI G, 2175, .inl (fun _ => 0))), (a3, .inl (gI G, 13050, .inl (fun _ => 0)))] := hD
  refine lv_aload_n hx hb dX4_init_31 rfl (lv_at hl 0 rfl) ?_
  refine lv_sipush (v := nI 4350) hx hb dX4_init_32 (by decide) ?_
  refine n_newI hx hb hKy (hts _ mw_1_68) hP hD hS hA (N := 4350) (by decide) (Nat.le_of_ble_eq_true rfl) (Nat.le_of_ble_eq_true rfl) dX4_init_35 (fun a4 H hP hD hS => ?_)
  have hP : va_P G.1 vwCl [(h, .inr (4, [.ref a1, .ref a2, .ref a3, .int 0, .null, .null, .null, .int 0, .null, .int 0])), (a1, .inl (gI G, 2175, .inl (fun _ => 0))), (a2, .inl (gI G, 2175, .inl (fun _ => 0))), (a3, .inl (gI G, 13050, .inl (fun _ => 0))), (a4, .inl (gI G, 4350, .inl (fun _ => 0)))] H := hP
  have hD : va_D A [(h, .inr (4, [.ref a1, .ref a2, .ref a3, .int 0, .null, .null, .null, .int 0, .null, .int 0])), (a1, .inl (gI G, 2175, .inl (fun _ => 0))), (a2, .inl (gI G, 2175, .inl (fun _ => 0))), (a3, .inl (gI G, 13050, .inl (fun _ => 0))), (a4, .inl (gI G, 4350, .inl (fun _ => 0)))] := hD
  refine va_putF (ci := 4) (v := .ref a4) (ty := .array .int) (C := RX4) (T := TX4) (N := 10) hx hb hts inGX4 tyX4 tyX4_ok nmX4 hown hK hP hD hS 0 rfl rfl 4 (by decide) (hts _ mw_3_58) (fun _ h9 => h9) rfl hini rfl (by decide +kernel) rfl rfl (Nat.le_of_ble_eq_true rfl) dX4_init_37 (fun H locs hP hD hS => ?_)
  have hP : va_P G.1 vwCl [(h, .inr (4, [.ref a1, .ref a2, .ref a3, .int 0, .ref a4, .null, .null, .int 0, .null, .int 0])), (a1, .inl (gI G, 2175, .inl (fun _ => 0))), (a2, .inl (gI G, 2175, .inl (fun _ => 0))), (a3, .inl (gI G, 13050, .inl (fun _ => 0))), (a4, .inl (gI G, 4350, .inl (fun _ => 0)))] H := hP
  have hD : va_D A [(h, .inr (4, [.ref a1, .ref a2, .ref a3, .int 0, .ref a4, .null, .null, .int 0, .null, .int 0])), (a1, .inl (gI G, 2175, .inl (fun _ => 0))), (a2, .inl (gI G, 2175, .inl (fun _ => 0))), (a3, .inl (gI G, 13050, .inl (fun _ => 0))), (a4, .inl (gI G, 4350, .inl (fun _ => 0)))] := hD
  refine lv_aload_n hx hb dX4_init_40 rfl (lv_at hl 0 rfl) ?_
  refine lv_iconst (v := nI 2) hx hb dX4_init_41 (by decide) ?_
  refine n_newZ hx hb hKy (hts _ mw_3_85) hP hD hS hA (N := 2) (by decide) (Nat.le_of_ble_eq_true rfl) (Nat.le_of_ble_eq_true rfl) dX4_init_42 (fun a5 H hP hD hS => ?_)
  have hP : va_P G.1 vwCl [(h, .inr (4, [.ref a1, .ref a2, .ref a3, .int 0, .ref a4, .null, .null, .int 0, .null, .int 0])), (a1, .inl (gI G, 2175, .inl (fun _ => 0))), (a2, .inl (gI G, 2175, .inl (fun _ => 0))), (a3, .inl (gI G, 13050, .inl (fun _ => 0))), (a4, .inl (gI G, 4350, .inl (fun _ => 0))), (a5, .inl (gZ G, 2, .inl (fun _ => 0)))] H := hP
  have hD : va_D A [(h, .inr (4, [.ref a1, .ref a2, .ref a3, .int 0, .ref a4, .null, .null, .int 0, .null, .int 0])), (a1, .inl (gI G, 2175, .inl (fun _ => 0))), (a2, .inl (gI G, 2175, .inl (fun _ => 0))), (a3, .inl (gI G, 13050, .inl (fun _ => 0))), (a4, .inl (gI G, 4350, .inl (fun _ => 0))), (a5, .inl (gZ G, 2, .inl (fun _ => 0)))] := hD
  refine va_putF (ci := 4) (v := .ref a5) (ty := .array .boolean) (C := RX4) (T := TX4) (N := 10) hx hb hts inGX4 tyX4 tyX4_ok nmX4 hown hK hP hD hS 0 rfl rfl 5 (by decide) (hts _ mw_3_59) (fun _ h9 => h9) rfl hini rfl (by decide +kernel) rfl rfl (Nat.le_of_ble_eq_true rfl) dX4_init_44 (fun H locs hP hD hS => ?_)
  have hP : va_P G.1 vwCl [(h, .inr (4, [.ref a1, .ref a2, .ref a3, .int 0, .ref a4, .ref a5, .null, .int 0, .null, .int 0])), (a1, .inl (gI G, 2175, .inl (fun _ => 0))), (a2, .inl (gI G, 2175, .inl (fun _ => 0))), (a3, .inl (gI G, 13050, .inl (fun _ => 0))), (a4, .inl (gI G, 4350, .inl (fun _ => 0))), (a5, .inl (gZ G, 2, .inl (fun _ => 0)))] H := hP
  have hD : va_D A [(h, .inr (4, [.ref a1, .ref a2, .ref a3, .int 0, .ref a4, .ref a5, .null, .int 0, .null, .int 0])), (a1, .inl (gI G, 2175, .inl (fun _ => 0))), (a2, .inl (gI G, 2175, .inl (fun _ => 0))), (a3, .inl (gI G, 13050, .inl (fun _ => 0))), (a4, .inl (gI G, 4350, .inl (fun _ => 0))), (a5, .inl (gZ G, 2, .inl (fun _ => 0)))] := hD
  refine lv_aload_n hx hb dX4_init_47 rfl (lv_at hl 0 rfl) ?_
  refine lv_bipush (v := nI 80) hx hb dX4_init_48 (by decide) ?_
  refine n_newI hx hb hKy (hts _ mw_1_68) hP hD hS hA (N := 80) (by decide) (Nat.le_of_ble_eq_true rfl) (Nat.le_of_ble_eq_true rfl) dX4_init_50 (fun a6 H hP hD hS => ?_)
  have hP : va_P G.1 vwCl [(h, .inr (4, [.ref a1, .ref a2, .ref a3, .int 0, .ref a4, .ref a5, .null, .int 0, .null, .int 0])), (a1, .inl (gI G, 2175, .inl (fun _ => 0))), (a2, .inl (gI G, 2175, .inl (fun _ => 0))), (a3, .inl (gI G, 13050, .inl (fun _ => 0))), (a4, .inl (gI G, 4350, .inl (fun _ => 0))), (a5, .inl (gZ G, 2, .inl (fun _ => 0))), (a6, .inl (gI G, 80, .inl (fun _ => 0)))] H := hP
  have hD : va_D A [(h, .inr (4, [.ref a1, .ref a2, .ref a3, .int 0, .ref a4, .ref a5, .null, .int 0, .null, .int 0])), (a1, .inl (gI G, 2175, .inl (fun _ => 0))), (a2, .inl (gI G, 2175, .inl (fun _ => 0))), (a3, .inl (gI G, 13050, .inl (fun _ => 0))), (a4, .inl (gI G, 4350, .inl (fun _ => 0))), (a5, .inl (gZ G, 2, .inl (fun _ => 0))), (a6, .inl (gI G, 80, .inl (fun _ => 0)))] := hD
  refine va_putF (ci := 4) (v := .ref a6) (ty := .array .int) (C := RX4) (T := TX4) (N := 10) hx hb hts inGX4 tyX4 tyX4_ok nmX4 hown hK hP hD hS 0 rfl rfl 6 (by decide) (hts _ mw_3_60) (fun _ h9 => h9) rfl hini rfl (by decide +kernel) rfl rfl (Nat.le_of_ble_eq_true rfl) dX4_init_52 (fun H locs hP hD hS => ?_)
  have hP : va_P G.1 vwCl [(h, .inr (4, [.ref a1, .ref a2, .ref a3, .int 0, .ref a4, .ref a5, .ref a6, .int 0, .null, .int 0])), (a1, .inl (gI G, 2175, .inl (fun _ => 0))), (a2, .inl (gI G, 2175, .inl (fun _ => 0))), (a3, .inl (gI G, 13050, .inl (fun _ => 0))), (a4, .inl (gI G, 4350, .inl (fun _ => 0))), (a5, .inl (gZ G, 2, .inl (fun _ => 0))), (a6, .inl (gI G, 80, .inl (fun _ => 0)))] H := hP
  have hD : va_D A [(h, .inr (4, [.ref a1, .ref a2, .ref a3, .int 0, .ref a4, .ref a5, .ref a6, .int 0, .null, .int 0])), (a1, .inl (gI G, 2175, .inl (fun _ => 0))), (a2, .inl (gI G, 2175, .inl (fun _ => 0))), (a3, .inl (gI G, 13050, .inl (fun _ => 0))), (a4, .inl (gI G, 4350, .inl (fun _ => 0))), (a5, .inl (gZ G, 2, .inl (fun _ => 0))), (a6, .inl (gI G, 80, .inl (fun _ => 0)))] := hD
  refine lv_aload_n hx hb dX4_init_55 rfl (lv_at hl 0 rfl) ?_
  refine lv_bipush (v := nI 121) hx hb dX4_init_56 (by decide) ?_
  refine n_newI hx hb hKy (hts _ mw_1_68) hP hD hS hA (N := 121) (by decide) (Nat.le_of_ble_eq_true rfl) (Nat.le_of_ble_eq_true rfl) dX4_init_58 (fun a7 H hP hD hS => ?_)
  have hP : va_P G.1 vwCl [(h, .inr (4, [.ref a1, .ref a2, .ref a3, .int 0, .ref a4, .ref a5, .ref a6, .int 0, .null, .int 0])), (a1, .inl (gI G, 2175, .inl (fun _ => 0))), (a2, .inl (gI G, 2175, .inl (fun _ => 0))), (a3, .inl (gI G, 13050, .inl (fun _ => 0))), (a4, .inl (gI G, 4350, .inl (fun _ => 0))), (a5, .inl (gZ G, 2, .inl (fun _ => 0))), (a6, .inl (gI G, 80, .inl (fun _ => 0))), (a7, .inl (gI G, 121, .inl (fun _ => 0)))] H := hP
  have hD : va_D A [(h, .inr (4, [.ref a1, .ref a2, .ref a3, .int 0, .ref a4, .ref a5, .ref a6, .int 0, .null, .int 0])), (a1, .inl (gI G, 2175, .inl (fun _ => 0))), (a2, .inl (gI G, 2175, .inl (fun _ => 0))), (a3, .inl (gI G, 13050, .inl (fun _ => 0))), (a4, .inl (gI G, 4350, .inl (fun _ => 0))), (a5, .inl (gZ G, 2, .inl (fun _ => 0))), (a6, .inl (gI G, 80, .inl (fun _ => 0))), (a7, .inl (gI G, 121, .inl (fun _ => 0)))] := hD
  refine va_putF (ci := 4) (v := .ref a7) (ty := .array .int) (C := RX4) (T := TX4) (N := 10) hx hb hts inGX4 tyX4 tyX4_ok nmX4 hown hK hP hD hS 0 rfl rfl 8 (by decide) (hts _ mw_3_62) (fun _ h9 => h9) rfl hini rfl (by decide +kernel) rfl rfl (Nat.le_of_ble_eq_true rfl) dX4_init_60 (fun H locs hP hD hS => ?_)
  have hP : va_P G.1 vwCl [(h, .inr (4, [.ref a1, .ref a2, .ref a3, .int 0, .ref a4, .ref a5, .ref a6, .int 0, .ref a7, .int 0])), (a1, .inl (gI G, 2175, .inl (fun _ => 0))), (a2, .inl (gI G, 2175, .inl (fun _ => 0))), (a3, .inl (gI G, 13050, .inl (fun _ => 0))), (a4, .inl (gI G, 4350, .inl (fun _ => 0))), (a5, .inl (gZ G, 2, .inl (fun _ => 0))), (a6, .inl (gI G, 80, .inl (fun _ => 0))), (a7, .inl (gI G, 121, .inl (fun _ => 0)))] H := hP
  have hD : va_D A [(h, .inr (4, [.ref a1, .ref a2, .ref a3, .int 0, .ref a4, .ref a5, .ref a6, .int 0, .ref a7, .int 0])), (a1, .inl (gI G, 2175, .inl (fun _ => 0))), (a2, .inl (gI G, 2175, .inl (fun _ => 0))), (a3, .inl (gI G, 13050, .inl (fun _ => 0))), (a4, .inl (gI G, 4350, .inl (fun _ => 0))), (a5, .inl (gZ G, 2, .inl (fun _ => 0))), (a6, .inl (gI G, 80, .inl (fun _ => 0))), (a7, .inl (gI G, 121, .inl (fun _ => 0)))] := hD
  refine lv_aload_n hx hb dX4_init_63 rfl (lv_at hl 0 rfl) ?_
  refine va_get (ci := 4) (v := .ref a1) (C := RX4) (T := TX4) (N := 10) hx hb hts inGX4 hown hK hP 0 rfl rfl 0 (by decide) (hts _ mw_3_54) (fun _ h9 => h9) rfl dX4_init_64 ?_
  refine lv_iconst (v := nI 1) hx hb dX4_init_67 (by decide) ?_
  refine lv_iconst (v := nI 2) hx hb dX4_init_68 (by decide) ?_
  refine n_iast hx hb hK hP hD hS 1 0 rfl rfl (by omega) (by omega) dX4_init_69 (fun H locs hP hD hS => ?_)
  have hP : va_P G.1 vwCl [(h, .inr (4, [.ref a1, .ref a2, .ref a3, .int 0, .ref a4, .ref a5, .ref a6, .int 0, .ref a7, .int 0])), (a1, .inl (gI G, 2175, .inl (upd (fun _ => 0) 1 (nI 2)))), (a2, .inl (gI G, 2175, .inl (fun _ => 0))), (a3, .inl (gI G, 13050, .inl (fun _ => 0))), (a4, .inl (gI G, 4350, .inl (fun _ => 0))), (a5, .inl (gZ G, 2, .inl (fun _ => 0))), (a6, .inl (gI G, 80, .inl (fun _ => 0))), (a7, .inl (gI G, 121, .inl (fun _ => 0)))] H := hP
  have hD : va_D A [(h, .inr (4, [.ref a1, .ref a2, .ref a3, .int 0, .ref a4, .ref a5, .ref a6, .int 0, .ref a7, .int 0])), (a1, .inl (gI G, 2175, .inl (upd (fun _ => 0) 1 (nI 2)))), (a2, .inl (gI G, 2175, .inl (fun _ => 0))), (a3, .inl (gI G, 13050, .inl (fun _ => 0))), (a4, .inl (gI G, 4350, .inl (fun _ => 0))), (a5, .inl (gZ G, 2, .inl (fun _ => 0))), (a6, .inl (gI G, 80, .inl (fun _ => 0))), (a7, .inl (gI G, 121, .inl (fun _ => 0)))] := hD
  refine lv_aload_n hx hb dX4_init_70 rfl (lv_at hl 0 rfl) ?_
  refine va_get (ci := 4) (v := .ref a1) (C := RX4) (T := TX4) (N := 10) hx hb hts inGX4 hown hK hP 0 rfl rfl 0 (by decide) (hts _ mw_3_54) (fun _ h9 => h9) rfl dX4_init_71 ?_
  refine lv_iconst (v := nI 2) hx hb dX4_init_74 (by decide) ?_
  refine lv_iconst (v := nI 2) hx hb dX4_init_75 (by decide) ?_
  refine n_iast hx hb hK hP hD hS 1 0 rfl rfl (by omega) (by omega) dX4_init_76 (fun H locs hP hD hS => ?_)
  have hP : va_P G.1 vwCl [(h, .inr (4, [.ref a1, .ref a2, .ref a3, .int 0, .ref a4, .ref a5, .ref a6, .int 0, .ref a7, .int 0])), (a1, .inl (gI G, 2175, .inl (upd (upd (fun _ => 0) 1 (nI 2)) 2 (nI 2)))), (a2, .inl (gI G, 2175, .inl (fun _ => 0))), (a3, .inl (gI G, 13050, .inl (fun _ => 0))), (a4, .inl (gI G, 4350, .inl (fun _ => 0))), (a5, .inl (gZ G, 2, .inl (fun _ => 0))), (a6, .inl (gI G, 80, .inl (fun _ => 0))), (a7, .inl (gI G, 121, .inl (fun _ => 0)))] H := hP
  have hD : va_D A [(h, .inr (4, [.ref a1, .ref a2, .ref a3, .int 0, .ref a4, .ref a5, .ref a6, .int 0, .ref a7, .int 0])), (a1, .inl (gI G, 2175, .inl (upd (upd (fun _ => 0) 1 (nI 2)) 2 (nI 2)))), (a2, .inl (gI G, 2175, .inl (fun _ => 0))), (a3, .inl (gI G, 13050, .inl (fun _ => 0))), (a4, .inl (gI G, 4350, .inl (fun _ => 0))), (a5, .inl (gZ G, 2, .inl (fun _ => 0))), (a6, .inl (gI G, 80, .inl (fun _ => 0))), (a7, .inl (gI G, 121, .inl (fun _ => 0)))] := hD
  have hw_1 : ([(h, .inr (4, [.ref a1, .ref a2, .ref a3, .int 0, .ref a4, .ref a5, .ref a6, .int 0, .ref a7, .int 0])), (a1, .inl (gI G, 2175, .inl (upd (upd (fun _ => 0) 1 (nI 2)) 2 (nI 2)))), (a2, .inl (gI G, 2175, .inl (fun _ => 0))), (a3, .inl (gI G, 13050, .inl (fun _ => 0))), (a4, .inl (gI G, 4350, .inl (fun _ => 0))), (a5, .inl (gZ G, 2, .inl (fun _ => 0))), (a6, .inl (gI G, 80, .inl (fun _ => 0))), (a7, .inl (gI G, 121, .inl (fun _ => 0)))] : va_W) = [(h, .inr (4, [.ref a1, .ref a2, .ref a3, .int 0, .ref a4, .ref a5, .ref a6, .int 0, .ref a7, .int 0])), (a1, .inl (gI G, 2175, .inl ini)), (a2, .inl (gI G, 2175, .inl (fun _ => 0))), (a3, .inl (gI G, 13050, .inl (fun _ => 0))), (a4, .inl (gI G, 4350, .inl (fun _ => 0))), (a5, .inl (gZ G, 2, .inl (fun _ => 0))), (a6, .inl (gI G, 80, .inl (fun _ => 0))), (a7, .inl (gI G, 121, .inl (fun _ => 0)))] := (wlc rfl (wlc (wli (rfl)) (wlc rfl (wlc rfl (wlc rfl (wlc rfl (wlc rfl (wlc rfl rfl))))))))
  rw [hw_1] at hP hD
  refine lv_iconst (v := nI 0) hx hb dX4_init_77 (by decide) ?_
  refine lv_istore_n (lv' := [(1, .int (nI 0)), (0, .ref h)]) hx hb dX4_init_78 rfl hl (by decide) rfl (fun ls hl => ?_)
  have hPj := hP.sub (ws' := [(h, .inr (4, [.ref a1, .ref a2, .ref a3, .int 0, .ref a4, .ref a5, .ref a6, .int 0, .ref a7, .int 0])), (a1, .inl (gI G, 2175, .inl ini)), (a2, .inl (gI G, 2175, .inl (fun _ => 0))), (a3, .inl (gI G, 13050, .inl (fun _ => 0))), (a4, .inl (gI G, 4350, .inl (fun _ => 0))), (a5, .inl (gZ G, 2, .inl (fun _ => 0))), (a6, .inl (gI G, 80, .inl (fun _ => 0))), (a7, .inl (gI G, 121, .inl (fun _ => 0)))]) [0, 1, 2, 3, 4, 5, 6, 7] rfl
  have hDj := hD.sub (ws' := [(h, .inr (4, [.ref a1, .ref a2, .ref a3, .int 0, .ref a4, .ref a5, .ref a6, .int 0, .ref a7, .int 0])), (a1, .inl (gI G, 2175, .inl ini)), (a2, .inl (gI G, 2175, .inl (fun _ => 0))), (a3, .inl (gI G, 13050, .inl (fun _ => 0))), (a4, .inl (gI G, 4350, .inl (fun _ => 0))), (a5, .inl (gZ G, 2, .inl (fun _ => 0))), (a6, .inl (gI G, 80, .inl (fun _ => 0))), (a7, .inl (gI G, 121, .inl (fun _ => 0)))]) [0, 1, 2, 3, 4, 5, 6, 7] (by decide) rfl
  have w_2 : ([(h, .inr (4, [.ref a1, .ref a2, .ref a3, .int 0, .ref a4, .ref a5, .ref a6, .int 0, .ref a7, .int 0])), (a1, .inl (gI G, 2175, .inl ini)), (a2, .inl (gI G, 2175, .inl (fun _ => 0))), (a3, .inl (gI G, 13050, .inl (fun _ => 0))), (a4, .inl (gI G, 4350, .inl (fun _ => 0))), (a5, .inl (gZ G, 2, .inl (fun _ => 0))), (a6, .inl (gI G, 80, .inl (fun _ => 0))), (a7, .inl (gI G, 121, .inl (fun _ => 0)))] : va_W) = [(h, .inr (4, [.ref a1, .ref a2, .ref a3, .int 0, .ref a4, .ref a5, .ref a6, .int 0, .ref a7, .int 0])), (a1, .inl (gI G, 2175, .inl ini)), (a2, .inl (gI G, 2175, .inl (fun _ => 0))), (a3, .inl (gI G, 13050, .inl (fun _ => 0))), (a4, .inl (gI G, 4350, .inl (fun _ => 0))), (a5, .inl (gZ G, 2, .inl (fun _ => 0))), (a6, .inl (gI G, 80, .inl (fun _ => 0))), (a7, .inl (gI G, 121, .inl (ffk 0)))] := (wlc (rfl) (wlc (rfl) (wlc (rfl) (wlc (rfl) (wlc (rfl) (wlc (rfl) (wlc (rfl) (wlc (wli ffk_0.symm) rfl))))))))
  rw [w_2] at hPj hDj
  refine wloopH [] (fun m H locs ls => (m ≤ 120) ∧ va_P G.1 vwCl [(h, .inr (4, [.ref a1, .ref a2, .ref a3, .int 0, .ref a4, .ref a5, .ref a6, .int 0, .ref a7, .int 0])), (a1, .inl (gI G, 2175, .inl ini)), (a2, .inl (gI G, 2175, .inl (fun _ => 0))), (a3, .inl (gI G, 13050, .inl (fun _ => 0))), (a4, .inl (gI G, 4350, .inl (fun _ => 0))), (a5, .inl (gZ G, 2, .inl (fun _ => 0))), (a6, .inl (gI G, 80, .inl (fun _ => 0))), (a7, .inl (gI G, 121, .inl (ffk m)))] H ∧ va_D A [(h, .inr (4, [.ref a1, .ref a2, .ref a3, .int 0, .ref a4, .ref a5, .ref a6, .int 0, .ref a7, .int 0])), (a1, .inl (gI G, 2175, .inl ini)), (a2, .inl (gI G, 2175, .inl (fun _ => 0))), (a3, .inl (gI G, 13050, .inl (fun _ => 0))), (a4, .inl (gI G, 4350, .inl (fun _ => 0))), (a5, .inl (gZ G, 2, .inl (fun _ => 0))), (a6, .inl (gI G, 80, .inl (fun _ => 0))), (a7, .inl (gI G, 121, .inl (ffk m)))] ∧ va_S A sq.heap H locs ∧ lv_has ls 3 [(1, .int (nI m)), (0, .ref h)]) (fun m => 120 - m) ?_ 0 ⟨(by omega), hPj, hDj, hS, lv_sub hl [0, 1] rfl⟩
  intro m ih
  intro H locs ls ⟨hm, hP, hD, hS, hl⟩
  obtain ⟨hy1, hy2, hy3⟩ := dys_t m
  have hfs := fdy_succ m
  refine lv_iload_n hx hb dX4_init_79 rfl (lv_at hl 0 rfl) ?_
  refine lv_bipush (v := nI 120) hx hb dX4_init_80 (by decide) ?_
  refine z_ge hx hb (tgt := 150) ((m : Nat) : Int) 120 dX4_init_82 (by decide) (toI (by omega)) (by decide) (fun c_82 => ?_) (fun c_82 => ?_)
  · skip
    have hm2 : m = 120 := by omega
    subst hm2
    obtain ⟨hP, hD⟩ := va_nrm hP hD 7 (fun q9 => nI (fdy q9)) rfl (fun k hk => if_pos (by omega))
    have hP : va_P G.1 vwCl [(h, .inr (4, [.ref a1, .ref a2, .ref a3, .int 0, .ref a4, .ref a5, .ref a6, .int 0, .ref a7, .int 0])), (a1, .inl (gI G, 2175, .inl ini)), (a2, .inl (gI G, 2175, .inl (fun _ => 0))), (a3, .inl (gI G, 13050, .inl (fun _ => 0))), (a4, .inl (gI G, 4350, .inl (fun _ => 0))), (a5, .inl (gZ G, 2, .inl (fun _ => 0))), (a6, .inl (gI G, 80, .inl (fun _ => 0))), (a7, .inl (gI G, 121, .inl (fun q9 => nI (fdy q9))))] H := hP
    have hD : va_D A [(h, .inr (4, [.ref a1, .ref a2, .ref a3, .int 0, .ref a4, .ref a5, .ref a6, .int 0, .ref a7, .int 0])), (a1, .inl (gI G, 2175, .inl ini)), (a2, .inl (gI G, 2175, .inl (fun _ => 0))), (a3, .inl (gI G, 13050, .inl (fun _ => 0))), (a4, .inl (gI G, 4350, .inl (fun _ => 0))), (a5, .inl (gZ G, 2, .inl (fun _ => 0))), (a6, .inl (gI G, 80, .inl (fun _ => 0))), (a7, .inl (gI G, 121, .inl (fun q9 => nI (fdy q9))))] := hD
    have hPj := hP.sub (ws' := [(h, .inr (4, [.ref a1, .ref a2, .ref a3, .int 0, .ref a4, .ref a5, .ref a6, .int 0, .ref a7, .int 0])), (a1, .inl (gI G, 2175, .inl ini)), (a2, .inl (gI G, 2175, .inl (fun _ => 0))), (a3, .inl (gI G, 13050, .inl (fun _ => 0))), (a4, .inl (gI G, 4350, .inl (fun _ => 0))), (a5, .inl (gZ G, 2, .inl (fun _ => 0))), (a6, .inl (gI G, 80, .inl (fun _ => 0))), (a7, .inl (gI G, 121, .inl (fun q9 => nI (fdy q9))))]) [0, 1, 2, 3, 4, 5, 6, 7] rfl
    have hDj := hD.sub (ws' := [(h, .inr (4, [.ref a1, .ref a2, .ref a3, .int 0, .ref a4, .ref a5, .ref a6, .int 0, .ref a7, .int 0])), (a1, .inl (gI G, 2175, .inl ini)), (a2, .inl (gI G, 2175, .inl (fun _ => 0))), (a3, .inl (gI G, 13050, .inl (fun _ => 0))), (a4, .inl (gI G, 4350, .inl (fun _ => 0))), (a5, .inl (gZ G, 2, .inl (fun _ => 0))), (a6, .inl (gI G, 80, .inl (fun _ => 0))), (a7, .inl (gI G, 121, .inl (fun q9 => nI (fdy q9))))]) [0, 1, 2, 3, 4, 5, 6, 7] (by decide) rfl
    exact e_nv hx hb hr hlk hPj hDj hS ⟨a1, a2, a3, a4, a5, a6, a7, rfl⟩ (Nat.le_of_ble_eq_true rfl) (Nat.le_of_ble_eq_true rfl) dX4_init_150
  · skip
    refine lv_iload_n hx hb dX4_init_85 rfl (lv_at hl 0 rfl) ?_
    refine lv_bipush (v := nI 12) hx hb dX4_init_86 (by decide) ?_
    refine n_irem hx hb (by omega) (by omega) (by omega) dX4_init_88 ?_
    refine lv_istore_n (lv' := [(2, .int (nI (m % 12))), (1, .int (nI m)), (0, .ref h)]) hx hb dX4_init_89 rfl hl (by decide) rfl (fun ls hl => ?_)
    refine lv_aload_n hx hb dX4_init_90 rfl (lv_at hl 2 rfl) ?_
    refine va_get (ci := 4) (v := .ref a7) (C := RX4) (T := TX4) (N := 10) hx hb hts inGX4 hown hK hP 0 rfl rfl 8 (by decide) (hts _ mw_3_62) (fun _ h9 => h9) rfl dX4_init_91 ?_
    refine lv_iload_n hx hb dX4_init_94 rfl (lv_at hl 1 rfl) ?_
    refine lv_iconst (v := nI 1) hx hb dX4_init_95 (by decide) ?_
    refine n_iadd hx hb dX4_init_96 ?_
    refine lv_aload_n hx hb dX4_init_97 rfl (lv_at hl 2 rfl) ?_
    refine va_get (ci := 4) (v := .ref a7) (C := RX4) (T := TX4) (N := 10) hx hb hts inGX4 hown hK hP 0 rfl rfl 8 (by decide) (hts _ mw_3_62) (fun _ h9 => h9) rfl dX4_init_98 ?_
    refine lv_iload_n hx hb dX4_init_101 rfl (lv_at hl 1 rfl) ?_
    refine n_iald hx hb hK hP 7 0 rfl rfl (by omega) (by omega) dX4_init_102 ?_
    refine lv_cv (y := nI (fdy m)) (ffk_m) ?_
    refine lv_iload_n hx hb dX4_init_103 rfl (lv_at hl 0 rfl) ?_
    refine lv_iconst (v := nI 1) hx hb dX4_init_104 (by decide) ?_
    refine z_ne hx hb (tgt := 113) ((m % 12 : Nat) : Int) 1 dX4_init_105 (by decide) (toI (by omega)) (by decide) (fun c_105 => ?_) (fun c_105 => ?_)
    · skip
      refine lv_iload_n hx hb dX4_init_113 rfl (lv_at hl 0 rfl) ?_
      refine lv_iconst (v := nI 3) hx hb dX4_init_114 (by decide) ?_
      refine z_eq hx hb (tgt := 135) ((m % 12 : Nat) : Int) 3 dX4_init_115 (by decide) (toI (by omega)) (by decide) (fun c_115 => ?_) (fun c_115 => ?_)
      · skip
        refine lv_bipush (v := nI 30) hx hb dX4_init_135 (by decide) ?_
        refine lv_goto (tgt := 142) hx hb dX4_init_137 (by decide) ?_
        refine n_iadd hx hb dX4_init_142 ?_
        refine lv_cv (y := nI (fdy (m + 1))) (congrArg nI (by omega)) ?_
        refine n_iast hx hb hK hP hD hS 7 0 rfl rfl (by omega) (by omega) dX4_init_143 (fun H locs hP hD hS => ?_)
        have hP : va_P G.1 vwCl [(h, .inr (4, [.ref a1, .ref a2, .ref a3, .int 0, .ref a4, .ref a5, .ref a6, .int 0, .ref a7, .int 0])), (a1, .inl (gI G, 2175, .inl ini)), (a2, .inl (gI G, 2175, .inl (fun _ => 0))), (a3, .inl (gI G, 13050, .inl (fun _ => 0))), (a4, .inl (gI G, 4350, .inl (fun _ => 0))), (a5, .inl (gZ G, 2, .inl (fun _ => 0))), (a6, .inl (gI G, 80, .inl (fun _ => 0))), (a7, .inl (gI G, 121, .inl (upd (ffk m) (m + 1) (nI (fdy (m + 1))))))] H := hP
        have hD : va_D A [(h, .inr (4, [.ref a1, .ref a2, .ref a3, .int 0, .ref a4, .ref a5, .ref a6, .int 0, .ref a7, .int 0])), (a1, .inl (gI G, 2175, .inl ini)), (a2, .inl (gI G, 2175, .inl (fun _ => 0))), (a3, .inl (gI G, 13050, .inl (fun _ => 0))), (a4, .inl (gI G, 4350, .inl (fun _ => 0))), (a5, .inl (gZ G, 2, .inl (fun _ => 0))), (a6, .inl (gI G, 80, .inl (fun _ => 0))), (a7, .inl (gI G, 121, .inl (upd (ffk m) (m + 1) (nI (fdy (m + 1))))))] := hD
        refine lv_iinc (v := nI (m + 1)) (lv' := [(1, .int (nI (m + 1))), (2, .int (nI (m % 12))), (0, .ref h)]) hx hb dX4_init_144 hl (k := 1) rfl (nI_add _ _) (by decide) rfl (fun ls hl => ?_)
        refine lv_goto (tgt := 79) hx hb dX4_init_147 (by decide) ?_
        have hPj := hP.sub (ws' := [(h, .inr (4, [.ref a1, .ref a2, .ref a3, .int 0, .ref a4, .ref a5, .ref a6, .int 0, .ref a7, .int 0])), (a1, .inl (gI G, 2175, .inl ini)), (a2, .inl (gI G, 2175, .inl (fun _ => 0))), (a3, .inl (gI G, 13050, .inl (fun _ => 0))), (a4, .inl (gI G, 4350, .inl (fun _ => 0))), (a5, .inl (gZ G, 2, .inl (fun _ => 0))), (a6, .inl (gI G, 80, .inl (fun _ => 0))), (a7, .inl (gI G, 121, .inl (upd (ffk m) (m + 1) (nI (fdy (m + 1))))))]) [0, 1, 2, 3, 4, 5, 6, 7] rfl
        have hDj := hD.sub (ws' := [(h, .inr (4, [.ref a1, .ref a2, .ref a3, .int 0, .ref a4, .ref a5, .ref a6, .int 0, .ref a7, .int 0])), (a1, .inl (gI G, 2175, .inl ini)), (a2, .inl (gI G, 2175, .inl (fun _ => 0))), (a3, .inl (gI G, 13050, .inl (fun _ => 0))), (a4, .inl (gI G, 4350, .inl (fun _ => 0))), (a5, .inl (gZ G, 2, .inl (fun _ => 0))), (a6, .inl (gI G, 80, .inl (fun _ => 0))), (a7, .inl (gI G, 121, .inl (upd (ffk m) (m + 1) (nI (fdy (m + 1))))))]) [0, 1, 2, 3, 4, 5, 6, 7] (by decide) rfl
        have w_3 : ([(h, .inr (4, [.ref a1, .ref a2, .ref a3, .int 0, .ref a4, .ref a5, .ref a6, .int 0, .ref a7, .int 0])), (a1, .inl (gI G, 2175, .inl ini)), (a2, .inl (gI G, 2175, .inl (fun _ => 0))), (a3, .inl (gI G, 13050, .inl (fun _ => 0))), (a4, .inl (gI G, 4350, .inl (fun _ => 0))), (a5, .inl (gZ G, 2, .inl (fun _ => 0))), (a6, .inl (gI G, 80, .inl (fun _ => 0))), (a7, .inl (gI G, 121, .inl (upd (ffk m) (m + 1) (nI (fdy (m + 1))))))] : va_W) = [(h, .inr (4, [.ref a1, .ref a2, .ref a3, .int 0, .ref a4, .ref a5, .ref a6, .int 0, .ref a7, .int 0])), (a1, .inl (gI G, 2175, .inl ini)), (a2, .inl (gI G, 2175, .inl (fun _ => 0))), (a3, .inl (gI G, 13050, .inl (fun _ => 0))), (a4, .inl (gI G, 4350, .inl (fun _ => 0))), (a5, .inl (gZ G, 2, .inl (fun _ => 0))), (a6, .inl (gI G, 80, .inl (fun _ => 0))), (a7, .inl (gI G, 121, .inl (ffk (m + 1))))] := (wlc (rfl) (wlc (rfl) (wlc (rfl) (wlc (rfl) (wlc (rfl) (wlc (rfl) (wlc (rfl) (wlc (wli ffk_s) rfl))))))))
        rw [w_3] at hPj hDj
        exact ih (m + 1) _ _ ls (by omega) ⟨(by omega), hPj, hDj, hS, lv_sub hl [0, 2] rfl⟩
      · skip
        refine lv_iload_n hx hb dX4_init_118 rfl (lv_at hl 0 rfl) ?_
        refine lv_iconst (v := nI 5) hx hb dX4_init_119 (by decide) ?_
        refine z_eq hx hb (tgt := 135) ((m % 12 : Nat) : Int) 5 dX4_init_120 (by decide) (toI (by omega)) (by decide) (fun c_120 => ?_) (fun c_120 => ?_)
        · skip
          refine lv_bipush (v := nI 30) hx hb dX4_init_135 (by decide) ?_
          refine lv_goto (tgt := 142) hx hb dX4_init_137 (by decide) ?_
          refine n_iadd hx hb dX4_init_142 ?_
          refine lv_cv (y := nI (fdy (m + 1))) (congrArg nI (by omega)) ?_
          refine n_iast hx hb hK hP hD hS 7 0 rfl rfl (by omega) (by omega) dX4_init_143 (fun H locs hP hD hS => ?_)
          have hP : va_P G.1 vwCl [(h, .inr (4, [.ref a1, .ref a2, .ref a3, .int 0, .ref a4, .ref a5, .ref a6, .int 0, .ref a7, .int 0])), (a1, .inl (gI G, 2175, .inl ini)), (a2, .inl (gI G, 2175, .inl (fun _ => 0))), (a3, .inl (gI G, 13050, .inl (fun _ => 0))), (a4, .inl (gI G, 4350, .inl (fun _ => 0))), (a5, .inl (gZ G, 2, .inl (fun _ => 0))), (a6, .inl (gI G, 80, .inl (fun _ => 0))), (a7, .inl (gI G, 121, .inl (upd (ffk m) (m + 1) (nI (fdy (m + 1))))))] H := hP
          have hD : va_D A [(h, .inr (4, [.ref a1, .ref a2, .ref a3, .int 0, .ref a4, .ref a5, .ref a6, .int 0, .ref a7, .int 0])), (a1, .inl (gI G, 2175, .inl ini)), (a2, .inl (gI G, 2175, .inl (fun _ => 0))), (a3, .inl (gI G, 13050, .inl (fun _ => 0))), (a4, .inl (gI G, 4350, .inl (fun _ => 0))), (a5, .inl (gZ G, 2, .inl (fun _ => 0))), (a6, .inl (gI G, 80, .inl (fun _ => 0))), (a7, .inl (gI G, 121, .inl (upd (ffk m) (m + 1) (nI (fdy (m + 1))))))] := hD
          refine lv_iinc (v := nI (m + 1)) (lv' := [(1, .int (nI (m + 1))), (2, .int (nI (m % 12))), (0, .ref h)]) hx hb dX4_init_144 hl (k := 1) rfl (nI_add _ _) (by decide) rfl (fun ls hl => ?_)
          refine lv_goto (tgt := 79) hx hb dX4_init_147 (by decide) ?_
          have hPj := hP.sub (ws' := [(h, .inr (4, [.ref a1, .ref a2, .ref a3, .int 0, .ref a4, .ref a5, .ref a6, .int 0, .ref a7, .int 0])), (a1, .inl (gI G, 2175, .inl ini)), (a2, .inl (gI G, 2175, .inl (fun _ => 0))), (a3, .inl (gI G, 13050, .inl (fun _ => 0))), (a4, .inl (gI G, 4350, .inl (fun _ => 0))), (a5, .inl (gZ G, 2, .inl (fun _ => 0))), (a6, .inl (gI G, 80, .inl (fun _ => 0))), (a7, .inl (gI G, 121, .inl (upd (ffk m) (m + 1) (nI (fdy (m + 1))))))]) [0, 1, 2, 3, 4, 5, 6, 7] rfl
          have hDj := hD.sub (ws' := [(h, .inr (4, [.ref a1, .ref a2, .ref a3, .int 0, .ref a4, .ref a5, .ref a6, .int 0, .ref a7, .int 0])), (a1, .inl (gI G, 2175, .inl ini)), (a2, .inl (gI G, 2175, .inl (fun _ => 0))), (a3, .inl (gI G, 13050, .inl (fun _ => 0))), (a4, .inl (gI G, 4350, .inl (fun _ => 0))), (a5, .inl (gZ G, 2, .inl (fun _ => 0))), (a6, .inl (gI G, 80, .inl (fun _ => 0))), (a7, .inl (gI G, 121, .inl (upd (ffk m) (m + 1) (nI (fdy (m + 1))))))]) [0, 1, 2, 3, 4, 5, 6, 7] (by decide) rfl
          have w_4 : ([(h, .inr (4, [.ref a1, .ref a2, .ref a3, .int 0, .ref a4, .ref a5, .ref a6, .int 0, .ref a7, .int 0])), (a1, .inl (gI G, 2175, .inl ini)), (a2, .inl (gI G, 2175, .inl (fun _ => 0))), (a3, .inl (gI G, 13050, .inl (fun _ => 0))), (a4, .inl (gI G, 4350, .inl (fun _ => 0))), (a5, .inl (gZ G, 2, .inl (fun _ => 0))), (a6, .inl (gI G, 80, .inl (fun _ => 0))), (a7, .inl (gI G, 121, .inl (upd (ffk m) (m + 1) (nI (fdy (m + 1))))))] : va_W) = [(h, .inr (4, [.ref a1, .ref a2, .ref a3, .int 0, .ref a4, .ref a5, .ref a6, .int 0, .ref a7, .int 0])), (a1, .inl (gI G, 2175, .inl ini)), (a2, .inl (gI G, 2175, .inl (fun _ => 0))), (a3, .inl (gI G, 13050, .inl (fun _ => 0))), (a4, .inl (gI G, 4350, .inl (fun _ => 0))), (a5, .inl (gZ G, 2, .inl (fun _ => 0))), (a6, .inl (gI G, 80, .inl (fun _ => 0))), (a7, .inl (gI G, 121, .inl (ffk (m + 1))))] := (wlc (rfl) (wlc (rfl) (wlc (rfl) (wlc (rfl) (wlc (rfl) (wlc (rfl) (wlc (rfl) (wlc (wli ffk_s) rfl))))))))
          rw [w_4] at hPj hDj
          exact ih (m + 1) _ _ ls (by omega) ⟨(by omega), hPj, hDj, hS, lv_sub hl [0, 2] rfl⟩
        · skip
          refine lv_iload_n hx hb dX4_init_123 rfl (lv_at hl 0 rfl) ?_
          refine lv_bipush (v := nI 8) hx hb dX4_init_124 (by decide) ?_
          refine z_eq hx hb (tgt := 135) ((m % 12 : Nat) : Int) 8 dX4_init_126 (by decide) (toI (by omega)) (by decide) (fun c_126 => ?_) (fun c_126 => ?_)
          · skip
            refine lv_bipush (v := nI 30) hx hb dX4_init_135 (by decide) ?_
            refine lv_goto (tgt := 142) hx hb dX4_init_137 (by decide) ?_
            refine n_iadd hx hb dX4_init_142 ?_
            refine lv_cv (y := nI (fdy (m + 1))) (congrArg nI (by omega)) ?_
            refine n_iast hx hb hK hP hD hS 7 0 rfl rfl (by omega) (by omega) dX4_init_143 (fun H locs hP hD hS => ?_)
            have hP : va_P G.1 vwCl [(h, .inr (4, [.ref a1, .ref a2, .ref a3, .int 0, .ref a4, .ref a5, .ref a6, .int 0, .ref a7, .int 0])), (a1, .inl (gI G, 2175, .inl ini)), (a2, .inl (gI G, 2175, .inl (fun _ => 0))), (a3, .inl (gI G, 13050, .inl (fun _ => 0))), (a4, .inl (gI G, 4350, .inl (fun _ => 0))), (a5, .inl (gZ G, 2, .inl (fun _ => 0))), (a6, .inl (gI G, 80, .inl (fun _ => 0))), (a7, .inl (gI G, 121, .inl (upd (ffk m) (m + 1) (nI (fdy (m + 1))))))] H := hP
            have hD : va_D A [(h, .inr (4, [.ref a1, .ref a2, .ref a3, .int 0, .ref a4, .ref a5, .ref a6, .int 0, .ref a7, .int 0])), (a1, .inl (gI G, 2175, .inl ini)), (a2, .inl (gI G, 2175, .inl (fun _ => 0))), (a3, .inl (gI G, 13050, .inl (fun _ => 0))), (a4, .inl (gI G, 4350, .inl (fun _ => 0))), (a5, .inl (gZ G, 2, .inl (fun _ => 0))), (a6, .inl (gI G, 80, .inl (fun _ => 0))), (a7, .inl (gI G, 121, .inl (upd (ffk m) (m + 1) (nI (fdy (m + 1))))))] := hD
            refine lv_iinc (v := nI (m + 1)) (lv' := [(1, .int (nI (m + 1))), (2, .int (nI (m % 12))), (0, .ref h)]) hx hb dX4_init_144 hl (k := 1) rfl (nI_add _ _) (by decide) rfl (fun ls hl => ?_)
            refine lv_goto (tgt := 79) hx hb dX4_init_147 (by decide) ?_
            have hPj := hP.sub (ws' := [(h, .inr (4, [.ref a1, .ref a2, .ref a3, .int 0, .ref a4, .ref a5, .ref a6, .int 0, .ref a7, .int 0])), (a1, .inl (gI G, 2175, .inl ini)), (a2, .inl (gI G, 2175, .inl (fun _ => 0))), (a3, .inl (gI G, 13050, .inl (fun _ => 0))), (a4, .inl (gI G, 4350, .inl (fun _ => 0))), (a5, .inl (gZ G, 2, .inl (fun _ => 0))), (a6, .inl (gI G, 80, .inl (fun _ => 0))), (a7, .inl (gI G, 121, .inl (upd (ffk m) (m + 1) (nI (fdy (m + 1))))))]) [0, 1, 2, 3, 4, 5, 6, 7] rfl
            have hDj := hD.sub (ws' := [(h, .inr (4, [.ref a1, .ref a2, .ref a3, .int 0, .ref a4, .ref a5, .ref a6, .int 0, .ref a7, .int 0])), (a1, .inl (gI G, 2175, .inl ini)), (a2, .inl (gI G, 2175, .inl (fun _ => 0))), (a3, .inl (gI G, 13050, .inl (fun _ => 0))), (a4, .inl (gI G, 4350, .inl (fun _ => 0))), (a5, .inl (gZ G, 2, .inl (fun _ => 0))), (a6, .inl (gI G, 80, .inl (fun _ => 0))), (a7, .inl (gI G, 121, .inl (upd (ffk m) (m + 1) (nI (fdy (m + 1))))))]) [0, 1, 2, 3, 4, 5, 6, 7] (by decide) rfl
            have w_5 : ([(h, .inr (4, [.ref a1, .ref a2, .ref a3, .int 0, .ref a4, .ref a5, .ref a6, .int 0, .ref a7, .int 0])), (a1, .inl (gI G, 2175, .inl ini)), (a2, .inl (gI G, 2175, .inl (fun _ => 0))), (a3, .inl (gI G, 13050, .inl (fun _ => 0))), (a4, .inl (gI G, 4350, .inl (fun _ => 0))), (a5, .inl (gZ G, 2, .inl (fun _ => 0))), (a6, .inl (gI G, 80, .inl (fun _ => 0))), (a7, .inl (gI G, 121, .inl (upd (ffk m) (m + 1) (nI (fdy (m + 1))))))] : va_W) = [(h, .inr (4, [.ref a1, .ref a2, .ref a3, .int 0, .ref a4, .ref a5, .ref a6, .int 0, .ref a7, .int 0])), (a1, .inl (gI G, 2175, .inl ini)), (a2, .inl (gI G, 2175, .inl (fun _ => 0))), (a3, .inl (gI G, 13050, .inl (fun _ => 0))), (a4, .inl (gI G, 4350, .inl (fun _ => 0))), (a5, .inl (gZ G, 2, .inl (fun _ => 0))), (a6, .inl (gI G, 80, .inl (fun _ => 0))), (a7, .inl (gI G, 121, .inl (ffk (m + 1))))] := (wlc (rfl) (wlc (rfl) (wlc (rfl) (wlc (rfl) (wlc (rfl) (wlc (rfl) (wlc (rfl) (wlc (wli ffk_s) rfl))))))))
            rw [w_5] at hPj hDj
            exact ih (m + 1) _ _ ls (by omega) ⟨(by omega), hPj, hDj, hS, lv_sub hl [0, 2] rfl⟩
          · skip
            refine lv_iload_n hx hb dX4_init_129 rfl (lv_at hl 0 rfl) ?_
            refine lv_bipush (v := nI 10) hx hb dX4_init_130 (by decide) ?_
            refine z_ne hx hb (tgt := 140) ((m % 12 : Nat) : Int) 10 dX4_init_132 (by decide) (toI (by omega)) (by decide) (fun c_132 => ?_) (fun c_132 => ?_)
            · skip
              refine lv_bipush (v := nI 31) hx hb dX4_init_140 (by decide) ?_
              refine n_iadd hx hb dX4_init_142 ?_
              refine lv_cv (y := nI (fdy (m + 1))) (congrArg nI (by omega)) ?_
              refine n_iast hx hb hK hP hD hS 7 0 rfl rfl (by omega) (by omega) dX4_init_143 (fun H locs hP hD hS => ?_)
              have hP : va_P G.1 vwCl [(h, .inr (4, [.ref a1, .ref a2, .ref a3, .int 0, .ref a4, .ref a5, .ref a6, .int 0, .ref a7, .int 0])), (a1, .inl (gI G, 2175, .inl ini)), (a2, .inl (gI G, 2175, .inl (fun _ => 0))), (a3, .inl (gI G, 13050, .inl (fun _ => 0))), (a4, .inl (gI G, 4350, .inl (fun _ => 0))), (a5, .inl (gZ G, 2, .inl (fun _ => 0))), (a6, .inl (gI G, 80, .inl (fun _ => 0))), (a7, .inl (gI G, 121, .inl (upd (ffk m) (m + 1) (nI (fdy (m + 1))))))] H := hP
              have hD : va_D A [(h, .inr (4, [.ref a1, .ref a2, .ref a3, .int 0, .ref a4, .ref a5, .ref a6, .int 0, .ref a7, .int 0])), (a1, .inl (gI G, 2175, .inl ini)), (a2, .inl (gI G, 2175, .inl (fun _ => 0))), (a3, .inl (gI G, 13050, .inl (fun _ => 0))), (a4, .inl (gI G, 4350, .inl (fun _ => 0))), (a5, .inl (gZ G, 2, .inl (fun _ => 0))), (a6, .inl (gI G, 80, .inl (fun _ => 0))), (a7, .inl (gI G, 121, .inl (upd (ffk m) (m + 1) (nI (fdy (m + 1))))))] := hD
              refine lv_iinc (v := nI (m + 1)) (lv' := [(1, .int (nI (m + 1))), (2, .int (nI (m % 12))), (0, .ref h)]) hx hb dX4_init_144 hl (k := 1) rfl (nI_add _ _) (by decide) rfl (fun ls hl => ?_)
              refine lv_goto (tgt := 79) hx hb dX4_init_147 (by decide) ?_
              have hPj := hP.sub (ws' := [(h, .inr (4, [.ref a1, .ref a2, .ref a3, .int 0, .ref a4, .ref a5, .ref a6, .int 0, .ref a7, .int 0])), (a1, .inl (gI G, 2175, .inl ini)), (a2, .inl (gI G, 2175, .inl (fun _ => 0))), (a3, .inl (gI G, 13050, .inl (fun _ => 0))), (a4, .inl (gI G, 4350, .inl (fun _ => 0))), (a5, .inl (gZ G, 2, .inl (fun _ => 0))), (a6, .inl (gI G, 80, .inl (fun _ => 0))), (a7, .inl (gI G, 121, .inl (upd (ffk m) (m + 1) (nI (fdy (m + 1))))))]) [0, 1, 2, 3, 4, 5, 6, 7] rfl
              have hDj := hD.sub (ws' := [(h, .inr (4, [.ref a1, .ref a2, .ref a3, .int 0, .ref a4, .ref a5, .ref a6, .int 0, .ref a7, .int 0])), (a1, .inl (gI G, 2175, .inl ini)), (a2, .inl (gI G, 2175, .inl (fun _ => 0))), (a3, .inl (gI G, 13050, .inl (fun _ => 0))), (a4, .inl (gI G, 4350, .inl (fun _ => 0))), (a5, .inl (gZ G, 2, .inl (fun _ => 0))), (a6, .inl (gI G, 80, .inl (fun _ => 0))), (a7, .inl (gI G, 121, .inl (upd (ffk m) (m + 1) (nI (fdy (m + 1))))))]) [0, 1, 2, 3, 4, 5, 6, 7] (by decide) rfl
              have w_6 : ([(h, .inr (4, [.ref a1, .ref a2, .ref a3, .int 0, .ref a4, .ref a5, .ref a6, .int 0, .ref a7, .int 0])), (a1, .inl (gI G, 2175, .inl ini)), (a2, .inl (gI G, 2175, .inl (fun _ => 0))), (a3, .inl (gI G, 13050, .inl (fun _ => 0))), (a4, .inl (gI G, 4350, .inl (fun _ => 0))), (a5, .inl (gZ G, 2, .inl (fun _ => 0))), (a6, .inl (gI G, 80, .inl (fun _ => 0))), (a7, .inl (gI G, 121, .inl (upd (ffk m) (m + 1) (nI (fdy (m + 1))))))] : va_W) = [(h, .inr (4, [.ref a1, .ref a2, .ref a3, .int 0, .ref a4, .ref a5, .ref a6, .int 0, .ref a7, .int 0])), (a1, .inl (gI G, 2175, .inl ini)), (a2, .inl (gI G, 2175, .inl (fun _ => 0))), (a3, .inl (gI G, 13050, .inl (fun _ => 0))), (a4, .inl (gI G, 4350, .inl (fun _ => 0))), (a5, .inl (gZ G, 2, .inl (fun _ => 0))), (a6, .inl (gI G, 80, .inl (fun _ => 0))), (a7, .inl (gI G, 121, .inl (ffk (m + 1))))] := (wlc (rfl) (wlc (rfl) (wlc (rfl) (wlc (rfl) (wlc (rfl) (wlc (rfl) (wlc (rfl) (wlc (wli ffk_s) rfl))))))))
              rw [w_6] at hPj hDj
              exact ih (m + 1) _ _ ls (by omega) ⟨(by omega), hPj, hDj, hS, lv_sub hl [0, 2] rfl⟩
            · skip
              refine lv_bipush (v := nI 30) hx hb dX4_init_135 (by decide) ?_
              refine lv_goto (tgt := 142) hx hb dX4_init_137 (by decide) ?_
              refine n_iadd hx hb dX4_init_142 ?_
              refine lv_cv (y := nI (fdy (m + 1))) (congrArg nI (by omega)) ?_
              refine n_iast hx hb hK hP hD hS 7 0 rfl rfl (by omega) (by omega) dX4_init_143 (fun H locs hP hD hS => ?_)
              have hP : va_P G.1 vwCl [(h, .inr (4, [.ref a1, .ref a2, .ref a3, .int 0, .ref a4, .ref a5, .ref a6, .int 0, .ref a7, .int 0])), (a1, .inl (gI G, 2175, .inl ini)), (a2, .inl (gI G, 2175, .inl (fun _ => 0))), (a3, .inl (gI G, 13050, .inl (fun _ => 0))), (a4, .inl (gI G, 4350, .inl (fun _ => 0))), (a5, .inl (gZ G, 2, .inl (fun _ => 0))), (a6, .inl (gI G, 80, .inl (fun _ => 0))), (a7, .inl (gI G, 121, .inl (upd (ffk m) (m + 1) (nI (fdy (m + 1))))))] H := hP
              have hD : va_D A [(h, .inr (4, [.ref a1, .ref a2, .ref a3, .int 0, .ref a4, .ref a5, .ref a6, .int 0, .ref a7, .int 0])), (a1, .inl (gI G, 2175, .inl ini)), (a2, .inl (gI G, 2175, .inl (fun _ => 0))), (a3, .inl (gI G, 13050, .inl (fun _ => 0))), (a4, .inl (gI G, 4350, .inl (fun _ => 0))), (a5, .inl (gZ G, 2, .inl (fun _ => 0))), (a6, .inl (gI G, 80, .inl (fun _ => 0))), (a7, .inl (gI G, 121, .inl (upd (ffk m) (m + 1) (nI (fdy (m + 1))))))] := hD
              refine lv_iinc (v := nI (m + 1)) (lv' := [(1, .int (nI (m + 1))), (2, .int (nI (m % 12))), (0, .ref h)]) hx hb dX4_init_144 hl (k := 1) rfl (nI_add _ _) (by decide) rfl (fun ls hl => ?_)
              refine lv_goto (tgt := 79) hx hb dX4_init_147 (by decide) ?_
              have hPj := hP.sub (ws' := [(h, .inr (4, [.ref a1, .ref a2, .ref a3, .int 0, .ref a4, .ref a5, .ref a6, .int 0, .ref a7, .int 0])), (a1, .inl (gI G, 2175, .inl ini)), (a2, .inl (gI G, 2175, .inl (fun _ => 0))), (a3, .inl (gI G, 13050, .inl (fun _ => 0))), (a4, .inl (gI G, 4350, .inl (fun _ => 0))), (a5, .inl (gZ G, 2, .inl (fun _ => 0))), (a6, .inl (gI G, 80, .inl (fun _ => 0))), (a7, .inl (gI G, 121, .inl (upd (ffk m) (m + 1) (nI (fdy (m + 1))))))]) [0, 1, 2, 3, 4, 5, 6, 7] rfl
              have hDj := hD.sub (ws' := [(h, .inr (4, [.ref a1, .ref a2, .ref a3, .int 0, .ref a4, .ref a5, .ref a6, .int 0, .ref a7, .int 0])), (a1, .inl (gI G, 2175, .inl ini)), (a2, .inl (gI G, 2175, .inl (fun _ => 0))), (a3, .inl (gI G, 13050, .inl (fun _ => 0))), (a4, .inl (gI G, 4350, .inl (fun _ => 0))), (a5, .inl (gZ G, 2, .inl (fun _ => 0))), (a6, .inl (gI G, 80, .inl (fun _ => 0))), (a7, .inl (gI G, 121, .inl (upd (ffk m) (m + 1) (nI (fdy (m + 1))))))]) [0, 1, 2, 3, 4, 5, 6, 7] (by decide) rfl
              have w_7 : ([(h, .inr (4, [.ref a1, .ref a2, .ref a3, .int 0, .ref a4, .ref a5, .ref a6, .int 0, .ref a7, .int 0])), (a1, .inl (gI G, 2175, .inl ini)), (a2, .inl (gI G, 2175, .inl (fun _ => 0))), (a3, .inl (gI G, 13050, .inl (fun _ => 0))), (a4, .inl (gI G, 4350, .inl (fun _ => 0))), (a5, .inl (gZ G, 2, .inl (fun _ => 0))), (a6, .inl (gI G, 80, .inl (fun _ => 0))), (a7, .inl (gI G, 121, .inl (upd (ffk m) (m + 1) (nI (fdy (m + 1))))))] : va_W) = [(h, .inr (4, [.ref a1, .ref a2, .ref a3, .int 0, .ref a4, .ref a5, .ref a6, .int 0, .ref a7, .int 0])), (a1, .inl (gI G, 2175, .inl ini)), (a2, .inl (gI G, 2175, .inl (fun _ => 0))), (a3, .inl (gI G, 13050, .inl (fun _ => 0))), (a4, .inl (gI G, 4350, .inl (fun _ => 0))), (a5, .inl (gZ G, 2, .inl (fun _ => 0))), (a6, .inl (gI G, 80, .inl (fun _ => 0))), (a7, .inl (gI G, 121, .inl (ffk (m + 1))))] := (wlc (rfl) (wlc (rfl) (wlc (rfl) (wlc (rfl) (wlc (rfl) (wlc (rfl) (wlc (rfl) (wlc (wli ffk_s) rfl))))))))
              rw [w_7] at hPj hDj
              exact ih (m + 1) _ _ ls (by omega) ⟨(by omega), hPj, hDj, hS, lv_sub hl [0, 2] rfl⟩
    · skip
      refine lv_bipush (v := nI 28) hx hb dX4_init_108 (by decide) ?_
      refine lv_goto (tgt := 142) hx hb dX4_init_110 (by decide) ?_
      refine n_iadd hx hb dX4_init_142 ?_
      refine lv_cv (y := nI (fdy (m + 1))) (congrArg nI (by omega)) ?_
      refine n_iast hx hb hK hP hD hS 7 0 rfl rfl (by omega) (by omega) dX4_init_143 (fun H locs hP hD hS => ?_)
      have hP : va_P G.1 vwCl [(h, .inr (4, [.ref a1, .ref a2, .ref a3, .int 0, .ref a4, .ref a5, .ref a6, .int 0, .ref a7, .int 0])), (a1, .inl (gI G, 2175, .inl ini)), (a2, .inl (gI G, 2175, .inl (fun _ => 0))), (a3, .inl (gI G, 13050, .inl (fun _ => 0))), (a4, .inl (gI G, 4350, .inl (fun _ => 0))), (a5, .inl (gZ G, 2, .inl (fun _ => 0))), (a6, .inl (gI G, 80, .inl (fun _ => 0))), (a7, .inl (gI G, 121, .inl (upd (ffk m) (m + 1) (nI (fdy (m + 1))))))] H := hP
      have hD : va_D A [(h, .inr (4, [.ref a1, .ref a2, .ref a3, .int 0, .ref a4, .ref a5, .ref a6, .int 0, .ref a7, .int 0])), (a1, .inl (gI G, 2175, .inl ini)), (a2, .inl (gI G, 2175, .inl (fun _ => 0))), (a3, .inl (gI G, 13050, .inl (fun _ => 0))), (a4, .inl (gI G, 4350, .inl (fun _ => 0))), (a5, .inl (gZ G, 2, .inl (fun _ => 0))), (a6, .inl (gI G, 80, .inl (fun _ => 0))), (a7, .inl (gI G, 121, .inl (upd (ffk m) (m + 1) (nI (fdy (m + 1))))))] := hD
      refine lv_iinc (v := nI (m + 1)) (lv' := [(1, .int (nI (m + 1))), (2, .int (nI (m % 12))), (0, .ref h)]) hx hb dX4_init_144 hl (k := 1) rfl (nI_add _ _) (by decide) rfl (fun ls hl => ?_)
      refine lv_goto (tgt := 79) hx hb dX4_init_147 (by decide) ?_
      have hPj := hP.sub (ws' := [(h, .inr (4, [.ref a1, .ref a2, .ref a3, .int 0, .ref a4, .ref a5, .ref a6, .int 0, .ref a7, .int 0])), (a1, .inl (gI G, 2175, .inl ini)), (a2, .inl (gI G, 2175, .inl (fun _ => 0))), (a3, .inl (gI G, 13050, .inl (fun _ => 0))), (a4, .inl (gI G, 4350, .inl (fun _ => 0))), (a5, .inl (gZ G, 2, .inl (fun _ => 0))), (a6, .inl (gI G, 80, .inl (fun _ => 0))), (a7, .inl (gI G, 121, .inl (upd (ffk m) (m + 1) (nI (fdy (m + 1))))))]) [0, 1, 2, 3, 4, 5, 6, 7] rfl
      have hDj := hD.sub (ws' := [(h, .inr (4, [.ref a1, .ref a2, .ref a3, .int 0, .ref a4, .ref a5, .ref a6, .int 0, .ref a7, .int 0])), (a1, .inl (gI G, 2175, .inl ini)), (a2, .inl (gI G, 2175, .inl (fun _ => 0))), (a3, .inl (gI G, 13050, .inl (fun _ => 0))), (a4, .inl (gI G, 4350, .inl (fun _ => 0))), (a5, .inl (gZ G, 2, .inl (fun _ => 0))), (a6, .inl (gI G, 80, .inl (fun _ => 0))), (a7, .inl (gI G, 121, .inl (upd (ffk m) (m + 1) (nI (fdy (m + 1))))))]) [0, 1, 2, 3, 4, 5, 6, 7] (by decide) rfl
      have w_8 : ([(h, .inr (4, [.ref a1, .ref a2, .ref a3, .int 0, .ref a4, .ref a5, .ref a6, .int 0, .ref a7, .int 0])), (a1, .inl (gI G, 2175, .inl ini)), (a2, .inl (gI G, 2175, .inl (fun _ => 0))), (a3, .inl (gI G, 13050, .inl (fun _ => 0))), (a4, .inl (gI G, 4350, .inl (fun _ => 0))), (a5, .inl (gZ G, 2, .inl (fun _ => 0))), (a6, .inl (gI G, 80, .inl (fun _ => 0))), (a7, .inl (gI G, 121, .inl (upd (ffk m) (m + 1) (nI (fdy (m + 1))))))] : va_W) = [(h, .inr (4, [.ref a1, .ref a2, .ref a3, .int 0, .ref a4, .ref a5, .ref a6, .int 0, .ref a7, .int 0])), (a1, .inl (gI G, 2175, .inl ini)), (a2, .inl (gI G, 2175, .inl (fun _ => 0))), (a3, .inl (gI G, 13050, .inl (fun _ => 0))), (a4, .inl (gI G, 4350, .inl (fun _ => 0))), (a5, .inl (gZ G, 2, .inl (fun _ => 0))), (a6, .inl (gI G, 80, .inl (fun _ => 0))), (a7, .inl (gI G, 121, .inl (ffk (m + 1))))] := (wlc (rfl) (wlc (rfl) (wlc (rfl) (wlc (rfl) (wlc (rfl) (wlc (rfl) (wlc (rfl) (wlc (wli ffk_s) rfl))))))))
      rw [w_8] at hPj hDj
      exact ih (m + 1) _ _ ls (by omega) ⟨(by omega), hPj, hDj, hS, lv_sub hl [0, 2] rfl⟩
set_option maxHeartbeats 4000000 in
set_option maxRecDepth 100000 in
theorem c_X1_init (l : Launch) (G : gT) (sz : Nat) (op : Nat)  : Rn l G yX1_init cX1_init 2 2 42 320 sz [(op, .inr (1, [.null, .null, .int 0, .int 0, .int 0, .int 0]))] [.ref op] (fun ws9 => ∃ (hs : Nat → Nat) (pa : Nat) (pt : Nat) (f : Nat → Option Nat), (∀ k, k < 40 → f k = some (hs k)) ∧ ws9 = (sW hs zT ++ [(op, .inr (1, [.ref pa, .ref pt, .int 0, .int 0, .int 0, .int 0])), (pa, .inl (gC G, 80, .inl (fun _ => 0))), (pt, .inl (gS G, 40, .inr (.inr (.inr (.inr f)))))])) := by
  refine Rn.mk (by decide) rfl (Nat.le_of_ble_eq_true rfl) (fun pq eq sq mq bq tq cq ls A hr hlk hini hF hKy hZ hA hP hD hS hl => ?_)
  have hKx := hKy.1
  have hx := hF.1
  have hb := hF.2.1
  have hml := hF.2.2.1
  have hown : sq.vm.findClass RX1 = some mq.cls := hF.2.2.2.1
  have hts : ∀ w ∈ GW, w.before _ sq = true := hF.2.2.2.2
  have hK := hKx.1
  have hl : lv_has ls 2 [(0, .ref op)] := hl
  have hP : va_P G.1 vwCl [(op, .inr (1, [.null, .null, .int 0, .int 0, .int 0, .int 0]))] sq.heap := hP
  have hD : va_D A [(op, .inr (1, [.null, .null, .int 0, .int 0, .int 0, .int 0]))] := hD
  refine lv_aload_n hx hb dX1_init_0 rfl (lv_at hl 0 rfl) ?_
  refine W.objInit hx hb hown (hts _ mw_1_75) (hts _ mw_1_15) (hts _ mw_1_16) rfl (hml.trans hl.1.symm).symm rfl dX1_init_1 (Nat.le_of_ble_eq_true rfl) (Nat.le_of_ble_eq_true rfl) ?_
  refine W.eq (g2 := F0 mq 4 ls []) rfl ?_
  refine lv_aload_n hx hb dX1_init_4 rfl (lv_at hl 0 rfl) ?_
  refine lv_bipush (v := nI 80) hx hb dX1_init_5 (by decide) ?_
  refine n_newC hx hb hKy (hts _ mw_1_104) hP hD hS hA (N := 80) (by decide) (Nat.le_of_ble_eq_true rfl) (Nat.le_of_ble_eq_true rfl) dX1_init_7 (fun a1 H hP hD hS => ?_)
  have hP : va_P G.1 vwCl [(op, .inr (1, [.null, .null, .int 0, .int 0, .int 0, .int 0])), (a1, .inl (gC G, 80, .inl (fun _ => 0)))] H := hP
  have hD : va_D A [(op, .inr (1, [.null, .null, .int 0, .int 0, .int 0, .int 0])), (a1, .inl (gC G, 80, .inl (fun _ => 0)))] := hD
  refine va_putF (ci := 1) (v := .ref a1) (ty := .array .char) (C := RX1) (T := TX1) (N := 6) hx hb hts inGX1 tyX1 tyX1_ok nmX1 hown hK hP hD hS 0 rfl rfl 0 (by decide) (hts _ mw_1_105) (fun _ h9 => h9) rfl hini rfl (by decide +kernel) rfl rfl (Nat.le_of_ble_eq_true rfl) dX1_init_9 (fun H locs hP hD hS => ?_)
  have hP : va_P G.1 vwCl [(op, .inr (1, [.ref a1, .null, .int 0, .int 0, .int 0, .int 0])), (a1, .inl (gC G, 80, .inl (fun _ => 0)))] H := hP
  have hD : va_D A [(op, .inr (1, [.ref a1, .null, .int 0, .int 0, .int 0, .int 0])), (a1, .inl (gC G, 80, .inl (fun _ => 0)))] := hD
  refine lv_aload_n hx hb dX1_init_12 rfl (lv_at hl 0 rfl) ?_
  refine lv_bipush (v := nI 40) hx hb dX1_init_13 (by decide) ?_
  refine n_newS hx hb hown (hts _ mw_1_76) hKy hP hD hS hA (N := 40) (by decide) (Nat.le_of_ble_eq_true rfl) (Nat.le_of_ble_eq_true rfl) dX1_init_15 (fun a2 H hP hD hS => ?_)
  have hP : va_P G.1 vwCl [(op, .inr (1, [.ref a1, .null, .int 0, .int 0, .int 0, .int 0])), (a1, .inl (gC G, 80, .inl (fun _ => 0))), (a2, .inl (gS G, 40, .inr (.inr (.inr (.inr (fun _ => none))))))] H := hP
  have hD : va_D A [(op, .inr (1, [.ref a1, .null, .int 0, .int 0, .int 0, .int 0])), (a1, .inl (gC G, 80, .inl (fun _ => 0))), (a2, .inl (gS G, 40, .inr (.inr (.inr (.inr (fun _ => none))))))] := hD
  refine va_putF (ci := 1) (v := .ref a2) (ty := .array (.object "FoldedMonths$Step")) (C := RX1) (T := TX1) (N := 6) hx hb hts inGX1 tyX1 tyX1_ok nmX1 hown hK hP hD hS 0 rfl rfl 1 (by decide) (hts _ mw_1_106) (fun _ h9 => h9) rfl hini rfl (by decide +kernel) rfl rfl (Nat.le_of_ble_eq_true rfl) dX1_init_18 (fun H locs hP hD hS => ?_)
  have hP : va_P G.1 vwCl [(op, .inr (1, [.ref a1, .ref a2, .int 0, .int 0, .int 0, .int 0])), (a1, .inl (gC G, 80, .inl (fun _ => 0))), (a2, .inl (gS G, 40, .inr (.inr (.inr (.inr (fun _ => none))))))] H := hP
  have hD : va_D A [(op, .inr (1, [.ref a1, .ref a2, .int 0, .int 0, .int 0, .int 0])), (a1, .inl (gC G, 80, .inl (fun _ => 0))), (a2, .inl (gS G, 40, .inr (.inr (.inr (.inr (fun _ => none))))))] := hD
  refine lv_iconst (v := nI 0) hx hb dX1_init_21 (by decide) ?_
  refine lv_istore_n (lv' := [(1, .int (nI 0)), (0, .ref op)]) hx hb dX1_init_22 rfl hl (by decide) rfl (fun ls hl => ?_)
  refine wloopN 40 (fun k H locs ls => ∃ hs : Nat → Nat, lv_has ls 2 [(1, .int (nI k)), (0, .ref op)] ∧ va_P G.1 vwCl (sWk hs k ++ [(op, .inr (1, [.ref a1, .ref a2, .int 0, .int 0, .int 0, .int 0])), (a1, .inl (gC G, 80, .inl (fun _ => 0))), (a2, .inl (gS G, 40, .inr (.inr (.inr (.inr (fk hs k))))))]) H ∧ va_D A (sWk hs k ++ [(op, .inr (1, [.ref a1, .ref a2, .int 0, .int 0, .int 0, .int 0])), (a1, .inl (gC G, 80, .inl (fun _ => 0))), (a2, .inl (gS G, 40, .inr (.inr (.inr (.inr (fk hs k))))))]) ∧ va_S A sq.heap H locs) (fun k => 0 + 1 + 1 + k) (fun k => 0 + 80 + 40 + 5 * k) ?_ ?_ 0 (Nat.zero_le _) _ _ _ ⟨fun _ => 0, hl, by rw [fk_0]; exact hP, by rw [fk_0]; exact hD, hS⟩
  · intro x hx9 ih H locs ls hI
    obtain ⟨hs, hl, hP, hD, hS⟩ := hI
    refine lv_iload_n hx hb dX1_init_23 rfl (lv_at hl 0 rfl) ?_
    refine lv_aload_n hx hb dX1_init_24 rfl (lv_at hl 1 rfl) ?_
    refine va_get (ci := 1) (v := .ref a2) (C := RX1) (T := TX1) (N := 6) hx hb hts inGX1 hown hK hP.right 0 rfl rfl 1 (by decide) (hts _ mw_1_106) (fun _ h9 => h9) rfl dX1_init_25 ?_
    refine va_alen (v := nI 40) hx hb hK hP.right 2 4 rfl rfl rfl dX1_init_28 ?_
    refine z_ge hx hb (tgt := 51) ((x : Nat) : Int) 40 dX1_init_29 (by decide) (toI (by omega)) (by decide) (fun c_29 => absurd c_29 (by omega)) (fun c_29 => ?_)
    refine lv_aload_n hx hb dX1_init_32 rfl (lv_at hl 1 rfl) ?_
    refine va_get (ci := 1) (v := .ref a2) (C := RX1) (T := TX1) (N := 6) hx hb hts inGX1 hown hK hP.right 0 rfl rfl 1 (by decide) (hts _ mw_1_106) (fun _ h9 => h9) rfl dX1_init_33 ?_
    refine lv_iload_n hx hb dX1_init_36 rfl (lv_at hl 0 rfl) ?_
    refine va_new (ci := 2) (fs := [.int 0, .int 0, .int 0, .int 0, .int 0]) (C := RX2) (T := TX2) (N := 5) hx hb hts inGX2 tyX2 tyX2_ok hown (hts _ mw_1_76) (hts _ mw_1_78) (hts _ mw_1_4) hK hP hD hS hA rfl (fun j hj => by rcases (show j = 0 ∨ j = 1 ∨ j = 2 ∨ j = 3 ∨ j = 4 by omega) with rfl | rfl | rfl | rfl | rfl <;> rfl) (by show 0 + 1 + 1 + x + 1 ≤ 42; omega) (by show 0 + 80 + 40 + 5 * x + 5 ≤ 320; omega) dX1_init_37 (fun q H hP hD hS => ?_)
    rw [List.append_assoc] at hP hD
    have hP : va_P G.1 vwCl (sWk hs x ++ [(op, .inr (1, [.ref a1, .ref a2, .int 0, .int 0, .int 0, .int 0])), (a1, .inl (gC G, 80, .inl (fun _ => 0))), (a2, .inl (gS G, 40, .inr (.inr (.inr (.inr (fk hs x)))))), (q, .inr (2, [.int 0, .int 0, .int 0, .int 0, .int 0]))]) H := hP
    have hD : va_D A (sWk hs x ++ [(op, .inr (1, [.ref a1, .ref a2, .int 0, .int 0, .int 0, .int 0])), (a1, .inl (gC G, 80, .inl (fun _ => 0))), (a2, .inl (gS G, 40, .inr (.inr (.inr (.inr (fk hs x)))))), (q, .inr (2, [.int 0, .int 0, .int 0, .int 0, .int 0]))]) := hD
    refine lv_dup hx hb dX1_init_40 rfl ?_
    refine k_rnIN (As := []) (rest := [.ref q, .int (nI x), .ref a2]) (wr := sWk hs x ++ [(op, .inr (1, [.ref a1, .ref a2, .int 0, .int 0, .int 0, .int 0])), (a1, .inl (gC G, 80, .inl (fun _ => 0))), (a2, .inl (gS G, 40, .inr (.inr (.inr (.inr (fk hs x))))))]) hF (c_X2_init l G _ q) rfl hKx.2.1 mw_1_80 mw_1_4 mw_1_81 hd_X2_init ⟨Nat.le_of_ble_eq_true rfl, Nat.le_of_ble_eq_true rfl⟩ hKy hZ hS hP hD hA (pmF (F := sWk hs x) (pmI (wl := [(op, .inr (1, [.ref a1, .ref a2, .int 0, .int 0, .int 0, .int 0])), (a1, .inl (gC G, 80, .inl (fun _ => 0))), (a2, .inl (gS G, 40, .inr (.inr (.inr (.inr (fk hs x)))))), (q, .inr (2, [.int 0, .int 0, .int 0, .int 0, .int 0]))]) (wr := [(op, .inr (1, [.ref a1, .ref a2, .int 0, .int 0, .int 0, .int 0])), (a1, .inl (gC G, 80, .inl (fun _ => 0))), (a2, .inl (gS G, 40, .inr (.inr (.inr (.inr (fk hs x))))))]) (wc := [(q, .inr (2, [.int 0, .int 0, .int 0, .int 0, .int 0]))]) [0, 1, 2, 3] (by decide) rfl rfl)) rfl hl.1 rfl (Nat.le_of_ble_eq_true rfl) dX1_init_41 ⟨by show 0 + 1 + 1 + x + 1 + 0 ≤ 42; omega, by show 0 + 80 + 40 + 5 * x + 5 + 0 ≤ 320; omega⟩ (fun ws9 H locs hq9 hP hD hS => ?_)
    subst hq9
    rw [List.append_assoc] at hP hD
    have hP : va_P G.1 vwCl (sWk hs x ++ [(op, .inr (1, [.ref a1, .ref a2, .int 0, .int 0, .int 0, .int 0])), (a1, .inl (gC G, 80, .inl (fun _ => 0))), (a2, .inl (gS G, 40, .inr (.inr (.inr (.inr (fk hs x)))))), (q, .inr (2, [.int 0, .int 0, .int 0, .int 0, .int 0]))]) H := hP
    have hD : va_D A (sWk hs x ++ [(op, .inr (1, [.ref a1, .ref a2, .int 0, .int 0, .int 0, .int 0])), (a1, .inl (gC G, 80, .inl (fun _ => 0))), (a2, .inl (gS G, 40, .inr (.inr (.inr (.inr (fk hs x)))))), (q, .inr (2, [.int 0, .int 0, .int 0, .int 0, .int 0]))]) := hD
    refine n_aast hx hb hK hP hD hS ((sWk hs x).length + 2) 4 ((sWk hs x).length + 3) 2 (getF rfl) rfl (getF rfl) rfl (by omega) (by omega) dX1_init_44 (fun H locs hP hD hS => ?_)
    rw [setF] at hP hD
    have hP : va_P G.1 vwCl (sWk hs x ++ ([(op, .inr (1, [.ref a1, .ref a2, .int 0, .int 0, .int 0, .int 0])), (a1, .inl (gC G, 80, .inl (fun _ => 0))), (a2, .inl (gS G, 40, .inr (.inr (.inr (.inr (va_up (fk hs x) x (some q)))))))] ++ [(q, .inr (2, [.int 0, .int 0, .int 0, .int 0, .int 0]))])) H := hP
    have hD : va_D A (sWk hs x ++ ([(op, .inr (1, [.ref a1, .ref a2, .int 0, .int 0, .int 0, .int 0])), (a1, .inl (gC G, 80, .inl (fun _ => 0))), (a2, .inl (gS G, 40, .inr (.inr (.inr (.inr (va_up (fk hs x) x (some q)))))))] ++ [(q, .inr (2, [.int 0, .int 0, .int 0, .int 0, .int 0]))])) := hD
    rw [fk_s] at hP hD
    refine lv_iinc (v := nI (x + 1)) (lv' := [(1, .int (nI (x + 1))), (0, .ref op)]) hx hb dX1_init_45 hl (k := 0) rfl (nI_add _ _) (by decide) rfl (fun ls hl => ?_)
    refine lv_goto (tgt := 23) hx hb dX1_init_48 (by decide) ?_
    refine W.widen ?_ ?_ (ih H locs ls ⟨upn hs x q, hl, hP.pm sWk_in, hD.pm sWk_in, hS⟩)
    · show 0 + 1 + 1 + x + 1 + 0 ≤ 0 + 1 + 1 + (x + 1)
      omega
    · show 0 + 80 + 40 + 5 * x + 5 + 0 ≤ 0 + 80 + 40 + 5 * (x + 1)
      omega
  · intro H locs ls hI
    obtain ⟨hs, hl, hP, hD, hS⟩ := hI
    refine lv_iload_n hx hb dX1_init_23 rfl (lv_at hl 0 rfl) ?_
    refine lv_aload_n hx hb dX1_init_24 rfl (lv_at hl 1 rfl) ?_
    refine va_get (ci := 1) (v := .ref a2) (C := RX1) (T := TX1) (N := 6) hx hb hts inGX1 hown hK hP.right 0 rfl rfl 1 (by decide) (hts _ mw_1_106) (fun _ h9 => h9) rfl dX1_init_25 ?_
    refine va_alen (v := nI 40) hx hb hK hP.right 2 4 rfl rfl rfl dX1_init_28 ?_
    refine z_ge hx hb (tgt := 51) ((40 : Nat) : Int) 40 dX1_init_29 (by decide) (toI (by omega)) (by decide) (fun c_29 => ?_) (fun c_29 => absurd c_29 (by omega))
    exact e_nv hx hb hr hlk hP hD hS ⟨hs, a1, a2, fk hs 40, fun k hk => if_pos hk, rfl⟩ (Nat.le_of_ble_eq_true rfl) (Nat.le_of_ble_eq_true rfl) dX1_init_51
