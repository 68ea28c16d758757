theorem hd_X3_copyNumbers : hdY yX3_copyNumbers 2 := ⟨by decide +kernel, by decide +kernel, by decide +kernel⟩
theorem hd_X3_copy : hdY yX3_copy 2 := ⟨by decide +kernel, by decide +kernel, by decide +kernel⟩
theorem hd_X3_workOf : hdY yX3_workOf 2 := ⟨by decide +kernel, by decide +kernel, by decide +kernel⟩
theorem hd_X3_bestOpen : hdY yX3_bestOpen 2 := ⟨by decide +kernel, by decide +kernel, by decide +kernel⟩
theorem hd_X3_passError : hdY yX3_passError 1 := ⟨by decide +kernel, by decide +kernel, by decide +kernel⟩
theorem hd_X3_changeError : hdY yX3_changeError 3 := ⟨by decide +kernel, by decide +kernel, by decide +kernel⟩
theorem hd_X3_wipe : hdY yX3_wipe 0 := ⟨by decide +kernel, by decide +kernel, by decide +kernel⟩
set_option maxHeartbeats 4000000 in
set_option maxRecDepth 100000 in
theorem c_X3_copyNumbers (l : Launch) (G : gT) (sz : Nat) (a : Nat) (b : Nat) (f : Nat → Int32) (g : Nat → Int32) (n : Nat) (hn : n < 2147483648) : Rv l G yX3_copyNumbers cX3_copyNumbers 2 none 1 sz [(a, .inl (gI G, n, .inl f)), (b, .inl (gI G, n, .inl g))] [.ref a, .ref b] [(a, .inl (gI G, n, .inl f)), (b, .inl (gI G, n, .inl (va_cpy f g 0 0 n)))] := by
  refine Rv.mk (by decide) (Nat.le_of_ble_eq_true rfl) (fun pq eq sq mq bq tq cq ls A hr hlk hF hKx hZ hA hP hD hS hl => ?_)
  have hx := hF.1
  have hb := hF.2.1
  have hml := hF.2.2.1
  have hown : sq.vm.findClass RX3 = some mq.cls := hF.2.2.2.1
  have hts : ∀ w ∈ GW, w.before _ sq = true := hF.2.2.2.2
  have hK := hKx.1
  have hl : lv_has ls 2 [(0, .ref a), (1, .ref b)] := hl
  have hP : va_P G.1 vwCl [(a, .inl (gI G, n, .inl f)), (b, .inl (gI G, n, .inl g))] sq.heap := hP
  have hD : va_D A [(a, .inl (gI G, n, .inl f)), (b, .inl (gI G, n, .inl g))] := hD
  refine lv_aload_n hx hb dX3_copyNumbers_0 rfl (lv_at hl 0 rfl) ?_
  refine lv_iconst (v := nI 0) hx hb dX3_copyNumbers_1 (by decide) ?_
  refine lv_aload_n hx hb dX3_copyNumbers_2 rfl (lv_at hl 1 rfl) ?_
  refine lv_iconst (v := nI 0) hx hb dX3_copyNumbers_3 (by decide) ?_
  refine lv_aload_n hx hb dX3_copyNumbers_4 rfl (lv_at hl 0 rfl) ?_
  refine va_alen (v := nI n) hx hb hK hP 0 0 rfl rfl rfl dX3_copyNumbers_5 ?_
  refine lv_aload_n hx hb dX3_copyNumbers_6 rfl (lv_at hl 1 rfl) ?_
  refine va_alen (v := nI n) hx hb hK hP 1 0 rfl rfl rfl dX3_copyNumbers_7 ?_
  refine va_mmin hx hb (hml.trans hl.1.symm) hown (hts _ mw_1_174) (hts _ mw_1_175) (hts _ mw_1_6) (hts _ mw_1_176) (Nat.le_of_ble_eq_true rfl) (Nat.le_of_ble_eq_true rfl) (Nat.zero_le _) (Nat.zero_le _) dX3_copyNumbers_8 ?_
  refine lv_cv (y := nI n) (ite_self _) ?_
  refine n_copyi hx hb (hml.trans hl.1.symm) hown (hts _ mw_1_177) (hts _ mw_1_178) (hts _ mw_1_179) (hts _ mw_1_7) hK hP hD hS 0 1 0 0 rfl rfl rfl rfl (by omega) (by omega) (by omega) (by omega) (Nat.le_of_ble_eq_true rfl) (Nat.le_of_ble_eq_true rfl) dX3_copyNumbers_11 (fun H locs hP hD hS => ?_)
  have hP : va_P G.1 vwCl [(a, .inl (gI G, n, .inl f)), (b, .inl (gI G, n, .inl (va_cpy f g 0 0 n)))] H := hP
  have hD : va_D A [(a, .inl (gI G, n, .inl f)), (b, .inl (gI G, n, .inl (va_cpy f g 0 0 n)))] := hD
  have hPj := hP.sub (ws' := [(a, .inl (gI G, n, .inl f)), (b, .inl (gI G, n, .inl (va_cpy f g 0 0 n)))]) [0, 1] rfl
  exact e_wv hx hb hr hlk hPj hS dX3_copyNumbers_14
set_option maxHeartbeats 4000000 in
set_option maxRecDepth 100000 in
theorem c_X3_copy (l : Launch) (G : gT) (sz : Nat) (o : Nat) (ab : Nat) (af : Nat) (an : Nat) (aw : Nat) (r : Nat → Int32) (o2 : Nat) (b2 : Nat) (f2 : Nat) (n2 : Nat) (w2 : Nat) (r2 : Nat → Int32)  : Rv l G yX3_copy cX3_copy 2 none 2 sz [(o, dO r ab af an aw), (ab, .inl (gI G, 1920, .inl (dB r))), (af, .inl (gI G, 120, .inl (dF r))), (an, .inl (gI G, 120, .inl (dN r))), (aw, .inl (gI G, 7, .inl (dW r))), (o2, dO r2 b2 f2 n2 w2), (b2, .inl (gI G, 1920, .inl (dB r2))), (f2, .inl (gI G, 120, .inl (dF r2))), (n2, .inl (gI G, 120, .inl (dN r2))), (w2, .inl (gI G, 7, .inl (dW r2)))] [.ref o, .ref o2] [(o, dO r ab af an aw), (ab, .inl (gI G, 1920, .inl (dB r))), (af, .inl (gI G, 120, .inl (dF r))), (an, .inl (gI G, 120, .inl (dN r))), (aw, .inl (gI G, 7, .inl (dW r))), (o2, dO r b2 f2 n2 w2), (b2, .inl (gI G, 1920, .inl (dB r))), (f2, .inl (gI G, 120, .inl (dF r))), (n2, .inl (gI G, 120, .inl (dN r))), (w2, .inl (gI G, 7, .inl (dW r)))] := by
  refine Rv.mk (by decide) (Nat.le_of_ble_eq_true rfl) (fun pq eq sq mq bq tq cq ls A hr hlk hF hKx hZ hA hP hD hS hl => ?_)
  have hx := hF.1
  have hb := hF.2.1
  have hml := hF.2.2.1
  have hown : sq.vm.findClass RX3 = some mq.cls := hF.2.2.2.1
  have hts : ∀ w ∈ GW, w.before _ sq = true := hF.2.2.2.2
  have hK := hKx.1
  have hl : lv_has ls 2 [(0, .ref o), (1, .ref o2)] := hl
  have hP : va_P G.1 vwCl [(o, dO r ab af an aw), (ab, .inl (gI G, 1920, .inl (dB r))), (af, .inl (gI G, 120, .inl (dF r))), (an, .inl (gI G, 120, .inl (dN r))), (aw, .inl (gI G, 7, .inl (dW r))), (o2, dO r2 b2 f2 n2 w2), (b2, .inl (gI G, 1920, .inl (dB r2))), (f2, .inl (gI G, 120, .inl (dF r2))), (n2, .inl (gI G, 120, .inl (dN r2))), (w2, .inl (gI G, 7, .inl (dW r2)))] sq.heap := hP
  have hD : va_D A [(o, dO r ab af an aw), (ab, .inl (gI G, 1920, .inl (dB r))), (af, .inl (gI G, 120, .inl (dF r))), (an, .inl (gI G, 120, .inl (dN r))), (aw, .inl (gI G, 7, .inl (dW r))), (o2, dO r2 b2 f2 n2 w2), (b2, .inl (gI G, 1920, .inl (dB r2))), (f2, .inl (gI G, 120, .inl (dF r2))), (n2, .inl (gI G, 120, .inl (dN r2))), (w2, .inl (gI G, 7, .inl (dW r2)))] := hD
  refine lv_aload_n hx hb dX3_copy_0 rfl (lv_at hl 0 rfl) ?_
  refine lv_ifnull hx hb dX3_copy_1  ?_
  refine lv_aload_n hx hb dX3_copy_4 rfl (lv_at hl 1 rfl) ?_
  refine lv_ifnonnull (tgt := 9) hx hb dX3_copy_5 (by decide) ?_
  refine lv_aload_n hx hb dX3_copy_9 rfl (lv_at hl 1 rfl) ?_
  refine lv_aload_n hx hb dX3_copy_10 rfl (lv_at hl 0 rfl) ?_
  refine va_get (ci := 0) (v := .int (r 0)) (C := RX0) (T := TX0) (N := 11) hx hb hts inGX0 hown hK hP 0 rfl rfl 0 (by decide) (hts _ mw_1_23) (fun _ h9 => h9) rfl dX3_copy_11 ?_
  refine va_put (ci := 0) (v := .int (r 0)) (ty := .int) (C := RX0) (T := TX0) (N := 11) hx hb hts inGX0 tyX0 tyX0_ok nmX0 hown hK hP hD hS 5 rfl rfl 0 (by decide) (hts _ mw_1_23) (fun _ h9 => h9) rfl (by decide +kernel) rfl rfl (Nat.le_of_ble_eq_true rfl) dX3_copy_14 (fun H locs hP hD hS => ?_)
  have hP : va_P G.1 vwCl [(o, dO r ab af an aw), (ab, .inl (gI G, 1920, .inl (dB r))), (af, .inl (gI G, 120, .inl (dF r))), (an, .inl (gI G, 120, .inl (dN r))), (aw, .inl (gI G, 7, .inl (dW r))), (o2, .inr (0, [.int (r 0), .int (r2 1), .int (r2 2), .int (r2 3), .int (r2 4), .int (r2 5), .int (r2 6), .ref b2, .ref f2, .ref n2, .ref w2])), (b2, .inl (gI G, 1920, .inl (dB r2))), (f2, .inl (gI G, 120, .inl (dF r2))), (n2, .inl (gI G, 120, .inl (dN r2))), (w2, .inl (gI G, 7, .inl (dW r2)))] H := hP
  have hD : va_D A [(o, dO r ab af an aw), (ab, .inl (gI G, 1920, .inl (dB r))), (af, .inl (gI G, 120, .inl (dF r))), (an, .inl (gI G, 120, .inl (dN r))), (aw, .inl (gI G, 7, .inl (dW r))), (o2, .inr (0, [.int (r 0), .int (r2 1), .int (r2 2), .int (r2 3), .int (r2 4), .int (r2 5), .int (r2 6), .ref b2, .ref f2, .ref n2, .ref w2])), (b2, .inl (gI G, 1920, .inl (dB r2))), (f2, .inl (gI G, 120, .inl (dF r2))), (n2, .inl (gI G, 120, .inl (dN r2))), (w2, .inl (gI G, 7, .inl (dW r2)))] := hD
  refine lv_aload_n hx hb dX3_copy_17 rfl (lv_at hl 1 rfl) ?_
  refine lv_aload_n hx hb dX3_copy_18 rfl (lv_at hl 0 rfl) ?_
  refine va_get (ci := 0) (v := .int (r 1)) (C := RX0) (T := TX0) (N := 11) hx hb hts inGX0 hown hK hP 0 rfl rfl 1 (by decide) (hts _ mw_1_26) (fun _ h9 => h9) rfl dX3_copy_19 ?_
  refine va_put (ci := 0) (v := .int (r 1)) (ty := .int) (C := RX0) (T := TX0) (N := 11) hx hb hts inGX0 tyX0 tyX0_ok nmX0 hown hK hP hD hS 5 rfl rfl 1 (by decide) (hts _ mw_1_26) (fun _ h9 => h9) rfl (by decide +kernel) rfl rfl (Nat.le_of_ble_eq_true rfl) dX3_copy_22 (fun H locs hP hD hS => ?_)
  have hP : va_P G.1 vwCl [(o, dO r ab af an aw), (ab, .inl (gI G, 1920, .inl (dB r))), (af, .inl (gI G, 120, .inl (dF r))), (an, .inl (gI G, 120, .inl (dN r))), (aw, .inl (gI G, 7, .inl (dW r))), (o2, .inr (0, [.int (r 0), .int (r 1), .int (r2 2), .int (r2 3), .int (r2 4), .int (r2 5), .int (r2 6), .ref b2, .ref f2, .ref n2, .ref w2])), (b2, .inl (gI G, 1920, .inl (dB r2))), (f2, .inl (gI G, 120, .inl (dF r2))), (n2, .inl (gI G, 120, .inl (dN r2))), (w2, .inl (gI G, 7, .inl (dW r2)))] H := hP
  have hD : va_D A [(o, dO r ab af an aw), (ab, .inl (gI G, 1920, .inl (dB r))), (af, .inl (gI G, 120, .inl (dF r))), (an, .inl (gI G, 120, .inl (dN r))), (aw, .inl (gI G, 7, .inl (dW r))), (o2, .inr (0, [.int (r 0), .int (r 1), .int (r2 2), .int (r2 3), .int (r2 4), .int (r2 5), .int (r2 6), .ref b2, .ref f2, .ref n2, .ref w2])), (b2, .inl (gI G, 1920, .inl (dB r2))), (f2, .inl (gI G, 120, .inl (dF r2))), (n2, .inl (gI G, 120, .inl (dN r2))), (w2, .inl (gI G, 7, .inl (dW r2)))] := hD
  refine lv_aload_n hx hb dX3_copy_25 rfl (lv_at hl 1 rfl) ?_
  refine lv_aload_n hx hb dX3_copy_26 rfl (lv_at hl 0 rfl) ?_
  refine va_get (ci := 0) (v := .int (r 2)) (C := RX0) (T := TX0) (N := 11) hx hb hts inGX0 hown hK hP 0 rfl rfl 2 (by decide) (hts _ mw_1_28) (fun _ h9 => h9) rfl dX3_copy_27 ?_
  refine va_put (ci := 0) (v := .int (r 2)) (ty := .int) (C := RX0) (T := TX0) (N := 11) hx hb hts inGX0 tyX0 tyX0_ok nmX0 hown hK hP hD hS 5 rfl rfl 2 (by decide) (hts _ mw_1_28) (fun _ h9 => h9) rfl (by decide +kernel) rfl rfl (Nat.le_of_ble_eq_true rfl) dX3_copy_30 (fun H locs hP hD hS => ?_)
  have hP : va_P G.1 vwCl [(o, dO r ab af an aw), (ab, .inl (gI G, 1920, .inl (dB r))), (af, .inl (gI G, 120, .inl (dF r))), (an, .inl (gI G, 120, .inl (dN r))), (aw, .inl (gI G, 7, .inl (dW r))), (o2, .inr (0, [.int (r 0), .int (r 1), .int (r 2), .int (r2 3), .int (r2 4), .int (r2 5), .int (r2 6), .ref b2, .ref f2, .ref n2, .ref w2])), (b2, .inl (gI G, 1920, .inl (dB r2))), (f2, .inl (gI G, 120, .inl (dF r2))), (n2, .inl (gI G, 120, .inl (dN r2))), (w2, .inl (gI G, 7, .inl (dW r2)))] H := hP
  have hD : va_D A [(o, dO r ab af an aw), (ab, .inl (gI G, 1920, .inl (dB r))), (af, .inl (gI G, 120, .inl (dF r))), (an, .inl (gI G, 120, .inl (dN r))), (aw, .inl (gI G, 7, .inl (dW r))), (o2, .inr (0, [.int (r 0), .int (r 1), .int (r 2), .int (r2 3), .int (r2 4), .int (r2 5), .int (r2 6), .ref b2, .ref f2, .ref n2, .ref w2])), (b2, .inl (gI G, 1920, .inl (dB r2))), (f2, .inl (gI G, 120, .inl (dF r2))), (n2, .inl (gI G, 120, .inl (dN r2))), (w2, .inl (gI G, 7, .inl (dW r2)))] := hD
  refine lv_aload_n hx hb dX3_copy_33 rfl (lv_at hl 1 rfl) ?_
  refine lv_aload_n hx hb dX3_copy_34 rfl (lv_at hl 0 rfl) ?_
  refine va_get (ci := 0) (v := .int (r 3)) (C := RX0) (T := TX0) (N := 11) hx hb hts inGX0 hown hK hP 0 rfl rfl 3 (by decide) (hts _ mw_1_29) (fun _ h9 => h9) rfl dX3_copy_35 ?_
  refine va_put (ci := 0) (v := .int (r 3)) (ty := .int) (C := RX0) (T := TX0) (N := 11) hx hb hts inGX0 tyX0 tyX0_ok nmX0 hown hK hP hD hS 5 rfl rfl 3 (by decide) (hts _ mw_1_29) (fun _ h9 => h9) rfl (by decide +kernel) rfl rfl (Nat.le_of_ble_eq_true rfl) dX3_copy_38 (fun H locs hP hD hS => ?_)
  have hP : va_P G.1 vwCl [(o, dO r ab af an aw), (ab, .inl (gI G, 1920, .inl (dB r))), (af, .inl (gI G, 120, .inl (dF r))), (an, .inl (gI G, 120, .inl (dN r))), (aw, .inl (gI G, 7, .inl (dW r))), (o2, .inr (0, [.int (r 0), .int (r 1), .int (r 2), .int (r 3), .int (r2 4), .int (r2 5), .int (r2 6), .ref b2, .ref f2, .ref n2, .ref w2])), (b2, .inl (gI G, 1920, .inl (dB r2))), (f2, .inl (gI G, 120, .inl (dF r2))), (n2, .inl (gI G, 120, .inl (dN r2))), (w2, .inl (gI G, 7, .inl (dW r2)))] H := hP
  have hD : va_D A [(o, dO r ab af an aw), (ab, .inl (gI G, 1920, .inl (dB r))), (af, .inl (gI G, 120, .inl (dF r))), (an, .inl (gI G, 120, .inl (dN r))), (aw, .inl (gI G, 7, .inl (dW r))), (o2, .inr (0, [.int (r 0), .int (r 1), .int (r 2), .int (r 3), .int (r2 4), .int (r2 5), .int (r2 6), .ref b2, .ref f2, .ref n2, .ref w2])), (b2, .inl (gI G, 1920, .inl (dB r2))), (f2, .inl (gI G, 120, .inl (dF r2))), (n2, .inl (gI G, 120, .inl (dN r2))), (w2, .inl (gI G, 7, .inl (dW r2)))] := hD
  refine lv_aload_n hx hb dX3_copy_41 rfl (lv_at hl 1 rfl) ?_
  refine lv_aload_n hx hb dX3_copy_42 rfl (lv_at hl 0 rfl) ?_
  refine va_get (ci := 0) (v := .int (r 4)) (C := RX0) (T := TX0) (N := 11) hx hb hts inGX0 hown hK hP 0 rfl rfl 4 (by decide) (hts _ mw_1_31) (fun _ h9 => h9) rfl dX3_copy_43 ?_
  refine va_put (ci := 0) (v := .int (r 4)) (ty := .int) (C := RX0) (T := TX0) (N := 11) hx hb hts inGX0 tyX0 tyX0_ok nmX0 hown hK hP hD hS 5 rfl rfl 4 (by decide) (hts _ mw_1_31) (fun _ h9 => h9) rfl (by decide +kernel) rfl rfl (Nat.le_of_ble_eq_true rfl) dX3_copy_46 (fun H locs hP hD hS => ?_)
  have hP : va_P G.1 vwCl [(o, dO r ab af an aw), (ab, .inl (gI G, 1920, .inl (dB r))), (af, .inl (gI G, 120, .inl (dF r))), (an, .inl (gI G, 120, .inl (dN r))), (aw, .inl (gI G, 7, .inl (dW r))), (o2, .inr (0, [.int (r 0), .int (r 1), .int (r 2), .int (r 3), .int (r 4), .int (r2 5), .int (r2 6), .ref b2, .ref f2, .ref n2, .ref w2])), (b2, .inl (gI G, 1920, .inl (dB r2))), (f2, .inl (gI G, 120, .inl (dF r2))), (n2, .inl (gI G, 120, .inl (dN r2))), (w2, .inl (gI G, 7, .inl (dW r2)))] H := hP
  have hD : va_D A [(o, dO r ab af an aw), (ab, .inl (gI G, 1920, .inl (dB r))), (af, .inl (gI G, 120, .inl (dF r))), (an, .inl (gI G, 120, .inl (dN r))), (aw, .inl (gI G, 7, .inl (dW r))), (o2, .inr (0, [.int (r 0), .int (r 1), .int (r 2), .int (r 3), .int (r 4), .int (r2 5), .int (r2 6), .ref b2, .ref f2, .ref n2, .ref w2])), (b2, .inl (gI G, 1920, .inl (dB r2))), (f2, .inl (gI G, 120, .inl (dF r2))), (n2, .inl (gI G, 120, .inl (dN r2))), (w2, .inl (gI G, 7, .inl (dW r2)))] := hD
  refine lv_aload_n hx hb dX3_copy_49 rfl (lv_at hl 1 rfl) ?_
  refine lv_aload_n hx hb dX3_copy_50 rfl (lv_at hl 0 rfl) ?_
  refine va_get (ci := 0) (v := .int (r 5)) (C := RX0) (T := TX0) (N := 11) hx hb hts inGX0 hown hK hP 0 rfl rfl 5 (by decide) (hts _ mw_1_33) (fun _ h9 => h9) rfl dX3_copy_51 ?_
  refine va_put (ci := 0) (v := .int (r 5)) (ty := .int) (C := RX0) (T := TX0) (N := 11) hx hb hts inGX0 tyX0 tyX0_ok nmX0 hown hK hP hD hS 5 rfl rfl 5 (by decide) (hts _ mw_1_33) (fun _ h9 => h9) rfl (by decide +kernel) rfl rfl (Nat.le_of_ble_eq_true rfl) dX3_copy_54 (fun H locs hP hD hS => ?_)
  have hP : va_P G.1 vwCl [(o, dO r ab af an aw), (ab, .inl (gI G, 1920, .inl (dB r))), (af, .inl (gI G, 120, .inl (dF r))), (an, .inl (gI G, 120, .inl (dN r))), (aw, .inl (gI G, 7, .inl (dW r))), (o2, .inr (0, [.int (r 0), .int (r 1), .int (r 2), .int (r 3), .int (r 4), .int (r 5), .int (r2 6), .ref b2, .ref f2, .ref n2, .ref w2])), (b2, .inl (gI G, 1920, .inl (dB r2))), (f2, .inl (gI G, 120, .inl (dF r2))), (n2, .inl (gI G, 120, .inl (dN r2))), (w2, .inl (gI G, 7, .inl (dW r2)))] H := hP
  have hD : va_D A [(o, dO r ab af an aw), (ab, .inl (gI G, 1920, .inl (dB r))), (af, .inl (gI G, 120, .inl (dF r))), (an, .inl (gI G, 120, .inl (dN r))), (aw, .inl (gI G, 7, .inl (dW r))), (o2, .inr (0, [.int (r 0), .int (r 1), .int (r 2), .int (r 3), .int (r 4), .int (r 5), .int (r2 6), .ref b2, .ref f2, .ref n2, .ref w2])), (b2, .inl (gI G, 1920, .inl (dB r2))), (f2, .inl (gI G, 120, .inl (dF r2))), (n2, .inl (gI G, 120, .inl (dN r2))), (w2, .inl (gI G, 7, .inl (dW r2)))] := hD
  refine lv_aload_n hx hb dX3_copy_57 rfl (lv_at hl 1 rfl) ?_
  refine lv_aload_n hx hb dX3_copy_58 rfl (lv_at hl 0 rfl) ?_
  refine va_get (ci := 0) (v := .int (r 6)) (C := RX0) (T := TX0) (N := 11) hx hb hts inGX0 hown hK hP 0 rfl rfl 6 (by decide) (hts _ mw_1_35) (fun _ h9 => h9) rfl dX3_copy_59 ?_
  refine va_put (ci := 0) (v := .int (r 6)) (ty := .int) (C := RX0) (T := TX0) (N := 11) hx hb hts inGX0 tyX0 tyX0_ok nmX0 hown hK hP hD hS 5 rfl rfl 6 (by decide) (hts _ mw_1_35) (fun _ h9 => h9) rfl (by decide +kernel) rfl rfl (Nat.le_of_ble_eq_true rfl) dX3_copy_62 (fun H locs hP hD hS => ?_)
  have hP : va_P G.1 vwCl [(o, dO r ab af an aw), (ab, .inl (gI G, 1920, .inl (dB r))), (af, .inl (gI G, 120, .inl (dF r))), (an, .inl (gI G, 120, .inl (dN r))), (aw, .inl (gI G, 7, .inl (dW r))), (o2, .inr (0, [.int (r 0), .int (r 1), .int (r 2), .int (r 3), .int (r 4), .int (r 5), .int (r 6), .ref b2, .ref f2, .ref n2, .ref w2])), (b2, .inl (gI G, 1920, .inl (dB r2))), (f2, .inl (gI G, 120, .inl (dF r2))), (n2, .inl (gI G, 120, .inl (dN r2))), (w2, .inl (gI G, 7, .inl (dW r2)))] H := hP
  have hD : va_D A [(o, dO r ab af an aw), (ab, .inl (gI G, 1920, .inl (dB r))), (af, .inl (gI G, 120, .inl (dF r))), (an, .inl (gI G, 120, .inl (dN r))), (aw, .inl (gI G, 7, .inl (dW r))), (o2, .inr (0, [.int (r 0), .int (r 1), .int (r 2), .int (r 3), .int (r 4), .int (r 5), .int (r 6), .ref b2, .ref f2, .ref n2, .ref w2])), (b2, .inl (gI G, 1920, .inl (dB r2))), (f2, .inl (gI G, 120, .inl (dF r2))), (n2, .inl (gI G, 120, .inl (dN r2))), (w2, .inl (gI G, 7, .inl (dW r2)))] := hD
  refine lv_aload_n hx hb dX3_copy_65 rfl (lv_at hl 0 rfl) ?_
  refine va_get (ci := 0) (v := .ref ab) (C := RX0) (T := TX0) (N := 11) hx hb hts inGX0 hown hK hP 0 rfl rfl 7 (by decide) (hts _ mw_1_38) (fun _ h9 => h9) rfl dX3_copy_66 ?_
  refine lv_aload_n hx hb dX3_copy_69 rfl (lv_at hl 1 rfl) ?_
  refine va_get (ci := 0) (v := .ref b2) (C := RX0) (T := TX0) (N := 11) hx hb hts inGX0 hown hK hP 5 rfl rfl 7 (by decide) (hts _ mw_1_38) (fun _ h9 => h9) rfl dX3_copy_70 ?_
  refine k_rvS (As := [.ref ab, .ref b2]) (rest := []) (wr := [(o, dO r ab af an aw), (af, .inl (gI G, 120, .inl (dF r))), (an, .inl (gI G, 120, .inl (dN r))), (aw, .inl (gI G, 7, .inl (dW r))), (o2, .inr (0, [.int (r 0), .int (r 1), .int (r 2), .int (r 3), .int (r 4), .int (r 5), .int (r 6), .ref b2, .ref f2, .ref n2, .ref w2])), (f2, .inl (gI G, 120, .inl (dF r2))), (n2, .inl (gI G, 120, .inl (dN r2))), (w2, .inl (gI G, 7, .inl (dW r2)))]) hF (c_X3_copyNumbers l G _ ab b2 (dB r) (dB r2) 1920 (by omega)) mw_1_171 mw_1_172 mw_1_1 mw_1_173 hd_X3_copyNumbers ⟨Nat.le_of_ble_eq_true rfl, Nat.le_of_ble_eq_true rfl⟩ hKx hZ hS hP hD hA [1, 6] [0, 2, 3, 4, 5, 7, 8, 9] rfl rfl (by decide) (by decide) (by decide) rfl rfl hl.1 rfl (Nat.le_of_ble_eq_true rfl) dX3_copy_73 ⟨Nat.zero_le _, Nat.zero_le _⟩ (fun H locs hP hD hS => ?_)
  have hP : va_P G.1 vwCl [(o, dO r ab af an aw), (af, .inl (gI G, 120, .inl (dF r))), (an, .inl (gI G, 120, .inl (dN r))), (aw, .inl (gI G, 7, .inl (dW r))), (o2, .inr (0, [.int (r 0), .int (r 1), .int (r 2), .int (r 3), .int (r 4), .int (r 5), .int (r 6), .ref b2, .ref f2, .ref n2, .ref w2])), (f2, .inl (gI G, 120, .inl (dF r2))), (n2, .inl (gI G, 120, .inl (dN r2))), (w2, .inl (gI G, 7, .inl (dW r2))), (ab, .inl (gI G, 1920, .inl (dB r))), (b2, .inl (gI G, 1920, .inl (va_cpy (dB r) (dB r2) 0 0 1920)))] H := hP
  have hD : va_D A [(o, dO r ab af an aw), (af, .inl (gI G, 120, .inl (dF r))), (an, .inl (gI G, 120, .inl (dN r))), (aw, .inl (gI G, 7, .inl (dW r))), (o2, .inr (0, [.int (r 0), .int (r 1), .int (r 2), .int (r 3), .int (r 4), .int (r 5), .int (r 6), .ref b2, .ref f2, .ref n2, .ref w2])), (f2, .inl (gI G, 120, .inl (dF r2))), (n2, .inl (gI G, 120, .inl (dN r2))), (w2, .inl (gI G, 7, .inl (dW r2))), (ab, .inl (gI G, 1920, .inl (dB r))), (b2, .inl (gI G, 1920, .inl (va_cpy (dB r) (dB r2) 0 0 1920)))] := hD
  refine lv_aload_n hx hb dX3_copy_76 rfl (lv_at hl 0 rfl) ?_
  refine va_get (ci := 0) (v := .ref af) (C := RX0) (T := TX0) (N := 11) hx hb hts inGX0 hown hK hP 0 rfl rfl 8 (by decide) (hts _ mw_1_40) (fun _ h9 => h9) rfl dX3_copy_77 ?_
  refine lv_aload_n hx hb dX3_copy_80 rfl (lv_at hl 1 rfl) ?_
  refine va_get (ci := 0) (v := .ref f2) (C := RX0) (T := TX0) (N := 11) hx hb hts inGX0 hown hK hP 4 rfl rfl 8 (by decide) (hts _ mw_1_40) (fun _ h9 => h9) rfl dX3_copy_81 ?_
  refine k_rvS (As := [.ref af, .ref f2]) (rest := []) (wr := [(o, dO r ab af an aw), (an, .inl (gI G, 120, .inl (dN r))), (aw, .inl (gI G, 7, .inl (dW r))), (o2, .inr (0, [.int (r 0), .int (r 1), .int (r 2), .int (r 3), .int (r 4), .int (r 5), .int (r 6), .ref b2, .ref f2, .ref n2, .ref w2])), (n2, .inl (gI G, 120, .inl (dN r2))), (w2, .inl (gI G, 7, .inl (dW r2))), (ab, .inl (gI G, 1920, .inl (dB r))), (b2, .inl (gI G, 1920, .inl (va_cpy (dB r) (dB r2) 0 0 1920)))]) hF (c_X3_copyNumbers l G _ af f2 (dF r) (dF r2) 120 (by omega)) mw_1_171 mw_1_172 mw_1_1 mw_1_173 hd_X3_copyNumbers ⟨Nat.le_of_ble_eq_true rfl, Nat.le_of_ble_eq_true rfl⟩ hKx hZ hS hP hD hA [1, 5] [0, 2, 3, 4, 6, 7, 8, 9] rfl rfl (by decide) (by decide) (by decide) rfl rfl hl.1 rfl (Nat.le_of_ble_eq_true rfl) dX3_copy_84 ⟨Nat.zero_le _, Nat.zero_le _⟩ (fun H locs hP hD hS => ?_)
  have hP : va_P G.1 vwCl [(o, dO r ab af an aw), (an, .inl (gI G, 120, .inl (dN r))), (aw, .inl (gI G, 7, .inl (dW r))), (o2, .inr (0, [.int (r 0), .int (r 1), .int (r 2), .int (r 3), .int (r 4), .int (r 5), .int (r 6), .ref b2, .ref f2, .ref n2, .ref w2])), (n2, .inl (gI G, 120, .inl (dN r2))), (w2, .inl (gI G, 7, .inl (dW r2))), (ab, .inl (gI G, 1920, .inl (dB r))), (b2, .inl (gI G, 1920, .inl (va_cpy (dB r) (dB r2) 0 0 1920))), (af, .inl (gI G, 120, .inl (dF r))), (f2, .inl (gI G, 120, .inl (va_cpy (dF r) (dF r2) 0 0 120)))] H := hP
  have hD : va_D A [(o, dO r ab af an aw), (an, .inl (gI G, 120, .inl (dN r))), (aw, .inl (gI G, 7, .inl (dW r))), (o2, .inr (0, [.int (r 0), .int (r 1), .int (r 2), .int (r 3), .int (r 4), .int (r 5), .int (r 6), .ref b2, .ref f2, .ref n2, .ref w2])), (n2, .inl (gI G, 120, .inl (dN r2))), (w2, .inl (gI G, 7, .inl (dW r2))), (ab, .inl (gI G, 1920, .inl (dB r))), (b2, .inl (gI G, 1920, .inl (va_cpy (dB r) (dB r2) 0 0 1920))), (af, .inl (gI G, 120, .inl (dF r))), (f2, .inl (gI G, 120, .inl (va_cpy (dF r) (dF r2) 0 0 120)))] := hD
  refine lv_aload_n hx hb dX3_copy_87 rfl (lv_at hl 0 rfl) ?_
  refine va_get (ci := 0) (v := .ref an) (C := RX0) (T := TX0) (N := 11) hx hb hts inGX0 hown hK hP 0 rfl rfl 9 (by decide) (hts _ mw_1_42) (fun _ h9 => h9) rfl dX3_copy_88 ?_
  refine lv_aload_n hx hb dX3_copy_91 rfl (lv_at hl 1 rfl) ?_
  refine va_get (ci := 0) (v := .ref n2) (C := RX0) (T := TX0) (N := 11) hx hb hts inGX0 hown hK hP 3 rfl rfl 9 (by decide) (hts _ mw_1_42) (fun _ h9 => h9) rfl dX3_copy_92 ?_
  refine k_rvS (As := [.ref an, .ref n2]) (rest := []) (wr := [(o, dO r ab af an aw), (aw, .inl (gI G, 7, .inl (dW r))), (o2, .inr (0, [.int (r 0), .int (r 1), .int (r 2), .int (r 3), .int (r 4), .int (r 5), .int (r 6), .ref b2, .ref f2, .ref n2, .ref w2])), (w2, .inl (gI G, 7, .inl (dW r2))), (ab, .inl (gI G, 1920, .inl (dB r))), (b2, .inl (gI G, 1920, .inl (va_cpy (dB r) (dB r2) 0 0 1920))), (af, .inl (gI G, 120, .inl (dF r))), (f2, .inl (gI G, 120, .inl (va_cpy (dF r) (dF r2) 0 0 120)))]) hF (c_X3_copyNumbers l G _ an n2 (dN r) (dN r2) 120 (by omega)) mw_1_171 mw_1_172 mw_1_1 mw_1_173 hd_X3_copyNumbers ⟨Nat.le_of_ble_eq_true rfl, Nat.le_of_ble_eq_true rfl⟩ hKx hZ hS hP hD hA [1, 4] [0, 2, 3, 5, 6, 7, 8, 9] rfl rfl (by decide) (by decide) (by decide) rfl rfl hl.1 rfl (Nat.le_of_ble_eq_true rfl) dX3_copy_95 ⟨Nat.zero_le _, Nat.zero_le _⟩ (fun H locs hP hD hS => ?_)
  have hP : va_P G.1 vwCl [(o, dO r ab af an aw), (aw, .inl (gI G, 7, .inl (dW r))), (o2, .inr (0, [.int (r 0), .int (r 1), .int (r 2), .int (r 3), .int (r 4), .int (r 5), .int (r 6), .ref b2, .ref f2, .ref n2, .ref w2])), (w2, .inl (gI G, 7, .inl (dW r2))), (ab, .inl (gI G, 1920, .inl (dB r))), (b2, .inl (gI G, 1920, .inl (va_cpy (dB r) (dB r2) 0 0 1920))), (af, .inl (gI G, 120, .inl (dF r))), (f2, .inl (gI G, 120, .inl (va_cpy (dF r) (dF r2) 0 0 120))), (an, .inl (gI G, 120, .inl (dN r))), (n2, .inl (gI G, 120, .inl (va_cpy (dN r) (dN r2) 0 0 120)))] H := hP
  have hD : va_D A [(o, dO r ab af an aw), (aw, .inl (gI G, 7, .inl (dW r))), (o2, .inr (0, [.int (r 0), .int (r 1), .int (r 2), .int (r 3), .int (r 4), .int (r 5), .int (r 6), .ref b2, .ref f2, .ref n2, .ref w2])), (w2, .inl (gI G, 7, .inl (dW r2))), (ab, .inl (gI G, 1920, .inl (dB r))), (b2, .inl (gI G, 1920, .inl (va_cpy (dB r) (dB r2) 0 0 1920))), (af, .inl (gI G, 120, .inl (dF r))), (f2, .inl (gI G, 120, .inl (va_cpy (dF r) (dF r2) 0 0 120))), (an, .inl (gI G, 120, .inl (dN r))), (n2, .inl (gI G, 120, .inl (va_cpy (dN r) (dN r2) 0 0 120)))] := hD
  refine lv_aload_n hx hb dX3_copy_98 rfl (lv_at hl 0 rfl) ?_
  refine va_get (ci := 0) (v := .ref aw) (C := RX0) (T := TX0) (N := 11) hx hb hts inGX0 hown hK hP 0 rfl rfl 10 (by decide) (hts _ mw_1_44) (fun _ h9 => h9) rfl dX3_copy_99 ?_
  refine lv_aload_n hx hb dX3_copy_102 rfl (lv_at hl 1 rfl) ?_
  refine va_get (ci := 0) (v := .ref w2) (C := RX0) (T := TX0) (N := 11) hx hb hts inGX0 hown hK hP 2 rfl rfl 10 (by decide) (hts _ mw_1_44) (fun _ h9 => h9) rfl dX3_copy_103 ?_
  refine k_rvS (As := [.ref aw, .ref w2]) (rest := []) (wr := [(o, dO r ab af an aw), (o2, .inr (0, [.int (r 0), .int (r 1), .int (r 2), .int (r 3), .int (r 4), .int (r 5), .int (r 6), .ref b2, .ref f2, .ref n2, .ref w2])), (ab, .inl (gI G, 1920, .inl (dB r))), (b2, .inl (gI G, 1920, .inl (va_cpy (dB r) (dB r2) 0 0 1920))), (af, .inl (gI G, 120, .inl (dF r))), (f2, .inl (gI G, 120, .inl (va_cpy (dF r) (dF r2) 0 0 120))), (an, .inl (gI G, 120, .inl (dN r))), (n2, .inl (gI G, 120, .inl (va_cpy (dN r) (dN r2) 0 0 120)))]) hF (c_X3_copyNumbers l G _ aw w2 (dW r) (dW r2) 7 (by omega)) mw_1_171 mw_1_172 mw_1_1 mw_1_173 hd_X3_copyNumbers ⟨Nat.le_of_ble_eq_true rfl, Nat.le_of_ble_eq_true rfl⟩ hKx hZ hS hP hD hA [1, 3] [0, 2, 4, 5, 6, 7, 8, 9] rfl rfl (by decide) (by decide) (by decide) rfl rfl hl.1 rfl (Nat.le_of_ble_eq_true rfl) dX3_copy_106 ⟨Nat.zero_le _, Nat.zero_le _⟩ (fun H locs hP hD hS => ?_)
  have hP : va_P G.1 vwCl [(o, dO r ab af an aw), (o2, .inr (0, [.int (r 0), .int (r 1), .int (r 2), .int (r 3), .int (r 4), .int (r 5), .int (r 6), .ref b2, .ref f2, .ref n2, .ref w2])), (ab, .inl (gI G, 1920, .inl (dB r))), (b2, .inl (gI G, 1920, .inl (va_cpy (dB r) (dB r2) 0 0 1920))), (af, .inl (gI G, 120, .inl (dF r))), (f2, .inl (gI G, 120, .inl (va_cpy (dF r) (dF r2) 0 0 120))), (an, .inl (gI G, 120, .inl (dN r))), (n2, .inl (gI G, 120, .inl (va_cpy (dN r) (dN r2) 0 0 120))), (aw, .inl (gI G, 7, .inl (dW r))), (w2, .inl (gI G, 7, .inl (va_cpy (dW r) (dW r2) 0 0 7)))] H := hP
  have hD : va_D A [(o, dO r ab af an aw), (o2, .inr (0, [.int (r 0), .int (r 1), .int (r 2), .int (r 3), .int (r 4), .int (r 5), .int (r 6), .ref b2, .ref f2, .ref n2, .ref w2])), (ab, .inl (gI G, 1920, .inl (dB r))), (b2, .inl (gI G, 1920, .inl (va_cpy (dB r) (dB r2) 0 0 1920))), (af, .inl (gI G, 120, .inl (dF r))), (f2, .inl (gI G, 120, .inl (va_cpy (dF r) (dF r2) 0 0 120))), (an, .inl (gI G, 120, .inl (dN r))), (n2, .inl (gI G, 120, .inl (va_cpy (dN r) (dN r2) 0 0 120))), (aw, .inl (gI G, 7, .inl (dW r))), (w2, .inl (gI G, 7, .inl (va_cpy (dW r) (dW r2) 0 0 7)))] := hD
  have hPj := hP.sub (ws' := [(o, dO r ab af an aw), (ab, .inl (gI G, 1920, .inl (dB r))), (af, .inl (gI G, 120, .inl (dF r))), (an, .inl (gI G, 120, .inl (dN r))), (aw, .inl (gI G, 7, .inl (dW r))), (o2, .inr (0, [.int (r 0), .int (r 1), .int (r 2), .int (r 3), .int (r 4), .int (r 5), .int (r 6), .ref b2, .ref f2, .ref n2, .ref w2])), (b2, .inl (gI G, 1920, .inl (va_cpy (dB r) (dB r2) 0 0 1920))), (f2, .inl (gI G, 120, .inl (va_cpy (dF r) (dF r2) 0 0 120))), (n2, .inl (gI G, 120, .inl (va_cpy (dN r) (dN r2) 0 0 120))), (w2, .inl (gI G, 7, .inl (va_cpy (dW r) (dW r2) 0 0 7)))]) [0, 2, 4, 6, 8, 1, 3, 5, 7, 9] rfl
  have hwj : ([(o, dO r ab af an aw), (ab, .inl (gI G, 1920, .inl (dB r))), (af, .inl (gI G, 120, .inl (dF r))), (an, .inl (gI G, 120, .inl (dN r))), (aw, .inl (gI G, 7, .inl (dW r))), (o2, .inr (0, [.int (r 0), .int (r 1), .int (r 2), .int (r 3), .int (r 4), .int (r 5), .int (r 6), .ref b2, .ref f2, .ref n2, .ref w2])), (b2, .inl (gI G, 1920, .inl (va_cpy (dB r) (dB r2) 0 0 1920))), (f2, .inl (gI G, 120, .inl (va_cpy (dF r) (dF r2) 0 0 120))), (n2, .inl (gI G, 120, .inl (va_cpy (dN r) (dN r2) 0 0 120))), (w2, .inl (gI G, 7, .inl (va_cpy (dW r) (dW r2) 0 0 7)))] : va_W) = [(o, dO r ab af an aw), (ab, .inl (gI G, 1920, .inl (dB r))), (af, .inl (gI G, 120, .inl (dF r))), (an, .inl (gI G, 120, .inl (dN r))), (aw, .inl (gI G, 7, .inl (dW r))), (o2, dO r b2 f2 n2 w2), (b2, .inl (gI G, 1920, .inl (dB r))), (f2, .inl (gI G, 120, .inl (dF r))), (n2, .inl (gI G, 120, .inl (dN r))), (w2, .inl (gI G, 7, .inl (dW r)))] := (wlc (rfl) (wlc (rfl) (wlc (rfl) (wlc (rfl) (wlc (rfl) (wlc (rfl) (wlc (wli cpy_dB) (wlc (wli cpy_dF) (wlc (wli cpy_dN) (wlc (wli cpy_dW) rfl))))))))))
  rw [hwj] at hPj
  exact e_wv hx hb hr hlk hPj hS dX3_copy_109
set_option maxHeartbeats 4000000 in
set_option maxRecDepth 100000 in
theorem c_X3_workOf_k (l : Launch) (G : gT) (sz : Nat) (me : Nat) (o : Nat) (ou : Nat) (oh : Nat) (os : Nat) (op : Nat) (kc : Int32) (sv : Int32) (ab : Nat) (af : Nat) (an : Nat) (aw : Nat) (r : Nat → Int32) (ub : Nat) (uf : Nat) (un : Nat) (uw : Nat) (rt : Nat → Int32) (f : Nat) (t : Nat) (hCv : Cv r) (hft : f ≤ t) (ht : t < 3650) : Rw l G yX3_workOf cX3_workOf 4 (some .int) 9 sz [(me, .inr (3, [.ref o, .ref ou, .ref oh, .ref os, .ref op, .int kc, .int sv])), (o, dO r ab af an aw), (ab, .inl (gI G, 1920, .inl (dB r))), (af, .inl (gI G, 120, .inl (dF r))), (an, .inl (gI G, 120, .inl (dN r))), (aw, .inl (gI G, 7, .inl (dW r))), (ou, dO rt ub uf un uw), (ub, .inl (gI G, 1920, .inl (dB rt))), (uf, .inl (gI G, 120, .inl (dF rt))), (un, .inl (gI G, 120, .inl (dN rt))), (uw, .inl (gI G, 7, .inl (dW rt)))] [.ref me, .int (nI f), .int (nI t)] ((lkk r (mot f) (mot t + 1 - mot f)) 3 - r 3) [(me, .inr (3, [.ref o, .ref ou, .ref oh, .ref os, .ref op, .int kc, .int sv])), (o, dO r ab af an aw), (ab, .inl (gI G, 1920, .inl (dB r))), (af, .inl (gI G, 120, .inl (dF r))), (an, .inl (gI G, 120, .inl (dN r))), (aw, .inl (gI G, 7, .inl (dW r))), (ou, dO (lkk r (mot f) (mot t + 1 - mot f)) ub uf un uw), (ub, .inl (gI G, 1920, .inl (dB (lkk r (mot f) (mot t + 1 - mot f))))), (uf, .inl (gI G, 120, .inl (dF (lkk r (mot f) (mot t + 1 - mot f))))), (un, .inl (gI G, 120, .inl (dN (lkk r (mot f) (mot t + 1 - mot f))))), (uw, .inl (gI G, 7, .inl (dW (lkk r (mot f) (mot t + 1 - mot f)))))] := by
  refine Rw.mk (by decide) (Nat.le_of_ble_eq_true rfl) (fun pq eq sq mq bq tq cq ls A hr hlk hF hKx hZ hA hP hD hS hl => ?_)
  have hx := hF.1
  have hb := hF.2.1
  have hml := hF.2.2.1
  have hown : sq.vm.findClass RX3 = some mq.cls := hF.2.2.2.1
  have hts : ∀ w ∈ GW, w.before _ sq = true := hF.2.2.2.2
  have hK := hKx.1
  have hl : lv_has ls 4 [(0, .ref me), (1, .int (nI f)), (2, .int (nI t))] := hl
  have hP : va_P G.1 vwCl [(me, .inr (3, [.ref o, .ref ou, .ref oh, .ref os, .ref op, .int kc, .int sv])), (o, dO r ab af an aw), (ab, .inl (gI G, 1920, .inl (dB r))), (af, .inl (gI G, 120, .inl (dF r))), (an, .inl (gI G, 120, .inl (dN r))), (aw, .inl (gI G, 7, .inl (dW r))), (ou, dO rt ub uf un uw), (ub, .inl (gI G, 1920, .inl (dB rt))), (uf, .inl (gI G, 120, .inl (dF rt))), (un, .inl (gI G, 120, .inl (dN rt))), (uw, .inl (gI G, 7, .inl (dW rt)))] sq.heap := hP
  have hD : va_D A [(me, .inr (3, [.ref o, .ref ou, .ref oh, .ref os, .ref op, .int kc, .int sv])), (o, dO r ab af an aw), (ab, .inl (gI G, 1920, .inl (dB r))), (af, .inl (gI G, 120, .inl (dF r))), (an, .inl (gI G, 120, .inl (dN r))), (aw, .inl (gI G, 7, .inl (dW r))), (ou, dO rt ub uf un uw), (ub, .inl (gI G, 1920, .inl (dB rt))), (uf, .inl (gI G, 120, .inl (dF rt))), (un, .inl (gI G, 120, .inl (dN rt))), (uw, .inl (gI G, 7, .inl (dW rt)))] := hD
  refine lv_iload_n hx hb dX3_workOf_0 rfl (lv_at hl 1 rfl) ?_
  refine lv_iload_n hx hb dX3_workOf_1 rfl (lv_at hl 2 rfl) ?_
  refine k_roS (As := [.int (nI f), .int (nI t)]) (rest := []) hF (c_X3_spanError l G (nI f) ((f : Nat) : Int) (nI t) ((t : Nat) : Int) (toI (by omega)) (toI (by omega))) mw_2_34 mw_2_35 mw_1_1 mw_2_36 hd_X3_spanError ⟨Nat.le_of_ble_eq_true rfl, Nat.le_of_ble_eq_true rfl⟩ (Rd.of hKx hZ hS) (hP.sub (ws' := []) [] rfl) rfl hl.1 rfl (Nat.le_of_ble_eq_true rfl) dX3_workOf_2 ⟨Nat.zero_le _, Nat.zero_le _⟩ ?_
  refine lv_cv (y := nI 0) (eDy_0 trivial (by omega)) ?_
  refine lv_istore_n (lv' := [(3, .int (nI 0)), (0, .ref me), (1, .int (nI f)), (2, .int (nI t))]) hx hb dX3_workOf_5 rfl hl (by decide) rfl (fun ls hl => ?_)
  refine lv_iload_n hx hb dX3_workOf_6 rfl (lv_at hl 0 rfl) ?_
  refine z0_eq hx hb (tgt := 12) 0 dX3_workOf_7 (by decide) (by decide) (fun c_7 => ?_) (fun c_7 => ?_)
  · skip
    refine lv_aload_n hx hb dX3_workOf_12 rfl (lv_at hl 1 rfl) ?_
    refine va_get (ci := 3) (v := .ref o) (C := RX3) (T := TX3) (N := 7) hx hb hts inGX3 hown hK hP 0 rfl rfl 0 (by decide) (hts _ mw_1_127) (fun _ h9 => h9) rfl dX3_workOf_13 ?_
    refine lv_aload_n hx hb dX3_workOf_16 rfl (lv_at hl 1 rfl) ?_
    refine va_get (ci := 3) (v := .ref ou) (C := RX3) (T := TX3) (N := 7) hx hb hts inGX3 hown hK hP 0 rfl rfl 1 (by decide) (hts _ mw_1_128) (fun _ h9 => h9) rfl dX3_workOf_17 ?_
    refine k_rvS (As := [.ref o, .ref ou]) (rest := []) (wr := [(me, .inr (3, [.ref o, .ref ou, .ref oh, .ref os, .ref op, .int kc, .int sv]))]) hF (c_X3_copy l G _ o ab af an aw r ou ub uf un uw rt) mw_1_168 mw_1_169 mw_1_1 mw_1_170 hd_X3_copy ⟨Nat.le_of_ble_eq_true rfl, Nat.le_of_ble_eq_true rfl⟩ hKx hZ hS hP hD hA [1, 2, 3, 4, 5, 6, 7, 8, 9, 10] [0] rfl rfl (by decide) (by decide) (by decide) rfl rfl hl.1 rfl (Nat.le_of_ble_eq_true rfl) dX3_workOf_20 ⟨Nat.zero_le _, Nat.zero_le _⟩ (fun H locs hP hD hS => ?_)
    have hP : va_P G.1 vwCl [(me, .inr (3, [.ref o, .ref ou, .ref oh, .ref os, .ref op, .int kc, .int sv])), (o, dO r ab af an aw), (ab, .inl (gI G, 1920, .inl (dB r))), (af, .inl (gI G, 120, .inl (dF r))), (an, .inl (gI G, 120, .inl (dN r))), (aw, .inl (gI G, 7, .inl (dW r))), (ou, dO r ub uf un uw), (ub, .inl (gI G, 1920, .inl (dB r))), (uf, .inl (gI G, 120, .inl (dF r))), (un, .inl (gI G, 120, .inl (dN r))), (uw, .inl (gI G, 7, .inl (dW r)))] H := hP
    have hD : va_D A [(me, .inr (3, [.ref o, .ref ou, .ref oh, .ref os, .ref op, .int kc, .int sv])), (o, dO r ab af an aw), (ab, .inl (gI G, 1920, .inl (dB r))), (af, .inl (gI G, 120, .inl (dF r))), (an, .inl (gI G, 120, .inl (dN r))), (aw, .inl (gI G, 7, .inl (dW r))), (ou, dO r ub uf un uw), (ub, .inl (gI G, 1920, .inl (dB r))), (uf, .inl (gI G, 120, .inl (dF r))), (un, .inl (gI G, 120, .inl (dN r))), (uw, .inl (gI G, 7, .inl (dW r)))] := hD
    refine lv_aload_n hx hb dX3_workOf_23 rfl (lv_at hl 1 rfl) ?_
    refine va_get (ci := 3) (v := .ref ou) (C := RX3) (T := TX3) (N := 7) hx hb hts inGX3 hown hK hP 0 rfl rfl 1 (by decide) (hts _ mw_1_128) (fun _ h9 => h9) rfl dX3_workOf_24 ?_
    refine lv_iload_n hx hb dX3_workOf_27 rfl (lv_at hl 2 rfl) ?_
    refine lv_iload_n hx hb dX3_workOf_28 rfl (lv_at hl 3 rfl) ?_
    refine k_rvV (ci := 0) (q0 := 6) (As := [.int (nI f), .int (nI t)]) (rest := []) (wr := [(me, .inr (3, [.ref o, .ref ou, .ref oh, .ref os, .ref op, .int kc, .int sv])), (o, dO r ab af an aw), (ab, .inl (gI G, 1920, .inl (dB r))), (af, .inl (gI G, 120, .inl (dF r))), (an, .inl (gI G, 120, .inl (dN r))), (aw, .inl (gI G, 7, .inl (dW r)))]) hF (c_X0_lookAtMonths l G _ ou ub uf un uw r f t (by omega) (by omega) (by omega)) ⟨_, rfl, rfl⟩ rfl rfl mw_2_120 mw_2_121 mw_2_122 mw_1_2 mw_2_123 hd_X0_lookAtMonths ⟨Nat.le_of_ble_eq_true rfl, Nat.le_of_ble_eq_true rfl⟩ hKx hZ hS hP hD hA [6, 7, 8, 9, 10] [0, 1, 2, 3, 4, 5] rfl rfl (by decide) (by decide) (by decide) rfl rfl hl.1 rfl (Nat.le_of_ble_eq_true rfl) dX3_workOf_29 ⟨Nat.zero_le _, Nat.zero_le _⟩ (fun H locs hP hD hS => ?_)
    have hP : va_P G.1 vwCl [(me, .inr (3, [.ref o, .ref ou, .ref oh, .ref os, .ref op, .int kc, .int sv])), (o, dO r ab af an aw), (ab, .inl (gI G, 1920, .inl (dB r))), (af, .inl (gI G, 120, .inl (dF r))), (an, .inl (gI G, 120, .inl (dN r))), (aw, .inl (gI G, 7, .inl (dW r))), (ou, dO (lkk r (mot f) (mot t + 1 - mot f)) ub uf un uw), (ub, .inl (gI G, 1920, .inl (dB (lkk r (mot f) (mot t + 1 - mot f))))), (uf, .inl (gI G, 120, .inl (dF (lkk r (mot f) (mot t + 1 - mot f))))), (un, .inl (gI G, 120, .inl (dN (lkk r (mot f) (mot t + 1 - mot f))))), (uw, .inl (gI G, 7, .inl (dW (lkk r (mot f) (mot t + 1 - mot f)))))] H := hP
    have hD : va_D A [(me, .inr (3, [.ref o, .ref ou, .ref oh, .ref os, .ref op, .int kc, .int sv])), (o, dO r ab af an aw), (ab, .inl (gI G, 1920, .inl (dB r))), (af, .inl (gI G, 120, .inl (dF r))), (an, .inl (gI G, 120, .inl (dN r))), (aw, .inl (gI G, 7, .inl (dW r))), (ou, dO (lkk r (mot f) (mot t + 1 - mot f)) ub uf un uw), (ub, .inl (gI G, 1920, .inl (dB (lkk r (mot f) (mot t + 1 - mot f))))), (uf, .inl (gI G, 120, .inl (dF (lkk r (mot f) (mot t + 1 - mot f))))), (un, .inl (gI G, 120, .inl (dN (lkk r (mot f) (mot t + 1 - mot f))))), (uw, .inl (gI G, 7, .inl (dW (lkk r (mot f) (mot t + 1 - mot f)))))] := hD
    refine lv_aload_n hx hb dX3_workOf_32 rfl (lv_at hl 1 rfl) ?_
    refine va_get (ci := 3) (v := .ref ou) (C := RX3) (T := TX3) (N := 7) hx hb hts inGX3 hown hK hP 0 rfl rfl 1 (by decide) (hts _ mw_1_128) (fun _ h9 => h9) rfl dX3_workOf_33 ?_
    refine va_get (ci := 0) (v := .int ((lkk r (mot f) (mot t + 1 - mot f)) 3)) (C := RX0) (T := TX0) (N := 11) hx hb hts inGX0 hown hK hP 6 rfl rfl 3 (by decide) (hts _ mw_1_29) (fun _ h9 => h9) rfl dX3_workOf_36 ?_
    refine lv_aload_n hx hb dX3_workOf_39 rfl (lv_at hl 1 rfl) ?_
    refine va_get (ci := 3) (v := .ref o) (C := RX3) (T := TX3) (N := 7) hx hb hts inGX3 hown hK hP 0 rfl rfl 0 (by decide) (hts _ mw_1_127) (fun _ h9 => h9) rfl dX3_workOf_40 ?_
    refine va_get (ci := 0) (v := .int (r 3)) (C := RX0) (T := TX0) (N := 11) hx hb hts inGX0 hown hK hP 1 rfl rfl 3 (by decide) (hts _ mw_1_29) (fun _ h9 => h9) rfl dX3_workOf_43 ?_
    refine lv_isub hx hb dX3_workOf_46 ?_
    have hPj := hP.sub (ws' := [(me, .inr (3, [.ref o, .ref ou, .ref oh, .ref os, .ref op, .int kc, .int sv])), (o, dO r ab af an aw), (ab, .inl (gI G, 1920, .inl (dB r))), (af, .inl (gI G, 120, .inl (dF r))), (an, .inl (gI G, 120, .inl (dN r))), (aw, .inl (gI G, 7, .inl (dW r))), (ou, dO (lkk r (mot f) (mot t + 1 - mot f)) ub uf un uw), (ub, .inl (gI G, 1920, .inl (dB (lkk r (mot f) (mot t + 1 - mot f))))), (uf, .inl (gI G, 120, .inl (dF (lkk r (mot f) (mot t + 1 - mot f))))), (un, .inl (gI G, 120, .inl (dN (lkk r (mot f) (mot t + 1 - mot f))))), (uw, .inl (gI G, 7, .inl (dW (lkk r (mot f) (mot t + 1 - mot f)))))]) [0, 1, 2, 3, 4, 5, 6, 7, 8, 9, 10] rfl
    exact e_wi hx hb hr hlk hPj hS (rfl) dX3_workOf_47
  · skip
    exact absurd c_7 (by decide)
set_option maxHeartbeats 4000000 in
set_option maxRecDepth 100000 in
theorem c_X3_workOf_e (l : Launch) (G : gT) (me : Nat) (o : Nat) (ou : Nat) (oh : Nat) (os : Nat) (op : Nat) (kc : Int32) (sv : Int32) (ab : Nat) (af : Nat) (an : Nat) (aw : Nat) (x : Int32) (F : Int) (y : Int32) (T : Int) (hF1 : x.toInt = F) (hT1 : y.toInt = T) (he : ¬ (eDy True F T).toInt = 0) : Ro l G yX3_workOf cX3_workOf 4 (some .int) 9 [(me, .inr (3, [.ref o, .ref ou, .ref oh, .ref os, .ref op, .int kc, .int sv]))] [.ref me, .int x, .int y] (eDy True F T) := by
  refine Ro.mk (by decide) (Nat.le_of_ble_eq_true rfl) (fun pq eq sq mq bq tq cq ls hr hlk hF hKx hZ hP hl => ?_)
  have hx := hF.1
  have hb := hF.2.1
  have hml := hF.2.2.1
  have hown : sq.vm.findClass RX3 = some mq.cls := hF.2.2.2.1
  have hts : ∀ w ∈ GW, w.before _ sq = true := hF.2.2.2.2
  have hK := hKx.1
  have hl : lv_has ls 4 [(0, .ref me), (1, .int x), (2, .int y)] := hl
  have hS : va_S (fun _ => False) sq.heap sq.heap [] := va_S.rf
  have hP : va_P G.1 vwCl [(me, .inr (3, [.ref o, .ref ou, .ref oh, .ref os, .ref op, .int kc, .int sv]))] sq.heap := hP
  refine lv_iload_n hx hb dX3_workOf_0 rfl (lv_at hl 1 rfl) ?_
  refine lv_iload_n hx hb dX3_workOf_1 rfl (lv_at hl 2 rfl) ?_
  refine k_roS (As := [.int x, .int y]) (rest := []) hF (c_X3_spanError l G x F y T hF1 hT1) mw_2_34 mw_2_35 mw_1_1 mw_2_36 hd_X3_spanError ⟨Nat.le_of_ble_eq_true rfl, Nat.le_of_ble_eq_true rfl⟩ (Rd.of hKx hZ hS) (hP.sub (ws' := []) [] rfl) rfl hl.1 rfl (Nat.le_of_ble_eq_true rfl) dX3_workOf_2 ⟨Nat.zero_le _, Nat.zero_le _⟩ ?_
  refine lv_istore_n (lv' := [(3, .int (eDy True F T)), (0, .ref me), (1, .int x), (2, .int y)]) hx hb dX3_workOf_5 rfl hl (by decide) rfl (fun ls hl => ?_)
  refine lv_iload_n hx hb dX3_workOf_6 rfl (lv_at hl 0 rfl) ?_
  refine z0_eq hx hb (tgt := 12) ((eDy True F T).toInt) dX3_workOf_7 (by decide) rfl (fun c_7 => ?_) (fun c_7 => ?_)
  · skip
    exact absurd c_7 he
  · skip
    refine lv_iload_n hx hb dX3_workOf_10 rfl (lv_at hl 0 rfl) ?_
    exact e_ri hx hb hr hlk (rfl) dX3_workOf_11
set_option maxHeartbeats 4000000 in
set_option maxRecDepth 100000 in
theorem c_X3_bestOpen_k (l : Launch) (G : gT) (sz : Nat) (me : Nat) (o : Nat) (ou : Nat) (oh : Nat) (os : Nat) (op : Nat) (kc : Int32) (sv : Int32) (ab : Nat) (af : Nat) (an : Nat) (aw : Nat) (r : Nat → Int32) (ub : Nat) (uf : Nat) (un : Nat) (uw : Nat) (rt : Nat → Int32) (f : Nat) (t : Nat) (hCv : Cv r) (hft : f ≤ t) (ht : t < 3650) : Rw l G yX3_bestOpen cX3_bestOpen 8 (some .int) 9 sz [(me, .inr (3, [.ref o, .ref ou, .ref oh, .ref os, .ref op, .int kc, .int sv])), (o, dO r ab af an aw), (ab, .inl (gI G, 1920, .inl (dB r))), (af, .inl (gI G, 120, .inl (dF r))), (an, .inl (gI G, 120, .inl (dN r))), (aw, .inl (gI G, 7, .inl (dW r))), (ou, dO rt ub uf un uw), (ub, .inl (gI G, 1920, .inl (dB rt))), (uf, .inl (gI G, 120, .inl (dF rt))), (un, .inl (gI G, 120, .inl (dN rt))), (uw, .inl (gI G, 7, .inl (dW rt)))] [.ref me, .int (nI f), .int (nI t)] (nI (bob r f t 6)) [(me, .inr (3, [.ref o, .ref ou, .ref oh, .ref os, .ref op, .int kc, .int sv])), (o, dO r ab af an aw), (ab, .inl (gI G, 1920, .inl (dB r))), (af, .inl (gI G, 120, .inl (dF r))), (an, .inl (gI G, 120, .inl (dN r))), (aw, .inl (gI G, 7, .inl (dW r))), (ou, dO (tbr r f t 6) ub uf un uw), (ub, .inl (gI G, 1920, .inl (dB (tbr r f t 6)))), (uf, .inl (gI G, 120, .inl (dF (tbr r f t 6)))), (un, .inl (gI G, 120, .inl (dN (tbr r f t 6)))), (uw, .inl (gI G, 7, .inl (dW (tbr r f t 6))))] := by
  refine Rw.mk (by decide) (Nat.le_of_ble_eq_true rfl) (fun pq eq sq mq bq tq cq ls A hr hlk hF hKx hZ hA hP hD hS hl => ?_)
  have hx := hF.1
  have hb := hF.2.1
  have hml := hF.2.2.1
  have hown : sq.vm.findClass RX3 = some mq.cls := hF.2.2.2.1
  have hts : ∀ w ∈ GW, w.before _ sq = true := hF.2.2.2.2
  have hK := hKx.1
  have hl : lv_has ls 8 [(0, .ref me), (1, .int (nI f)), (2, .int (nI t))] := hl
  have hP : va_P G.1 vwCl [(me, .inr (3, [.ref o, .ref ou, .ref oh, .ref os, .ref op, .int kc, .int sv])), (o, dO r ab af an aw), (ab, .inl (gI G, 1920, .inl (dB r))), (af, .inl (gI G, 120, .inl (dF r))), (an, .inl (gI G, 120, .inl (dN r))), (aw, .inl (gI G, 7, .inl (dW r))), (ou, dO rt ub uf un uw), (ub, .inl (gI G, 1920, .inl (dB rt))), (uf, .inl (gI G, 120, .inl (dF rt))), (un, .inl (gI G, 120, .inl (dN rt))), (uw, .inl (gI G, 7, .inl (dW rt)))] sq.heap := hP
  have hD : va_D A [(me, .inr (3, [.ref o, .ref ou, .ref oh, .ref os, .ref op, .int kc, .int sv])), (o, dO r ab af an aw), (ab, .inl (gI G, 1920, .inl (dB r))), (af, .inl (gI G, 120, .inl (dF r))), (an, .inl (gI G, 120, .inl (dN r))), (aw, .inl (gI G, 7, .inl (dW r))), (ou, dO rt ub uf un uw), (ub, .inl (gI G, 1920, .inl (dB rt))), (uf, .inl (gI G, 120, .inl (dF rt))), (un, .inl (gI G, 120, .inl (dN rt))), (uw, .inl (gI G, 7, .inl (dW rt)))] := hD
  have hmf := mot_mono ht hft
  have hmt := mot_row ht
  have hf : f < 3650 := by omega
  refine lv_iload_n hx hb dX3_bestOpen_0 rfl (lv_at hl 1 rfl) ?_
  refine lv_iload_n hx hb dX3_bestOpen_1 rfl (lv_at hl 2 rfl) ?_
  refine k_roS (As := [.int (nI f), .int (nI t)]) (rest := []) hF (c_X3_spanError l G (nI f) ((f : Nat) : Int) (nI t) ((t : Nat) : Int) (toI (by omega)) (toI (by omega))) mw_2_34 mw_2_35 mw_1_1 mw_2_36 hd_X3_spanError ⟨Nat.le_of_ble_eq_true rfl, Nat.le_of_ble_eq_true rfl⟩ (Rd.of hKx hZ hS) (hP.sub (ws' := []) [] rfl) rfl hl.1 rfl (Nat.le_of_ble_eq_true rfl) dX3_bestOpen_2 ⟨Nat.zero_le _, Nat.zero_le _⟩ ?_
  refine lv_cv (y := nI 0) (eDy_0 trivial (by omega)) ?_
  refine lv_istore_n (lv' := [(3, .int (nI 0)), (0, .ref me), (1, .int (nI f)), (2, .int (nI t))]) hx hb dX3_bestOpen_5 rfl hl (by decide) rfl (fun ls hl => ?_)
  refine lv_iload_n hx hb dX3_bestOpen_6 rfl (lv_at hl 0 rfl) ?_
  refine z0_eq hx hb (tgt := 12) 0 dX3_bestOpen_7 (by decide) (by decide) (fun c_7 => ?_) (fun c_7 => ?_)
  · skip
    refine lv_iconst (v := nI 0) hx hb dX3_bestOpen_12 (by decide) ?_
    refine lv_istore (lv' := [(4, .int (nI 0)), (3, .int (nI 0)), (0, .ref me), (1, .int (nI f)), (2, .int (nI t))]) hx hb dX3_bestOpen_13 hl (by decide) rfl (fun ls hl => ?_)
    refine lv_ldc (v := nI 2147483647) hx hb hown (hts _ mw_2_209) dX3_bestOpen_15 ?_
    refine lv_istore (lv' := [(5, .int (nI 2147483647)), (4, .int (nI 0)), (3, .int (nI 0)), (0, .ref me), (1, .int (nI f)), (2, .int (nI t))]) hx hb dX3_bestOpen_17 hl (by decide) rfl (fun ls hl => ?_)
    refine lv_iconst (v := nI 0) hx hb dX3_bestOpen_19 (by decide) ?_
    refine lv_istore (lv' := [(6, .int (nI 0)), (5, .int (nI 2147483647)), (4, .int (nI 0)), (3, .int (nI 0)), (0, .ref me), (1, .int (nI f)), (2, .int (nI t))]) hx hb dX3_bestOpen_20 hl (by decide) rfl (fun ls hl => ?_)
    have hPj := hP.sub (ws' := [(me, .inr (3, [.ref o, .ref ou, .ref oh, .ref os, .ref op, .int kc, .int sv])), (o, dO r ab af an aw), (ab, .inl (gI G, 1920, .inl (dB r))), (af, .inl (gI G, 120, .inl (dF r))), (an, .inl (gI G, 120, .inl (dN r))), (aw, .inl (gI G, 7, .inl (dW r))), (ou, dO rt ub uf un uw), (ub, .inl (gI G, 1920, .inl (dB rt))), (uf, .inl (gI G, 120, .inl (dF rt))), (un, .inl (gI G, 120, .inl (dN rt))), (uw, .inl (gI G, 7, .inl (dW rt)))]) [0, 1, 2, 3, 4, 5, 6, 7, 8, 9, 10] rfl
    have hDj := hD.sub (ws' := [(me, .inr (3, [.ref o, .ref ou, .ref oh, .ref os, .ref op, .int kc, .int sv])), (o, dO r ab af an aw), (ab, .inl (gI G, 1920, .inl (dB r))), (af, .inl (gI G, 120, .inl (dF r))), (an, .inl (gI G, 120, .inl (dN r))), (aw, .inl (gI G, 7, .inl (dW r))), (ou, dO rt ub uf un uw), (ub, .inl (gI G, 1920, .inl (dB rt))), (uf, .inl (gI G, 120, .inl (dF rt))), (un, .inl (gI G, 120, .inl (dN rt))), (uw, .inl (gI G, 7, .inl (dW rt)))]) [0, 1, 2, 3, 4, 5, 6, 7, 8, 9, 10] (by decide) rfl
    have hwj : ([(me, .inr (3, [.ref o, .ref ou, .ref oh, .ref os, .ref op, .int kc, .int sv])), (o, dO r ab af an aw), (ab, .inl (gI G, 1920, .inl (dB r))), (af, .inl (gI G, 120, .inl (dF r))), (an, .inl (gI G, 120, .inl (dN r))), (aw, .inl (gI G, 7, .inl (dW r))), (ou, dO rt ub uf un uw), (ub, .inl (gI G, 1920, .inl (dB rt))), (uf, .inl (gI G, 120, .inl (dF rt))), (un, .inl (gI G, 120, .inl (dN rt))), (uw, .inl (gI G, 7, .inl (dW rt)))] : va_W) = [(me, .inr (3, [.ref o, .ref ou, .ref oh, .ref os, .ref op, .int kc, .int sv])), (o, dO r ab af an aw), (ab, .inl (gI G, 1920, .inl (dB r))), (af, .inl (gI G, 120, .inl (dF r))), (an, .inl (gI G, 120, .inl (dN r))), (aw, .inl (gI G, 7, .inl (dW r))), (ou, dO (tbo r rt f t 0) ub uf un uw), (ub, .inl (gI G, 1920, .inl (dB (tbo r rt f t 0)))), (uf, .inl (gI G, 120, .inl (dF (tbo r rt f t 0)))), (un, .inl (gI G, 120, .inl (dN (tbo r rt f t 0)))), (uw, .inl (gI G, 7, .inl (dW (tbo r rt f t 0))))] := (wlc (rfl) (wlc (rfl) (wlc (rfl) (wlc (rfl) (wlc (rfl) (wlc (rfl) (wlc (rfl) (wlc (rfl) (wlc (rfl) (wlc (rfl) (wlc (rfl) rfl)))))))))))
    rw [hwj] at hPj hDj
    refine wloopH [] (fun k H locs ls => (k ≤ 7) ∧ va_P G.1 vwCl [(me, .inr (3, [.ref o, .ref ou, .ref oh, .ref os, .ref op, .int kc, .int sv])), (o, dO r ab af an aw), (ab, .inl (gI G, 1920, .inl (dB r))), (af, .inl (gI G, 120, .inl (dF r))), (an, .inl (gI G, 120, .inl (dN r))), (aw, .inl (gI G, 7, .inl (dW r))), (ou, dO (tbo r rt f t k) ub uf un uw), (ub, .inl (gI G, 1920, .inl (dB (tbo r rt f t k)))), (uf, .inl (gI G, 120, .inl (dF (tbo r rt f t k)))), (un, .inl (gI G, 120, .inl (dN (tbo r rt f t k)))), (uw, .inl (gI G, 7, .inl (dW (tbo r rt f t k))))] H ∧ va_D A [(me, .inr (3, [.ref o, .ref ou, .ref oh, .ref os, .ref op, .int kc, .int sv])), (o, dO r ab af an aw), (ab, .inl (gI G, 1920, .inl (dB r))), (af, .inl (gI G, 120, .inl (dF r))), (an, .inl (gI G, 120, .inl (dN r))), (aw, .inl (gI G, 7, .inl (dW r))), (ou, dO (tbo r rt f t k) ub uf un uw), (ub, .inl (gI G, 1920, .inl (dB (tbo r rt f t k)))), (uf, .inl (gI G, 120, .inl (dF (tbo r rt f t k)))), (un, .inl (gI G, 120, .inl (dN (tbo r rt f t k)))), (uw, .inl (gI G, 7, .inl (dW (tbo r rt f t k))))] ∧ va_S A sq.heap H locs ∧ lv_has ls 8 [(6, .int (nI k)), (5, .int (cl1 r f t k)), (4, .int (nI (cb1 r f t k))), (0, .ref me), (1, .int (nI f)), (2, .int (nI t))]) (fun k => 7 - k) ?_ 0 ⟨(by omega), hPj, hDj, hS, lv_sub hl [0, 1, 2, 4, 5, 6] (lvr (lvr (lvc (by first | rfl | exact congrArg nI (by omega)) (lvr (lvr (lvr rfl))))))⟩
    intro k ih
    intro H locs ls ⟨hk, hP, hD, hS, hl⟩
    refine lv_iload hx hb dX3_bestOpen_22 (lv_at hl 0 rfl) ?_
    refine lv_bipush (v := nI 6) hx hb dX3_bestOpen_24 (by decide) ?_
    refine z_gt hx hb (tgt := 112) ((k : Nat) : Int) 6 dX3_bestOpen_26 (by decide) (toI (by omega)) (by decide) (fun c_26 => ?_) (fun c_26 => ?_)
    · skip
      have hk2 : k = 7 := by omega
      subst hk2
      refine lv_iload hx hb dX3_bestOpen_112 (lv_at hl 2 rfl) ?_
      refine lv_cv (y := nI (bob r f t 6)) (rfl) ?_
      have hPj := hP.sub (ws' := [(me, .inr (3, [.ref o, .ref ou, .ref oh, .ref os, .ref op, .int kc, .int sv])), (o, dO r ab af an aw), (ab, .inl (gI G, 1920, .inl (dB r))), (af, .inl (gI G, 120, .inl (dF r))), (an, .inl (gI G, 120, .inl (dN r))), (aw, .inl (gI G, 7, .inl (dW r))), (ou, dO (tbo r rt f t 7) ub uf un uw), (ub, .inl (gI G, 1920, .inl (dB (tbo r rt f t 7)))), (uf, .inl (gI G, 120, .inl (dF (tbo r rt f t 7)))), (un, .inl (gI G, 120, .inl (dN (tbo r rt f t 7)))), (uw, .inl (gI G, 7, .inl (dW (tbo r rt f t 7))))]) [0, 1, 2, 3, 4, 5, 6, 7, 8, 9, 10] rfl
      have hwj : ([(me, .inr (3, [.ref o, .ref ou, .ref oh, .ref os, .ref op, .int kc, .int sv])), (o, dO r ab af an aw), (ab, .inl (gI G, 1920, .inl (dB r))), (af, .inl (gI G, 120, .inl (dF r))), (an, .inl (gI G, 120, .inl (dN r))), (aw, .inl (gI G, 7, .inl (dW r))), (ou, dO (tbo r rt f t 7) ub uf un uw), (ub, .inl (gI G, 1920, .inl (dB (tbo r rt f t 7)))), (uf, .inl (gI G, 120, .inl (dF (tbo r rt f t 7)))), (un, .inl (gI G, 120, .inl (dN (tbo r rt f t 7)))), (uw, .inl (gI G, 7, .inl (dW (tbo r rt f t 7))))] : va_W) = [(me, .inr (3, [.ref o, .ref ou, .ref oh, .ref os, .ref op, .int kc, .int sv])), (o, dO r ab af an aw), (ab, .inl (gI G, 1920, .inl (dB r))), (af, .inl (gI G, 120, .inl (dF r))), (an, .inl (gI G, 120, .inl (dN r))), (aw, .inl (gI G, 7, .inl (dW r))), (ou, dO (tbr r f t 6) ub uf un uw), (ub, .inl (gI G, 1920, .inl (dB (tbr r f t 6)))), (uf, .inl (gI G, 120, .inl (dF (tbr r f t 6)))), (un, .inl (gI G, 120, .inl (dN (tbr r f t 6)))), (uw, .inl (gI G, 7, .inl (dW (tbr r f t 6))))] := (wlc (rfl) (wlc (rfl) (wlc (rfl) (wlc (rfl) (wlc (rfl) (wlc (rfl) (wlc (rfl) (wlc (rfl) (wlc (rfl) (wlc (rfl) (wlc (rfl) rfl)))))))))))
      rw [hwj] at hPj
      exact e_wi hx hb hr hlk hPj hS (rfl) dX3_bestOpen_114
    · skip
      refine lv_aload_n hx hb dX3_bestOpen_29 rfl (lv_at hl 3 rfl) ?_
      refine va_get (ci := 3) (v := .ref o) (C := RX3) (T := TX3) (N := 7) hx hb hts inGX3 hown hK hP 0 rfl rfl 0 (by decide) (hts _ mw_1_127) (fun _ h9 => h9) rfl dX3_bestOpen_30 ?_
      refine lv_aload_n hx hb dX3_bestOpen_33 rfl (lv_at hl 3 rfl) ?_
      refine va_get (ci := 3) (v := .ref ou) (C := RX3) (T := TX3) (N := 7) hx hb hts inGX3 hown hK hP 0 rfl rfl 1 (by decide) (hts _ mw_1_128) (fun _ h9 => h9) rfl dX3_bestOpen_34 ?_
      refine k_rvS (As := [.ref o, .ref ou]) (rest := []) (wr := [(me, .inr (3, [.ref o, .ref ou, .ref oh, .ref os, .ref op, .int kc, .int sv]))]) hF (c_X3_copy l G _ o ab af an aw r ou ub uf un uw (tbo r rt f t k)) mw_1_168 mw_1_169 mw_1_1 mw_1_170 hd_X3_copy ⟨Nat.le_of_ble_eq_true rfl, Nat.le_of_ble_eq_true rfl⟩ hKx hZ hS hP hD hA [1, 2, 3, 4, 5, 6, 7, 8, 9, 10] [0] rfl rfl (by decide) (by decide) (by decide) rfl rfl hl.1 rfl (Nat.le_of_ble_eq_true rfl) dX3_bestOpen_37 ⟨Nat.zero_le _, Nat.zero_le _⟩ (fun H locs hP hD hS => ?_)
      have hP : va_P G.1 vwCl [(me, .inr (3, [.ref o, .ref ou, .ref oh, .ref os, .ref op, .int kc, .int sv])), (o, dO r ab af an aw), (ab, .inl (gI G, 1920, .inl (dB r))), (af, .inl (gI G, 120, .inl (dF r))), (an, .inl (gI G, 120, .inl (dN r))), (aw, .inl (gI G, 7, .inl (dW r))), (ou, dO r ub uf un uw), (ub, .inl (gI G, 1920, .inl (dB r))), (uf, .inl (gI G, 120, .inl (dF r))), (un, .inl (gI G, 120, .inl (dN r))), (uw, .inl (gI G, 7, .inl (dW r)))] H := hP
      have hD : va_D A [(me, .inr (3, [.ref o, .ref ou, .ref oh, .ref os, .ref op, .int kc, .int sv])), (o, dO r ab af an aw), (ab, .inl (gI G, 1920, .inl (dB r))), (af, .inl (gI G, 120, .inl (dF r))), (an, .inl (gI G, 120, .inl (dN r))), (aw, .inl (gI G, 7, .inl (dW r))), (ou, dO r ub uf un uw), (ub, .inl (gI G, 1920, .inl (dB r))), (uf, .inl (gI G, 120, .inl (dF r))), (un, .inl (gI G, 120, .inl (dN r))), (uw, .inl (gI G, 7, .inl (dW r)))] := hD
      have hB2 : Bs (upd r 2 (nI k)) 7 := (Bs_open (hCv.1.b (by omega)) (by omega) : Bs (upd r 2 (nI k)) 7)
      have hC2 : Ct (upd r 2 (nI k)) := Ct_ag hCv.2.2.1 (fun j hj => upd_n (by omega))
      have hC3 : Cv (fga (upd r 2 (nI k))) := Cv_open hCv (by omega)
      have hC4 := Cv_lkk (a := mot f) hC3 (mot t + 1 - mot f) (by omega)
      have hro := cb_s (r := r) (f := f) (t := t) (k := k)
      refine lv_aload_n hx hb dX3_bestOpen_40 rfl (lv_at hl 3 rfl) ?_
      refine va_get (ci := 3) (v := .ref ou) (C := RX3) (T := TX3) (N := 7) hx hb hts inGX3 hown hK hP 0 rfl rfl 1 (by decide) (hts _ mw_1_128) (fun _ h9 => h9) rfl dX3_bestOpen_41 ?_
      refine lv_iload hx hb dX3_bestOpen_44 (lv_at hl 0 rfl) ?_
      refine va_put (ci := 0) (v := .int (nI k)) (ty := .int) (C := RX0) (T := TX0) (N := 11) hx hb hts inGX0 tyX0 tyX0_ok nmX0 hown hK hP hD hS 6 rfl rfl 2 (by decide) (hts _ mw_1_28) (fun _ h9 => h9) rfl (by decide +kernel) rfl rfl (Nat.le_of_ble_eq_true rfl) dX3_bestOpen_46 (fun H locs hP hD hS => ?_)
      have hP : va_P G.1 vwCl [(me, .inr (3, [.ref o, .ref ou, .ref oh, .ref os, .ref op, .int kc, .int sv])), (o, dO r ab af an aw), (ab, .inl (gI G, 1920, .inl (dB r))), (af, .inl (gI G, 120, .inl (dF r))), (an, .inl (gI G, 120, .inl (dN r))), (aw, .inl (gI G, 7, .inl (dW r))), (ou, .inr (0, [.int (r 0), .int (r 1), .int (nI k), .int (r 3), .int (r 4), .int (r 5), .int (r 6), .ref ub, .ref uf, .ref un, .ref uw])), (ub, .inl (gI G, 1920, .inl (dB r))), (uf, .inl (gI G, 120, .inl (dF r))), (un, .inl (gI G, 120, .inl (dN r))), (uw, .inl (gI G, 7, .inl (dW r)))] H := hP
      have hD : va_D A [(me, .inr (3, [.ref o, .ref ou, .ref oh, .ref os, .ref op, .int kc, .int sv])), (o, dO r ab af an aw), (ab, .inl (gI G, 1920, .inl (dB r))), (af, .inl (gI G, 120, .inl (dF r))), (an, .inl (gI G, 120, .inl (dN r))), (aw, .inl (gI G, 7, .inl (dW r))), (ou, .inr (0, [.int (r 0), .int (r 1), .int (nI k), .int (r 3), .int (r 4), .int (r 5), .int (r 6), .ref ub, .ref uf, .ref un, .ref uw])), (ub, .inl (gI G, 1920, .inl (dB r))), (uf, .inl (gI G, 120, .inl (dF r))), (un, .inl (gI G, 120, .inl (dN r))), (uw, .inl (gI G, 7, .inl (dW r)))] := hD
      have hw_1 : ([(me, .inr (3, [.ref o, .ref ou, .ref oh, .ref os, .ref op, .int kc, .int sv])), (o, dO r ab af an aw), (ab, .inl (gI G, 1920, .inl (dB r))), (af, .inl (gI G, 120, .inl (dF r))), (an, .inl (gI G, 120, .inl (dN r))), (aw, .inl (gI G, 7, .inl (dW r))), (ou, .inr (0, [.int (r 0), .int (r 1), .int (nI k), .int (r 3), .int (r 4), .int (r 5), .int (r 6), .ref ub, .ref uf, .ref un, .ref uw])), (ub, .inl (gI G, 1920, .inl (dB r))), (uf, .inl (gI G, 120, .inl (dF r))), (un, .inl (gI G, 120, .inl (dN r))), (uw, .inl (gI G, 7, .inl (dW r)))] : va_W) = [(me, .inr (3, [.ref o, .ref ou, .ref oh, .ref os, .ref op, .int kc, .int sv])), (o, dO r ab af an aw), (ab, .inl (gI G, 1920, .inl (dB r))), (af, .inl (gI G, 120, .inl (dF r))), (an, .inl (gI G, 120, .inl (dN r))), (aw, .inl (gI G, 7, .inl (dW r))), (ou, dO (upd r 2 (nI k)) ub uf un uw), (ub, .inl (gI G, 1920, .inl (dB (upd r 2 (nI k))))), (uf, .inl (gI G, 120, .inl (dF (upd r 2 (nI k))))), (un, .inl (gI G, 120, .inl (dN (upd r 2 (nI k))))), (uw, .inl (gI G, 7, .inl (dW (upd r 2 (nI k)))))] := (wlc rfl (wlc rfl (wlc rfl (wlc rfl (wlc rfl (wlc rfl (wlc (rfl) (wlc (wli (dB_e (fun q9 hq9 => upd_n (by omega))).symm) (wlc (wli (dF_e (fun q9 hq9 => upd_n (by omega))).symm) (wlc (wli (dN_e (fun q9 hq9 => ⟨upd_n (by omega), upd_n (by omega)⟩)).symm) (wlc (wli (dW_e (fun q9 hq9 => upd_n (by omega))).symm) rfl)))))))))))
      rw [hw_1] at hP hD
      refine lv_aload_n hx hb dX3_bestOpen_49 rfl (lv_at hl 3 rfl) ?_
      refine va_get (ci := 3) (v := .ref ou) (C := RX3) (T := TX3) (N := 7) hx hb hts inGX3 hown hK hP 0 rfl rfl 1 (by decide) (hts _ mw_1_128) (fun _ h9 => h9) rfl dX3_bestOpen_50 ?_
      refine k_rvV (ci := 0) (q0 := 6) (As := []) (rest := []) (wr := [(me, .inr (3, [.ref o, .ref ou, .ref oh, .ref os, .ref op, .int kc, .int sv])), (o, dO r ab af an aw), (ab, .inl (gI G, 1920, .inl (dB r))), (af, .inl (gI G, 120, .inl (dF r))), (an, .inl (gI G, 120, .inl (dN r))), (aw, .inl (gI G, 7, .inl (dW r)))]) hF (c_X0_foldSurplus l G _ ou ub uf un uw (upd r 2 (nI k)) (hB2) (hC2)) ⟨_, rfl, rfl⟩ rfl rfl mw_1_184 mw_1_185 mw_1_186 mw_1_2 mw_1_187 hd_X0_foldSurplus ⟨Nat.le_of_ble_eq_true rfl, Nat.le_of_ble_eq_true rfl⟩ hKx hZ hS hP hD hA [6, 7, 8, 9, 10] [0, 1, 2, 3, 4, 5] rfl rfl (by decide) (by decide) (by decide) rfl rfl hl.1 rfl (Nat.le_of_ble_eq_true rfl) dX3_bestOpen_53 ⟨Nat.zero_le _, Nat.zero_le _⟩ (fun H locs hP hD hS => ?_)
      have hP : va_P G.1 vwCl [(me, .inr (3, [.ref o, .ref ou, .ref oh, .ref os, .ref op, .int kc, .int sv])), (o, dO r ab af an aw), (ab, .inl (gI G, 1920, .inl (dB r))), (af, .inl (gI G, 120, .inl (dF r))), (an, .inl (gI G, 120, .inl (dN r))), (aw, .inl (gI G, 7, .inl (dW r))), (ou, dO (fga (upd r 2 (nI k))) ub uf un uw), (ub, .inl (gI G, 1920, .inl (dB (fga (upd r 2 (nI k)))))), (uf, .inl (gI G, 120, .inl (dF (fga (upd r 2 (nI k)))))), (un, .inl (gI G, 120, .inl (dN (fga (upd r 2 (nI k)))))), (uw, .inl (gI G, 7, .inl (dW (fga (upd r 2 (nI k))))))] H := hP
      have hD : va_D A [(me, .inr (3, [.ref o, .ref ou, .ref oh, .ref os, .ref op, .int kc, .int sv])), (o, dO r ab af an aw), (ab, .inl (gI G, 1920, .inl (dB r))), (af, .inl (gI G, 120, .inl (dF r))), (an, .inl (gI G, 120, .inl (dN r))), (aw, .inl (gI G, 7, .inl (dW r))), (ou, dO (fga (upd r 2 (nI k))) ub uf un uw), (ub, .inl (gI G, 1920, .inl (dB (fga (upd r 2 (nI k)))))), (uf, .inl (gI G, 120, .inl (dF (fga (upd r 2 (nI k)))))), (un, .inl (gI G, 120, .inl (dN (fga (upd r 2 (nI k)))))), (uw, .inl (gI G, 7, .inl (dW (fga (upd r 2 (nI k))))))] := hD
      refine lv_aload_n hx hb dX3_bestOpen_56 rfl (lv_at hl 3 rfl) ?_
      refine va_get (ci := 3) (v := .ref ou) (C := RX3) (T := TX3) (N := 7) hx hb hts inGX3 hown hK hP 0 rfl rfl 1 (by decide) (hts _ mw_1_128) (fun _ h9 => h9) rfl dX3_bestOpen_57 ?_
      refine lv_iload_n hx hb dX3_bestOpen_60 rfl (lv_at hl 4 rfl) ?_
      refine lv_iload_n hx hb dX3_bestOpen_61 rfl (lv_at hl 5 rfl) ?_
      refine k_rvV (ci := 0) (q0 := 6) (As := [.int (nI f), .int (nI t)]) (rest := []) (wr := [(me, .inr (3, [.ref o, .ref ou, .ref oh, .ref os, .ref op, .int kc, .int sv])), (o, dO r ab af an aw), (ab, .inl (gI G, 1920, .inl (dB r))), (af, .inl (gI G, 120, .inl (dF r))), (an, .inl (gI G, 120, .inl (dN r))), (aw, .inl (gI G, 7, .inl (dW r)))]) hF (c_X0_lookAtMonths l G _ ou ub uf un uw (fga (upd r 2 (nI k))) f t (by omega) (by omega) (hC3)) ⟨_, rfl, rfl⟩ rfl rfl mw_2_120 mw_2_121 mw_2_122 mw_1_2 mw_2_123 hd_X0_lookAtMonths ⟨Nat.le_of_ble_eq_true rfl, Nat.le_of_ble_eq_true rfl⟩ hKx hZ hS hP hD hA [6, 7, 8, 9, 10] [0, 1, 2, 3, 4, 5] rfl rfl (by decide) (by decide) (by decide) rfl rfl hl.1 rfl (Nat.le_of_ble_eq_true rfl) dX3_bestOpen_62 ⟨Nat.zero_le _, Nat.zero_le _⟩ (fun H locs hP hD hS => ?_)
      have hP : va_P G.1 vwCl [(me, .inr (3, [.ref o, .ref ou, .ref oh, .ref os, .ref op, .int kc, .int sv])), (o, dO r ab af an aw), (ab, .inl (gI G, 1920, .inl (dB r))), (af, .inl (gI G, 120, .inl (dF r))), (an, .inl (gI G, 120, .inl (dN r))), (aw, .inl (gI G, 7, .inl (dW r))), (ou, dO (lkk (fga (upd r 2 (nI k))) (mot f) (mot t + 1 - mot f)) ub uf un uw), (ub, .inl (gI G, 1920, .inl (dB (lkk (fga (upd r 2 (nI k))) (mot f) (mot t + 1 - mot f))))), (uf, .inl (gI G, 120, .inl (dF (lkk (fga (upd r 2 (nI k))) (mot f) (mot t + 1 - mot f))))), (un, .inl (gI G, 120, .inl (dN (lkk (fga (upd r 2 (nI k))) (mot f) (mot t + 1 - mot f))))), (uw, .inl (gI G, 7, .inl (dW (lkk (fga (upd r 2 (nI k))) (mot f) (mot t + 1 - mot f)))))] H := hP
      have hD : va_D A [(me, .inr (3, [.ref o, .ref ou, .ref oh, .ref os, .ref op, .int kc, .int sv])), (o, dO r ab af an aw), (ab, .inl (gI G, 1920, .inl (dB r))), (af, .inl (gI G, 120, .inl (dF r))), (an, .inl (gI G, 120, .inl (dN r))), (aw, .inl (gI G, 7, .inl (dW r))), (ou, dO (lkk (fga (upd r 2 (nI k))) (mot f) (mot t + 1 - mot f)) ub uf un uw), (ub, .inl (gI G, 1920, .inl (dB (lkk (fga (upd r 2 (nI k))) (mot f) (mot t + 1 - mot f))))), (uf, .inl (gI G, 120, .inl (dF (lkk (fga (upd r 2 (nI k))) (mot f) (mot t + 1 - mot f))))), (un, .inl (gI G, 120, .inl (dN (lkk (fga (upd r 2 (nI k))) (mot f) (mot t + 1 - mot f))))), (uw, .inl (gI G, 7, .inl (dW (lkk (fga (upd r 2 (nI k))) (mot f) (mot t + 1 - mot f)))))] := hD
      refine lv_aload_n hx hb dX3_bestOpen_65 rfl (lv_at hl 3 rfl) ?_
      refine va_get (ci := 3) (v := .ref ou) (C := RX3) (T := TX3) (N := 7) hx hb hts inGX3 hown hK hP 0 rfl rfl 1 (by decide) (hts _ mw_1_128) (fun _ h9 => h9) rfl dX3_bestOpen_66 ?_
      refine lv_iload_n hx hb dX3_bestOpen_69 rfl (lv_at hl 4 rfl) ?_
      refine lv_iload_n hx hb dX3_bestOpen_70 rfl (lv_at hl 5 rfl) ?_
      refine k_rvV (ci := 0) (q0 := 6) (As := [.int (nI f), .int (nI t)]) (rest := []) (wr := [(me, .inr (3, [.ref o, .ref ou, .ref oh, .ref os, .ref op, .int kc, .int sv])), (o, dO r ab af an aw), (ab, .inl (gI G, 1920, .inl (dB r))), (af, .inl (gI G, 120, .inl (dF r))), (an, .inl (gI G, 120, .inl (dN r))), (aw, .inl (gI G, 7, .inl (dW r)))]) hF (c_X0_lookAtMonths l G _ ou ub uf un uw (lkk (fga (upd r 2 (nI k))) (mot f) (mot t + 1 - mot f)) f t (by omega) (by omega) (hC4)) ⟨_, rfl, rfl⟩ rfl rfl mw_2_120 mw_2_121 mw_2_122 mw_1_2 mw_2_123 hd_X0_lookAtMonths ⟨Nat.le_of_ble_eq_true rfl, Nat.le_of_ble_eq_true rfl⟩ hKx hZ hS hP hD hA [6, 7, 8, 9, 10] [0, 1, 2, 3, 4, 5] rfl rfl (by decide) (by decide) (by decide) rfl rfl hl.1 rfl (Nat.le_of_ble_eq_true rfl) dX3_bestOpen_71 ⟨Nat.zero_le _, Nat.zero_le _⟩ (fun H locs hP hD hS => ?_)
      have hP : va_P G.1 vwCl [(me, .inr (3, [.ref o, .ref ou, .ref oh, .ref os, .ref op, .int kc, .int sv])), (o, dO r ab af an aw), (ab, .inl (gI G, 1920, .inl (dB r))), (af, .inl (gI G, 120, .inl (dF r))), (an, .inl (gI G, 120, .inl (dN r))), (aw, .inl (gI G, 7, .inl (dW r))), (ou, dO (lkk (lkk (fga (upd r 2 (nI k))) (mot f) (mot t + 1 - mot f)) (mot f) (mot t + 1 - mot f)) ub uf un uw), (ub, .inl (gI G, 1920, .inl (dB (lkk (lkk (fga (upd r 2 (nI k))) (mot f) (mot t + 1 - mot f)) (mot f) (mot t + 1 - mot f))))), (uf, .inl (gI G, 120, .inl (dF (lkk (lkk (fga (upd r 2 (nI k))) (mot f) (mot t + 1 - mot f)) (mot f) (mot t + 1 - mot f))))), (un, .inl (gI G, 120, .inl (dN (lkk (lkk (fga (upd r 2 (nI k))) (mot f) (mot t + 1 - mot f)) (mot f) (mot t + 1 - mot f))))), (uw, .inl (gI G, 7, .inl (dW (lkk (lkk (fga (upd r 2 (nI k))) (mot f) (mot t + 1 - mot f)) (mot f) (mot t + 1 - mot f)))))] H := hP
      have hD : va_D A [(me, .inr (3, [.ref o, .ref ou, .ref oh, .ref os, .ref op, .int kc, .int sv])), (o, dO r ab af an aw), (ab, .inl (gI G, 1920, .inl (dB r))), (af, .inl (gI G, 120, .inl (dF r))), (an, .inl (gI G, 120, .inl (dN r))), (aw, .inl (gI G, 7, .inl (dW r))), (ou, dO (lkk (lkk (fga (upd r 2 (nI k))) (mot f) (mot t + 1 - mot f)) (mot f) (mot t + 1 - mot f)) ub uf un uw), (ub, .inl (gI G, 1920, .inl (dB (lkk (lkk (fga (upd r 2 (nI k))) (mot f) (mot t + 1 - mot f)) (mot f) (mot t + 1 - mot f))))), (uf, .inl (gI G, 120, .inl (dF (lkk (lkk (fga (upd r 2 (nI k))) (mot f) (mot t + 1 - mot f)) (mot f) (mot t + 1 - mot f))))), (un, .inl (gI G, 120, .inl (dN (lkk (lkk (fga (upd r 2 (nI k))) (mot f) (mot t + 1 - mot f)) (mot f) (mot t + 1 - mot f))))), (uw, .inl (gI G, 7, .inl (dW (lkk (lkk (fga (upd r 2 (nI k))) (mot f) (mot t + 1 - mot f)) (mot f) (mot t + 1 - mot f)))))] := hD
      refine lv_aload_n hx hb dX3_bestOpen_74 rfl (lv_at hl 3 rfl) ?_
      refine va_get (ci := 3) (v := .ref ou) (C := RX3) (T := TX3) (N := 7) hx hb hts inGX3 hown hK hP 0 rfl rfl 1 (by decide) (hts _ mw_1_128) (fun _ h9 => h9) rfl dX3_bestOpen_75 ?_
      refine va_get (ci := 0) (v := .int ((lkk (lkk (fga (upd r 2 (nI k))) (mot f) (mot t + 1 - mot f)) (mot f) (mot t + 1 - mot f)) 3)) (C := RX0) (T := TX0) (N := 11) hx hb hts inGX0 hown hK hP 6 rfl rfl 3 (by decide) (hts _ mw_1_29) (fun _ h9 => h9) rfl dX3_bestOpen_78 ?_
      refine lv_aload_n hx hb dX3_bestOpen_81 rfl (lv_at hl 3 rfl) ?_
      refine va_get (ci := 3) (v := .ref o) (C := RX3) (T := TX3) (N := 7) hx hb hts inGX3 hown hK hP 0 rfl rfl 0 (by decide) (hts _ mw_1_127) (fun _ h9 => h9) rfl dX3_bestOpen_82 ?_
      refine va_get (ci := 0) (v := .int (r 3)) (C := RX0) (T := TX0) (N := 11) hx hb hts inGX0 hown hK hP 1 rfl rfl 3 (by decide) (hts _ mw_1_29) (fun _ h9 => h9) rfl dX3_bestOpen_85 ?_
      refine lv_isub hx hb dX3_bestOpen_88 ?_
      refine lv_cv (y := bwk r f t k) (rfl) ?_
      refine lv_istore (lv' := [(7, .int (bwk r f t k)), (6, .int (nI k)), (5, .int (cl1 r f t k)), (4, .int (nI (cb1 r f t k))), (0, .ref me), (1, .int (nI f)), (2, .int (nI t))]) hx hb dX3_bestOpen_89 hl (by decide) rfl (fun ls hl => ?_)
      refine lv_iload hx hb dX3_bestOpen_91 (lv_at hl 0 rfl) ?_
      refine lv_iload hx hb dX3_bestOpen_93 (lv_at hl 2 rfl) ?_
      refine z_ge hx hb (tgt := 106) ((bwk r f t k).toInt) ((cl1 r f t k).toInt) dX3_bestOpen_95 (by decide) rfl rfl (fun c_95 => ?_) (fun c_95 => ?_)
      · skip
        refine lv_iinc (v := nI (k + 1)) (lv' := [(6, .int (nI (k + 1))), (7, .int (bwk r f t k)), (5, .int (cl1 r f t k)), (4, .int (nI (cb1 r f t k))), (0, .ref me), (1, .int (nI f)), (2, .int (nI t))]) hx hb dX3_bestOpen_106 hl (k := 1) rfl (nI_add _ _) (by decide) rfl (fun ls hl => ?_)
        refine lv_goto (tgt := 22) hx hb dX3_bestOpen_109 (by decide) ?_
        have w_2 : ([(me, .inr (3, [.ref o, .ref ou, .ref oh, .ref os, .ref op, .int kc, .int sv])), (o, dO r ab af an aw), (ab, .inl (gI G, 1920, .inl (dB r))), (af, .inl (gI G, 120, .inl (dF r))), (an, .inl (gI G, 120, .inl (dN r))), (aw, .inl (gI G, 7, .inl (dW r))), (ou, dO (lkk (lkk (fga (upd r 2 (nI k))) (mot f) (mot t + 1 - mot f)) (mot f) (mot t + 1 - mot f)) ub uf un uw), (ub, .inl (gI G, 1920, .inl (dB (lkk (lkk (fga (upd r 2 (nI k))) (mot f) (mot t + 1 - mot f)) (mot f) (mot t + 1 - mot f))))), (uf, .inl (gI G, 120, .inl (dF (lkk (lkk (fga (upd r 2 (nI k))) (mot f) (mot t + 1 - mot f)) (mot f) (mot t + 1 - mot f))))), (un, .inl (gI G, 120, .inl (dN (lkk (lkk (fga (upd r 2 (nI k))) (mot f) (mot t + 1 - mot f)) (mot f) (mot t + 1 - mot f))))), (uw, .inl (gI G, 7, .inl (dW (lkk (lkk (fga (upd r 2 (nI k))) (mot f) (mot t + 1 - mot f)) (mot f) (mot t + 1 - mot f)))))] : va_W) = [(me, .inr (3, [.ref o, .ref ou, .ref oh, .ref os, .ref op, .int kc, .int sv])), (o, dO r ab af an aw), (ab, .inl (gI G, 1920, .inl (dB r))), (af, .inl (gI G, 120, .inl (dF r))), (an, .inl (gI G, 120, .inl (dN r))), (aw, .inl (gI G, 7, .inl (dW r))), (ou, dO (tbo r rt f t (k + 1)) ub uf un uw), (ub, .inl (gI G, 1920, .inl (dB (tbo r rt f t (k + 1))))), (uf, .inl (gI G, 120, .inl (dF (tbo r rt f t (k + 1))))), (un, .inl (gI G, 120, .inl (dN (tbo r rt f t (k + 1))))), (uw, .inl (gI G, 7, .inl (dW (tbo r rt f t (k + 1)))))] := (wlc (rfl) (wlc (rfl) (wlc (rfl) (wlc (rfl) (wlc (rfl) (wlc (rfl) (wlc (rfl) (wlc (rfl) (wlc (rfl) (wlc (rfl) (wlc (rfl) rfl)))))))))))
        have hPj := hP.sub (ws' := [(me, .inr (3, [.ref o, .ref ou, .ref oh, .ref os, .ref op, .int kc, .int sv])), (o, dO r ab af an aw), (ab, .inl (gI G, 1920, .inl (dB r))), (af, .inl (gI G, 120, .inl (dF r))), (an, .inl (gI G, 120, .inl (dN r))), (aw, .inl (gI G, 7, .inl (dW r))), (ou, dO (lkk (lkk (fga (upd r 2 (nI k))) (mot f) (mot t + 1 - mot f)) (mot f) (mot t + 1 - mot f)) ub uf un uw), (ub, .inl (gI G, 1920, .inl (dB (lkk (lkk (fga (upd r 2 (nI k))) (mot f) (mot t + 1 - mot f)) (mot f) (mot t + 1 - mot f))))), (uf, .inl (gI G, 120, .inl (dF (lkk (lkk (fga (upd r 2 (nI k))) (mot f) (mot t + 1 - mot f)) (mot f) (mot t + 1 - mot f))))), (un, .inl (gI G, 120, .inl (dN (lkk (lkk (fga (upd r 2 (nI k))) (mot f) (mot t + 1 - mot f)) (mot f) (mot t + 1 - mot f))))), (uw, .inl (gI G, 7, .inl (dW (lkk (lkk (fga (upd r 2 (nI k))) (mot f) (mot t + 1 - mot f)) (mot f) (mot t + 1 - mot f)))))]) [0, 1, 2, 3, 4, 5, 6, 7, 8, 9, 10] rfl
        have hDj := hD.sub (ws' := [(me, .inr (3, [.ref o, .ref ou, .ref oh, .ref os, .ref op, .int kc, .int sv])), (o, dO r ab af an aw), (ab, .inl (gI G, 1920, .inl (dB r))), (af, .inl (gI G, 120, .inl (dF r))), (an, .inl (gI G, 120, .inl (dN r))), (aw, .inl (gI G, 7, .inl (dW r))), (ou, dO (lkk (lkk (fga (upd r 2 (nI k))) (mot f) (mot t + 1 - mot f)) (mot f) (mot t + 1 - mot f)) ub uf un uw), (ub, .inl (gI G, 1920, .inl (dB (lkk (lkk (fga (upd r 2 (nI k))) (mot f) (mot t + 1 - mot f)) (mot f) (mot t + 1 - mot f))))), (uf, .inl (gI G, 120, .inl (dF (lkk (lkk (fga (upd r 2 (nI k))) (mot f) (mot t + 1 - mot f)) (mot f) (mot t + 1 - mot f))))), (un, .inl (gI G, 120, .inl (dN (lkk (lkk (fga (upd r 2 (nI k))) (mot f) (mot t + 1 - mot f)) (mot f) (mot t + 1 - mot f))))), (uw, .inl (gI G, 7, .inl (dW (lkk (lkk (fga (upd r 2 (nI k))) (mot f) (mot t + 1 - mot f)) (mot f) (mot t + 1 - mot f)))))]) [0, 1, 2, 3, 4, 5, 6, 7, 8, 9, 10] (by decide) rfl
        rw [w_2] at hPj hDj
        exact ih (k + 1) _ _ ls (by omega) ⟨(by omega), hPj, hDj, hS, lv_sub hl [0, 2, 3, 4, 5, 6] (lvr (lvc (by first | exact (hro.1 (by omega)).2.symm | exact (hro.2 (by omega)).2.symm) (lvc (by first | exact congrArg nI (hro.1 (by omega)).1.symm | exact congrArg nI (hro.2 (by omega)).1.symm) (lvr (lvr (lvr rfl))))))⟩
      · skip
        refine lv_iload hx hb dX3_bestOpen_98 (lv_at hl 0 rfl) ?_
        refine lv_istore (lv' := [(5, .int (bwk r f t k)), (7, .int (bwk r f t k)), (6, .int (nI k)), (4, .int (nI (cb1 r f t k))), (0, .ref me), (1, .int (nI f)), (2, .int (nI t))]) hx hb dX3_bestOpen_100 hl (by decide) rfl (fun ls hl => ?_)
        refine lv_iload hx hb dX3_bestOpen_102 (lv_at hl 2 rfl) ?_
        refine lv_istore (lv' := [(4, .int (nI k)), (5, .int (bwk r f t k)), (7, .int (bwk r f t k)), (6, .int (nI k)), (0, .ref me), (1, .int (nI f)), (2, .int (nI t))]) hx hb dX3_bestOpen_104 hl (by decide) rfl (fun ls hl => ?_)
        refine lv_iinc (v := nI (k + 1)) (lv' := [(6, .int (nI (k + 1))), (4, .int (nI k)), (5, .int (bwk r f t k)), (7, .int (bwk r f t k)), (0, .ref me), (1, .int (nI f)), (2, .int (nI t))]) hx hb dX3_bestOpen_106 hl (k := 3) rfl (nI_add _ _) (by decide) rfl (fun ls hl => ?_)
        refine lv_goto (tgt := 22) hx hb dX3_bestOpen_109 (by decide) ?_
        have w_3 : ([(me, .inr (3, [.ref o, .ref ou, .ref oh, .ref os, .ref op, .int kc, .int sv])), (o, dO r ab af an aw), (ab, .inl (gI G, 1920, .inl (dB r))), (af, .inl (gI G, 120, .inl (dF r))), (an, .inl (gI G, 120, .inl (dN r))), (aw, .inl (gI G, 7, .inl (dW r))), (ou, dO (lkk (lkk (fga (upd r 2 (nI k))) (mot f) (mot t + 1 - mot f)) (mot f) (mot t + 1 - mot f)) ub uf un uw), (ub, .inl (gI G, 1920, .inl (dB (lkk (lkk (fga (upd r 2 (nI k))) (mot f) (mot t + 1 - mot f)) (mot f) (mot t + 1 - mot f))))), (uf, .inl (gI G, 120, .inl (dF (lkk (lkk (fga (upd r 2 (nI k))) (mot f) (mot t + 1 - mot f)) (mot f) (mot t + 1 - mot f))))), (un, .inl (gI G, 120, .inl (dN (lkk (lkk (fga (upd r 2 (nI k))) (mot f) (mot t + 1 - mot f)) (mot f) (mot t + 1 - mot f))))), (uw, .inl (gI G, 7, .inl (dW (lkk (lkk (fga (upd r 2 (nI k))) (mot f) (mot t + 1 - mot f)) (mot f) (mot t + 1 - mot f)))))] : va_W) = [(me, .inr (3, [.ref o, .ref ou, .ref oh, .ref os, .ref op, .int kc, .int sv])), (o, dO r ab af an aw), (ab, .inl (gI G, 1920, .inl (dB r))), (af, .inl (gI G, 120, .inl (dF r))), (an, .inl (gI G, 120, .inl (dN r))), (aw, .inl (gI G, 7, .inl (dW r))), (ou, dO (tbo r rt f t (k + 1)) ub uf un uw), (ub, .inl (gI G, 1920, .inl (dB (tbo r rt f t (k + 1))))), (uf, .inl (gI G, 120, .inl (dF (tbo r rt f t (k + 1))))), (un, .inl (gI G, 120, .inl (dN (tbo r rt f t (k + 1))))), (uw, .inl (gI G, 7, .inl (dW (tbo r rt f t (k + 1)))))] := (wlc (rfl) (wlc (rfl) (wlc (rfl) (wlc (rfl) (wlc (rfl) (wlc (rfl) (wlc (rfl) (wlc (rfl) (wlc (rfl) (wlc (rfl) (wlc (rfl) rfl)))))))))))
        have hPj := hP.sub (ws' := [(me, .inr (3, [.ref o, .ref ou, .ref oh, .ref os, .ref op, .int kc, .int sv])), (o, dO r ab af an aw), (ab, .inl (gI G, 1920, .inl (dB r))), (af, .inl (gI G, 120, .inl (dF r))), (an, .inl (gI G, 120, .inl (dN r))), (aw, .inl (gI G, 7, .inl (dW r))), (ou, dO (lkk (lkk (fga (upd r 2 (nI k))) (mot f) (mot t + 1 - mot f)) (mot f) (mot t + 1 - mot f)) ub uf un uw), (ub, .inl (gI G, 1920, .inl (dB (lkk (lkk (fga (upd r 2 (nI k))) (mot f) (mot t + 1 - mot f)) (mot f) (mot t + 1 - mot f))))), (uf, .inl (gI G, 120, .inl (dF (lkk (lkk (fga (upd r 2 (nI k))) (mot f) (mot t + 1 - mot f)) (mot f) (mot t + 1 - mot f))))), (un, .inl (gI G, 120, .inl (dN (lkk (lkk (fga (upd r 2 (nI k))) (mot f) (mot t + 1 - mot f)) (mot f) (mot t + 1 - mot f))))), (uw, .inl (gI G, 7, .inl (dW (lkk (lkk (fga (upd r 2 (nI k))) (mot f) (mot t + 1 - mot f)) (mot f) (mot t + 1 - mot f)))))]) [0, 1, 2, 3, 4, 5, 6, 7, 8, 9, 10] rfl
        have hDj := hD.sub (ws' := [(me, .inr (3, [.ref o, .ref ou, .ref oh, .ref os, .ref op, .int kc, .int sv])), (o, dO r ab af an aw), (ab, .inl (gI G, 1920, .inl (dB r))), (af, .inl (gI G, 120, .inl (dF r))), (an, .inl (gI G, 120, .inl (dN r))), (aw, .inl (gI G, 7, .inl (dW r))), (ou, dO (lkk (lkk (fga (upd r 2 (nI k))) (mot f) (mot t + 1 - mot f)) (mot f) (mot t + 1 - mot f)) ub uf un uw), (ub, .inl (gI G, 1920, .inl (dB (lkk (lkk (fga (upd r 2 (nI k))) (mot f) (mot t + 1 - mot f)) (mot f) (mot t + 1 - mot f))))), (uf, .inl (gI G, 120, .inl (dF (lkk (lkk (fga (upd r 2 (nI k))) (mot f) (mot t + 1 - mot f)) (mot f) (mot t + 1 - mot f))))), (un, .inl (gI G, 120, .inl (dN (lkk (lkk (fga (upd r 2 (nI k))) (mot f) (mot t + 1 - mot f)) (mot f) (mot t + 1 - mot f))))), (uw, .inl (gI G, 7, .inl (dW (lkk (lkk (fga (upd r 2 (nI k))) (mot f) (mot t + 1 - mot f)) (mot f) (mot t + 1 - mot f)))))]) [0, 1, 2, 3, 4, 5, 6, 7, 8, 9, 10] (by decide) rfl
        rw [w_3] at hPj hDj
        exact ih (k + 1) _ _ ls (by omega) ⟨(by omega), hPj, hDj, hS, lv_sub hl [0, 2, 1, 4, 5, 6] (lvr (lvc (by first | exact (hro.1 (by omega)).2.symm | exact (hro.2 (by omega)).2.symm) (lvc (by first | exact congrArg nI (hro.1 (by omega)).1.symm | exact congrArg nI (hro.2 (by omega)).1.symm) (lvr (lvr (lvr rfl))))))⟩
  · skip
    exact absurd c_7 (by decide)
set_option maxHeartbeats 4000000 in
set_option maxRecDepth 100000 in
theorem c_X3_bestOpen_e (l : Launch) (G : gT) (me : Nat) (o : Nat) (ou : Nat) (oh : Nat) (os : Nat) (op : Nat) (kc : Int32) (sv : Int32) (ab : Nat) (af : Nat) (an : Nat) (aw : Nat) (x : Int32) (F : Int) (y : Int32) (T : Int) (hF1 : x.toInt = F) (hT1 : y.toInt = T) (he : ¬ (eDy True F T).toInt = 0) : Ro l G yX3_bestOpen cX3_bestOpen 8 (some .int) 9 [(me, .inr (3, [.ref o, .ref ou, .ref oh, .ref os, .ref op, .int kc, .int sv]))] [.ref me, .int x, .int y] (eDy True F T) := by
  refine Ro.mk (by decide) (Nat.le_of_ble_eq_true rfl) (fun pq eq sq mq bq tq cq ls hr hlk hF hKx hZ hP hl => ?_)
  have hx := hF.1
  have hb := hF.2.1
  have hml := hF.2.2.1
  have hown : sq.vm.findClass RX3 = some mq.cls := hF.2.2.2.1
  have hts : ∀ w ∈ GW, w.before _ sq = true := hF.2.2.2.2
  have hK := hKx.1
  have hl : lv_has ls 8 [(0, .ref me), (1, .int x), (2, .int y)] := hl
  have hS : va_S (fun _ => False) sq.heap sq.heap [] := va_S.rf
  have hP : va_P G.1 vwCl [(me, .inr (3, [.ref o, .ref ou, .ref oh, .ref os, .ref op, .int kc, .int sv]))] sq.heap := hP
  refine lv_iload_n hx hb dX3_bestOpen_0 rfl (lv_at hl 1 rfl) ?_
  refine lv_iload_n hx hb dX3_bestOpen_1 rfl (lv_at hl 2 rfl) ?_
  refine k_roS (As := [.int x, .int y]) (rest := []) hF (c_X3_spanError l G x F y T hF1 hT1) mw_2_34 mw_2_35 mw_1_1 mw_2_36 hd_X3_spanError ⟨Nat.le_of_ble_eq_true rfl, Nat.le_of_ble_eq_true rfl⟩ (Rd.of hKx hZ hS) (hP.sub (ws' := []) [] rfl) rfl hl.1 rfl (Nat.le_of_ble_eq_true rfl) dX3_bestOpen_2 ⟨Nat.zero_le _, Nat.zero_le _⟩ ?_
  refine lv_istore_n (lv' := [(3, .int (eDy True F T)), (0, .ref me), (1, .int x), (2, .int y)]) hx hb dX3_bestOpen_5 rfl hl (by decide) rfl (fun ls hl => ?_)
  refine lv_iload_n hx hb dX3_bestOpen_6 rfl (lv_at hl 0 rfl) ?_
  refine z0_eq hx hb (tgt := 12) ((eDy True F T).toInt) dX3_bestOpen_7 (by decide) rfl (fun c_7 => ?_) (fun c_7 => ?_)
  · skip
    exact absurd c_7 he
  · skip
    refine lv_iload_n hx hb dX3_bestOpen_10 rfl (lv_at hl 0 rfl) ?_
    exact e_ri hx hb hr hlk (rfl) dX3_bestOpen_11
set_option maxHeartbeats 4000000 in
set_option maxRecDepth 100000 in
theorem c_X3_passError (l : Launch) (G : gT) (me : Nat) (o : Nat) (ou : Nat) (oh : Nat) (os : Nat) (op : Nat) (kc : Int32) (sv : Int32) (ab : Nat) (af : Nat) (an : Nat) (aw : Nat) (r : Nat → Int32) (x : Int32) (X : Int) (hX : x.toInt = X) (h0 : r 0 = nI (td r)) (ht : td r < 3650) : Ro l G yX3_passError cX3_passError 2 (some .int) 2 [(me, .inr (3, [.ref o, .ref ou, .ref oh, .ref os, .ref op, .int kc, .int sv])), (o, dO r ab af an aw), (ab, .inl (gI G, 1920, .inl (dB r))), (af, .inl (gI G, 120, .inl (dF r))), (an, .inl (gI G, 120, .inl (dN r))), (aw, .inl (gI G, 7, .inl (dW r)))] [.ref me, .int x] (ePs X ((td r : Nat) : Int)) := by
  refine Ro.mk (by decide) (Nat.le_of_ble_eq_true rfl) (fun pq eq sq mq bq tq cq ls hr hlk hF hKx hZ hP hl => ?_)
  have hx := hF.1
  have hb := hF.2.1
  have hml := hF.2.2.1
  have hown : sq.vm.findClass RX3 = some mq.cls := hF.2.2.2.1
  have hts : ∀ w ∈ GW, w.before _ sq = true := hF.2.2.2.2
  have hK := hKx.1
  have hl : lv_has ls 2 [(0, .ref me), (1, .int x)] := hl
  have hS : va_S (fun _ => False) sq.heap sq.heap [] := va_S.rf
  have hP : va_P G.1 vwCl [(me, .inr (3, [.ref o, .ref ou, .ref oh, .ref os, .ref op, .int kc, .int sv])), (o, dO r ab af an aw), (ab, .inl (gI G, 1920, .inl (dB r))), (af, .inl (gI G, 120, .inl (dF r))), (an, .inl (gI G, 120, .inl (dN r))), (aw, .inl (gI G, 7, .inl (dW r)))] sq.heap := hP
  refine lv_iload_n hx hb dX3_passError_0 rfl (lv_at hl 1 rfl) ?_
  refine lv_iconst (v := nI 1) hx hb dX3_passError_1 (by decide) ?_
  refine z_lt hx hb (tgt := 12) X 1 dX3_passError_2 (by decide) hX (by decide) (fun c_2 => ?_) (fun c_2 => ?_)
  · skip
    refine lv_bipush (v := (-2)) hx hb dX3_passError_12 (by decide) ?_
    exact e_ri hx hb hr hlk (by unfold ePs; first | exact (cI_t (by omega)).symm | exact ((cI_f (by omega)).trans (cI_t (by omega))).symm | exact ((cI_f (by omega)).trans (cI_f (by omega))).symm) dX3_passError_14
  · skip
    refine lv_iload_n hx hb dX3_passError_5 rfl (lv_at hl 1 rfl) ?_
    refine lv_sipush (v := nI 400) hx hb dX3_passError_6 (by decide) ?_
    refine z_le hx hb (tgt := 15) X 400 dX3_passError_9 (by decide) hX (by decide) (fun c_9 => ?_) (fun c_9 => ?_)
    · skip
      obtain ⟨y, hy, rfl⟩ := nI_ex (N := 401) hX (by omega)
      have hX2 : (y : Int) = X := by rw [← hX, toI (by omega)]
      refine lv_aload_n hx hb dX3_passError_15 rfl (lv_at hl 0 rfl) ?_
      refine va_get (ci := 3) (v := .ref o) (C := RX3) (T := TX3) (N := 7) hx hb hts inGX3 hown hK hP 0 rfl rfl 0 (by decide) (hts _ mw_1_127) (fun _ h9 => h9) rfl dX3_passError_16 ?_
      refine va_get (ci := 0) (v := .int (r 0)) (C := RX0) (T := TX0) (N := 11) hx hb hts inGX0 hown hK hP 1 rfl rfl 0 (by decide) (hts _ mw_1_23) (fun _ h9 => h9) rfl dX3_passError_19 ?_
      refine lv_cv (y := nI (td r)) (h0) ?_
      refine lv_iload_n hx hb dX3_passError_22 rfl (lv_at hl 1 rfl) ?_
      refine n_iadd hx hb dX3_passError_23 ?_
      refine lv_sipush (v := nI 3649) hx hb dX3_passError_24 (by decide) ?_
      refine z_le hx hb (tgt := 35) ((td r + y : Nat) : Int) 3649 dX3_passError_27 (by decide) (toI (by omega)) (by decide) (fun c_27 => ?_) (fun c_27 => ?_)
      · skip
        refine lv_iconst (v := nI 0) hx hb dX3_passError_35 (by decide) ?_
        exact e_ri hx hb hr hlk (by unfold ePs; first | exact (cI_t (by omega)).symm | exact ((cI_f (by omega)).trans (cI_t (by omega))).symm | exact ((cI_f (by omega)).trans (cI_f (by omega))).symm) dX3_passError_36
      · skip
        refine lv_bipush (v := (-4)) hx hb dX3_passError_30 (by decide) ?_
        refine lv_goto (tgt := 36) hx hb dX3_passError_32 (by decide) ?_
        exact e_ri hx hb hr hlk (by unfold ePs; first | exact (cI_t (by omega)).symm | exact ((cI_f (by omega)).trans (cI_t (by omega))).symm | exact ((cI_f (by omega)).trans (cI_f (by omega))).symm) dX3_passError_36
    · skip
      refine lv_bipush (v := (-2)) hx hb dX3_passError_12 (by decide) ?_
      exact e_ri hx hb hr hlk (by unfold ePs; first | exact (cI_t (by omega)).symm | exact ((cI_f (by omega)).trans (cI_t (by omega))).symm | exact ((cI_f (by omega)).trans (cI_f (by omega))).symm) dX3_passError_14
set_option maxHeartbeats 4000000 in
set_option maxRecDepth 100000 in
theorem c_X3_changeError (l : Launch) (G : gT) (me : Nat) (o : Nat) (ou : Nat) (oh : Nat) (os : Nat) (op : Nat) (kc : Int32) (sv : Int32) (ab : Nat) (af : Nat) (an : Nat) (aw : Nat) (r : Nat → Int32) (w : Int32) (S0 : Int) (x : Int32) (F : Int) (y : Int32) (T : Int) (hw1 : w.toInt = S0) (hF1 : x.toInt = F) (hT1 : y.toInt = T) (h0 : r 0 = nI (td r)) (ht : td r < 3650) : Ro l G yX3_changeError cX3_changeError 5 (some .int) 5 [(me, .inr (3, [.ref o, .ref ou, .ref oh, .ref os, .ref op, .int kc, .int sv])), (o, dO r ab af an aw), (ab, .inl (gI G, 1920, .inl (dB r))), (af, .inl (gI G, 120, .inl (dF r))), (an, .inl (gI G, 120, .inl (dN r))), (aw, .inl (gI G, 7, .inl (dW r)))] [.ref me, .int w, .int x, .int y] (eMk (0 ≤ S0 ∧ S0 ≤ 15) F T ((td r : Nat) : Int)) := by
  refine Ro.mk (by decide) (Nat.le_of_ble_eq_true rfl) (fun pq eq sq mq bq tq cq ls hr hlk hF hKx hZ hP hl => ?_)
  have hx := hF.1
  have hb := hF.2.1
  have hml := hF.2.2.1
  have hown : sq.vm.findClass RX3 = some mq.cls := hF.2.2.2.1
  have hts : ∀ w ∈ GW, w.before _ sq = true := hF.2.2.2.2
  have hK := hKx.1
  have hl : lv_has ls 5 [(0, .ref me), (1, .int w), (2, .int x), (3, .int y)] := hl
  have hS : va_S (fun _ => False) sq.heap sq.heap [] := va_S.rf
  have hP : va_P G.1 vwCl [(me, .inr (3, [.ref o, .ref ou, .ref oh, .ref os, .ref op, .int kc, .int sv])), (o, dO r ab af an aw), (ab, .inl (gI G, 1920, .inl (dB r))), (af, .inl (gI G, 120, .inl (dF r))), (an, .inl (gI G, 120, .inl (dN r))), (aw, .inl (gI G, 7, .inl (dW r)))] sq.heap := hP
  refine lv_iload_n hx hb dX3_changeError_0 rfl (lv_at hl 1 rfl) ?_
  refine lv_iload_n hx hb dX3_changeError_1 rfl (lv_at hl 2 rfl) ?_
  refine lv_iload_n hx hb dX3_changeError_2 rfl (lv_at hl 3 rfl) ?_
  refine k_roS (As := [.int w, .int x, .int y]) (rest := []) hF (c_X3_subjectSpanError l G w S0 x F y T hw1 hF1 hT1) mw_2_28 mw_2_29 mw_1_1 mw_2_30 hd_X3_subjectSpanError ⟨Nat.le_of_ble_eq_true rfl, Nat.le_of_ble_eq_true rfl⟩ (Rd.of hKx hZ hS) (hP.sub (ws' := []) [] rfl) rfl hl.1 rfl (Nat.le_of_ble_eq_true rfl) dX3_changeError_3 ⟨Nat.zero_le _, Nat.zero_le _⟩ ?_
  refine lv_istore (lv' := [(4, .int (eDy (0 ≤ S0 ∧ S0 ≤ 15) F T)), (0, .ref me), (1, .int w), (2, .int x), (3, .int y)]) hx hb dX3_changeError_6 hl (by decide) rfl (fun ls hl => ?_)
  refine lv_iload hx hb dX3_changeError_8 (lv_at hl 0 rfl) ?_
  refine z0_eq hx hb (tgt := 16) ((eDy (0 ≤ S0 ∧ S0 ≤ 15) F T).toInt) dX3_changeError_10 (by decide) rfl (fun c_10 => ?_) (fun c_10 => ?_)
  · skip
    refine lv_iload_n hx hb dX3_changeError_16 rfl (lv_at hl 4 rfl) ?_
    refine lv_aload_n hx hb dX3_changeError_17 rfl (lv_at hl 1 rfl) ?_
    refine va_get (ci := 3) (v := .ref o) (C := RX3) (T := TX3) (N := 7) hx hb hts inGX3 hown hK hP 0 rfl rfl 0 (by decide) (hts _ mw_1_127) (fun _ h9 => h9) rfl dX3_changeError_18 ?_
    refine va_get (ci := 0) (v := .int (r 0)) (C := RX0) (T := TX0) (N := 11) hx hb hts inGX0 hown hK hP 1 rfl rfl 0 (by decide) (hts _ mw_1_23) (fun _ h9 => h9) rfl dX3_changeError_21 ?_
    refine lv_cv (y := nI (td r)) (h0) ?_
    refine z_le hx hb (tgt := 32) T ((td r : Nat) : Int) dX3_changeError_24 (by decide) hT1 (toI (by omega)) (fun c_24 => ?_) (fun c_24 => ?_)
    · skip
      refine lv_iconst (v := nI 0) hx hb dX3_changeError_32 (by decide) ?_
      exact e_ri hx hb hr hlk (by first | exact (eMk_l c_10 (by omega)).symm | exact (eMk_z c_10 (by omega)).symm) dX3_changeError_33
    · skip
      refine lv_bipush (v := (-5)) hx hb dX3_changeError_27 (by decide) ?_
      refine lv_goto (tgt := 33) hx hb dX3_changeError_29 (by decide) ?_
      exact e_ri hx hb hr hlk (by first | exact (eMk_l c_10 (by omega)).symm | exact (eMk_z c_10 (by omega)).symm) dX3_changeError_33
  · skip
    refine lv_iload hx hb dX3_changeError_13 (lv_at hl 0 rfl) ?_
    exact e_ri hx hb hr hlk ((eMk_d c_10).symm) dX3_changeError_15
set_option maxHeartbeats 4000000 in
set_option maxRecDepth 100000 in
theorem c_X3_wipe (l : Launch) (G : gT) (sz : Nat) (me : Nat) (o : Nat) (ou : Nat) (oh : Nat) (os : Nat) (op : Nat) (kc : Int32) (sv : Int32) (ab : Nat) (af : Nat) (an : Nat) (aw : Nat) (sg : Nat) (sp : Nat) (pl : Int32) (p2 : Int32) (p3 : Int32) (p4 : Int32)  : Rw l G yX3_wipe cX3_wipe 2 (some .int) 9 sz [(me, .inr (3, [.ref o, .ref ou, .ref oh, .ref os, .ref op, .int kc, .int sv])), (op, .inr (1, [.ref sg, .ref sp, .int pl, .int p2, .int p3, .int p4]))] [.ref me] pl [(me, .inr (3, [.ref o, .ref ou, .ref oh, .ref os, .ref op, .int kc, .int sv])), (op, .inr (1, [.ref sg, .ref sp, .int (nI 0), .int p2, .int p3, .int p4]))] := by
  refine Rw.mk (by decide) (Nat.le_of_ble_eq_true rfl) (fun pq eq sq mq bq tq cq ls A hr hlk hF hKx hZ hA hP hD hS hl => ?_)
  have hx := hF.1
  have hb := hF.2.1
  have hml := hF.2.2.1
  have hown : sq.vm.findClass RX3 = some mq.cls := hF.2.2.2.1
  have hts : ∀ w ∈ GW, w.before _ sq = true := hF.2.2.2.2
  have hK := hKx.1
  have hl : lv_has ls 2 [(0, .ref me)] := hl
  have hP : va_P G.1 vwCl [(me, .inr (3, [.ref o, .ref ou, .ref oh, .ref os, .ref op, .int kc, .int sv])), (op, .inr (1, [.ref sg, .ref sp, .int pl, .int p2, .int p3, .int p4]))] sq.heap := hP
  have hD : va_D A [(me, .inr (3, [.ref o, .ref ou, .ref oh, .ref os, .ref op, .int kc, .int sv])), (op, .inr (1, [.ref sg, .ref sp, .int pl, .int p2, .int p3, .int p4]))] := hD
  refine lv_aload_n hx hb dX3_wipe_0 rfl (lv_at hl 0 rfl) ?_
  refine va_get (ci := 3) (v := .ref op) (C := RX3) (T := TX3) (N := 7) hx hb hts inGX3 hown hK hP 0 rfl rfl 4 (by decide) (hts _ mw_1_131) (fun _ h9 => h9) rfl dX3_wipe_1 ?_
  refine va_get (ci := 1) (v := .int pl) (C := RX1) (T := TX1) (N := 6) hx hb hts inGX1 hown hK hP 1 rfl rfl 2 (by decide) (hts _ mw_1_108) (fun _ h9 => h9) rfl dX3_wipe_4 ?_
  refine lv_istore_n (lv' := [(1, .int pl), (0, .ref me)]) hx hb dX3_wipe_7 rfl hl (by decide) rfl (fun ls hl => ?_)
  refine lv_aload_n hx hb dX3_wipe_8 rfl (lv_at hl 1 rfl) ?_
  refine va_get (ci := 3) (v := .ref op) (C := RX3) (T := TX3) (N := 7) hx hb hts inGX3 hown hK hP 0 rfl rfl 4 (by decide) (hts _ mw_1_131) (fun _ h9 => h9) rfl dX3_wipe_9 ?_
  refine lv_iconst (v := nI 0) hx hb dX3_wipe_12 (by decide) ?_
  refine va_put (ci := 1) (v := .int (nI 0)) (ty := .int) (C := RX1) (T := TX1) (N := 6) hx hb hts inGX1 tyX1 tyX1_ok nmX1 hown hK hP hD hS 1 rfl rfl 2 (by decide) (hts _ mw_1_108) (fun _ h9 => h9) rfl (by decide +kernel) rfl rfl (Nat.le_of_ble_eq_true rfl) dX3_wipe_13 (fun H locs hP hD hS => ?_)
  have hP : va_P G.1 vwCl [(me, .inr (3, [.ref o, .ref ou, .ref oh, .ref os, .ref op, .int kc, .int sv])), (op, .inr (1, [.ref sg, .ref sp, .int (nI 0), .int p2, .int p3, .int p4]))] H := hP
  have hD : va_D A [(me, .inr (3, [.ref o, .ref ou, .ref oh, .ref os, .ref op, .int kc, .int sv])), (op, .inr (1, [.ref sg, .ref sp, .int (nI 0), .int p2, .int p3, .int p4]))] := hD
  refine lv_iload_n hx hb dX3_wipe_16 rfl (lv_at hl 0 rfl) ?_
  have hPj := hP.sub (ws' := [(me, .inr (3, [.ref o, .ref ou, .ref oh, .ref os, .ref op, .int kc, .int sv])), (op, .inr (1, [.ref sg, .ref sp, .int (nI 0), .int p2, .int p3, .int p4]))]) [0, 1] rfl
  exact e_wi hx hb hr hlk hPj hS (rfl) dX3_wipe_17
