theorem hd_X2_init : hdY yX2_init 0 := ⟨by decide +kernel, by decide +kernel, by decide +kernel⟩
theorem hd_X0_init : hdY yX0_init 0 := ⟨by decide +kernel, by decide +kernel, by decide +kernel⟩
set_option maxHeartbeats 4000000 in
set_option maxRecDepth 100000 in
theorem c_X2_init (l : Launch) (G : gT) (sz : Nat) (se : Nat)  : Rn l G yX2_init cX2_init 1 1 0 0 sz [(se, .inr (2, [.int 0, .int 0, .int 0, .int 0, .int 0]))] [.ref se] (fun ws9 => ws9 = [(se, .inr (2, [.int 0, .int 0, .int 0, .int 0, .int 0]))]) := by
  refine Rn.mk (by decide) rfl (Nat.le_of_ble_eq_true rfl) (fun pq eq sq mq bq tq cq ls A hr hlk hini hF hKy hZ hA hP hD hS hl => ?_)
  have hKx := hKy.1
  have hx := hF.1
  have hb := hF.2.1
  have hml := hF.2.2.1
  have hown : sq.vm.findClass RX2 = some mq.cls := hF.2.2.2.1
  have hts : ∀ w ∈ GW, w.before _ sq = true := hF.2.2.2.2
  have hK := hKx.1
  have hl : lv_has ls 1 [(0, .ref se)] := hl
  have hP : va_P G.1 vwCl [(se, .inr (2, [.int 0, .int 0, .int 0, .int 0, .int 0]))] sq.heap := hP
  have hD : va_D A [(se, .inr (2, [.int 0, .int 0, .int 0, .int 0, .int 0]))] := hD
  refine lv_aload_n hx hb dX2_init_0 rfl (lv_at hl 0 rfl) ?_
  refine W.objInit hx hb hown (hts _ mw_1_81) (hts _ mw_1_14) (hts _ mw_1_15) rfl (hml.trans hl.1.symm).symm rfl dX2_init_1 (Nat.le_of_ble_eq_true rfl) (Nat.le_of_ble_eq_true rfl) ?_
  refine W.eq (g2 := F0 mq 4 ls []) rfl ?_
  have hPj := hP.sub (ws' := [(se, .inr (2, [.int 0, .int 0, .int 0, .int 0, .int 0]))]) [0] rfl
  have hDj := hD.sub (ws' := [(se, .inr (2, [.int 0, .int 0, .int 0, .int 0, .int 0]))]) [0] (by decide) rfl
  exact e_nv hx hb hr hlk hPj hDj hS rfl (Nat.le_of_ble_eq_true rfl) (Nat.le_of_ble_eq_true rfl) dX2_init_4
set_option maxHeartbeats 4000000 in
set_option maxRecDepth 100000 in
theorem c_X0_init (l : Launch) (G : gT) (sz : Nat) (o : Nat)  : Rn l G yX0_init cX0_init 2 1 4 2167 sz [(o, .inr (0, [.int 0, .int 0, .int 0, .int 0, .int 0, .int 0, .int 0, .null, .null, .null, .null]))] [.ref o] (fun ws9 => ∃ (ab : Nat) (af : Nat) (an : Nat) (aw : Nat), ws9 = [(o, dO ini ab af an aw), (ab, .inl (gI G, 1920, .inl (dB ini))), (af, .inl (gI G, 120, .inl (dF ini))), (an, .inl (gI G, 120, .inl (dN ini))), (aw, .inl (gI G, 7, .inl (dW ini)))]) := by
  refine Rn.mk (by decide) rfl (Nat.le_of_ble_eq_true rfl) (fun pq eq sq mq bq tq cq ls A hr hlk hini hF hKy hZ hA hP hD hS hl => ?_)
  have hKx := hKy.1
  have hx := hF.1
  have hb := hF.2.1
  have hml := hF.2.2.1
  have hown : sq.vm.findClass RX0 = some mq.cls := hF.2.2.2.1
  have hts : ∀ w ∈ GW, w.before _ sq = true := hF.2.2.2.2
  have hK := hKx.1
  have hl : lv_has ls 2 [(0, .ref o)] := hl
  have hP : va_P G.1 vwCl [(o, .inr (0, [.int 0, .int 0, .int 0, .int 0, .int 0, .int 0, .int 0, .null, .null, .null, .null]))] sq.heap := hP
  have hD : va_D A [(o, .inr (0, [.int 0, .int 0, .int 0, .int 0, .int 0, .int 0, .int 0, .null, .null, .null, .null]))] := hD
  refine lv_aload_n hx hb dX0_init_0 rfl (lv_at hl 0 rfl) ?_
  refine W.objInit hx hb hown (hts _ mw_1_21) (hts _ mw_1_14) (hts _ mw_1_15) rfl (hml.trans hl.1.symm).symm rfl dX0_init_1 (Nat.le_of_ble_eq_true rfl) (Nat.le_of_ble_eq_true rfl) ?_
  refine W.eq (g2 := F0 mq 4 ls []) rfl ?_
  refine lv_aload_n hx hb dX0_init_4 rfl (lv_at hl 0 rfl) ?_
  refine lv_iconst (v := nI 2) hx hb dX0_init_5 (by decide) ?_
  refine va_put (ci := 0) (v := .int (nI 2)) (ty := .int) (C := RX0) (T := TX0) (N := 11) hx hb hts inGX0 tyX0 tyX0_ok nmX0 hown hK hP hD hS 0 rfl rfl 1 (by decide) (hts _ mw_1_24) (fun _ h9 => h9) rfl (by decide +kernel) rfl rfl (Nat.le_of_ble_eq_true rfl) dX0_init_6 (fun H locs hP hD hS => ?_)
  have hP : va_P G.1 vwCl [(o, .inr (0, [.int 0, .int (nI 2), .int 0, .int 0, .int 0, .int 0, .int 0, .null, .null, .null, .null]))] H := hP
  have hD : va_D A [(o, .inr (0, [.int 0, .int (nI 2), .int 0, .int 0, .int 0, .int 0, .int 0, .null, .null, .null, .null]))] := hD
  refine lv_aload_n hx hb dX0_init_9 rfl (lv_at hl 0 rfl) ?_
  refine lv_iconst (v := nI 2) hx hb dX0_init_10 (by decide) ?_
  refine va_put (ci := 0) (v := .int (nI 2)) (ty := .int) (C := RX0) (T := TX0) (N := 11) hx hb hts inGX0 tyX0 tyX0_ok nmX0 hown hK hP hD hS 0 rfl rfl 2 (by decide) (hts _ mw_1_26) (fun _ h9 => h9) rfl (by decide +kernel) rfl rfl (Nat.le_of_ble_eq_true rfl) dX0_init_11 (fun H locs hP hD hS => ?_)
  have hP : va_P G.1 vwCl [(o, .inr (0, [.int 0, .int (nI 2), .int (nI 2), .int 0, .int 0, .int 0, .int 0, .null, .null, .null, .null]))] H := hP
  have hD : va_D A [(o, .inr (0, [.int 0, .int (nI 2), .int (nI 2), .int 0, .int 0, .int 0, .int 0, .null, .null, .null, .null]))] := hD
  refine lv_aload_n hx hb dX0_init_14 rfl (lv_at hl 0 rfl) ?_
  refine lv_sipush (v := nI 1920) hx hb dX0_init_15 (by decide) ?_
  refine n_newI hx hb hKy (hts _ mw_1_67) hP hD hS hA (N := 1920) (by decide) (Nat.le_of_ble_eq_true rfl) (Nat.le_of_ble_eq_true rfl) dX0_init_18 (fun a1 H hP hD hS => ?_)
  have hP : va_P G.1 vwCl [(o, .inr (0, [.int 0, .int (nI 2), .int (nI 2), .int 0, .int 0, .int 0, .int 0, .null, .null, .null, .null])), (a1, .inl (gI G, 1920, .inl (fun _ => 0)))] H := hP
  have hD : va_D A [(o, .inr (0, [.int 0, .int (nI 2), .int (nI 2), .int 0, .int 0, .int 0, .int 0, .null, .null, .null, .null])), (a1, .inl (gI G, 1920, .inl (fun _ => 0)))] := hD
  refine va_putF (ci := 0) (v := .ref a1) (ty := .array .int) (C := RX0) (T := TX0) (N := 11) hx hb hts inGX0 tyX0 tyX0_ok nmX0 hown hK hP hD hS 0 rfl rfl 7 (by decide) (hts _ mw_1_36) (fun _ h9 => h9) rfl hini rfl (by decide +kernel) rfl rfl (Nat.le_of_ble_eq_true rfl) dX0_init_20 (fun H locs hP hD hS => ?_)
  have hP : va_P G.1 vwCl [(o, .inr (0, [.int 0, .int (nI 2), .int (nI 2), .int 0, .int 0, .int 0, .int 0, .ref a1, .null, .null, .null])), (a1, .inl (gI G, 1920, .inl (fun _ => 0)))] H := hP
  have hD : va_D A [(o, .inr (0, [.int 0, .int (nI 2), .int (nI 2), .int 0, .int 0, .int 0, .int 0, .ref a1, .null, .null, .null])), (a1, .inl (gI G, 1920, .inl (fun _ => 0)))] := hD
  refine lv_aload_n hx hb dX0_init_23 rfl (lv_at hl 0 rfl) ?_
  refine lv_bipush (v := nI 7) hx hb dX0_init_24 (by decide) ?_
  refine n_newI hx hb hKy (hts _ mw_1_67) hP hD hS hA (N := 7) (by decide) (Nat.le_of_ble_eq_true rfl) (Nat.le_of_ble_eq_true rfl) dX0_init_26 (fun a2 H hP hD hS => ?_)
  have hP : va_P G.1 vwCl [(o, .inr (0, [.int 0, .int (nI 2), .int (nI 2), .int 0, .int 0, .int 0, .int 0, .ref a1, .null, .null, .null])), (a1, .inl (gI G, 1920, .inl (fun _ => 0))), (a2, .inl (gI G, 7, .inl (fun _ => 0)))] H := hP
  have hD : va_D A [(o, .inr (0, [.int 0, .int (nI 2), .int (nI 2), .int 0, .int 0, .int 0, .int 0, .ref a1, .null, .null, .null])), (a1, .inl (gI G, 1920, .inl (fun _ => 0))), (a2, .inl (gI G, 7, .inl (fun _ => 0)))] := hD
  refine va_putF (ci := 0) (v := .ref a2) (ty := .array .int) (C := RX0) (T := TX0) (N := 11) hx hb hts inGX0 tyX0 tyX0_ok nmX0 hown hK hP hD hS 0 rfl rfl 10 (by decide) (hts _ mw_1_42) (fun _ h9 => h9) rfl hini rfl (by decide +kernel) rfl rfl (Nat.le_of_ble_eq_true rfl) dX0_init_28 (fun H locs hP hD hS => ?_)
  have hP : va_P G.1 vwCl [(o, .inr (0, [.int 0, .int (nI 2), .int (nI 2), .int 0, .int 0, .int 0, .int 0, .ref a1, .null, .null, .ref a2])), (a1, .inl (gI G, 1920, .inl (fun _ => 0))), (a2, .inl (gI G, 7, .inl (fun _ => 0)))] H := hP
  have hD : va_D A [(o, .inr (0, [.int 0, .int (nI 2), .int (nI 2), .int 0, .int 0, .int 0, .int 0, .ref a1, .null, .null, .ref a2])), (a1, .inl (gI G, 1920, .inl (fun _ => 0))), (a2, .inl (gI G, 7, .inl (fun _ => 0)))] := hD
  refine lv_aload_n hx hb dX0_init_31 rfl (lv_at hl 0 rfl) ?_
  refine lv_bipush (v := nI 120) hx hb dX0_init_32 (by decide) ?_
  refine n_newI hx hb hKy (hts _ mw_1_67) hP hD hS hA (N := 120) (by decide) (Nat.le_of_ble_eq_true rfl) (Nat.le_of_ble_eq_true rfl) dX0_init_34 (fun a3 H hP hD hS => ?_)
  have hP : va_P G.1 vwCl [(o, .inr (0, [.int 0, .int (nI 2), .int (nI 2), .int 0, .int 0, .int 0, .int 0, .ref a1, .null, .null, .ref a2])), (a1, .inl (gI G, 1920, .inl (fun _ => 0))), (a2, .inl (gI G, 7, .inl (fun _ => 0))), (a3, .inl (gI G, 120, .inl (fun _ => 0)))] H := hP
  have hD : va_D A [(o, .inr (0, [.int 0, .int (nI 2), .int (nI 2), .int 0, .int 0, .int 0, .int 0, .ref a1, .null, .null, .ref a2])), (a1, .inl (gI G, 1920, .inl (fun _ => 0))), (a2, .inl (gI G, 7, .inl (fun _ => 0))), (a3, .inl (gI G, 120, .inl (fun _ => 0)))] := hD
  refine va_putF (ci := 0) (v := .ref a3) (ty := .array .int) (C := RX0) (T := TX0) (N := 11) hx hb hts inGX0 tyX0 tyX0_ok nmX0 hown hK hP hD hS 0 rfl rfl 8 (by decide) (hts _ mw_1_38) (fun _ h9 => h9) rfl hini rfl (by decide +kernel) rfl rfl (Nat.le_of_ble_eq_true rfl) dX0_init_36 (fun H locs hP hD hS => ?_)
  have hP : va_P G.1 vwCl [(o, .inr (0, [.int 0, .int (nI 2), .int (nI 2), .int 0, .int 0, .int 0, .int 0, .ref a1, .ref a3, .null, .ref a2])), (a1, .inl (gI G, 1920, .inl (fun _ => 0))), (a2, .inl (gI G, 7, .inl (fun _ => 0))), (a3, .inl (gI G, 120, .inl (fun _ => 0)))] H := hP
  have hD : va_D A [(o, .inr (0, [.int 0, .int (nI 2), .int (nI 2), .int 0, .int 0, .int 0, .int 0, .ref a1, .ref a3, .null, .ref a2])), (a1, .inl (gI G, 1920, .inl (fun _ => 0))), (a2, .inl (gI G, 7, .inl (fun _ => 0))), (a3, .inl (gI G, 120, .inl (fun _ => 0)))] := hD
  refine lv_iconst (v := nI 0) hx hb dX0_init_39 (by decide) ?_
  refine lv_istore_n (lv' := [(1, .int (nI 0)), (0, .ref o)]) hx hb dX0_init_40 rfl hl (by decide) rfl (fun ls hl => ?_)
  have hPj := hP.sub (ws' := [(o, .inr (0, [.int 0, .int (nI 2), .int (nI 2), .int 0, .int 0, .int 0, .int 0, .ref a1, .ref a3, .null, .ref a2])), (a1, .inl (gI G, 1920, .inl (fun _ => 0))), (a2, .inl (gI G, 7, .inl (fun _ => 0))), (a3, .inl (gI G, 120, .inl (fun _ => 0)))]) [0, 1, 2, 3] rfl
  have hDj := hD.sub (ws' := [(o, .inr (0, [.int 0, .int (nI 2), .int (nI 2), .int 0, .int 0, .int 0, .int 0, .ref a1, .ref a3, .null, .ref a2])), (a1, .inl (gI G, 1920, .inl (fun _ => 0))), (a2, .inl (gI G, 7, .inl (fun _ => 0))), (a3, .inl (gI G, 120, .inl (fun _ => 0)))]) [0, 1, 2, 3] (by decide) rfl
  have w_1 : ([(o, .inr (0, [.int 0, .int (nI 2), .int (nI 2), .int 0, .int 0, .int 0, .int 0, .ref a1, .ref a3, .null, .ref a2])), (a1, .inl (gI G, 1920, .inl (fun _ => 0))), (a2, .inl (gI G, 7, .inl (fun _ => 0))), (a3, .inl (gI G, 120, .inl (fun _ => 0)))] : va_W) = [(o, .inr (0, [.int 0, .int (nI 2), .int (nI 2), .int 0, .int 0, .int 0, .int 0, .ref a1, .ref a3, .null, .ref a2])), (a1, .inl (gI G, 1920, .inl (fun _ => 0))), (a2, .inl (gI G, 7, .inl (fun _ => 0))), (a3, .inl (gI G, 120, .inl (uqk (nI 5) 0)))] := (wlc (rfl) (wlc (rfl) (wlc (rfl) (wlc (wli uqk_0.symm) rfl))))
  rw [w_1] at hPj hDj
  refine wloopH [] (fun k H locs ls => (k ≤ 120) ∧ va_P G.1 vwCl [(o, .inr (0, [.int 0, .int (nI 2), .int (nI 2), .int 0, .int 0, .int 0, .int 0, .ref a1, .ref a3, .null, .ref a2])), (a1, .inl (gI G, 1920, .inl (fun _ => 0))), (a2, .inl (gI G, 7, .inl (fun _ => 0))), (a3, .inl (gI G, 120, .inl (uqk (nI 5) k)))] H ∧ va_D A [(o, .inr (0, [.int 0, .int (nI 2), .int (nI 2), .int 0, .int 0, .int 0, .int 0, .ref a1, .ref a3, .null, .ref a2])), (a1, .inl (gI G, 1920, .inl (fun _ => 0))), (a2, .inl (gI G, 7, .inl (fun _ => 0))), (a3, .inl (gI G, 120, .inl (uqk (nI 5) k)))] ∧ va_S A sq.heap H locs ∧ lv_has ls 2 [(1, .int (nI k)), (0, .ref o)]) (fun k => 120 - k) ?_ 0 ⟨(by omega), hPj, hDj, hS, lv_sub hl [0, 1] rfl⟩
  intro k ih
  intro H locs ls ⟨hk, hP, hD, hS, hl⟩
  refine lv_iload_n hx hb dX0_init_41 rfl (lv_at hl 0 rfl) ?_
  refine lv_aload_n hx hb dX0_init_42 rfl (lv_at hl 1 rfl) ?_
  refine va_get (ci := 0) (v := .ref a3) (C := RX0) (T := TX0) (N := 11) hx hb hts inGX0 hown hK hP 0 rfl rfl 8 (by decide) (hts _ mw_1_38) (fun _ h9 => h9) rfl dX0_init_43 ?_
  refine va_alen (v := nI 120) hx hb hK hP 3 0 rfl rfl rfl dX0_init_46 ?_
  refine z_ge hx hb (tgt := 63) ((k : Nat) : Int) 120 dX0_init_47 (by decide) (toI (by omega)) (by decide) (fun c_47 => ?_) (fun c_47 => ?_)
  · skip
    have hk2 : k = 120 := by omega
    subst hk2
    refine lv_aload_n hx hb dX0_init_63 rfl (lv_at hl 1 rfl) ?_
    refine lv_bipush (v := nI 120) hx hb dX0_init_64 (by decide) ?_
    refine n_newI hx hb hKy (hts _ mw_1_67) hP hD hS hA (N := 120) (by decide) (Nat.le_of_ble_eq_true rfl) (Nat.le_of_ble_eq_true rfl) dX0_init_66 (fun a4 H hP hD hS => ?_)
    have hP : va_P G.1 vwCl [(o, .inr (0, [.int 0, .int (nI 2), .int (nI 2), .int 0, .int 0, .int 0, .int 0, .ref a1, .ref a3, .null, .ref a2])), (a1, .inl (gI G, 1920, .inl (fun _ => 0))), (a2, .inl (gI G, 7, .inl (fun _ => 0))), (a3, .inl (gI G, 120, .inl (uqk (nI 5) 120))), (a4, .inl (gI G, 120, .inl (fun _ => 0)))] H := hP
    have hD : va_D A [(o, .inr (0, [.int 0, .int (nI 2), .int (nI 2), .int 0, .int 0, .int 0, .int 0, .ref a1, .ref a3, .null, .ref a2])), (a1, .inl (gI G, 1920, .inl (fun _ => 0))), (a2, .inl (gI G, 7, .inl (fun _ => 0))), (a3, .inl (gI G, 120, .inl (uqk (nI 5) 120))), (a4, .inl (gI G, 120, .inl (fun _ => 0)))] := hD
    refine va_putF (ci := 0) (v := .ref a4) (ty := .array .int) (C := RX0) (T := TX0) (N := 11) hx hb hts inGX0 tyX0 tyX0_ok nmX0 hown hK hP hD hS 0 rfl rfl 9 (by decide) (hts _ mw_1_40) (fun _ h9 => h9) rfl hini rfl (by decide +kernel) rfl rfl (Nat.le_of_ble_eq_true rfl) dX0_init_68 (fun H locs hP hD hS => ?_)
    have hP : va_P G.1 vwCl [(o, .inr (0, [.int 0, .int (nI 2), .int (nI 2), .int 0, .int 0, .int 0, .int 0, .ref a1, .ref a3, .ref a4, .ref a2])), (a1, .inl (gI G, 1920, .inl (fun _ => 0))), (a2, .inl (gI G, 7, .inl (fun _ => 0))), (a3, .inl (gI G, 120, .inl (uqk (nI 5) 120))), (a4, .inl (gI G, 120, .inl (fun _ => 0)))] H := hP
    have hD : va_D A [(o, .inr (0, [.int 0, .int (nI 2), .int (nI 2), .int 0, .int 0, .int 0, .int 0, .ref a1, .ref a3, .ref a4, .ref a2])), (a1, .inl (gI G, 1920, .inl (fun _ => 0))), (a2, .inl (gI G, 7, .inl (fun _ => 0))), (a3, .inl (gI G, 120, .inl (uqk (nI 5) 120))), (a4, .inl (gI G, 120, .inl (fun _ => 0)))] := hD
    refine lv_iconst (v := nI 0) hx hb dX0_init_71 (by decide) ?_
    refine lv_istore_n (lv' := [(1, .int (nI 0)), (0, .ref o)]) hx hb dX0_init_72 rfl hl (by decide) rfl (fun ls hl => ?_)
    have hPj := hP.sub (ws' := [(o, .inr (0, [.int 0, .int (nI 2), .int (nI 2), .int 0, .int 0, .int 0, .int 0, .ref a1, .ref a3, .ref a4, .ref a2])), (a1, .inl (gI G, 1920, .inl (fun _ => 0))), (a2, .inl (gI G, 7, .inl (fun _ => 0))), (a3, .inl (gI G, 120, .inl (uqk (nI 5) 120))), (a4, .inl (gI G, 120, .inl (fun _ => 0)))]) [0, 1, 2, 3, 4] rfl
    have hDj := hD.sub (ws' := [(o, .inr (0, [.int 0, .int (nI 2), .int (nI 2), .int 0, .int 0, .int 0, .int 0, .ref a1, .ref a3, .ref a4, .ref a2])), (a1, .inl (gI G, 1920, .inl (fun _ => 0))), (a2, .inl (gI G, 7, .inl (fun _ => 0))), (a3, .inl (gI G, 120, .inl (uqk (nI 5) 120))), (a4, .inl (gI G, 120, .inl (fun _ => 0)))]) [0, 1, 2, 3, 4] (by decide) rfl
    have w_2 : ([(o, .inr (0, [.int 0, .int (nI 2), .int (nI 2), .int 0, .int 0, .int 0, .int 0, .ref a1, .ref a3, .ref a4, .ref a2])), (a1, .inl (gI G, 1920, .inl (fun _ => 0))), (a2, .inl (gI G, 7, .inl (fun _ => 0))), (a3, .inl (gI G, 120, .inl (uqk (nI 5) 120))), (a4, .inl (gI G, 120, .inl (fun _ => 0)))] : va_W) = [(o, .inr (0, [.int 0, .int (nI 2), .int (nI 2), .int 0, .int 0, .int 0, .int 0, .ref a1, .ref a3, .ref a4, .ref a2])), (a1, .inl (gI G, 1920, .inl (fun _ => 0))), (a2, .inl (gI G, 7, .inl (fun _ => 0))), (a3, .inl (gI G, 120, .inl (uqk (nI 5) 120))), (a4, .inl (gI G, 120, .inl (uqk (-6) 0)))] := (wlc (rfl) (wlc (rfl) (wlc (rfl) (wlc (rfl) (wlc (wli uqk_0.symm) rfl)))))
    rw [w_2] at hPj hDj
    refine wloopH [] (fun k H locs ls => (k ≤ 120) ∧ va_P G.1 vwCl [(o, .inr (0, [.int 0, .int (nI 2), .int (nI 2), .int 0, .int 0, .int 0, .int 0, .ref a1, .ref a3, .ref a4, .ref a2])), (a1, .inl (gI G, 1920, .inl (fun _ => 0))), (a2, .inl (gI G, 7, .inl (fun _ => 0))), (a3, .inl (gI G, 120, .inl (uqk (nI 5) 120))), (a4, .inl (gI G, 120, .inl (uqk (-6) k)))] H ∧ va_D A [(o, .inr (0, [.int 0, .int (nI 2), .int (nI 2), .int 0, .int 0, .int 0, .int 0, .ref a1, .ref a3, .ref a4, .ref a2])), (a1, .inl (gI G, 1920, .inl (fun _ => 0))), (a2, .inl (gI G, 7, .inl (fun _ => 0))), (a3, .inl (gI G, 120, .inl (uqk (nI 5) 120))), (a4, .inl (gI G, 120, .inl (uqk (-6) k)))] ∧ va_S A sq.heap H locs ∧ lv_has ls 2 [(1, .int (nI k)), (0, .ref o)]) (fun k => 120 - k) ?_ 0 ⟨(by omega), hPj, hDj, hS, lv_sub hl [0, 1] rfl⟩
    intro k ih
    intro H locs ls ⟨hk, hP, hD, hS, hl⟩
    refine lv_iload_n hx hb dX0_init_73 rfl (lv_at hl 0 rfl) ?_
    refine lv_aload_n hx hb dX0_init_74 rfl (lv_at hl 1 rfl) ?_
    refine va_get (ci := 0) (v := .ref a4) (C := RX0) (T := TX0) (N := 11) hx hb hts inGX0 hown hK hP 0 rfl rfl 9 (by decide) (hts _ mw_1_40) (fun _ h9 => h9) rfl dX0_init_75 ?_
    refine va_alen (v := nI 120) hx hb hK hP 4 0 rfl rfl rfl dX0_init_78 ?_
    refine z_ge hx hb (tgt := 96) ((k : Nat) : Int) 120 dX0_init_79 (by decide) (toI (by omega)) (by decide) (fun c_79 => ?_) (fun c_79 => ?_)
    · skip
      have hk2 : k = 120 := by omega
      subst hk2
      have hPj := hP.sub (ws' := [(o, .inr (0, [.int 0, .int (nI 2), .int (nI 2), .int 0, .int 0, .int 0, .int 0, .ref a1, .ref a3, .ref a4, .ref a2])), (a1, .inl (gI G, 1920, .inl (fun _ => 0))), (a3, .inl (gI G, 120, .inl (uqk (nI 5) 120))), (a4, .inl (gI G, 120, .inl (uqk (-6) 120))), (a2, .inl (gI G, 7, .inl (fun _ => 0)))]) [0, 1, 3, 4, 2] rfl
      have hDj := hD.sub (ws' := [(o, .inr (0, [.int 0, .int (nI 2), .int (nI 2), .int 0, .int 0, .int 0, .int 0, .ref a1, .ref a3, .ref a4, .ref a2])), (a1, .inl (gI G, 1920, .inl (fun _ => 0))), (a3, .inl (gI G, 120, .inl (uqk (nI 5) 120))), (a4, .inl (gI G, 120, .inl (uqk (-6) 120))), (a2, .inl (gI G, 7, .inl (fun _ => 0)))]) [0, 1, 3, 4, 2] (by decide) rfl
      have w_3 : ([(o, .inr (0, [.int 0, .int (nI 2), .int (nI 2), .int 0, .int 0, .int 0, .int 0, .ref a1, .ref a3, .ref a4, .ref a2])), (a1, .inl (gI G, 1920, .inl (fun _ => 0))), (a3, .inl (gI G, 120, .inl (uqk (nI 5) 120))), (a4, .inl (gI G, 120, .inl (uqk (-6) 120))), (a2, .inl (gI G, 7, .inl (fun _ => 0)))] : va_W) = [(o, dO ini a1 a3 a4 a2), (a1, .inl (gI G, 1920, .inl (dB ini))), (a3, .inl (gI G, 120, .inl (dF ini))), (a4, .inl (gI G, 120, .inl (dN ini))), (a2, .inl (gI G, 7, .inl (dW ini)))] := (wlc (dO_ini.symm) (wlc (by rw [dB_ini]) (wlc (by rw [dF_ini]) (wlc (by rw [dN_ini]) (wlc (by rw [dW_ini]) rfl)))))
      rw [w_3] at hPj hDj
      exact e_nv hx hb hr hlk hPj hDj hS ⟨a1, a3, a4, a2, rfl⟩ (Nat.le_of_ble_eq_true rfl) (Nat.le_of_ble_eq_true rfl) dX0_init_96
    · skip
      refine lv_aload_n hx hb dX0_init_82 rfl (lv_at hl 1 rfl) ?_
      refine va_get (ci := 0) (v := .ref a4) (C := RX0) (T := TX0) (N := 11) hx hb hts inGX0 hown hK hP 0 rfl rfl 9 (by decide) (hts _ mw_1_40) (fun _ h9 => h9) rfl dX0_init_83 ?_
      refine lv_iload_n hx hb dX0_init_86 rfl (lv_at hl 0 rfl) ?_
      refine lv_bipush (v := (-6)) hx hb dX0_init_87 (by decide) ?_
      refine n_iast hx hb hK hP hD hS 4 0 rfl rfl (by omega) (by omega) dX0_init_89 (fun H locs hP hD hS => ?_)
      have hP : va_P G.1 vwCl [(o, .inr (0, [.int 0, .int (nI 2), .int (nI 2), .int 0, .int 0, .int 0, .int 0, .ref a1, .ref a3, .ref a4, .ref a2])), (a1, .inl (gI G, 1920, .inl (fun _ => 0))), (a2, .inl (gI G, 7, .inl (fun _ => 0))), (a3, .inl (gI G, 120, .inl (uqk (nI 5) 120))), (a4, .inl (gI G, 120, .inl (upd (uqk (-6) k) k (-6))))] H := hP
      have hD : va_D A [(o, .inr (0, [.int 0, .int (nI 2), .int (nI 2), .int 0, .int 0, .int 0, .int 0, .ref a1, .ref a3, .ref a4, .ref a2])), (a1, .inl (gI G, 1920, .inl (fun _ => 0))), (a2, .inl (gI G, 7, .inl (fun _ => 0))), (a3, .inl (gI G, 120, .inl (uqk (nI 5) 120))), (a4, .inl (gI G, 120, .inl (upd (uqk (-6) k) k (-6))))] := hD
      refine lv_iinc (v := nI (k + 1)) (lv' := [(1, .int (nI (k + 1))), (0, .ref o)]) hx hb dX0_init_90 hl (k := 0) rfl (nI_add _ _) (by decide) rfl (fun ls hl => ?_)
      refine lv_goto (tgt := 73) hx hb dX0_init_93 (by decide) ?_
      have hPj := hP.sub (ws' := [(o, .inr (0, [.int 0, .int (nI 2), .int (nI 2), .int 0, .int 0, .int 0, .int 0, .ref a1, .ref a3, .ref a4, .ref a2])), (a1, .inl (gI G, 1920, .inl (fun _ => 0))), (a2, .inl (gI G, 7, .inl (fun _ => 0))), (a3, .inl (gI G, 120, .inl (uqk (nI 5) 120))), (a4, .inl (gI G, 120, .inl (upd (uqk (-6) k) k (-6))))]) [0, 1, 2, 3, 4] rfl
      have hDj := hD.sub (ws' := [(o, .inr (0, [.int 0, .int (nI 2), .int (nI 2), .int 0, .int 0, .int 0, .int 0, .ref a1, .ref a3, .ref a4, .ref a2])), (a1, .inl (gI G, 1920, .inl (fun _ => 0))), (a2, .inl (gI G, 7, .inl (fun _ => 0))), (a3, .inl (gI G, 120, .inl (uqk (nI 5) 120))), (a4, .inl (gI G, 120, .inl (upd (uqk (-6) k) k (-6))))]) [0, 1, 2, 3, 4] (by decide) rfl
      have w_4 : ([(o, .inr (0, [.int 0, .int (nI 2), .int (nI 2), .int 0, .int 0, .int 0, .int 0, .ref a1, .ref a3, .ref a4, .ref a2])), (a1, .inl (gI G, 1920, .inl (fun _ => 0))), (a2, .inl (gI G, 7, .inl (fun _ => 0))), (a3, .inl (gI G, 120, .inl (uqk (nI 5) 120))), (a4, .inl (gI G, 120, .inl (upd (uqk (-6) k) k (-6))))] : va_W) = [(o, .inr (0, [.int 0, .int (nI 2), .int (nI 2), .int 0, .int 0, .int 0, .int 0, .ref a1, .ref a3, .ref a4, .ref a2])), (a1, .inl (gI G, 1920, .inl (fun _ => 0))), (a2, .inl (gI G, 7, .inl (fun _ => 0))), (a3, .inl (gI G, 120, .inl (uqk (nI 5) 120))), (a4, .inl (gI G, 120, .inl (uqk (-6) (k + 1))))] := (wlc (rfl) (wlc (rfl) (wlc (rfl) (wlc (rfl) (wlc (wli uqk_s) rfl)))))
      rw [w_4] at hPj hDj
      exact ih (k + 1) _ _ ls (by omega) ⟨(by omega), hPj, hDj, hS, lv_sub hl [0, 1] rfl⟩
  · skip
    refine lv_aload_n hx hb dX0_init_50 rfl (lv_at hl 1 rfl) ?_
    refine va_get (ci := 0) (v := .ref a3) (C := RX0) (T := TX0) (N := 11) hx hb hts inGX0 hown hK hP 0 rfl rfl 8 (by decide) (hts _ mw_1_38) (fun _ h9 => h9) rfl dX0_init_51 ?_
    refine lv_iload_n hx hb dX0_init_54 rfl (lv_at hl 0 rfl) ?_
    refine lv_iconst (v := nI 5) hx hb dX0_init_55 (by decide) ?_
    refine n_iast hx hb hK hP hD hS 3 0 rfl rfl (by omega) (by omega) dX0_init_56 (fun H locs hP hD hS => ?_)
    have hP : va_P G.1 vwCl [(o, .inr (0, [.int 0, .int (nI 2), .int (nI 2), .int 0, .int 0, .int 0, .int 0, .ref a1, .ref a3, .null, .ref a2])), (a1, .inl (gI G, 1920, .inl (fun _ => 0))), (a2, .inl (gI G, 7, .inl (fun _ => 0))), (a3, .inl (gI G, 120, .inl (upd (uqk (nI 5) k) k (nI 5))))] H := hP
    have hD : va_D A [(o, .inr (0, [.int 0, .int (nI 2), .int (nI 2), .int 0, .int 0, .int 0, .int 0, .ref a1, .ref a3, .null, .ref a2])), (a1, .inl (gI G, 1920, .inl (fun _ => 0))), (a2, .inl (gI G, 7, .inl (fun _ => 0))), (a3, .inl (gI G, 120, .inl (upd (uqk (nI 5) k) k (nI 5))))] := hD
    refine lv_iinc (v := nI (k + 1)) (lv' := [(1, .int (nI (k + 1))), (0, .ref o)]) hx hb dX0_init_57 hl (k := 0) rfl (nI_add _ _) (by decide) rfl (fun ls hl => ?_)
    refine lv_goto (tgt := 41) hx hb dX0_init_60 (by decide) ?_
    have hPj := hP.sub (ws' := [(o, .inr (0, [.int 0, .int (nI 2), .int (nI 2), .int 0, .int 0, .int 0, .int 0, .ref a1, .ref a3, .null, .ref a2])), (a1, .inl (gI G, 1920, .inl (fun _ => 0))), (a2, .inl (gI G, 7, .inl (fun _ => 0))), (a3, .inl (gI G, 120, .inl (upd (uqk (nI 5) k) k (nI 5))))]) [0, 1, 2, 3] rfl
    have hDj := hD.sub (ws' := [(o, .inr (0, [.int 0, .int (nI 2), .int (nI 2), .int 0, .int 0, .int 0, .int 0, .ref a1, .ref a3, .null, .ref a2])), (a1, .inl (gI G, 1920, .inl (fun _ => 0))), (a2, .inl (gI G, 7, .inl (fun _ => 0))), (a3, .inl (gI G, 120, .inl (upd (uqk (nI 5) k) k (nI 5))))]) [0, 1, 2, 3] (by decide) rfl
    have w_5 : ([(o, .inr (0, [.int 0, .int (nI 2), .int (nI 2), .int 0, .int 0, .int 0, .int 0, .ref a1, .ref a3, .null, .ref a2])), (a1, .inl (gI G, 1920, .inl (fun _ => 0))), (a2, .inl (gI G, 7, .inl (fun _ => 0))), (a3, .inl (gI G, 120, .inl (upd (uqk (nI 5) k) k (nI 5))))] : va_W) = [(o, .inr (0, [.int 0, .int (nI 2), .int (nI 2), .int 0, .int 0, .int 0, .int 0, .ref a1, .ref a3, .null, .ref a2])), (a1, .inl (gI G, 1920, .inl (fun _ => 0))), (a2, .inl (gI G, 7, .inl (fun _ => 0))), (a3, .inl (gI G, 120, .inl (uqk (nI 5) (k + 1))))] := (wlc (rfl) (wlc (rfl) (wlc (rfl) (wlc (wli uqk_s) rfl))))
    rw [w_5] at hPj hDj
    exact ih (k + 1) _ _ ls (by omega) ⟨(by omega), hPj, hDj, hS, lv_sub hl [0, 1] rfl⟩
