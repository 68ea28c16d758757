theorem hd_X1_addStep : hdY yX1_addStep 5 := ⟨by decide +kernel, by decide +kernel, by decide +kernel⟩
set_option maxHeartbeats 4000000 in
set_option maxRecDepth 100000 in
theorem c_X1_addStep (l : Launch) (G : gT) (sz : Nat) (op : Nat) (pa : Nat) (pt : Nat) (n : Nat) (i : Nat) (q : Nat) (k4 : Int32) (f : Nat → Option Nat) (se : Nat) (v0 : Int32) (v1 : Int32) (v2 : Int32) (v3 : Int32) (v4 : Int32) (K : Nat) (s : Nat) (b : Nat) (t : Nat) (ow : Nat) (hq : q < 40) (hfs : f q = some se) (hK : K < 128) : Rw l G yX1_addStep cX1_addStep 7 (some .boolean) 2 sz [(op, .inr (1, [.ref pa, .ref pt, .int (nI n), .int (nI i), .int (nI q), .int k4])), (pt, .inl (gS G, 40, .inr (.inr (.inr (.inr f))))), (se, .inr (2, [.int v0, .int v1, .int v2, .int v3, .int v4]))] [.ref op, .int (nI K), .int (nI s), .int (nI b), .int (nI t), .int (nI ow)] (nI 1) [(op, .inr (1, [.ref pa, .ref pt, .int (nI n), .int (nI i), .int (nI (q + 1)), .int k4])), (pt, .inl (gS G, 40, .inr (.inr (.inr (.inr f))))), (se, .inr (2, [.int (nI K), .int (nI s), .int (nI b), .int (nI t), .int (nI ow)]))] := by
  refine Rw.mk (by decide) (Nat.le_of_ble_eq_true rfl) (fun pq eq sq mq bq tq cq ls A hr hlk hF hKx hZ hA hP hD hS hl => ?_)
  have hx := hF.1
  have hb := hF.2.1
  have hml := hF.2.2.1
  have hown : sq.vm.findClass RX1 = some mq.cls := hF.2.2.2.1
  have hts : ∀ w ∈ GW, w.before _ sq = true := hF.2.2.2.2
  have hK := hKx.1
  have hl : lv_has ls 7 [(0, .ref op), (1, .int (nI K)), (2, .int (nI s)), (3, .int (nI b)), (4, .int (nI t)), (5, .int (nI ow))] := hl
  have hP : va_P G.1 vwCl [(op, .inr (1, [.ref pa, .ref pt, .int (nI n), .int (nI i), .int (nI q), .int k4])), (pt, .inl (gS G, 40, .inr (.inr (.inr (.inr f))))), (se, .inr (2, [.int v0, .int v1, .int v2, .int v3, .int v4]))] sq.heap := hP
  have hD : va_D A [(op, .inr (1, [.ref pa, .ref pt, .int (nI n), .int (nI i), .int (nI q), .int k4])), (pt, .inl (gS G, 40, .inr (.inr (.inr (.inr f))))), (se, .inr (2, [.int v0, .int v1, .int v2, .int v3, .int v4]))] := hD
  refine lv_aload_n hx hb dX1_addStep_0 rfl (lv_at hl 0 rfl) ?_
  refine lv_aload_n hx hb dX1_addStep_1 rfl (lv_at hl 0 rfl) ?_
  refine va_get (ci := 1) (v := .int (nI q)) (C := RX1) (T := TX1) (N := 6) hx hb hts inGX1 hown hK hP 0 rfl rfl 4 (by decide) (hts _ mw_1_109) (fun _ h9 => h9) rfl dX1_addStep_2 ?_
  refine k_rqV (ci := 1) (q0 := 0) (As := [.int (nI q)]) (rest := []) hF (c_X1_stepAt l G op pa pt n i (nI q) k4 f q (by omega)) hKx hP ⟨_, rfl, rfl⟩ rfl rfl mw_3_30 mw_3_31 mw_3_32 mw_1_3 mw_3_33 hd_X1_stepAt ⟨Nat.le_of_ble_eq_true rfl, Nat.le_of_ble_eq_true rfl⟩ (Rd.of hKx hZ hS) (hP.sub (ws' := [(op, .inr (1, [.ref pa, .ref pt, .int (nI n), .int (nI i), .int (nI q), .int k4])), (pt, .inl (gS G, 40, .inr (.inr (.inr (.inr f)))))]) [0, 1] rfl) rfl hl.1 rfl (Nat.le_of_ble_eq_true rfl) dX1_addStep_5 ⟨Nat.zero_le _, Nat.zero_le _⟩ ?_
  refine lv_cvq (y := .ref se) (congrArg va_rf hfs) ?_
  refine lv_astore (lv' := [(6, .ref se), (0, .ref op), (1, .int (nI K)), (2, .int (nI s)), (3, .int (nI b)), (4, .int (nI t)), (5, .int (nI ow))]) hx hb dX1_addStep_8 hl (by decide) rfl (fun ls hl => ?_)
  refine lv_aload hx hb dX1_addStep_10 (lv_at hl 0 rfl) ?_
  refine lv_ifnonnull (tgt := 17) hx hb dX1_addStep_12 (by decide) ?_
  refine lv_aload hx hb dX1_addStep_17 (lv_at hl 0 rfl) ?_
  refine lv_iload_n hx hb dX1_addStep_19 rfl (lv_at hl 2 rfl) ?_
  refine va_put (ci := 2) (v := .int (nI K)) (ty := .char) (C := RX2) (T := TX2) (N := 5) hx hb hts inGX2 tyX2 tyX2_ok nmX2 hown hK hP hD hS 2 rfl rfl 0 (by decide) (hts _ mw_1_82) (fun _ h9 => h9) rfl (by decide +kernel) (pk_charN (by omega)).1 (pk_charN (by omega)).2 (Nat.le_of_ble_eq_true rfl) dX1_addStep_20 (fun H locs hP hD hS => ?_)
  have hP : va_P G.1 vwCl [(op, .inr (1, [.ref pa, .ref pt, .int (nI n), .int (nI i), .int (nI q), .int k4])), (pt, .inl (gS G, 40, .inr (.inr (.inr (.inr f))))), (se, .inr (2, [.int (nI K), .int v1, .int v2, .int v3, .int v4]))] H := hP
  have hD : va_D A [(op, .inr (1, [.ref pa, .ref pt, .int (nI n), .int (nI i), .int (nI q), .int k4])), (pt, .inl (gS G, 40, .inr (.inr (.inr (.inr f))))), (se, .inr (2, [.int (nI K), .int v1, .int v2, .int v3, .int v4]))] := hD
  refine lv_aload hx hb dX1_addStep_23 (lv_at hl 0 rfl) ?_
  refine lv_iload_n hx hb dX1_addStep_25 rfl (lv_at hl 3 rfl) ?_
  refine va_put (ci := 2) (v := .int (nI s)) (ty := .int) (C := RX2) (T := TX2) (N := 5) hx hb hts inGX2 tyX2 tyX2_ok nmX2 hown hK hP hD hS 2 rfl rfl 1 (by decide) (hts _ mw_1_84) (fun _ h9 => h9) rfl (by decide +kernel) rfl rfl (Nat.le_of_ble_eq_true rfl) dX1_addStep_26 (fun H locs hP hD hS => ?_)
  have hP : va_P G.1 vwCl [(op, .inr (1, [.ref pa, .ref pt, .int (nI n), .int (nI i), .int (nI q), .int k4])), (pt, .inl (gS G, 40, .inr (.inr (.inr (.inr f))))), (se, .inr (2, [.int (nI K), .int (nI s), .int v2, .int v3, .int v4]))] H := hP
  have hD : va_D A [(op, .inr (1, [.ref pa, .ref pt, .int (nI n), .int (nI i), .int (nI q), .int k4])), (pt, .inl (gS G, 40, .inr (.inr (.inr (.inr f))))), (se, .inr (2, [.int (nI K), .int (nI s), .int v2, .int v3, .int v4]))] := hD
  refine lv_aload hx hb dX1_addStep_29 (lv_at hl 0 rfl) ?_
  refine lv_iload_n hx hb dX1_addStep_31 rfl (lv_at hl 4 rfl) ?_
  refine va_put (ci := 2) (v := .int (nI b)) (ty := .int) (C := RX2) (T := TX2) (N := 5) hx hb hts inGX2 tyX2 tyX2_ok nmX2 hown hK hP hD hS 2 rfl rfl 2 (by decide) (hts _ mw_1_86) (fun _ h9 => h9) rfl (by decide +kernel) rfl rfl (Nat.le_of_ble_eq_true rfl) dX1_addStep_32 (fun H locs hP hD hS => ?_)
  have hP : va_P G.1 vwCl [(op, .inr (1, [.ref pa, .ref pt, .int (nI n), .int (nI i), .int (nI q), .int k4])), (pt, .inl (gS G, 40, .inr (.inr (.inr (.inr f))))), (se, .inr (2, [.int (nI K), .int (nI s), .int (nI b), .int v3, .int v4]))] H := hP
  have hD : va_D A [(op, .inr (1, [.ref pa, .ref pt, .int (nI n), .int (nI i), .int (nI q), .int k4])), (pt, .inl (gS G, 40, .inr (.inr (.inr (.inr f))))), (se, .inr (2, [.int (nI K), .int (nI s), .int (nI b), .int v3, .int v4]))] := hD
  refine lv_aload hx hb dX1_addStep_35 (lv_at hl 0 rfl) ?_
  refine lv_iload hx hb dX1_addStep_37 (lv_at hl 5 rfl) ?_
  refine va_put (ci := 2) (v := .int (nI t)) (ty := .int) (C := RX2) (T := TX2) (N := 5) hx hb hts inGX2 tyX2 tyX2_ok nmX2 hown hK hP hD hS 2 rfl rfl 3 (by decide) (hts _ mw_1_88) (fun _ h9 => h9) rfl (by decide +kernel) rfl rfl (Nat.le_of_ble_eq_true rfl) dX1_addStep_39 (fun H locs hP hD hS => ?_)
  have hP : va_P G.1 vwCl [(op, .inr (1, [.ref pa, .ref pt, .int (nI n), .int (nI i), .int (nI q), .int k4])), (pt, .inl (gS G, 40, .inr (.inr (.inr (.inr f))))), (se, .inr (2, [.int (nI K), .int (nI s), .int (nI b), .int (nI t), .int v4]))] H := hP
  have hD : va_D A [(op, .inr (1, [.ref pa, .ref pt, .int (nI n), .int (nI i), .int (nI q), .int k4])), (pt, .inl (gS G, 40, .inr (.inr (.inr (.inr f))))), (se, .inr (2, [.int (nI K), .int (nI s), .int (nI b), .int (nI t), .int v4]))] := hD
  refine lv_aload hx hb dX1_addStep_42 (lv_at hl 0 rfl) ?_
  refine lv_iload hx hb dX1_addStep_44 (lv_at hl 6 rfl) ?_
  refine va_put (ci := 2) (v := .int (nI ow)) (ty := .int) (C := RX2) (T := TX2) (N := 5) hx hb hts inGX2 tyX2 tyX2_ok nmX2 hown hK hP hD hS 2 rfl rfl 4 (by decide) (hts _ mw_1_90) (fun _ h9 => h9) rfl (by decide +kernel) rfl rfl (Nat.le_of_ble_eq_true rfl) dX1_addStep_46 (fun H locs hP hD hS => ?_)
  have hP : va_P G.1 vwCl [(op, .inr (1, [.ref pa, .ref pt, .int (nI n), .int (nI i), .int (nI q), .int k4])), (pt, .inl (gS G, 40, .inr (.inr (.inr (.inr f))))), (se, .inr (2, [.int (nI K), .int (nI s), .int (nI b), .int (nI t), .int (nI ow)]))] H := hP
  have hD : va_D A [(op, .inr (1, [.ref pa, .ref pt, .int (nI n), .int (nI i), .int (nI q), .int k4])), (pt, .inl (gS G, 40, .inr (.inr (.inr (.inr f))))), (se, .inr (2, [.int (nI K), .int (nI s), .int (nI b), .int (nI t), .int (nI ow)]))] := hD
  refine lv_aload_n hx hb dX1_addStep_49 rfl (lv_at hl 1 rfl) ?_
  refine lv_dup hx hb dX1_addStep_50 rfl ?_
  refine va_get (ci := 1) (v := .int (nI q)) (C := RX1) (T := TX1) (N := 6) hx hb hts inGX1 hown hK hP 0 rfl rfl 4 (by decide) (hts _ mw_1_109) (fun _ h9 => h9) rfl dX1_addStep_51 ?_
  refine lv_iconst (v := nI 1) hx hb dX1_addStep_54 (by decide) ?_
  refine n_iadd hx hb dX1_addStep_55 ?_
  refine va_put (ci := 1) (v := .int (nI (q + 1))) (ty := .int) (C := RX1) (T := TX1) (N := 6) hx hb hts inGX1 tyX1 tyX1_ok nmX1 hown hK hP hD hS 0 rfl rfl 4 (by decide) (hts _ mw_1_109) (fun _ h9 => h9) rfl (by decide +kernel) rfl rfl (Nat.le_of_ble_eq_true rfl) dX1_addStep_56 (fun H locs hP hD hS => ?_)
  have hP : va_P G.1 vwCl [(op, .inr (1, [.ref pa, .ref pt, .int (nI n), .int (nI i), .int (nI (q + 1)), .int k4])), (pt, .inl (gS G, 40, .inr (.inr (.inr (.inr f))))), (se, .inr (2, [.int (nI K), .int (nI s), .int (nI b), .int (nI t), .int (nI ow)]))] H := hP
  have hD : va_D A [(op, .inr (1, [.ref pa, .ref pt, .int (nI n), .int (nI i), .int (nI (q + 1)), .int k4])), (pt, .inl (gS G, 40, .inr (.inr (.inr (.inr f))))), (se, .inr (2, [.int (nI K), .int (nI s), .int (nI b), .int (nI t), .int (nI ow)]))] := hD
  refine lv_iconst (v := nI 1) hx hb dX1_addStep_59 (by decide) ?_
  have hPj := hP.sub (ws' := [(op, .inr (1, [.ref pa, .ref pt, .int (nI n), .int (nI i), .int (nI (q + 1)), .int k4])), (pt, .inl (gS G, 40, .inr (.inr (.inr (.inr f))))), (se, .inr (2, [.int (nI K), .int (nI s), .int (nI b), .int (nI t), .int (nI ow)]))]) [0, 1, 2] rfl
  exact e_wz hx hb hr hlk (nz_1) hPj hS (rfl) dX1_addStep_60
