theorem hd_X3_charactersIn : hdY yX3_charactersIn 1 := ⟨by decide +kernel, by decide +kernel, by decide +kernel⟩
theorem hd_X1_append : hdY yX1_append 2 := ⟨by decide +kernel, by decide +kernel, by decide +kernel⟩
theorem hd_X3_put : hdY yX3_put 1 := ⟨by decide +kernel, by decide +kernel, by decide +kernel⟩
set_option maxHeartbeats 4000000 in
set_option maxRecDepth 100000 in
theorem c_X3_charactersIn (l : Launch) (G : gT) (Wd : Nat) (hW : Wd < 18446744073709551616) : Ro l G yX3_charactersIn cX3_charactersIn 6 (some .int) 0 [] [.long (lw Wd)] (nI (chN Wd)) := by
  refine Ro.mk (by decide) (Nat.le_of_ble_eq_true rfl) (fun pq eq sq mq bq tq cq ls hr hlk hF hKx hZ hP hl => ?_)
  have hx := hF.1
  have hb := hF.2.1
  have hml := hF.2.2.1
  have hown : sq.vm.findClass RX3 = some mq.cls := hF.2.2.2.1
  have hts : ∀ w ∈ GW, w.before _ sq = true := hF.2.2.2.2
  have hK := hKx.1
  have hl : lv_has ls 6 [(0, .long (lw Wd))] := hl
  have hS : va_S (fun _ => False) sq.heap sq.heap [] := va_S.rf
  have hP : va_P G.1 vwCl [] sq.heap := hP
  refine lv_lload_n hx hb dX3_charactersIn_0 rfl (lv_at hl 0 rfl) ?_
  refine lv_cvq (y := .long (lw (Wd / 256 ^ 0))) (congrArg Value.long (by rw [Nat.pow_zero, Nat.div_one])) ?_
  refine lv_lstore_n (lv' := [(2, .long (lw (Wd / 256 ^ 0))), (0, .long (lw Wd))]) hx hb dX3_charactersIn_1 rfl hl (by decide) rfl (fun ls hl => ?_)
  refine lv_iconst (v := nI 0) hx hb dX3_charactersIn_2 (by decide) ?_
  refine lv_istore (lv' := [(4, .int (nI 0)), (2, .long (lw (Wd / 256 ^ 0))), (0, .long (lw Wd))]) hx hb dX3_charactersIn_3 hl (by decide) rfl (fun ls hl => ?_)
  refine wloop (n := 0) [] (fun k ls => (k ≤ 8) ∧ (chN Wd = chk Wd (8 - k) k) ∧ lv_has ls 6 [(4, .int (nI k)), (2, .long (lw (Wd / 256 ^ k))), (0, .long (lw Wd))]) (fun k => 8 - k) ?_ 0 ⟨(by omega), (rfl), lv_sub hl [0, 1, 2] rfl⟩
  intro k ih
  intro ls ⟨hk, hC, hl⟩
  have hbl := byt_lt (W := Wd) (k := k)
  refine lv_iload hx hb dX3_charactersIn_5 (lv_at hl 0 rfl) ?_
  refine lv_bipush (v := nI 8) hx hb dX3_charactersIn_7 (by decide) ?_
  refine z_ge hx hb (tgt := 53) ((k : Nat) : Int) 8 dX3_charactersIn_9 (by decide) (toI (by omega)) (by decide) (fun c_9 => ?_) (fun c_9 => ?_)
  · skip
    refine lv_iload hx hb dX3_charactersIn_53 (lv_at hl 0 rfl) ?_
    exact e_ri hx hb hr hlk (by first | exact (congrArg nI (hC.trans (chk_z (by omega) hz1))).symm | exact (congrArg nI (hC.trans (chk_e (by omega)))).symm) dX3_charactersIn_55
  · skip
    refine lv_lload_n hx hb dX3_charactersIn_12 rfl (lv_at hl 1 rfl) ?_
    refine lv_lconst (v := 0) hx hb dX3_charactersIn_13 (by decide) ?_
    refine W.lcmp hx hb dX3_charactersIn_14 ?_
    refine zc_eq hx hb (tgt := 53) (X := ((lw (Wd / 256 ^ k)).toInt)) (Y := 0) dX3_charactersIn_15 (by decide) rfl (by decide) (fun c_15 => ?_) (fun c_15 => ?_)
    · skip
      have hz1 : Wd / 256 ^ k = 0 := (lw_0 (byt_le hW)).mp c_15
      refine lv_iload hx hb dX3_charactersIn_53 (lv_at hl 0 rfl) ?_
      exact e_ri hx hb hr hlk (by first | exact (congrArg nI (hC.trans (chk_z (by omega) hz1))).symm | exact (congrArg nI (hC.trans (chk_e (by omega)))).symm) dX3_charactersIn_55
    · skip
      have hz0 : ¬ Wd / 256 ^ k = 0 := fun z => c_15 ((lw_0 (byt_le hW)).mpr z)
      refine lv_lload_n hx hb dX3_charactersIn_18 rfl (lv_at hl 1 rfl) ?_
      refine lv_ldc2 (v := 255) hx hb hown (hts _ mw_2_223) dX3_charactersIn_19 ?_
      refine lv_land hx hb dX3_charactersIn_22 ?_
      refine lv_cvq (y := .long (lw (byt Wd (k)))) (congrArg Value.long (lw_and (byt_le hW))) ?_
      refine lv_l2i (v := (lw (byt Wd (k))).toInt32) hx hb dX3_charactersIn_23 rfl ?_
      refine lv_cv (y := nI (byt Wd k)) (lw_l2i (Nat.lt_trans byt_lt (by decide))) ?_
      refine lv_istore (lv' := [(5, .int (nI (byt Wd k))), (4, .int (nI k)), (2, .long (lw (Wd / 256 ^ k))), (0, .long (lw Wd))]) hx hb dX3_charactersIn_24 hl (by decide) rfl (fun ls hl => ?_)
      refine lv_iload hx hb dX3_charactersIn_26 (lv_at hl 0 rfl) ?_
      refine lv_bipush (v := nI 33) hx hb dX3_charactersIn_28 (by decide) ?_
      refine z_lt hx hb (tgt := 40) ((byt Wd k : Nat) : Int) 33 dX3_charactersIn_30 (by decide) (toI (by omega)) (by decide) (fun c_30 => ?_) (fun c_30 => ?_)
      · skip
        refine lv_iconst (v := nI 0) hx hb dX3_charactersIn_40 (by decide) ?_
        exact e_ri hx hb hr hlk ((congrArg nI (hC.trans (chk_b (by omega) hz0 (fun z => by have hq9 := z.1; have hq8 := z.2; omega)))).symm) dX3_charactersIn_41
      · skip
        refine lv_iload hx hb dX3_charactersIn_33 (lv_at hl 0 rfl) ?_
        refine lv_bipush (v := nI 126) hx hb dX3_charactersIn_35 (by decide) ?_
        refine z_le hx hb (tgt := 42) ((byt Wd k : Nat) : Int) 126 dX3_charactersIn_37 (by decide) (toI (by omega)) (by decide) (fun c_37 => ?_) (fun c_37 => ?_)
        · skip
          refine lv_lload_n hx hb dX3_charactersIn_42 rfl (lv_at hl 2 rfl) ?_
          refine lv_bipush (v := nI 8) hx hb dX3_charactersIn_43 (by decide) ?_
          refine lv_lushr (v := ((lw (Wd / 256 ^ k)).toUInt64 >>> ((nI 8).toInt64.toUInt64 &&& Int64.toUInt64 63)).toInt64) hx hb dX3_charactersIn_45 rfl ?_
          refine lv_cvq (y := .long (lw (Wd / 256 ^ (k + 1)))) (congrArg Value.long ((lw_sh (byt_le hW) (by decide)).trans (congrArg lw byt_sh))) ?_
          refine lv_lstore_n (lv' := [(2, .long (lw (Wd / 256 ^ (k + 1)))), (5, .int (nI (byt Wd k))), (4, .int (nI k)), (0, .long (lw Wd))]) hx hb dX3_charactersIn_46 rfl hl (by decide) rfl (fun ls hl => ?_)
          refine lv_iinc (v := nI (k + 1)) (lv' := [(4, .int (nI (k + 1))), (2, .long (lw (Wd / 256 ^ (k + 1)))), (5, .int (nI (byt Wd k))), (0, .long (lw Wd))]) hx hb dX3_charactersIn_47 hl (k := 2) rfl (nI_add _ _) (by decide) rfl (fun ls hl => ?_)
          refine lv_goto (tgt := 5) hx hb dX3_charactersIn_50 (by decide) ?_
          exact ih (k + 1) ls (by omega) ⟨(by omega), (hC.trans (chk_g (by omega) hz0 ⟨by omega, by omega⟩)), lv_sub hl [0, 1, 3] rfl⟩
        · skip
          refine lv_iconst (v := nI 0) hx hb dX3_charactersIn_40 (by decide) ?_
          exact e_ri hx hb hr hlk ((congrArg nI (hC.trans (chk_b (by omega) hz0 (fun z => by have hq9 := z.1; have hq8 := z.2; omega)))).symm) dX3_charactersIn_41
set_option maxHeartbeats 4000000 in
set_option maxRecDepth 100000 in
theorem c_X1_append (l : Launch) (G : gT) (sz : Nat) (op : Nat) (pa : Nat) (pt : Nat) (n : Nat) (i : Nat) (k3 : Int32) (k4 : Int32) (p : Nat → Int32) (Wd : Nat) (c : Nat) (hW : Wd < 18446744073709551616) (hc : 1 ≤ c ∧ c ≤ 8) (hnc : n + c ≤ 80) : Rv l G yX1_append cX1_append 5 none 0 sz [(op, .inr (1, [.ref pa, .ref pt, .int (nI n), .int (nI i), .int k3, .int k4])), (pa, .inl (gC G, 80, .inl p))] [.ref op, .long (lw Wd), .int (nI c)] [(op, .inr (1, [.ref pa, .ref pt, .int (nI (n + c)), .int (nI i), .int k3, .int k4])), (pa, .inl (gC G, 80, .inl (apk p n Wd c c)))] := by
  refine Rv.mk (by decide) (Nat.le_of_ble_eq_true rfl) (fun pq eq sq mq bq tq cq ls A hr hlk hF hKx hZ hA hP hD hS hl => ?_)
  have hx := hF.1
  have hb := hF.2.1
  have hml := hF.2.2.1
  have hown : sq.vm.findClass RX1 = some mq.cls := hF.2.2.2.1
  have hts : ∀ w ∈ GW, w.before _ sq = true := hF.2.2.2.2
  have hK := hKx.1
  have hl : lv_has ls 5 [(0, .ref op), (1, .long (lw Wd)), (3, .int (nI c))] := hl
  have hP : va_P G.1 vwCl [(op, .inr (1, [.ref pa, .ref pt, .int (nI n), .int (nI i), .int k3, .int k4])), (pa, .inl (gC G, 80, .inl p))] sq.heap := hP
  have hD : va_D A [(op, .inr (1, [.ref pa, .ref pt, .int (nI n), .int (nI i), .int k3, .int k4])), (pa, .inl (gC G, 80, .inl p))] := hD
  refine lv_iload_n hx hb dX1_append_0 rfl (lv_at hl 2 rfl) ?_
  refine lv_iconst (v := nI 1) hx hb dX1_append_1 (by decide) ?_
  refine n_isub hx hb (by omega) dX1_append_2 ?_
  refine lv_istore (lv' := [(4, .int (nI (c - 1))), (0, .ref op), (1, .long (lw Wd)), (3, .int (nI c))]) hx hb dX1_append_3 hl (by decide) rfl (fun ls hl => ?_)
  have hPj := hP.sub (ws' := [(op, .inr (1, [.ref pa, .ref pt, .int (nI n), .int (nI i), .int k3, .int k4])), (pa, .inl (gC G, 80, .inl p))]) [0, 1] rfl
  have hDj := hD.sub (ws' := [(op, .inr (1, [.ref pa, .ref pt, .int (nI n), .int (nI i), .int k3, .int k4])), (pa, .inl (gC G, 80, .inl p))]) [0, 1] (by decide) rfl
  have hwj : ([(op, .inr (1, [.ref pa, .ref pt, .int (nI n), .int (nI i), .int k3, .int k4])), (pa, .inl (gC G, 80, .inl p))] : va_W) = [(op, .inr (1, [.ref pa, .ref pt, .int (nI (n + 0)), .int (nI i), .int k3, .int k4])), (pa, .inl (gC G, 80, .inl (apk p n Wd c 0)))] := (wlc (rfl) (wlc (rfl) rfl))
  rw [hwj] at hPj hDj
  refine wloopH [] (fun j H locs ls => (j ≤ c) ∧ va_P G.1 vwCl [(op, .inr (1, [.ref pa, .ref pt, .int (nI (n + j)), .int (nI i), .int k3, .int k4])), (pa, .inl (gC G, 80, .inl (apk p n Wd c j)))] H ∧ va_D A [(op, .inr (1, [.ref pa, .ref pt, .int (nI (n + j)), .int (nI i), .int k3, .int k4])), (pa, .inl (gC G, 80, .inl (apk p n Wd c j)))] ∧ va_S A sq.heap H locs ∧ lv_has ls 5 [(4, .int (ia c j)), (0, .ref op), (1, .long (lw Wd)), (3, .int (nI c))]) (fun j => c - j) ?_ 0 ⟨(by omega), hPj, hDj, hS, lv_sub hl [0, 1, 2, 3] (lvc ((ia_n (c := c) (j := 0) hc (by omega)).symm) (lvr (lvr (lvr rfl))))⟩
  intro j ih
  intro H locs ls ⟨hj, hP, hD, hS, hl⟩
  refine lv_iload hx hb dX1_append_5 (lv_at hl 0 rfl) ?_
  refine z0_lt hx hb (tgt := 67) (((c : Nat) : Int) - 1 - ((j : Nat) : Int)) dX1_append_7 (by decide) (ia_i hc hj) (fun c_7 => ?_) (fun c_7 => ?_)
  · skip
    have hj2 : c = j := by omega
    subst hj2
    have hPj := hP.sub (ws' := [(op, .inr (1, [.ref pa, .ref pt, .int (nI (n + c)), .int (nI i), .int k3, .int k4])), (pa, .inl (gC G, 80, .inl (apk p n Wd c c)))]) [0, 1] rfl
    exact e_wv hx hb hr hlk hPj hS dX1_append_67
  · skip
    refine lv_aload_n hx hb dX1_append_10 rfl (lv_at hl 1 rfl) ?_
    refine va_get (ci := 1) (v := .int (nI (n + j))) (C := RX1) (T := TX1) (N := 6) hx hb hts inGX1 hown hK hP 0 rfl rfl 2 (by decide) (hts _ mw_1_106) (fun _ h9 => h9) rfl dX1_append_11 ?_
    refine z0_lt hx hb (tgt := 61) ((n + j : Nat) : Int) dX1_append_14 (by decide) (toI (by omega)) (fun c_14 => ?_) (fun c_14 => ?_)
    · skip
      exact absurd c_14 (by omega)
    · skip
      refine lv_aload_n hx hb dX1_append_17 rfl (lv_at hl 1 rfl) ?_
      refine va_get (ci := 1) (v := .int (nI (n + j))) (C := RX1) (T := TX1) (N := 6) hx hb hts inGX1 hown hK hP 0 rfl rfl 2 (by decide) (hts _ mw_1_106) (fun _ h9 => h9) rfl dX1_append_18 ?_
      refine lv_aload_n hx hb dX1_append_21 rfl (lv_at hl 1 rfl) ?_
      refine va_get (ci := 1) (v := .ref pa) (C := RX1) (T := TX1) (N := 6) hx hb hts inGX1 hown hK hP 0 rfl rfl 0 (by decide) (hts _ mw_1_104) (fun _ h9 => h9) rfl dX1_append_22 ?_
      refine va_alen (v := nI 80) hx hb hK hP 1 1 rfl rfl rfl dX1_append_25 ?_
      refine z_ge hx hb (tgt := 61) ((n + j : Nat) : Int) 80 dX1_append_26 (by decide) (toI (by omega)) (by decide) (fun c_26 => ?_) (fun c_26 => ?_)
      · skip
        exact absurd c_26 (by omega)
      · skip
        refine lv_aload_n hx hb dX1_append_29 rfl (lv_at hl 1 rfl) ?_
        refine va_get (ci := 1) (v := .ref pa) (C := RX1) (T := TX1) (N := 6) hx hb hts inGX1 hown hK hP 0 rfl rfl 0 (by decide) (hts _ mw_1_104) (fun _ h9 => h9) rfl dX1_append_30 ?_
        refine lv_aload_n hx hb dX1_append_33 rfl (lv_at hl 1 rfl) ?_
        refine va_get (ci := 1) (v := .int (nI (n + j))) (C := RX1) (T := TX1) (N := 6) hx hb hts inGX1 hown hK hP 0 rfl rfl 2 (by decide) (hts _ mw_1_106) (fun _ h9 => h9) rfl dX1_append_34 ?_
        refine lv_lload_n hx hb dX1_append_37 rfl (lv_at hl 2 rfl) ?_
        refine lv_bipush (v := nI 8) hx hb dX1_append_38 (by decide) ?_
        refine lv_iload hx hb dX1_append_40 (lv_at hl 0 rfl) ?_
        refine lv_cv (y := nI (c - 1 - j)) (ia_n hc (by omega)) ?_
        refine n_imul hx hb dX1_append_42 ?_
        refine lv_lushr (v := ((lw Wd).toUInt64 >>> ((nI (8 * (c - 1 - j))).toInt64.toUInt64 &&& Int64.toUInt64 63)).toInt64) hx hb dX1_append_43 rfl ?_
        refine lv_cvq (y := .long (lw (Wd / 256 ^ (c - 1 - j)))) (congrArg Value.long ((lw_sh hW (by omega)).trans (congrArg (fun q9 => lw (Wd / q9)) byt_pw))) ?_
        refine lv_ldc2 (v := 255) hx hb hown (hts _ mw_2_228) dX1_append_44 ?_
        refine lv_land hx hb dX1_append_47 ?_
        refine lv_cvq (y := .long (lw (byt Wd (c - 1 - j)))) (congrArg Value.long (lw_and (byt_le hW))) ?_
        refine lv_l2i (v := (lw (byt Wd (c - 1 - j))).toInt32) hx hb dX1_append_48 rfl ?_
        refine lv_cv (y := nI (byt Wd (c - 1 - j))) (lw_l2i (Nat.lt_trans byt_lt (by decide))) ?_
        refine lv_i2c (v := nI (byt Wd (c - 1 - j))) hx hb dX1_append_49 (i2c_n (Nat.lt_trans byt_lt (by decide))) ?_
        refine n_cast hx hb hK hP hD hS 1 1 rfl rfl (by omega) (by omega) (pk_charN (Nat.lt_trans byt_lt (by decide))).1 dX1_append_50 (fun H locs hP hD hS => ?_)
        have hP : va_P G.1 vwCl [(op, .inr (1, [.ref pa, .ref pt, .int (nI (n + j)), .int (nI i), .int k3, .int k4])), (pa, .inl (gC G, 80, .inl (upd (apk p n Wd c j) (n + j) (nI (byt Wd (c - 1 - j))))))] H := hP
        have hD : va_D A [(op, .inr (1, [.ref pa, .ref pt, .int (nI (n + j)), .int (nI i), .int k3, .int k4])), (pa, .inl (gC G, 80, .inl (upd (apk p n Wd c j) (n + j) (nI (byt Wd (c - 1 - j))))))] := hD
        refine lv_aload_n hx hb dX1_append_51 rfl (lv_at hl 1 rfl) ?_
        refine lv_dup hx hb dX1_append_52 rfl ?_
        refine va_get (ci := 1) (v := .int (nI (n + j))) (C := RX1) (T := TX1) (N := 6) hx hb hts inGX1 hown hK hP 0 rfl rfl 2 (by decide) (hts _ mw_1_106) (fun _ h9 => h9) rfl dX1_append_53 ?_
        refine lv_iconst (v := nI 1) hx hb dX1_append_56 (by decide) ?_
        refine n_iadd hx hb dX1_append_57 ?_
        refine va_put (ci := 1) (v := .int (nI (n + j + 1))) (ty := .int) (C := RX1) (T := TX1) (N := 6) hx hb hts inGX1 tyX1 tyX1_ok nmX1 hown hK hP hD hS 0 rfl rfl 2 (by decide) (hts _ mw_1_106) (fun _ h9 => h9) rfl (by decide +kernel) rfl rfl (Nat.le_of_ble_eq_true rfl) dX1_append_58 (fun H locs hP hD hS => ?_)
        have hP : va_P G.1 vwCl [(op, .inr (1, [.ref pa, .ref pt, .int (nI (n + j + 1)), .int (nI i), .int k3, .int k4])), (pa, .inl (gC G, 80, .inl (upd (apk p n Wd c j) (n + j) (nI (byt Wd (c - 1 - j))))))] H := hP
        have hD : va_D A [(op, .inr (1, [.ref pa, .ref pt, .int (nI (n + j + 1)), .int (nI i), .int k3, .int k4])), (pa, .inl (gC G, 80, .inl (upd (apk p n Wd c j) (n + j) (nI (byt Wd (c - 1 - j))))))] := hD
        refine lv_iinc (v := ia c j + (-1)) (lv' := [(4, .int (ia c j + (-1))), (0, .ref op), (1, .long (lw Wd)), (3, .int (nI c))]) hx hb dX1_append_61 hl (k := 0) rfl (rfl) (by decide) rfl (fun ls hl => ?_)
        refine lv_goto (tgt := 5) hx hb dX1_append_64 (by decide) ?_
        have w_1 : ([(op, .inr (1, [.ref pa, .ref pt, .int (nI (n + j + 1)), .int (nI i), .int k3, .int k4])), (pa, .inl (gC G, 80, .inl (upd (apk p n Wd c j) (n + j) (nI (byt Wd (c - 1 - j))))))] : va_W) = [(op, .inr (1, [.ref pa, .ref pt, .int (nI (n + (j + 1))), .int (nI i), .int k3, .int k4])), (pa, .inl (gC G, 80, .inl (apk p n Wd c (j + 1))))] := (wlc (rfl) (wlc (rfl) rfl))
        have hPj := hP.sub (ws' := [(op, .inr (1, [.ref pa, .ref pt, .int (nI (n + j + 1)), .int (nI i), .int k3, .int k4])), (pa, .inl (gC G, 80, .inl (upd (apk p n Wd c j) (n + j) (nI (byt Wd (c - 1 - j))))))]) [0, 1] rfl
        have hDj := hD.sub (ws' := [(op, .inr (1, [.ref pa, .ref pt, .int (nI (n + j + 1)), .int (nI i), .int k3, .int k4])), (pa, .inl (gC G, 80, .inl (upd (apk p n Wd c j) (n + j) (nI (byt Wd (c - 1 - j))))))]) [0, 1] (by decide) rfl
        rw [w_1] at hPj hDj
        exact ih (j + 1) _ _ ls (by omega) ⟨(by omega), hPj, hDj, hS, lv_sub hl [0, 1, 2, 3] (lvc (ia_s) (lvr (lvr (lvr rfl))))⟩
set_option maxHeartbeats 4000000 in
set_option maxRecDepth 100000 in
theorem c_X3_put_k (l : Launch) (G : gT) (sz : Nat) (me : Nat) (o : Nat) (ou : Nat) (oh : Nat) (os : Nat) (op : Nat) (kc : Int32) (sv : Int32) (ab : Nat) (af : Nat) (an : Nat) (aw : Nat) (pa : Nat) (pt : Nat) (n : Nat) (i : Nat) (k3 : Int32) (k4 : Int32) (p : Nat → Int32) (Wd : Nat) (hW : Wd < 18446744073709551616) (hc0 : ¬ chN Wd = 0) (hnc : n + chN Wd ≤ 80) : Rw l G yX3_put cX3_put 4 (some .int) 9 sz [(me, .inr (3, [.ref o, .ref ou, .ref oh, .ref os, .ref op, .int kc, .int sv])), (op, .inr (1, [.ref pa, .ref pt, .int (nI n), .int (nI i), .int k3, .int k4])), (pa, .inl (gC G, 80, .inl p))] [.ref me, .long (lw Wd)] (nI (n + chN Wd)) [(me, .inr (3, [.ref o, .ref ou, .ref oh, .ref os, .ref op, .int kc, .int sv])), (op, .inr (1, [.ref pa, .ref pt, .int (nI (n + chN Wd)), .int (nI i), .int k3, .int k4])), (pa, .inl (gC G, 80, .inl (apk p n Wd (chN Wd) (chN Wd))))] := by
  refine Rw.mk (by decide) (Nat.le_of_ble_eq_true rfl) (fun pq eq sq mq bq tq cq ls A hr hlk hF hKx hZ hA hP hD hS hl => ?_)
  have hx := hF.1
  have hb := hF.2.1
  have hml := hF.2.2.1
  have hown : sq.vm.findClass RX3 = some mq.cls := hF.2.2.2.1
  have hts : ∀ w ∈ GW, w.before _ sq = true := hF.2.2.2.2
  have hK := hKx.1
  have hl : lv_has ls 4 [(0, .ref me), (1, .long (lw Wd))] := hl
  have hP : va_P G.1 vwCl [(me, .inr (3, [.ref o, .ref ou, .ref oh, .ref os, .ref op, .int kc, .int sv])), (op, .inr (1, [.ref pa, .ref pt, .int (nI n), .int (nI i), .int k3, .int k4])), (pa, .inl (gC G, 80, .inl p))] sq.heap := hP
  have hD : va_D A [(me, .inr (3, [.ref o, .ref ou, .ref oh, .ref os, .ref op, .int kc, .int sv])), (op, .inr (1, [.ref pa, .ref pt, .int (nI n), .int (nI i), .int k3, .int k4])), (pa, .inl (gC G, 80, .inl p))] := hD
  have hch : chN Wd ≤ 8 := chk_le Wd 8 0
  refine lv_lload_n hx hb dX3_put_0 rfl (lv_at hl 1 rfl) ?_
  refine k_roS (As := [.long (lw Wd)]) (rest := []) hF (c_X3_charactersIn l G Wd (by omega)) mw_2_220 mw_2_221 mw_1_1 mw_2_222 hd_X3_charactersIn ⟨Nat.le_of_ble_eq_true rfl, Nat.le_of_ble_eq_true rfl⟩ (Rd.of hKx hZ hS) (hP.sub (ws' := []) [] rfl) rfl hl.1 rfl (Nat.le_of_ble_eq_true rfl) dX3_put_1 ⟨Nat.zero_le _, Nat.zero_le _⟩ ?_
  refine lv_istore_n (lv' := [(3, .int (nI (chN Wd))), (0, .ref me), (1, .long (lw Wd))]) hx hb dX3_put_4 rfl hl (by decide) rfl (fun ls hl => ?_)
  refine lv_iload_n hx hb dX3_put_5 rfl (lv_at hl 0 rfl) ?_
  refine z0_ne hx hb (tgt := 12) ((chN Wd : Nat) : Int) dX3_put_6 (by decide) (toI (by omega)) (fun c_6 => ?_) (fun c_6 => ?_)
  · skip
    refine lv_aload_n hx hb dX3_put_12 rfl (lv_at hl 1 rfl) ?_
    refine va_get (ci := 3) (v := .ref op) (C := RX3) (T := TX3) (N := 7) hx hb hts inGX3 hown hK hP 0 rfl rfl 4 (by decide) (hts _ mw_1_130) (fun _ h9 => h9) rfl dX3_put_13 ?_
    refine va_get (ci := 1) (v := .int (nI n)) (C := RX1) (T := TX1) (N := 6) hx hb hts inGX1 hown hK hP 1 rfl rfl 2 (by decide) (hts _ mw_1_107) (fun _ h9 => h9) rfl dX3_put_16 ?_
    refine lv_iload_n hx hb dX3_put_19 rfl (lv_at hl 0 rfl) ?_
    refine n_iadd hx hb dX3_put_20 ?_
    refine lv_bipush (v := nI 80) hx hb dX3_put_21 (by decide) ?_
    refine z_le hx hb (tgt := 29) ((n + chN Wd : Nat) : Int) 80 dX3_put_23 (by decide) (toI (by omega)) (by decide) (fun c_23 => ?_) (fun c_23 => ?_)
    · skip
      refine lv_aload_n hx hb dX3_put_29 rfl (lv_at hl 1 rfl) ?_
      refine va_get (ci := 3) (v := .ref op) (C := RX3) (T := TX3) (N := 7) hx hb hts inGX3 hown hK hP 0 rfl rfl 4 (by decide) (hts _ mw_1_130) (fun _ h9 => h9) rfl dX3_put_30 ?_
      refine lv_lload_n hx hb dX3_put_33 rfl (lv_at hl 2 rfl) ?_
      refine lv_iload_n hx hb dX3_put_34 rfl (lv_at hl 0 rfl) ?_
      refine k_rvV (ci := 1) (q0 := 1) (As := [.long (lw Wd), .int (nI (chN Wd))]) (rest := []) (wr := [(me, .inr (3, [.ref o, .ref ou, .ref oh, .ref os, .ref op, .int kc, .int sv]))]) hF (c_X1_append l G _ op pa pt n i k3 k4 p Wd (chN Wd) (by omega) (by omega) (by omega)) ⟨_, rfl, rfl⟩ rfl rfl mw_2_224 mw_2_225 mw_2_226 mw_1_3 mw_2_227 hd_X1_append ⟨Nat.le_of_ble_eq_true rfl, Nat.le_of_ble_eq_true rfl⟩ hKx hZ hS hP hD hA [1, 2] [0] rfl rfl (by decide) (by decide) (by decide) rfl rfl hl.1 rfl (Nat.le_of_ble_eq_true rfl) dX3_put_35 ⟨Nat.zero_le _, Nat.zero_le _⟩ (fun H locs hP hD hS => ?_)
      have hP : va_P G.1 vwCl [(me, .inr (3, [.ref o, .ref ou, .ref oh, .ref os, .ref op, .int kc, .int sv])), (op, .inr (1, [.ref pa, .ref pt, .int (nI (n + (chN Wd))), .int (nI i), .int k3, .int k4])), (pa, .inl (gC G, 80, .inl (apk p n Wd (chN Wd) (chN Wd))))] H := hP
      have hD : va_D A [(me, .inr (3, [.ref o, .ref ou, .ref oh, .ref os, .ref op, .int kc, .int sv])), (op, .inr (1, [.ref pa, .ref pt, .int (nI (n + (chN Wd))), .int (nI i), .int k3, .int k4])), (pa, .inl (gC G, 80, .inl (apk p n Wd (chN Wd) (chN Wd))))] := hD
      refine lv_aload_n hx hb dX3_put_38 rfl (lv_at hl 1 rfl) ?_
      refine va_get (ci := 3) (v := .ref op) (C := RX3) (T := TX3) (N := 7) hx hb hts inGX3 hown hK hP 0 rfl rfl 4 (by decide) (hts _ mw_1_130) (fun _ h9 => h9) rfl dX3_put_39 ?_
      refine va_get (ci := 1) (v := .int (nI (n + (chN Wd)))) (C := RX1) (T := TX1) (N := 6) hx hb hts inGX1 hown hK hP 1 rfl rfl 2 (by decide) (hts _ mw_1_107) (fun _ h9 => h9) rfl dX3_put_42 ?_
      have hPj := hP.sub (ws' := [(me, .inr (3, [.ref o, .ref ou, .ref oh, .ref os, .ref op, .int kc, .int sv])), (op, .inr (1, [.ref pa, .ref pt, .int (nI (n + (chN Wd))), .int (nI i), .int k3, .int k4])), (pa, .inl (gC G, 80, .inl (apk p n Wd (chN Wd) (chN Wd))))]) [0, 1, 2] rfl
      have hwj : ([(me, .inr (3, [.ref o, .ref ou, .ref oh, .ref os, .ref op, .int kc, .int sv])), (op, .inr (1, [.ref pa, .ref pt, .int (nI (n + (chN Wd))), .int (nI i), .int k3, .int k4])), (pa, .inl (gC G, 80, .inl (apk p n Wd (chN Wd) (chN Wd))))] : va_W) = [(me, .inr (3, [.ref o, .ref ou, .ref oh, .ref os, .ref op, .int kc, .int sv])), (op, .inr (1, [.ref pa, .ref pt, .int (nI (n + chN Wd)), .int (nI i), .int k3, .int k4])), (pa, .inl (gC G, 80, .inl (apk p n Wd (chN Wd) (chN Wd))))] := (wlc (rfl) (wlc (rfl) (wlc (rfl) rfl)))
      rw [hwj] at hPj
      exact e_wi hx hb hr hlk hPj hS (by first | rfl | exact congrArg nI (by omega)) dX3_put_45
    · skip
      exact absurd c_23 (by omega)
  · skip
    exact absurd c_6 (by omega)
set_option maxHeartbeats 4000000 in
set_option maxRecDepth 100000 in
theorem c_X3_put_e (l : Launch) (G : gT) (me : Nat) (o : Nat) (ou : Nat) (oh : Nat) (os : Nat) (op : Nat) (kc : Int32) (sv : Int32) (ab : Nat) (af : Nat) (an : Nat) (aw : Nat) (Wd : Nat) (hW : Wd < 18446744073709551616) (hc0 : chN Wd = 0) : Ro l G yX3_put cX3_put 4 (some .int) 9 [(me, .inr (3, [.ref o, .ref ou, .ref oh, .ref os, .ref op, .int kc, .int sv]))] [.ref me, .long (lw Wd)] (-2) := by
  refine Ro.mk (by decide) (Nat.le_of_ble_eq_true rfl) (fun pq eq sq mq bq tq cq ls hr hlk hF hKx hZ hP hl => ?_)
  have hx := hF.1
  have hb := hF.2.1
  have hml := hF.2.2.1
  have hown : sq.vm.findClass RX3 = some mq.cls := hF.2.2.2.1
  have hts : ∀ w ∈ GW, w.before _ sq = true := hF.2.2.2.2
  have hK := hKx.1
  have hl : lv_has ls 4 [(0, .ref me), (1, .long (lw Wd))] := hl
  have hS : va_S (fun _ => False) sq.heap sq.heap [] := va_S.rf
  have hP : va_P G.1 vwCl [(me, .inr (3, [.ref o, .ref ou, .ref oh, .ref os, .ref op, .int kc, .int sv]))] sq.heap := hP
  have hch : chN Wd ≤ 8 := chk_le Wd 8 0
  refine lv_lload_n hx hb dX3_put_0 rfl (lv_at hl 1 rfl) ?_
  refine k_roS (As := [.long (lw Wd)]) (rest := []) hF (c_X3_charactersIn l G Wd (by omega)) mw_2_220 mw_2_221 mw_1_1 mw_2_222 hd_X3_charactersIn ⟨Nat.le_of_ble_eq_true rfl, Nat.le_of_ble_eq_true rfl⟩ (Rd.of hKx hZ hS) (hP.sub (ws' := []) [] rfl) rfl hl.1 rfl (Nat.le_of_ble_eq_true rfl) dX3_put_1 ⟨Nat.zero_le _, Nat.zero_le _⟩ ?_
  refine lv_istore_n (lv' := [(3, .int (nI (chN Wd))), (0, .ref me), (1, .long (lw Wd))]) hx hb dX3_put_4 rfl hl (by decide) rfl (fun ls hl => ?_)
  refine lv_iload_n hx hb dX3_put_5 rfl (lv_at hl 0 rfl) ?_
  refine z0_ne hx hb (tgt := 12) ((chN Wd : Nat) : Int) dX3_put_6 (by decide) (toI (by omega)) (fun c_6 => ?_) (fun c_6 => ?_)
  · skip
    exact absurd c_6 (by omega)
  · skip
    refine lv_bipush (v := (-2)) hx hb dX3_put_9 (by decide) ?_
    exact e_ri hx hb hr hlk (rfl) dX3_put_11
set_option maxHeartbeats 4000000 in
set_option maxRecDepth 100000 in
theorem c_X3_put_e2 (l : Launch) (G : gT) (me : Nat) (o : Nat) (ou : Nat) (oh : Nat) (os : Nat) (op : Nat) (kc : Int32) (sv : Int32) (ab : Nat) (af : Nat) (an : Nat) (aw : Nat) (pa : Nat) (pt : Nat) (n : Nat) (i : Nat) (k3 : Int32) (k4 : Int32) (p : Nat → Int32) (Wd : Nat) (hW : Wd < 18446744073709551616) (hn : n ≤ 80) (hc0 : ¬ chN Wd = 0) (hnc : ¬ n + chN Wd ≤ 80) : Ro l G yX3_put cX3_put 4 (some .int) 9 [(me, .inr (3, [.ref o, .ref ou, .ref oh, .ref os, .ref op, .int kc, .int sv])), (op, .inr (1, [.ref pa, .ref pt, .int (nI n), .int (nI i), .int k3, .int k4])), (pa, .inl (gC G, 80, .inl p))] [.ref me, .long (lw Wd)] (-4) := by
  refine Ro.mk (by decide) (Nat.le_of_ble_eq_true rfl) (fun pq eq sq mq bq tq cq ls hr hlk hF hKx hZ hP hl => ?_)
  have hx := hF.1
  have hb := hF.2.1
  have hml := hF.2.2.1
  have hown : sq.vm.findClass RX3 = some mq.cls := hF.2.2.2.1
  have hts : ∀ w ∈ GW, w.before _ sq = true := hF.2.2.2.2
  have hK := hKx.1
  have hl : lv_has ls 4 [(0, .ref me), (1, .long (lw Wd))] := hl
  have hS : va_S (fun _ => False) sq.heap sq.heap [] := va_S.rf
  have hP : va_P G.1 vwCl [(me, .inr (3, [.ref o, .ref ou, .ref oh, .ref os, .ref op, .int kc, .int sv])), (op, .inr (1, [.ref pa, .ref pt, .int (nI n), .int (nI i), .int k3, .int k4])), (pa, .inl (gC G, 80, .inl p))] sq.heap := hP
  have hch : chN Wd ≤ 8 := chk_le Wd 8 0
  refine lv_lload_n hx hb dX3_put_0 rfl (lv_at hl 1 rfl) ?_
  refine k_roS (As := [.long (lw Wd)]) (rest := []) hF (c_X3_charactersIn l G Wd (by omega)) mw_2_220 mw_2_221 mw_1_1 mw_2_222 hd_X3_charactersIn ⟨Nat.le_of_ble_eq_true rfl, Nat.le_of_ble_eq_true rfl⟩ (Rd.of hKx hZ hS) (hP.sub (ws' := []) [] rfl) rfl hl.1 rfl (Nat.le_of_ble_eq_true rfl) dX3_put_1 ⟨Nat.zero_le _, Nat.zero_le _⟩ ?_
  refine lv_istore_n (lv' := [(3, .int (nI (chN Wd))), (0, .ref me), (1, .long (lw Wd))]) hx hb dX3_put_4 rfl hl (by decide) rfl (fun ls hl => ?_)
  refine lv_iload_n hx hb dX3_put_5 rfl (lv_at hl 0 rfl) ?_
  refine z0_ne hx hb (tgt := 12) ((chN Wd : Nat) : Int) dX3_put_6 (by decide) (toI (by omega)) (fun c_6 => ?_) (fun c_6 => ?_)
  · skip
    refine lv_aload_n hx hb dX3_put_12 rfl (lv_at hl 1 rfl) ?_
    refine va_get (ci := 3) (v := .ref op) (C := RX3) (T := TX3) (N := 7) hx hb hts inGX3 hown hK hP 0 rfl rfl 4 (by decide) (hts _ mw_1_130) (fun _ h9 => h9) rfl dX3_put_13 ?_
    refine va_get (ci := 1) (v := .int (nI n)) (C := RX1) (T := TX1) (N := 6) hx hb hts inGX1 hown hK hP 1 rfl rfl 2 (by decide) (hts _ mw_1_107) (fun _ h9 => h9) rfl dX3_put_16 ?_
    refine lv_iload_n hx hb dX3_put_19 rfl (lv_at hl 0 rfl) ?_
    refine n_iadd hx hb dX3_put_20 ?_
    refine lv_bipush (v := nI 80) hx hb dX3_put_21 (by decide) ?_
    refine z_le hx hb (tgt := 29) ((n + chN Wd : Nat) : Int) 80 dX3_put_23 (by decide) (toI (by omega)) (by decide) (fun c_23 => ?_) (fun c_23 => ?_)
    · skip
      exact absurd c_23 (by omega)
    · skip
      refine lv_bipush (v := (-4)) hx hb dX3_put_26 (by decide) ?_
      exact e_ri hx hb hr hlk (rfl) dX3_put_28
  · skip
    exact absurd c_6 (by omega)
