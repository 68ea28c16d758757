theorem hd_X1_signHere : hdY yX1_signHere 0 := ⟨by decide +kernel, by decide +kernel, by decide +kernel⟩
theorem hd_X1_digitHere : hdY yX1_digitHere 0 := ⟨by decide +kernel, by decide +kernel, by decide +kernel⟩
theorem hd_X1_take : hdY yX1_take 1 := ⟨by decide +kernel, by decide +kernel, by decide +kernel⟩
theorem hd_X1_readNumber : hdY yX1_readNumber 0 := ⟨by decide +kernel, by decide +kernel, by decide +kernel⟩
set_option maxHeartbeats 4000000 in
set_option maxRecDepth 100000 in
theorem c_X1_signHere (l : Launch) (G : gT) (op : Nat) (pa : Nat) (pt : Nat) (n : Nat) (i : Nat) (k3 : Int32) (k4 : Int32) (p : Nat → Int32) (hn : n ≤ 80) (hPg : Pg p n) (hi : i ≤ 100) : Ro l G yX1_signHere cX1_signHere 2 (some .char) 1 [(op, .inr (1, [.ref pa, .ref pt, .int (nI n), .int (nI i), .int k3, .int k4])), (pa, .inl (gC G, 80, .inl p))] [.ref op] (cgn p n i) := by
  refine Ro.mk (by decide) (Nat.le_of_ble_eq_true rfl) (fun pq eq sq mq bq tq cq ls hr hlk hF hKx hZ hP hl => ?_)
  have hx := hF.1
  have hb := hF.2.1
  have hml := hF.2.2.1
  have hown : sq.vm.findClass RX1 = some mq.cls := hF.2.2.2.1
  have hts : ∀ w ∈ GW, w.before _ sq = true := hF.2.2.2.2
  have hK := hKx.1
  have hl : lv_has ls 2 [(0, .ref op)] := hl
  have hS : va_S (fun _ => False) sq.heap sq.heap [] := va_S.rf
  have hP : va_P G.1 vwCl [(op, .inr (1, [.ref pa, .ref pt, .int (nI n), .int (nI i), .int k3, .int k4])), (pa, .inl (gC G, 80, .inl p))] sq.heap := hP
  refine lv_aload_n hx hb dX1_signHere_0 rfl (lv_at hl 0 rfl) ?_
  refine va_get (ci := 1) (v := .int (nI i)) (C := RX1) (T := TX1) (N := 6) hx hb hts inGX1 hown hK hP 0 rfl rfl 3 (by decide) (hts _ mw_1_108) (fun _ h9 => h9) rfl dX1_signHere_1 ?_
  refine z0_lt hx hb (tgt := 34) ((i : Nat) : Int) dX1_signHere_4 (by decide) (toI (by omega)) (fun c_4 => ?_) (fun c_4 => ?_)
  · skip
    exact absurd c_4 (by omega)
  · skip
    refine lv_aload_n hx hb dX1_signHere_7 rfl (lv_at hl 0 rfl) ?_
    refine va_get (ci := 1) (v := .int (nI i)) (C := RX1) (T := TX1) (N := 6) hx hb hts inGX1 hown hK hP 0 rfl rfl 3 (by decide) (hts _ mw_1_108) (fun _ h9 => h9) rfl dX1_signHere_8 ?_
    refine lv_aload_n hx hb dX1_signHere_11 rfl (lv_at hl 0 rfl) ?_
    refine va_get (ci := 1) (v := .int (nI n)) (C := RX1) (T := TX1) (N := 6) hx hb hts inGX1 hown hK hP 0 rfl rfl 2 (by decide) (hts _ mw_1_106) (fun _ h9 => h9) rfl dX1_signHere_12 ?_
    refine z_ge hx hb (tgt := 34) ((i : Nat) : Int) ((n : Nat) : Int) dX1_signHere_15 (by decide) (toI (by omega)) (toI (by omega)) (fun c_15 => ?_) (fun c_15 => ?_)
    · skip
      refine lv_iconst (v := nI 0) hx hb dX1_signHere_34 (by decide) ?_
      refine lv_istore_n (lv' := [(1, .int (nI 0)), (0, .ref op)]) hx hb dX1_signHere_35 rfl hl (by decide) rfl (fun ls hl => ?_)
      refine lv_iload_n hx hb dX1_signHere_36 rfl (lv_at hl 0 rfl) ?_
      refine z0_eq hx hb (tgt := 52) 0 dX1_signHere_37 (by decide) (by decide) (fun c_37 => ?_) (fun c_37 => ?_)
      · skip
        refine lv_iconst (v := nI 0) hx hb dX1_signHere_52 (by decide) ?_
        exact e_rz hx hb hr hlk (by first | exact ch_nar (by have hq9 := hPg i (by omega); omega) | exact (pk_charN (by omega)).1) (by unfold cgn; first | exact (if_pos (by omega)).symm | exact (if_neg (by omega)).symm) dX1_signHere_53
      · skip
        exact absurd c_37 (by decide)
    · skip
      refine lv_aload_n hx hb dX1_signHere_18 rfl (lv_at hl 0 rfl) ?_
      refine va_get (ci := 1) (v := .int (nI i)) (C := RX1) (T := TX1) (N := 6) hx hb hts inGX1 hown hK hP 0 rfl rfl 3 (by decide) (hts _ mw_1_108) (fun _ h9 => h9) rfl dX1_signHere_19 ?_
      refine lv_aload_n hx hb dX1_signHere_22 rfl (lv_at hl 0 rfl) ?_
      refine va_get (ci := 1) (v := .ref pa) (C := RX1) (T := TX1) (N := 6) hx hb hts inGX1 hown hK hP 0 rfl rfl 0 (by decide) (hts _ mw_1_104) (fun _ h9 => h9) rfl dX1_signHere_23 ?_
      refine va_alen (v := nI 80) hx hb hK hP 1 1 rfl rfl rfl dX1_signHere_26 ?_
      refine z_ge hx hb (tgt := 34) ((i : Nat) : Int) 80 dX1_signHere_27 (by decide) (toI (by omega)) (by decide) (fun c_27 => ?_) (fun c_27 => ?_)
      · skip
        exact absurd c_27 (by omega)
      · skip
        refine lv_iconst (v := nI 1) hx hb dX1_signHere_30 (by decide) ?_
        refine lv_goto (tgt := 35) hx hb dX1_signHere_31 (by decide) ?_
        refine lv_istore_n (lv' := [(1, .int (nI 1)), (0, .ref op)]) hx hb dX1_signHere_35 rfl hl (by decide) rfl (fun ls hl => ?_)
        refine lv_iload_n hx hb dX1_signHere_36 rfl (lv_at hl 0 rfl) ?_
        refine z0_eq hx hb (tgt := 52) 1 dX1_signHere_37 (by decide) (by decide) (fun c_37 => ?_) (fun c_37 => ?_)
        · skip
          exact absurd c_37 (by decide)
        · skip
          refine lv_aload_n hx hb dX1_signHere_40 rfl (lv_at hl 1 rfl) ?_
          refine va_get (ci := 1) (v := .ref pa) (C := RX1) (T := TX1) (N := 6) hx hb hts inGX1 hown hK hP 0 rfl rfl 0 (by decide) (hts _ mw_1_104) (fun _ h9 => h9) rfl dX1_signHere_41 ?_
          refine lv_aload_n hx hb dX1_signHere_44 rfl (lv_at hl 1 rfl) ?_
          refine va_get (ci := 1) (v := .int (nI i)) (C := RX1) (T := TX1) (N := 6) hx hb hts inGX1 hown hK hP 0 rfl rfl 3 (by decide) (hts _ mw_1_108) (fun _ h9 => h9) rfl dX1_signHere_45 ?_
          refine n_cald hx hb hK hP 1 1 rfl rfl (by omega) (by omega) dX1_signHere_48 ?_
          refine lv_goto (tgt := 53) hx hb dX1_signHere_49 (by decide) ?_
          exact e_rz hx hb hr hlk (by first | exact ch_nar (by have hq9 := hPg i (by omega); omega) | exact (pk_charN (by omega)).1) (by unfold cgn; first | exact (if_pos (by omega)).symm | exact (if_neg (by omega)).symm) dX1_signHere_53
set_option maxHeartbeats 4000000 in
set_option maxRecDepth 100000 in
theorem c_X1_digitHere (l : Launch) (G : gT) (op : Nat) (pa : Nat) (pt : Nat) (n : Nat) (i : Nat) (k3 : Int32) (k4 : Int32) (p : Nat → Int32) (hn : n ≤ 80) (hPg : Pg p n) (hi : i ≤ 100) : Ro l G yX1_digitHere cX1_digitHere 2 (some .int) 2 [(op, .inr (1, [.ref pa, .ref pt, .int (nI n), .int (nI i), .int k3, .int k4])), (pa, .inl (gC G, 80, .inl p))] [.ref op] (cdg p n i) := by
  refine Ro.mk (by decide) (Nat.le_of_ble_eq_true rfl) (fun pq eq sq mq bq tq cq ls hr hlk hF hKx hZ hP hl => ?_)
  have hx := hF.1
  have hb := hF.2.1
  have hml := hF.2.2.1
  have hown : sq.vm.findClass RX1 = some mq.cls := hF.2.2.2.1
  have hts : ∀ w ∈ GW, w.before _ sq = true := hF.2.2.2.2
  have hK := hKx.1
  have hl : lv_has ls 2 [(0, .ref op)] := hl
  have hS : va_S (fun _ => False) sq.heap sq.heap [] := va_S.rf
  have hP : va_P G.1 vwCl [(op, .inr (1, [.ref pa, .ref pt, .int (nI n), .int (nI i), .int k3, .int k4])), (pa, .inl (gC G, 80, .inl p))] sq.heap := hP
  refine lv_aload_n hx hb dX1_digitHere_0 rfl (lv_at hl 0 rfl) ?_
  refine k_roV (ci := 1) (q0 := 0) (As := []) (rest := []) hF (c_X1_signHere l G op pa pt n i k3 k4 p (by omega) (hPg) (by omega)) hKx hP ⟨_, rfl, rfl⟩ rfl rfl mw_3_14 mw_3_15 mw_3_16 mw_1_3 mw_3_17 hd_X1_signHere ⟨Nat.le_of_ble_eq_true rfl, Nat.le_of_ble_eq_true rfl⟩ (Rd.of hKx hZ hS) (hP.sub (ws' := [(op, .inr (1, [.ref pa, .ref pt, .int (nI n), .int (nI i), .int k3, .int k4])), (pa, .inl (gC G, 80, .inl p))]) [0, 1] rfl) rfl hl.1 rfl (Nat.le_of_ble_eq_true rfl) dX1_digitHere_1 ⟨Nat.zero_le _, Nat.zero_le _⟩ ?_
  refine lv_istore_n (lv' := [(1, .int (cgn p n i)), (0, .ref op)]) hx hb dX1_digitHere_4 rfl hl (by decide) rfl (fun ls hl => ?_)
  refine lv_iload_n hx hb dX1_digitHere_5 rfl (lv_at hl 0 rfl) ?_
  refine lv_bipush (v := nI 48) hx hb dX1_digitHere_6 (by decide) ?_
  refine z_lt hx hb (tgt := 24) ((cgn p n i).toInt) 48 dX1_digitHere_8 (by decide) rfl (by decide) (fun c_8 => ?_) (fun c_8 => ?_)
  · skip
    refine lv_iconst (v := (-1)) hx hb dX1_digitHere_24 (by decide) ?_
    exact e_ri hx hb hr hlk (by first | exact cdg_sub (cg_d.mp (by omega)) | exact (cdg_f (fun z => by have hq9 := cg_d.mpr z; omega)).symm) dX1_digitHere_25
  · skip
    refine lv_iload_n hx hb dX1_digitHere_11 rfl (lv_at hl 0 rfl) ?_
    refine lv_bipush (v := nI 57) hx hb dX1_digitHere_12 (by decide) ?_
    refine z_gt hx hb (tgt := 24) ((cgn p n i).toInt) 57 dX1_digitHere_14 (by decide) rfl (by decide) (fun c_14 => ?_) (fun c_14 => ?_)
    · skip
      refine lv_iconst (v := (-1)) hx hb dX1_digitHere_24 (by decide) ?_
      exact e_ri hx hb hr hlk (by first | exact cdg_sub (cg_d.mp (by omega)) | exact (cdg_f (fun z => by have hq9 := cg_d.mpr z; omega)).symm) dX1_digitHere_25
    · skip
      refine lv_iload_n hx hb dX1_digitHere_17 rfl (lv_at hl 0 rfl) ?_
      refine lv_bipush (v := nI 48) hx hb dX1_digitHere_18 (by decide) ?_
      refine lv_isub hx hb dX1_digitHere_20 ?_
      refine lv_goto (tgt := 25) hx hb dX1_digitHere_21 (by decide) ?_
      exact e_ri hx hb hr hlk (by first | exact cdg_sub (cg_d.mp (by omega)) | exact (cdg_f (fun z => by have hq9 := cg_d.mpr z; omega)).symm) dX1_digitHere_25
set_option maxHeartbeats 4000000 in
set_option maxRecDepth 100000 in
theorem c_X1_take (l : Launch) (G : gT) (sz : Nat) (op : Nat) (pa : Nat) (pt : Nat) (n : Nat) (i : Nat) (k3 : Int32) (k4 : Int32) (p : Nat → Int32) (kk : Nat) (hn : n ≤ 80) (hPg : Pg p n) (hi : i ≤ 100) (hkk : 1 ≤ kk ∧ kk ≤ 127) : Rw l G yX1_take cX1_take 2 (some .boolean) 2 sz [(op, .inr (1, [.ref pa, .ref pt, .int (nI n), .int (nI i), .int k3, .int k4])), (pa, .inl (gC G, 80, .inl p))] [.ref op, .int (nI kk)] (pI (sg p n i = ((kk : Nat) : Int))) [(op, .inr (1, [.ref pa, .ref pt, .int (nI n), .int (nI (tkE p n i ((kk : Nat) : Int))), .int k3, .int k4])), (pa, .inl (gC G, 80, .inl p))] := by
  refine Rw.mk (by decide) (Nat.le_of_ble_eq_true rfl) (fun pq eq sq mq bq tq cq ls A hr hlk hF hKx hZ hA hP hD hS hl => ?_)
  have hx := hF.1
  have hb := hF.2.1
  have hml := hF.2.2.1
  have hown : sq.vm.findClass RX1 = some mq.cls := hF.2.2.2.1
  have hts : ∀ w ∈ GW, w.before _ sq = true := hF.2.2.2.2
  have hK := hKx.1
  have hl : lv_has ls 2 [(0, .ref op), (1, .int (nI kk))] := hl
  have hP : va_P G.1 vwCl [(op, .inr (1, [.ref pa, .ref pt, .int (nI n), .int (nI i), .int k3, .int k4])), (pa, .inl (gC G, 80, .inl p))] sq.heap := hP
  have hD : va_D A [(op, .inr (1, [.ref pa, .ref pt, .int (nI n), .int (nI i), .int k3, .int k4])), (pa, .inl (gC G, 80, .inl p))] := hD
  refine lv_aload_n hx hb dX1_take_0 rfl (lv_at hl 0 rfl) ?_
  refine k_roV (ci := 1) (q0 := 0) (As := []) (rest := []) hF (c_X1_signHere l G op pa pt n i k3 k4 p (by omega) (hPg) (by omega)) hKx hP ⟨_, rfl, rfl⟩ rfl rfl mw_3_14 mw_3_15 mw_3_16 mw_1_3 mw_3_17 hd_X1_signHere ⟨Nat.le_of_ble_eq_true rfl, Nat.le_of_ble_eq_true rfl⟩ (Rd.of hKx hZ hS) (hP.sub (ws' := [(op, .inr (1, [.ref pa, .ref pt, .int (nI n), .int (nI i), .int k3, .int k4])), (pa, .inl (gC G, 80, .inl p))]) [0, 1] rfl) rfl hl.1 rfl (Nat.le_of_ble_eq_true rfl) dX1_take_1 ⟨Nat.zero_le _, Nat.zero_le _⟩ ?_
  refine lv_iload_n hx hb dX1_take_4 rfl (lv_at hl 1 rfl) ?_
  refine z_eq hx hb (tgt := 10) ((cgn p n i).toInt) ((kk : Nat) : Int) dX1_take_5 (by decide) rfl (toI (by omega)) (fun c_5 => ?_) (fun c_5 => ?_)
  · skip
    refine lv_aload_n hx hb dX1_take_10 rfl (lv_at hl 0 rfl) ?_
    refine lv_dup hx hb dX1_take_11 rfl ?_
    refine va_get (ci := 1) (v := .int (nI i)) (C := RX1) (T := TX1) (N := 6) hx hb hts inGX1 hown hK hP 0 rfl rfl 3 (by decide) (hts _ mw_1_108) (fun _ h9 => h9) rfl dX1_take_12 ?_
    refine lv_iconst (v := nI 1) hx hb dX1_take_15 (by decide) ?_
    refine n_iadd hx hb dX1_take_16 ?_
    refine va_put (ci := 1) (v := .int (nI (i + 1))) (ty := .int) (C := RX1) (T := TX1) (N := 6) hx hb hts inGX1 tyX1 tyX1_ok nmX1 hown hK hP hD hS 0 rfl rfl 3 (by decide) (hts _ mw_1_108) (fun _ h9 => h9) rfl (by decide +kernel) rfl rfl (Nat.le_of_ble_eq_true rfl) dX1_take_17 (fun H locs hP hD hS => ?_)
    have hP : va_P G.1 vwCl [(op, .inr (1, [.ref pa, .ref pt, .int (nI n), .int (nI (i + 1)), .int k3, .int k4])), (pa, .inl (gC G, 80, .inl p))] H := hP
    have hD : va_D A [(op, .inr (1, [.ref pa, .ref pt, .int (nI n), .int (nI (i + 1)), .int k3, .int k4])), (pa, .inl (gC G, 80, .inl p))] := hD
    refine lv_iconst (v := nI 1) hx hb dX1_take_20 (by decide) ?_
    have hPj := hP.sub (ws' := [(op, .inr (1, [.ref pa, .ref pt, .int (nI n), .int (nI (i + 1)), .int k3, .int k4])), (pa, .inl (gC G, 80, .inl p))]) [0, 1] rfl
    have hwj : ([(op, .inr (1, [.ref pa, .ref pt, .int (nI n), .int (nI (i + 1)), .int k3, .int k4])), (pa, .inl (gC G, 80, .inl p))] : va_W) = [(op, .inr (1, [.ref pa, .ref pt, .int (nI n), .int (nI (tkE p n i ((kk : Nat) : Int))), .int k3, .int k4])), (pa, .inl (gC G, 80, .inl p))] := (wlc (by rw [tkE_t ((cg_k (by omega)).mp c_5)]) (wlc (rfl) rfl))
    rw [hwj] at hPj
    exact e_wz hx hb hr hlk (nz_1) hPj hS (pI_t' ((cg_k (by omega)).mp c_5)) dX1_take_21
  · skip
    refine lv_iconst (v := nI 0) hx hb dX1_take_8 (by decide) ?_
    have hPj := hP.sub (ws' := [(op, .inr (1, [.ref pa, .ref pt, .int (nI n), .int (nI i), .int k3, .int k4])), (pa, .inl (gC G, 80, .inl p))]) [0, 1] rfl
    have hwj : ([(op, .inr (1, [.ref pa, .ref pt, .int (nI n), .int (nI i), .int k3, .int k4])), (pa, .inl (gC G, 80, .inl p))] : va_W) = [(op, .inr (1, [.ref pa, .ref pt, .int (nI n), .int (nI (tkE p n i ((kk : Nat) : Int))), .int k3, .int k4])), (pa, .inl (gC G, 80, .inl p))] := (wlc (by rw [tkE_f (fun z => c_5 ((cg_k (by omega)).mpr z))]) (wlc (rfl) rfl))
    rw [hwj] at hPj
    exact e_wz hx hb hr hlk (nz_0) hPj hS (pI_f' (fun z => c_5 ((cg_k (by omega)).mpr z))) dX1_take_9
set_option maxHeartbeats 4000000 in
set_option maxRecDepth 100000 in
theorem c_X1_readNumber (l : Launch) (G : gT) (sz : Nat) (op : Nat) (pa : Nat) (pt : Nat) (n : Nat) (i : Nat) (k3 : Int32) (k4 : Int32) (p : Nat → Int32) (hn : n ≤ 80) (hPg : Pg p n) (hi : i ≤ n) : Rw l G yX1_readNumber cX1_readNumber 4 (some .int) 3 sz [(op, .inr (1, [.ref pa, .ref pt, .int (nI n), .int (nI i), .int k3, .int k4])), (pa, .inl (gC G, 80, .inl p))] [.ref op] (cnR p n i) [(op, .inr (1, [.ref pa, .ref pt, .int (nI n), .int (nI (nE p n i)), .int k3, .int k4])), (pa, .inl (gC G, 80, .inl p))] := by
  refine Rw.mk (by decide) (Nat.le_of_ble_eq_true rfl) (fun pq eq sq mq bq tq cq ls A hr hlk hF hKx hZ hA hP hD hS hl => ?_)
  have hx := hF.1
  have hb := hF.2.1
  have hml := hF.2.2.1
  have hown : sq.vm.findClass RX1 = some mq.cls := hF.2.2.2.1
  have hts : ∀ w ∈ GW, w.before _ sq = true := hF.2.2.2.2
  have hK := hKx.1
  have hl : lv_has ls 4 [(0, .ref op)] := hl
  have hP : va_P G.1 vwCl [(op, .inr (1, [.ref pa, .ref pt, .int (nI n), .int (nI i), .int k3, .int k4])), (pa, .inl (gC G, 80, .inl p))] sq.heap := hP
  have hD : va_D A [(op, .inr (1, [.ref pa, .ref pt, .int (nI n), .int (nI i), .int k3, .int k4])), (pa, .inl (gC G, 80, .inl p))] := hD
  refine lv_aload_n hx hb dX1_readNumber_0 rfl (lv_at hl 0 rfl) ?_
  refine k_roV (ci := 1) (q0 := 0) (As := []) (rest := []) hF (c_X1_digitHere l G op pa pt n i k3 k4 p (by omega) (hPg) (by omega)) hKx hP ⟨_, rfl, rfl⟩ rfl rfl mw_3_22 mw_3_23 mw_3_24 mw_1_3 mw_3_25 hd_X1_digitHere ⟨Nat.le_of_ble_eq_true rfl, Nat.le_of_ble_eq_true rfl⟩ (Rd.of hKx hZ hS) (hP.sub (ws' := [(op, .inr (1, [.ref pa, .ref pt, .int (nI n), .int (nI i), .int k3, .int k4])), (pa, .inl (gC G, 80, .inl p))]) [0, 1] rfl) rfl hl.1 rfl (Nat.le_of_ble_eq_true rfl) dX1_readNumber_1 ⟨Nat.zero_le _, Nat.zero_le _⟩ ?_
  refine lv_istore_n (lv' := [(1, .int (cdg p n i)), (0, .ref op)]) hx hb dX1_readNumber_4 rfl hl (by decide) rfl (fun ls hl => ?_)
  refine lv_iload_n hx hb dX1_readNumber_5 rfl (lv_at hl 0 rfl) ?_
  refine lv_iconst (v := (-1)) hx hb dX1_readNumber_6 (by decide) ?_
  refine z_ne hx hb (tgt := 12) ((cdg p n i).toInt) (-1) dX1_readNumber_7 (by decide) rfl (by decide) (fun c_7 => ?_) (fun c_7 => ?_)
  · skip
    have hd0 : dgP p n i := Classical.byContradiction (fun z => c_7 (cdg_1.mpr z))
    have hdv0 := dv_in hd0
    have hin0 := (dg_ne hd0).2.2.2
    have hcd0 := cdg_t hd0
    refine lv_aload_n hx hb dX1_readNumber_12 rfl (lv_at hl 1 rfl) ?_
    refine lv_dup hx hb dX1_readNumber_13 rfl ?_
    refine va_get (ci := 1) (v := .int (nI i)) (C := RX1) (T := TX1) (N := 6) hx hb hts inGX1 hown hK hP 0 rfl rfl 3 (by decide) (hts _ mw_1_108) (fun _ h9 => h9) rfl dX1_readNumber_14 ?_
    refine lv_iconst (v := nI 1) hx hb dX1_readNumber_17 (by decide) ?_
    refine n_iadd hx hb dX1_readNumber_18 ?_
    refine va_put (ci := 1) (v := .int (nI (i + 1))) (ty := .int) (C := RX1) (T := TX1) (N := 6) hx hb hts inGX1 tyX1 tyX1_ok nmX1 hown hK hP hD hS 0 rfl rfl 3 (by decide) (hts _ mw_1_108) (fun _ h9 => h9) rfl (by decide +kernel) rfl rfl (Nat.le_of_ble_eq_true rfl) dX1_readNumber_19 (fun H locs hP hD hS => ?_)
    have hP : va_P G.1 vwCl [(op, .inr (1, [.ref pa, .ref pt, .int (nI n), .int (nI (i + 1)), .int k3, .int k4])), (pa, .inl (gC G, 80, .inl p))] H := hP
    have hD : va_D A [(op, .inr (1, [.ref pa, .ref pt, .int (nI n), .int (nI (i + 1)), .int k3, .int k4])), (pa, .inl (gC G, 80, .inl p))] := hD
    refine lv_iconst (v := nI 0) hx hb dX1_readNumber_22 (by decide) ?_
    refine lv_istore_n (lv' := [(2, .int (nI 0)), (1, .int (cdg p n i)), (0, .ref op)]) hx hb dX1_readNumber_23 rfl hl (by decide) rfl (fun ls hl => ?_)
    have hPj := hP.sub (ws' := [(op, .inr (1, [.ref pa, .ref pt, .int (nI n), .int (nI (i + 1)), .int k3, .int k4])), (pa, .inl (gC G, 80, .inl p))]) [0, 1] rfl
    have hDj := hD.sub (ws' := [(op, .inr (1, [.ref pa, .ref pt, .int (nI n), .int (nI (i + 1)), .int k3, .int k4])), (pa, .inl (gC G, 80, .inl p))]) [0, 1] (by decide) rfl
    have hwj : ([(op, .inr (1, [.ref pa, .ref pt, .int (nI n), .int (nI (i + 1)), .int k3, .int k4])), (pa, .inl (gC G, 80, .inl p))] : va_W) = [(op, .inr (1, [.ref pa, .ref pt, .int (nI n), .int (nI (i + 1 + 0)), .int k3, .int k4])), (pa, .inl (gC G, 80, .inl p))] := (wlc (rfl) (wlc (rfl) rfl))
    rw [hwj] at hPj hDj
    refine wloopH [] (fun k H locs ls => (i + 1 + k ≤ n) ∧ (vk p n i k < 3650) ∧ (nuV p n i = nV p n (vk p n i k) (i + 1 + k)) ∧ (nE p n i = nW p n (vk p n i k) (i + 1 + k)) ∧ (dgP p n i) ∧ va_P G.1 vwCl [(op, .inr (1, [.ref pa, .ref pt, .int (nI n), .int (nI (i + 1 + k)), .int k3, .int k4])), (pa, .inl (gC G, 80, .inl p))] H ∧ va_D A [(op, .inr (1, [.ref pa, .ref pt, .int (nI n), .int (nI (i + 1 + k)), .int k3, .int k4])), (pa, .inl (gC G, 80, .inl p))] ∧ va_S A sq.heap H locs ∧ lv_has ls 4 [(2, .int (nI k)), (1, .int (nI (vk p n i k))), (0, .ref op)]) (fun k => n - (i + 1 + k)) ?_ 0 ⟨(by omega), (by show dv p n i < 3650; omega), (rfl), (nE_t hd0), (hd0), hPj, hDj, hS, lv_sub hl [0, 1, 2] (lvr (lvc (hcd0) (lvr rfl)))⟩
    intro k ih
    intro H locs ls ⟨hk, hv2, hV, hW, hdi, hP, hD, hS, hl⟩
    refine lv_iload_n hx hb dX1_readNumber_24 rfl (lv_at hl 0 rfl) ?_
    refine lv_bipush (v := nI 80) hx hb dX1_readNumber_25 (by decide) ?_
    refine z_ge hx hb (tgt := 81) ((k : Nat) : Int) 80 dX1_readNumber_27 (by decide) (toI (by omega)) (by decide) (fun c_27 => ?_) (fun c_27 => ?_)
    · skip
      exact absurd c_27 (by omega)
    · skip
      refine lv_aload_n hx hb dX1_readNumber_30 rfl (lv_at hl 2 rfl) ?_
      refine k_roV (ci := 1) (q0 := 0) (As := []) (rest := []) hF (c_X1_digitHere l G op pa pt n (i + 1 + k) k3 k4 p (by omega) (hPg) (by omega)) hKx hP ⟨_, rfl, rfl⟩ rfl rfl mw_3_22 mw_3_23 mw_3_24 mw_1_3 mw_3_25 hd_X1_digitHere ⟨Nat.le_of_ble_eq_true rfl, Nat.le_of_ble_eq_true rfl⟩ (Rd.of hKx hZ hS) (hP.sub (ws' := [(op, .inr (1, [.ref pa, .ref pt, .int (nI n), .int (nI (i + 1 + k)), .int k3, .int k4])), (pa, .inl (gC G, 80, .inl p))]) [0, 1] rfl) rfl hl.1 rfl (Nat.le_of_ble_eq_true rfl) dX1_readNumber_31 ⟨Nat.zero_le _, Nat.zero_le _⟩ ?_
      refine lv_istore_n (lv' := [(3, .int (cdg p n (i + 1 + k))), (2, .int (nI k)), (1, .int (nI (vk p n i k))), (0, .ref op)]) hx hb dX1_readNumber_34 rfl hl (by decide) rfl (fun ls hl => ?_)
      refine lv_iload_n hx hb dX1_readNumber_35 rfl (lv_at hl 0 rfl) ?_
      refine lv_iconst (v := (-1)) hx hb dX1_readNumber_36 (by decide) ?_
      refine z_eq hx hb (tgt := 56) ((cdg p n (i + 1 + k)).toInt) (-1) dX1_readNumber_37 (by decide) rfl (by decide) (fun c_37 => ?_) (fun c_37 => ?_)
      · skip
        have hd1 : ¬ dgP p n (i + 1 + k) := cdg_1.mp c_37
        have hnc : ¬ cnt p n (vk p n i k) (i + 1 + k) := fun z => hd1 z.1
        refine lv_iload_n hx hb dX1_readNumber_56 rfl (lv_at hl 2 rfl) ?_
        have hPj := hP.sub (ws' := [(op, .inr (1, [.ref pa, .ref pt, .int (nI n), .int (nI (i + 1 + k)), .int k3, .int k4])), (pa, .inl (gC G, 80, .inl p))]) [0, 1] rfl
        have hwj : ([(op, .inr (1, [.ref pa, .ref pt, .int (nI n), .int (nI (i + 1 + k)), .int k3, .int k4])), (pa, .inl (gC G, 80, .inl p))] : va_W) = [(op, .inr (1, [.ref pa, .ref pt, .int (nI n), .int (nI (nE p n i)), .int k3, .int k4])), (pa, .inl (gC G, 80, .inl p))] := (wlc (by rw [hW.trans (nW_f hnc)]) (wlc (rfl) rfl))
        rw [hwj] at hPj
        exact e_wi hx hb hr hlk hPj hS (((cnR_t hdi).trans (congrArg nI (hV.trans (nV_f hnc)))).symm) dX1_readNumber_57
      · skip
        have hd1 : dgP p n (i + 1 + k) := Classical.byContradiction (fun z => c_37 (cdg_1.mpr z))
        have hdv1 := dv_in hd1
        have hin1 := (dg_ne hd1).2.2.2
        have hcd1 := cdg_t hd1
        refine lv_iload_n hx hb dX1_readNumber_40 rfl (lv_at hl 2 rfl) ?_
        refine z0_eq hx hb (tgt := 56) ((vk p n i k : Nat) : Int) dX1_readNumber_41 (by decide) (toI (by omega)) (fun c_41 => ?_) (fun c_41 => ?_)
        · skip
          have hnc : ¬ cnt p n (vk p n i k) (i + 1 + k) := fun z => z.2.1 (by omega)
          refine lv_iload_n hx hb dX1_readNumber_56 rfl (lv_at hl 2 rfl) ?_
          have hPj := hP.sub (ws' := [(op, .inr (1, [.ref pa, .ref pt, .int (nI n), .int (nI (i + 1 + k)), .int k3, .int k4])), (pa, .inl (gC G, 80, .inl p))]) [0, 1] rfl
          have hwj : ([(op, .inr (1, [.ref pa, .ref pt, .int (nI n), .int (nI (i + 1 + k)), .int k3, .int k4])), (pa, .inl (gC G, 80, .inl p))] : va_W) = [(op, .inr (1, [.ref pa, .ref pt, .int (nI n), .int (nI (nE p n i)), .int k3, .int k4])), (pa, .inl (gC G, 80, .inl p))] := (wlc (by rw [hW.trans (nW_f hnc)]) (wlc (rfl) rfl))
          rw [hwj] at hPj
          exact e_wi hx hb hr hlk hPj hS (((cnR_t hdi).trans (congrArg nI (hV.trans (nV_f hnc)))).symm) dX1_readNumber_57
        · skip
          refine lv_iload_n hx hb dX1_readNumber_44 rfl (lv_at hl 2 rfl) ?_
          refine lv_bipush (v := nI 10) hx hb dX1_readNumber_45 (by decide) ?_
          refine n_imul hx hb dX1_readNumber_47 ?_
          refine lv_iload_n hx hb dX1_readNumber_48 rfl (lv_at hl 0 rfl) ?_
          refine lv_cv (y := nI (dv p n (i + 1 + k))) (hcd1) ?_
          refine n_iadd hx hb dX1_readNumber_49 ?_
          refine lv_cv (y := nI (10 * vk p n i k + dv p n (i + 1 + k))) (congrArg nI (by omega)) ?_
          refine lv_sipush (v := nI 3649) hx hb dX1_readNumber_50 (by decide) ?_
          refine z_le hx hb (tgt := 58) ((10 * vk p n i k + dv p n (i + 1 + k) : Nat) : Int) 3649 dX1_readNumber_53 (by decide) (toI (by omega)) (by decide) (fun c_53 => ?_) (fun c_53 => ?_)
          · skip
            have hct : cnt p n (vk p n i k) (i + 1 + k) := ⟨hd1, by omega, by omega⟩
            refine lv_iload_n hx hb dX1_readNumber_58 rfl (lv_at hl 2 rfl) ?_
            refine lv_bipush (v := nI 10) hx hb dX1_readNumber_59 (by decide) ?_
            refine n_imul hx hb dX1_readNumber_61 ?_
            refine lv_iload_n hx hb dX1_readNumber_62 rfl (lv_at hl 0 rfl) ?_
            refine lv_cv (y := nI (dv p n (i + 1 + k))) (hcd1) ?_
            refine n_iadd hx hb dX1_readNumber_63 ?_
            refine lv_cv (y := nI (10 * vk p n i k + dv p n (i + 1 + k))) (congrArg nI (by omega)) ?_
            refine lv_istore_n (lv' := [(1, .int (nI (10 * vk p n i k + dv p n (i + 1 + k)))), (3, .int (cdg p n (i + 1 + k))), (2, .int (nI k)), (0, .ref op)]) hx hb dX1_readNumber_64 rfl hl (by decide) rfl (fun ls hl => ?_)
            refine lv_aload_n hx hb dX1_readNumber_65 rfl (lv_at hl 3 rfl) ?_
            refine lv_dup hx hb dX1_readNumber_66 rfl ?_
            refine va_get (ci := 1) (v := .int (nI (i + 1 + k))) (C := RX1) (T := TX1) (N := 6) hx hb hts inGX1 hown hK hP 0 rfl rfl 3 (by decide) (hts _ mw_1_108) (fun _ h9 => h9) rfl dX1_readNumber_67 ?_
            refine lv_iconst (v := nI 1) hx hb dX1_readNumber_70 (by decide) ?_
            refine n_iadd hx hb dX1_readNumber_71 ?_
            refine va_put (ci := 1) (v := .int (nI (i + 1 + k + 1))) (ty := .int) (C := RX1) (T := TX1) (N := 6) hx hb hts inGX1 tyX1 tyX1_ok nmX1 hown hK hP hD hS 0 rfl rfl 3 (by decide) (hts _ mw_1_108) (fun _ h9 => h9) rfl (by decide +kernel) rfl rfl (Nat.le_of_ble_eq_true rfl) dX1_readNumber_72 (fun H locs hP hD hS => ?_)
            have hP : va_P G.1 vwCl [(op, .inr (1, [.ref pa, .ref pt, .int (nI n), .int (nI (i + 1 + k + 1)), .int k3, .int k4])), (pa, .inl (gC G, 80, .inl p))] H := hP
            have hD : va_D A [(op, .inr (1, [.ref pa, .ref pt, .int (nI n), .int (nI (i + 1 + k + 1)), .int k3, .int k4])), (pa, .inl (gC G, 80, .inl p))] := hD
            refine lv_iinc (v := nI (k + 1)) (lv' := [(2, .int (nI (k + 1))), (1, .int (nI (10 * vk p n i k + dv p n (i + 1 + k)))), (3, .int (cdg p n (i + 1 + k))), (0, .ref op)]) hx hb dX1_readNumber_75 hl (k := 2) rfl (nI_add _ _) (by decide) rfl (fun ls hl => ?_)
            refine lv_goto (tgt := 24) hx hb dX1_readNumber_78 (by decide) ?_
            have w_1 : ([(op, .inr (1, [.ref pa, .ref pt, .int (nI n), .int (nI (i + 1 + k + 1)), .int k3, .int k4])), (pa, .inl (gC G, 80, .inl p))] : va_W) = [(op, .inr (1, [.ref pa, .ref pt, .int (nI n), .int (nI (i + 1 + (k + 1))), .int k3, .int k4])), (pa, .inl (gC G, 80, .inl p))] := (wlc (rfl) (wlc (rfl) rfl))
            have hPj := hP.sub (ws' := [(op, .inr (1, [.ref pa, .ref pt, .int (nI n), .int (nI (i + 1 + k + 1)), .int k3, .int k4])), (pa, .inl (gC G, 80, .inl p))]) [0, 1] rfl
            have hDj := hD.sub (ws' := [(op, .inr (1, [.ref pa, .ref pt, .int (nI n), .int (nI (i + 1 + k + 1)), .int k3, .int k4])), (pa, .inl (gC G, 80, .inl p))]) [0, 1] (by decide) rfl
            rw [w_1] at hPj hDj
            exact ih (k + 1) _ _ ls (by omega) ⟨(by omega), (by show 10 * vk p n i k + dv p n (i + 1 + k) < 3650; omega), (hV.trans (nV_t hn hct)), (hW.trans (nW_t hn hct)), (hdi), hPj, hDj, hS, lv_sub hl [0, 1, 3] rfl⟩
          · skip
            have hnc : ¬ cnt p n (vk p n i k) (i + 1 + k) := fun z => absurd z.2.2 (by omega)
            refine lv_iload_n hx hb dX1_readNumber_56 rfl (lv_at hl 2 rfl) ?_
            have hPj := hP.sub (ws' := [(op, .inr (1, [.ref pa, .ref pt, .int (nI n), .int (nI (i + 1 + k)), .int k3, .int k4])), (pa, .inl (gC G, 80, .inl p))]) [0, 1] rfl
            have hwj : ([(op, .inr (1, [.ref pa, .ref pt, .int (nI n), .int (nI (i + 1 + k)), .int k3, .int k4])), (pa, .inl (gC G, 80, .inl p))] : va_W) = [(op, .inr (1, [.ref pa, .ref pt, .int (nI n), .int (nI (nE p n i)), .int k3, .int k4])), (pa, .inl (gC G, 80, .inl p))] := (wlc (by rw [hW.trans (nW_f hnc)]) (wlc (rfl) rfl))
            rw [hwj] at hPj
            exact e_wi hx hb hr hlk hPj hS (((cnR_t hdi).trans (congrArg nI (hV.trans (nV_f hnc)))).symm) dX1_readNumber_57
  · skip
    have hd0 : ¬ dgP p n i := cdg_1.mp c_7
    refine lv_iconst (v := (-1)) hx hb dX1_readNumber_10 (by decide) ?_
    have hPj := hP.sub (ws' := [(op, .inr (1, [.ref pa, .ref pt, .int (nI n), .int (nI i), .int k3, .int k4])), (pa, .inl (gC G, 80, .inl p))]) [0, 1] rfl
    have hwj : ([(op, .inr (1, [.ref pa, .ref pt, .int (nI n), .int (nI i), .int k3, .int k4])), (pa, .inl (gC G, 80, .inl p))] : va_W) = [(op, .inr (1, [.ref pa, .ref pt, .int (nI n), .int (nI (nE p n i)), .int k3, .int k4])), (pa, .inl (gC G, 80, .inl p))] := (wlc (by rw [nE_f hd0]) (wlc (rfl) rfl))
    rw [hwj] at hPj
    exact e_wi hx hb hr hlk hPj hS ((cnR_f hd0).symm) dX1_readNumber_11
