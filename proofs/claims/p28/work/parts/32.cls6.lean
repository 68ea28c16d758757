theorem hd_X3_stateAt : hdY yX3_stateAt 2 := ⟨by decide +kernel, by decide +kernel, by decide +kernel⟩
theorem hd_X3_moveOldestToTheEnd : hdY yX3_moveOldestToTheEnd 0 := ⟨by decide +kernel, by decide +kernel, by decide +kernel⟩
theorem hd_X3_record : hdY yX3_record 0 := ⟨by decide +kernel, by decide +kernel, by decide +kernel⟩
set_option maxHeartbeats 4000000 in
set_option maxRecDepth 100000 in
theorem c_X3_stateAt (l : Launch) (G : gT) (a : Nat) (f : Nat → Option Nat) (n : Nat) (i : Nat) (hi : i < n) (hn : n < 2147483648) : Rq l G yX3_stateAt cX3_stateAt 2 (some (.object "FoldedMonths$Diary")) 1 [(a, .inl (gD G, n, .inr (.inr (.inr (.inr f)))))] [.ref a, .int (nI i)] (f i) := by
  refine Rq.mk (by decide) (Nat.le_of_ble_eq_true rfl) (fun pq eq sq mq bq tq cq ls hr hlk hF hKx hZ hP hl => ?_)
  have hx := hF.1
  have hb := hF.2.1
  have hml := hF.2.2.1
  have hown : sq.vm.findClass RX3 = some mq.cls := hF.2.2.2.1
  have hts : ∀ w ∈ GW, w.before _ sq = true := hF.2.2.2.2
  have hK := hKx.1
  have hl : lv_has ls 2 [(0, .ref a), (1, .int (nI i))] := hl
  have hS : va_S (fun _ => False) sq.heap sq.heap [] := va_S.rf
  have hP : va_P G.1 vwCl [(a, .inl (gD G, n, .inr (.inr (.inr (.inr f)))))] sq.heap := hP
  refine lv_iload_n hx hb dX3_stateAt_0 rfl (lv_at hl 1 rfl) ?_
  refine z0_lt hx hb (tgt := 16) ((i : Nat) : Int) dX3_stateAt_1 (by decide) (toI (by omega)) (fun c_1 => ?_) (fun c_1 => ?_)
  · skip
    exact absurd c_1 (by omega)
  · skip
    refine lv_iload_n hx hb dX3_stateAt_4 rfl (lv_at hl 1 rfl) ?_
    refine lv_aload_n hx hb dX3_stateAt_5 rfl (lv_at hl 0 rfl) ?_
    refine va_alen (v := nI n) hx hb hK hP 0 3 rfl rfl rfl dX3_stateAt_6 ?_
    refine z_ge hx hb (tgt := 16) ((i : Nat) : Int) ((n : Nat) : Int) dX3_stateAt_7 (by decide) (toI (by omega)) (toI (by omega)) (fun c_7 => ?_) (fun c_7 => ?_)
    · skip
      exact absurd c_7 (by omega)
    · skip
      refine lv_aload_n hx hb dX3_stateAt_10 rfl (lv_at hl 0 rfl) ?_
      refine lv_iload_n hx hb dX3_stateAt_11 rfl (lv_at hl 1 rfl) ?_
      refine n_aald hx hb hK hP 0 3 rfl rfl (by omega) (by omega) dX3_stateAt_12 ?_
      refine lv_goto (tgt := 17) hx hb dX3_stateAt_13 (by decide) ?_
      exact e_rq (rv := f i) hx hb hr hlk rfl (rfl) dX3_stateAt_17
set_option maxHeartbeats 4000000 in
set_option maxRecDepth 100000 in
theorem c_X3_moveOldestToTheEnd (l : Launch) (G : gT) (sz : Nat) (me : Nat) (o : Nat) (ou : Nat) (oh : Nat) (os : Nat) (op : Nat) (kc : Int32) (sv : Int32) (ab : Nat) (af : Nat) (an : Nat) (aw : Nat) (h0 : Nat) (h1 : Nat) (h2 : Nat) (h3 : Nat) (h4 : Nat) (h5 : Nat) (v0 : List Value) (v1 : List Value) (v2 : List Value) (v3 : List Value) (v4 : List Value) (v5 : List Value)  : Rv l G yX3_moveOldestToTheEnd cX3_moveOldestToTheEnd 3 none 1 sz [(me, .inr (3, [.ref o, .ref ou, .ref oh, .ref os, .ref op, .int kc, .int sv])), (oh, .inl (gD G, 6, .inr (.inr (.inr (.inr (lis6 h0 h1 h2 h3 h4 h5)))))), (h0, .inr (0, v0)), (h1, .inr (0, v1)), (h2, .inr (0, v2)), (h3, .inr (0, v3)), (h4, .inr (0, v4)), (h5, .inr (0, v5))] [.ref me] [(me, .inr (3, [.ref o, .ref ou, .ref oh, .ref os, .ref op, .int kc, .int sv])), (oh, .inl (gD G, 6, .inr (.inr (.inr (.inr (lis6 h1 h2 h3 h4 h5 h0)))))), (h0, .inr (0, v0)), (h1, .inr (0, v1)), (h2, .inr (0, v2)), (h3, .inr (0, v3)), (h4, .inr (0, v4)), (h5, .inr (0, v5))] := by
  refine Rv.mk (by decide) (Nat.le_of_ble_eq_true rfl) (fun pq eq sq mq bq tq cq ls A hr hlk hF hKx hZ hA hP hD hS hl => ?_)
  have hx := hF.1
  have hb := hF.2.1
  have hml := hF.2.2.1
  have hown : sq.vm.findClass RX3 = some mq.cls := hF.2.2.2.1
  have hts : ∀ w ∈ GW, w.before _ sq = true := hF.2.2.2.2
  have hK := hKx.1
  have hl : lv_has ls 3 [(0, .ref me)] := hl
  have hP : va_P G.1 vwCl [(me, .inr (3, [.ref o, .ref ou, .ref oh, .ref os, .ref op, .int kc, .int sv])), (oh, .inl (gD G, 6, .inr (.inr (.inr (.inr (lis6 h0 h1 h2 h3 h4 h5)))))), (h0, .inr (0, v0)), (h1, .inr (0, v1)), (h2, .inr (0, v2)), (h3, .inr (0, v3)), (h4, .inr (0, v4)), (h5, .inr (0, v5))] sq.heap := hP
  have hD : va_D A [(me, .inr (3, [.ref o, .ref ou, .ref oh, .ref os, .ref op, .int kc, .int sv])), (oh, .inl (gD G, 6, .inr (.inr (.inr (.inr (lis6 h0 h1 h2 h3 h4 h5)))))), (h0, .inr (0, v0)), (h1, .inr (0, v1)), (h2, .inr (0, v2)), (h3, .inr (0, v3)), (h4, .inr (0, v4)), (h5, .inr (0, v5))] := hD
  refine lv_iconst (v := nI 1) hx hb dX3_moveOldestToTheEnd_0 (by decide) ?_
  refine lv_istore_n (lv' := [(1, .int (nI 1)), (0, .ref me)]) hx hb dX3_moveOldestToTheEnd_1 rfl hl (by decide) rfl (fun ls hl => ?_)
  refine lv_iload_n hx hb dX3_moveOldestToTheEnd_2 rfl (lv_at hl 0 rfl) ?_
  refine lv_aload_n hx hb dX3_moveOldestToTheEnd_3 rfl (lv_at hl 1 rfl) ?_
  refine va_get (ci := 3) (v := .ref oh) (C := RX3) (T := TX3) (N := 7) hx hb hts inGX3 hown hK hP 0 rfl rfl 2 (by decide) (hts _ mw_1_128) (fun _ h9 => h9) rfl dX3_moveOldestToTheEnd_4 ?_
  refine va_alen (v := nI 6) hx hb hK hP 1 3 rfl rfl rfl dX3_moveOldestToTheEnd_7 ?_
  refine z_ge hx hb (tgt := 47) 1 6 dX3_moveOldestToTheEnd_8 (by decide) (by decide) (by decide) (fun c_8 => ?_) (fun c_8 => ?_)
  · skip
    exact absurd c_8 (by decide)
  · skip
    refine lv_aload_n hx hb dX3_moveOldestToTheEnd_11 rfl (lv_at hl 1 rfl) ?_
    refine va_get (ci := 3) (v := .ref oh) (C := RX3) (T := TX3) (N := 7) hx hb hts inGX3 hown hK hP 0 rfl rfl 2 (by decide) (hts _ mw_1_128) (fun _ h9 => h9) rfl dX3_moveOldestToTheEnd_12 ?_
    refine lv_iload_n hx hb dX3_moveOldestToTheEnd_15 rfl (lv_at hl 0 rfl) ?_
    refine lv_iconst (v := nI 1) hx hb dX3_moveOldestToTheEnd_16 (by decide) ?_
    refine n_isub hx hb (by decide) dX3_moveOldestToTheEnd_17 ?_
    refine n_aald hx hb hK hP 1 3 rfl rfl (by omega) (by omega) dX3_moveOldestToTheEnd_18 ?_
    refine lv_cvq (y := .ref h0) rfl ?_
    refine lv_astore_n (lv' := [(2, .ref h0), (1, .int (nI 1)), (0, .ref me)]) hx hb dX3_moveOldestToTheEnd_19 rfl hl (by decide) rfl (fun ls hl => ?_)
    refine lv_aload_n hx hb dX3_moveOldestToTheEnd_20 rfl (lv_at hl 2 rfl) ?_
    refine va_get (ci := 3) (v := .ref oh) (C := RX3) (T := TX3) (N := 7) hx hb hts inGX3 hown hK hP 0 rfl rfl 2 (by decide) (hts _ mw_1_128) (fun _ h9 => h9) rfl dX3_moveOldestToTheEnd_21 ?_
    refine lv_iload_n hx hb dX3_moveOldestToTheEnd_24 rfl (lv_at hl 1 rfl) ?_
    refine lv_iconst (v := nI 1) hx hb dX3_moveOldestToTheEnd_25 (by decide) ?_
    refine n_isub hx hb (by decide) dX3_moveOldestToTheEnd_26 ?_
    refine lv_aload_n hx hb dX3_moveOldestToTheEnd_27 rfl (lv_at hl 2 rfl) ?_
    refine va_get (ci := 3) (v := .ref oh) (C := RX3) (T := TX3) (N := 7) hx hb hts inGX3 hown hK hP 0 rfl rfl 2 (by decide) (hts _ mw_1_128) (fun _ h9 => h9) rfl dX3_moveOldestToTheEnd_28 ?_
    refine lv_iload_n hx hb dX3_moveOldestToTheEnd_31 rfl (lv_at hl 1 rfl) ?_
    refine n_aald hx hb hK hP 1 3 rfl rfl (by omega) (by omega) dX3_moveOldestToTheEnd_32 ?_
    refine lv_cvq (y := .ref h1) rfl ?_
    refine n_aast hx hb hK hP hD hS 1 3 3 0 rfl rfl rfl rfl (by omega) (by omega) dX3_moveOldestToTheEnd_33 (fun H locs hP hD hS => ?_)
    have hP : va_P G.1 vwCl [(me, .inr (3, [.ref o, .ref ou, .ref oh, .ref os, .ref op, .int kc, .int sv])), (oh, .inl (gD G, 6, .inr (.inr (.inr (.inr (va_up (lis6 h0 h1 h2 h3 h4 h5) 0 (some h1))))))), (h0, .inr (0, v0)), (h1, .inr (0, v1)), (h2, .inr (0, v2)), (h3, .inr (0, v3)), (h4, .inr (0, v4)), (h5, .inr (0, v5))] H := hP
    have hD : va_D A [(me, .inr (3, [.ref o, .ref ou, .ref oh, .ref os, .ref op, .int kc, .int sv])), (oh, .inl (gD G, 6, .inr (.inr (.inr (.inr (va_up (lis6 h0 h1 h2 h3 h4 h5) 0 (some h1))))))), (h0, .inr (0, v0)), (h1, .inr (0, v1)), (h2, .inr (0, v2)), (h3, .inr (0, v3)), (h4, .inr (0, v4)), (h5, .inr (0, v5))] := hD
    refine lv_aload_n hx hb dX3_moveOldestToTheEnd_34 rfl (lv_at hl 2 rfl) ?_
    refine va_get (ci := 3) (v := .ref oh) (C := RX3) (T := TX3) (N := 7) hx hb hts inGX3 hown hK hP 0 rfl rfl 2 (by decide) (hts _ mw_1_128) (fun _ h9 => h9) rfl dX3_moveOldestToTheEnd_35 ?_
    refine lv_iload_n hx hb dX3_moveOldestToTheEnd_38 rfl (lv_at hl 1 rfl) ?_
    refine lv_aload_n hx hb dX3_moveOldestToTheEnd_39 rfl (lv_at hl 0 rfl) ?_
    refine n_aast hx hb hK hP hD hS 1 3 2 0 rfl rfl rfl rfl (by omega) (by omega) dX3_moveOldestToTheEnd_40 (fun H locs hP hD hS => ?_)
    have hP : va_P G.1 vwCl [(me, .inr (3, [.ref o, .ref ou, .ref oh, .ref os, .ref op, .int kc, .int sv])), (oh, .inl (gD G, 6, .inr (.inr (.inr (.inr (va_up (va_up (lis6 h0 h1 h2 h3 h4 h5) 0 (some h1)) 1 (some h0))))))), (h0, .inr (0, v0)), (h1, .inr (0, v1)), (h2, .inr (0, v2)), (h3, .inr (0, v3)), (h4, .inr (0, v4)), (h5, .inr (0, v5))] H := hP
    have hD : va_D A [(me, .inr (3, [.ref o, .ref ou, .ref oh, .ref os, .ref op, .int kc, .int sv])), (oh, .inl (gD G, 6, .inr (.inr (.inr (.inr (va_up (va_up (lis6 h0 h1 h2 h3 h4 h5) 0 (some h1)) 1 (some h0))))))), (h0, .inr (0, v0)), (h1, .inr (0, v1)), (h2, .inr (0, v2)), (h3, .inr (0, v3)), (h4, .inr (0, v4)), (h5, .inr (0, v5))] := hD
    refine lv_iinc (v := nI 2) (lv' := [(1, .int (nI 2)), (2, .ref h0), (0, .ref me)]) hx hb dX3_moveOldestToTheEnd_41 hl (k := 1) rfl (nI_add _ _) (by decide) rfl (fun ls hl => ?_)
    refine lv_goto (tgt := 2) hx hb dX3_moveOldestToTheEnd_44 (by decide) ?_
    refine lv_iload_n hx hb dX3_moveOldestToTheEnd_2 rfl (lv_at hl 0 rfl) ?_
    refine lv_aload_n hx hb dX3_moveOldestToTheEnd_3 rfl (lv_at hl 2 rfl) ?_
    refine va_get (ci := 3) (v := .ref oh) (C := RX3) (T := TX3) (N := 7) hx hb hts inGX3 hown hK hP 0 rfl rfl 2 (by decide) (hts _ mw_1_128) (fun _ h9 => h9) rfl dX3_moveOldestToTheEnd_4 ?_
    refine va_alen (v := nI 6) hx hb hK hP 1 3 rfl rfl rfl dX3_moveOldestToTheEnd_7 ?_
    refine z_ge hx hb (tgt := 47) 2 6 dX3_moveOldestToTheEnd_8 (by decide) (by decide) (by decide) (fun c_8 => ?_) (fun c_8 => ?_)
    · skip
      exact absurd c_8 (by decide)
    · skip
      refine lv_aload_n hx hb dX3_moveOldestToTheEnd_11 rfl (lv_at hl 2 rfl) ?_
      refine va_get (ci := 3) (v := .ref oh) (C := RX3) (T := TX3) (N := 7) hx hb hts inGX3 hown hK hP 0 rfl rfl 2 (by decide) (hts _ mw_1_128) (fun _ h9 => h9) rfl dX3_moveOldestToTheEnd_12 ?_
      refine lv_iload_n hx hb dX3_moveOldestToTheEnd_15 rfl (lv_at hl 0 rfl) ?_
      refine lv_iconst (v := nI 1) hx hb dX3_moveOldestToTheEnd_16 (by decide) ?_
      refine n_isub hx hb (by decide) dX3_moveOldestToTheEnd_17 ?_
      refine n_aald hx hb hK hP 1 3 rfl rfl (by omega) (by omega) dX3_moveOldestToTheEnd_18 ?_
      refine lv_cvq (y := .ref h0) rfl ?_
      refine lv_astore_n (lv' := [(2, .ref h0), (1, .int (nI 2)), (0, .ref me)]) hx hb dX3_moveOldestToTheEnd_19 rfl hl (by decide) rfl (fun ls hl => ?_)
      refine lv_aload_n hx hb dX3_moveOldestToTheEnd_20 rfl (lv_at hl 2 rfl) ?_
      refine va_get (ci := 3) (v := .ref oh) (C := RX3) (T := TX3) (N := 7) hx hb hts inGX3 hown hK hP 0 rfl rfl 2 (by decide) (hts _ mw_1_128) (fun _ h9 => h9) rfl dX3_moveOldestToTheEnd_21 ?_
      refine lv_iload_n hx hb dX3_moveOldestToTheEnd_24 rfl (lv_at hl 1 rfl) ?_
      refine lv_iconst (v := nI 1) hx hb dX3_moveOldestToTheEnd_25 (by decide) ?_
      refine n_isub hx hb (by decide) dX3_moveOldestToTheEnd_26 ?_
      refine lv_aload_n hx hb dX3_moveOldestToTheEnd_27 rfl (lv_at hl 2 rfl) ?_
      refine va_get (ci := 3) (v := .ref oh) (C := RX3) (T := TX3) (N := 7) hx hb hts inGX3 hown hK hP 0 rfl rfl 2 (by decide) (hts _ mw_1_128) (fun _ h9 => h9) rfl dX3_moveOldestToTheEnd_28 ?_
      refine lv_iload_n hx hb dX3_moveOldestToTheEnd_31 rfl (lv_at hl 1 rfl) ?_
      refine n_aald hx hb hK hP 1 3 rfl rfl (by omega) (by omega) dX3_moveOldestToTheEnd_32 ?_
      refine lv_cvq (y := .ref h2) rfl ?_
      refine n_aast hx hb hK hP hD hS 1 3 4 0 rfl rfl rfl rfl (by omega) (by omega) dX3_moveOldestToTheEnd_33 (fun H locs hP hD hS => ?_)
      have hP : va_P G.1 vwCl [(me, .inr (3, [.ref o, .ref ou, .ref oh, .ref os, .ref op, .int kc, .int sv])), (oh, .inl (gD G, 6, .inr (.inr (.inr (.inr (va_up (va_up (va_up (lis6 h0 h1 h2 h3 h4 h5) 0 (some h1)) 1 (some h0)) 1 (some h2))))))), (h0, .inr (0, v0)), (h1, .inr (0, v1)), (h2, .inr (0, v2)), (h3, .inr (0, v3)), (h4, .inr (0, v4)), (h5, .inr (0, v5))] H := hP
      have hD : va_D A [(me, .inr (3, [.ref o, .ref ou, .ref oh, .ref os, .ref op, .int kc, .int sv])), (oh, .inl (gD G, 6, .inr (.inr (.inr (.inr (va_up (va_up (va_up (lis6 h0 h1 h2 h3 h4 h5) 0 (some h1)) 1 (some h0)) 1 (some h2))))))), (h0, .inr (0, v0)), (h1, .inr (0, v1)), (h2, .inr (0, v2)), (h3, .inr (0, v3)), (h4, .inr (0, v4)), (h5, .inr (0, v5))] := hD
      refine lv_aload_n hx hb dX3_moveOldestToTheEnd_34 rfl (lv_at hl 2 rfl) ?_
      refine va_get (ci := 3) (v := .ref oh) (C := RX3) (T := TX3) (N := 7) hx hb hts inGX3 hown hK hP 0 rfl rfl 2 (by decide) (hts _ mw_1_128) (fun _ h9 => h9) rfl dX3_moveOldestToTheEnd_35 ?_
      refine lv_iload_n hx hb dX3_moveOldestToTheEnd_38 rfl (lv_at hl 1 rfl) ?_
      refine lv_aload_n hx hb dX3_moveOldestToTheEnd_39 rfl (lv_at hl 0 rfl) ?_
      refine n_aast hx hb hK hP hD hS 1 3 2 0 rfl rfl rfl rfl (by omega) (by omega) dX3_moveOldestToTheEnd_40 (fun H locs hP hD hS => ?_)
      have hP : va_P G.1 vwCl [(me, .inr (3, [.ref o, .ref ou, .ref oh, .ref os, .ref op, .int kc, .int sv])), (oh, .inl (gD G, 6, .inr (.inr (.inr (.inr (va_up (va_up (va_up (va_up (lis6 h0 h1 h2 h3 h4 h5) 0 (some h1)) 1 (some h0)) 1 (some h2)) 2 (some h0))))))), (h0, .inr (0, v0)), (h1, .inr (0, v1)), (h2, .inr (0, v2)), (h3, .inr (0, v3)), (h4, .inr (0, v4)), (h5, .inr (0, v5))] H := hP
      have hD : va_D A [(me, .inr (3, [.ref o, .ref ou, .ref oh, .ref os, .ref op, .int kc, .int sv])), (oh, .inl (gD G, 6, .inr (.inr (.inr (.inr (va_up (va_up (va_up (va_up (lis6 h0 h1 h2 h3 h4 h5) 0 (some h1)) 1 (some h0)) 1 (some h2)) 2 (some h0))))))), (h0, .inr (0, v0)), (h1, .inr (0, v1)), (h2, .inr (0, v2)), (h3, .inr (0, v3)), (h4, .inr (0, v4)), (h5, .inr (0, v5))] := hD
      refine lv_iinc (v := nI 3) (lv' := [(1, .int (nI 3)), (2, .ref h0), (0, .ref me)]) hx hb dX3_moveOldestToTheEnd_41 hl (k := 1) rfl (nI_add _ _) (by decide) rfl (fun ls hl => ?_)
      refine lv_goto (tgt := 2) hx hb dX3_moveOldestToTheEnd_44 (by decide) ?_
      refine lv_iload_n hx hb dX3_moveOldestToTheEnd_2 rfl (lv_at hl 0 rfl) ?_
      refine lv_aload_n hx hb dX3_moveOldestToTheEnd_3 rfl (lv_at hl 2 rfl) ?_
      refine va_get (ci := 3) (v := .ref oh) (C := RX3) (T := TX3) (N := 7) hx hb hts inGX3 hown hK hP 0 rfl rfl 2 (by decide) (hts _ mw_1_128) (fun _ h9 => h9) rfl dX3_moveOldestToTheEnd_4 ?_
      refine va_alen (v := nI 6) hx hb hK hP 1 3 rfl rfl rfl dX3_moveOldestToTheEnd_7 ?_
      refine z_ge hx hb (tgt := 47) 3 6 dX3_moveOldestToTheEnd_8 (by decide) (by decide) (by decide) (fun c_8 => ?_) (fun c_8 => ?_)
      · skip
        exact absurd c_8 (by decide)
      · skip
        refine lv_aload_n hx hb dX3_moveOldestToTheEnd_11 rfl (lv_at hl 2 rfl) ?_
        refine va_get (ci := 3) (v := .ref oh) (C := RX3) (T := TX3) (N := 7) hx hb hts inGX3 hown hK hP 0 rfl rfl 2 (by decide) (hts _ mw_1_128) (fun _ h9 => h9) rfl dX3_moveOldestToTheEnd_12 ?_
        refine lv_iload_n hx hb dX3_moveOldestToTheEnd_15 rfl (lv_at hl 0 rfl) ?_
        refine lv_iconst (v := nI 1) hx hb dX3_moveOldestToTheEnd_16 (by decide) ?_
        refine n_isub hx hb (by decide) dX3_moveOldestToTheEnd_17 ?_
        refine n_aald hx hb hK hP 1 3 rfl rfl (by omega) (by omega) dX3_moveOldestToTheEnd_18 ?_
        refine lv_cvq (y := .ref h0) rfl ?_
        refine lv_astore_n (lv' := [(2, .ref h0), (1, .int (nI 3)), (0, .ref me)]) hx hb dX3_moveOldestToTheEnd_19 rfl hl (by decide) rfl (fun ls hl => ?_)
        refine lv_aload_n hx hb dX3_moveOldestToTheEnd_20 rfl (lv_at hl 2 rfl) ?_
        refine va_get (ci := 3) (v := .ref oh) (C := RX3) (T := TX3) (N := 7) hx hb hts inGX3 hown hK hP 0 rfl rfl 2 (by decide) (hts _ mw_1_128) (fun _ h9 => h9) rfl dX3_moveOldestToTheEnd_21 ?_
        refine lv_iload_n hx hb dX3_moveOldestToTheEnd_24 rfl (lv_at hl 1 rfl) ?_
        refine lv_iconst (v := nI 1) hx hb dX3_moveOldestToTheEnd_25 (by decide) ?_
        refine n_isub hx hb (by decide) dX3_moveOldestToTheEnd_26 ?_
        refine lv_aload_n hx hb dX3_moveOldestToTheEnd_27 rfl (lv_at hl 2 rfl) ?_
        refine va_get (ci := 3) (v := .ref oh) (C := RX3) (T := TX3) (N := 7) hx hb hts inGX3 hown hK hP 0 rfl rfl 2 (by decide) (hts _ mw_1_128) (fun _ h9 => h9) rfl dX3_moveOldestToTheEnd_28 ?_
        refine lv_iload_n hx hb dX3_moveOldestToTheEnd_31 rfl (lv_at hl 1 rfl) ?_
        refine n_aald hx hb hK hP 1 3 rfl rfl (by omega) (by omega) dX3_moveOldestToTheEnd_32 ?_
        refine lv_cvq (y := .ref h3) rfl ?_
        refine n_aast hx hb hK hP hD hS 1 3 5 0 rfl rfl rfl rfl (by omega) (by omega) dX3_moveOldestToTheEnd_33 (fun H locs hP hD hS => ?_)
        have hP : va_P G.1 vwCl [(me, .inr (3, [.ref o, .ref ou, .ref oh, .ref os, .ref op, .int kc, .int sv])), (oh, .inl (gD G, 6, .inr (.inr (.inr (.inr (va_up (va_up (va_up (va_up (va_up (lis6 h0 h1 h2 h3 h4 h5) 0 (some h1)) 1 (some h0)) 1 (some h2)) 2 (some h0)) 2 (some h3))))))), (h0, .inr (0, v0)), (h1, .inr (0, v1)), (h2, .inr (0, v2)), (h3, .inr (0, v3)), (h4, .inr (0, v4)), (h5, .inr (0, v5))] H := hP
        have hD : va_D A [(me, .inr (3, [.ref o, .ref ou, .ref oh, .ref os, .ref op, .int kc, .int sv])), (oh, .inl (gD G, 6, .inr (.inr (.inr (.inr (va_up (va_up (va_up (va_up (va_up (lis6 h0 h1 h2 h3 h4 h5) 0 (some h1)) 1 (some h0)) 1 (some h2)) 2 (some h0)) 2 (some h3))))))), (h0, .inr (0, v0)), (h1, .inr (0, v1)), (h2, .inr (0, v2)), (h3, .inr (0, v3)), (h4, .inr (0, v4)), (h5, .inr (0, v5))] := hD
        refine lv_aload_n hx hb dX3_moveOldestToTheEnd_34 rfl (lv_at hl 2 rfl) ?_
        refine va_get (ci := 3) (v := .ref oh) (C := RX3) (T := TX3) (N := 7) hx hb hts inGX3 hown hK hP 0 rfl rfl 2 (by decide) (hts _ mw_1_128) (fun _ h9 => h9) rfl dX3_moveOldestToTheEnd_35 ?_
        refine lv_iload_n hx hb dX3_moveOldestToTheEnd_38 rfl (lv_at hl 1 rfl) ?_
        refine lv_aload_n hx hb dX3_moveOldestToTheEnd_39 rfl (lv_at hl 0 rfl) ?_
        refine n_aast hx hb hK hP hD hS 1 3 2 0 rfl rfl rfl rfl (by omega) (by omega) dX3_moveOldestToTheEnd_40 (fun H locs hP hD hS => ?_)
        have hP : va_P G.1 vwCl [(me, .inr (3, [.ref o, .ref ou, .ref oh, .ref os, .ref op, .int kc, .int sv])), (oh, .inl (gD G, 6, .inr (.inr (.inr (.inr (va_up (va_up (va_up (va_up (va_up (va_up (lis6 h0 h1 h2 h3 h4 h5) 0 (some h1)) 1 (some h0)) 1 (some h2)) 2 (some h0)) 2 (some h3)) 3 (some h0))))))), (h0, .inr (0, v0)), (h1, .inr (0, v1)), (h2, .inr (0, v2)), (h3, .inr (0, v3)), (h4, .inr (0, v4)), (h5, .inr (0, v5))] H := hP
        have hD : va_D A [(me, .inr (3, [.ref o, .ref ou, .ref oh, .ref os, .ref op, .int kc, .int sv])), (oh, .inl (gD G, 6, .inr (.inr (.inr (.inr (va_up (va_up (va_up (va_up (va_up (va_up (lis6 h0 h1 h2 h3 h4 h5) 0 (some h1)) 1 (some h0)) 1 (some h2)) 2 (some h0)) 2 (some h3)) 3 (some h0))))))), (h0, .inr (0, v0)), (h1, .inr (0, v1)), (h2, .inr (0, v2)), (h3, .inr (0, v3)), (h4, .inr (0, v4)), (h5, .inr (0, v5))] := hD
        refine lv_iinc (v := nI 4) (lv' := [(1, .int (nI 4)), (2, .ref h0), (0, .ref me)]) hx hb dX3_moveOldestToTheEnd_41 hl (k := 1) rfl (nI_add _ _) (by decide) rfl (fun ls hl => ?_)
        refine lv_goto (tgt := 2) hx hb dX3_moveOldestToTheEnd_44 (by decide) ?_
        refine lv_iload_n hx hb dX3_moveOldestToTheEnd_2 rfl (lv_at hl 0 rfl) ?_
        refine lv_aload_n hx hb dX3_moveOldestToTheEnd_3 rfl (lv_at hl 2 rfl) ?_
        refine va_get (ci := 3) (v := .ref oh) (C := RX3) (T := TX3) (N := 7) hx hb hts inGX3 hown hK hP 0 rfl rfl 2 (by decide) (hts _ mw_1_128) (fun _ h9 => h9) rfl dX3_moveOldestToTheEnd_4 ?_
        refine va_alen (v := nI 6) hx hb hK hP 1 3 rfl rfl rfl dX3_moveOldestToTheEnd_7 ?_
        refine z_ge hx hb (tgt := 47) 4 6 dX3_moveOldestToTheEnd_8 (by decide) (by decide) (by decide) (fun c_8 => ?_) (fun c_8 => ?_)
        · skip
          exact absurd c_8 (by decide)
        · skip
          refine lv_aload_n hx hb dX3_moveOldestToTheEnd_11 rfl (lv_at hl 2 rfl) ?_
          refine va_get (ci := 3) (v := .ref oh) (C := RX3) (T := TX3) (N := 7) hx hb hts inGX3 hown hK hP 0 rfl rfl 2 (by decide) (hts _ mw_1_128) (fun _ h9 => h9) rfl dX3_moveOldestToTheEnd_12 ?_
          refine lv_iload_n hx hb dX3_moveOldestToTheEnd_15 rfl (lv_at hl 0 rfl) ?_
          refine lv_iconst (v := nI 1) hx hb dX3_moveOldestToTheEnd_16 (by decide) ?_
          refine n_isub hx hb (by decide) dX3_moveOldestToTheEnd_17 ?_
          refine n_aald hx hb hK hP 1 3 rfl rfl (by omega) (by omega) dX3_moveOldestToTheEnd_18 ?_
          refine lv_cvq (y := .ref h0) rfl ?_
          refine lv_astore_n (lv' := [(2, .ref h0), (1, .int (nI 4)), (0, .ref me)]) hx hb dX3_moveOldestToTheEnd_19 rfl hl (by decide) rfl (fun ls hl => ?_)
          refine lv_aload_n hx hb dX3_moveOldestToTheEnd_20 rfl (lv_at hl 2 rfl) ?_
          refine va_get (ci := 3) (v := .ref oh) (C := RX3) (T := TX3) (N := 7) hx hb hts inGX3 hown hK hP 0 rfl rfl 2 (by decide) (hts _ mw_1_128) (fun _ h9 => h9) rfl dX3_moveOldestToTheEnd_21 ?_
          refine lv_iload_n hx hb dX3_moveOldestToTheEnd_24 rfl (lv_at hl 1 rfl) ?_
          refine lv_iconst (v := nI 1) hx hb dX3_moveOldestToTheEnd_25 (by decide) ?_
          refine n_isub hx hb (by decide) dX3_moveOldestToTheEnd_26 ?_
          refine lv_aload_n hx hb dX3_moveOldestToTheEnd_27 rfl (lv_at hl 2 rfl) ?_
          refine va_get (ci := 3) (v := .ref oh) (C := RX3) (T := TX3) (N := 7) hx hb hts inGX3 hown hK hP 0 rfl rfl 2 (by decide) (hts _ mw_1_128) (fun _ h9 => h9) rfl dX3_moveOldestToTheEnd_28 ?_
          refine lv_iload_n hx hb dX3_moveOldestToTheEnd_31 rfl (lv_at hl 1 rfl) ?_
          refine n_aald hx hb hK hP 1 3 rfl rfl (by omega) (by omega) dX3_moveOldestToTheEnd_32 ?_
          refine lv_cvq (y := .ref h4) rfl ?_
          refine n_aast hx hb hK hP hD hS 1 3 6 0 rfl rfl rfl rfl (by omega) (by omega) dX3_moveOldestToTheEnd_33 (fun H locs hP hD hS => ?_)
          have hP : va_P G.1 vwCl [(me, .inr (3, [.ref o, .ref ou, .ref oh, .ref os, .ref op, .int kc, .int sv])), (oh, .inl (gD G, 6, .inr (.inr (.inr (.inr (va_up (va_up (va_up (va_up (va_up (va_up (va_up (lis6 h0 h1 h2 h3 h4 h5) 0 (some h1)) 1 (some h0)) 1 (some h2)) 2 (some h0)) 2 (some h3)) 3 (some h0)) 3 (some h4))))))), (h0, .inr (0, v0)), (h1, .inr (0, v1)), (h2, .inr (0, v2)), (h3, .inr (0, v3)), (h4, .inr (0, v4)), (h5, .inr (0, v5))] H := hP
          have hD : va_D A [(me, .inr (3, [.ref o, .ref ou, .ref oh, .ref os, .ref op, .int kc, .int sv])), (oh, .inl (gD G, 6, .inr (.inr (.inr (.inr (va_up (va_up (va_up (va_up (va_up (va_up (va_up (lis6 h0 h1 h2 h3 h4 h5) 0 (some h1)) 1 (some h0)) 1 (some h2)) 2 (some h0)) 2 (some h3)) 3 (some h0)) 3 (some h4))))))), (h0, .inr (0, v0)), (h1, .inr (0, v1)), (h2, .inr (0, v2)), (h3, .inr (0, v3)), (h4, .inr (0, v4)), (h5, .inr (0, v5))] := hD
          refine lv_aload_n hx hb dX3_moveOldestToTheEnd_34 rfl (lv_at hl 2 rfl) ?_
          refine va_get (ci := 3) (v := .ref oh) (C := RX3) (T := TX3) (N := 7) hx hb hts inGX3 hown hK hP 0 rfl rfl 2 (by decide) (hts _ mw_1_128) (fun _ h9 => h9) rfl dX3_moveOldestToTheEnd_35 ?_
          refine lv_iload_n hx hb dX3_moveOldestToTheEnd_38 rfl (lv_at hl 1 rfl) ?_
          refine lv_aload_n hx hb dX3_moveOldestToTheEnd_39 rfl (lv_at hl 0 rfl) ?_
          refine n_aast hx hb hK hP hD hS 1 3 2 0 rfl rfl rfl rfl (by omega) (by omega) dX3_moveOldestToTheEnd_40 (fun H locs hP hD hS => ?_)
          have hP : va_P G.1 vwCl [(me, .inr (3, [.ref o, .ref ou, .ref oh, .ref os, .ref op, .int kc, .int sv])), (oh, .inl (gD G, 6, .inr (.inr (.inr (.inr (va_up (va_up (va_up (va_up (va_up (va_up (va_up (va_up (lis6 h0 h1 h2 h3 h4 h5) 0 (some h1)) 1 (some h0)) 1 (some h2)) 2 (some h0)) 2 (some h3)) 3 (some h0)) 3 (some h4)) 4 (some h0))))))), (h0, .inr (0, v0)), (h1, .inr (0, v1)), (h2, .inr (0, v2)), (h3, .inr (0, v3)), (h4, .inr (0, v4)), (h5, .inr (0, v5))] H := hP
          have hD : va_D A [(me, .inr (3, [.ref o, .ref ou, .ref oh, .ref os, .ref op, .int kc, .int sv])), (oh, .inl (gD G, 6, .inr (.inr (.inr (.inr (va_up (va_up (va_up (va_up (va_up (va_up (va_up (va_up (lis6 h0 h1 h2 h3 h4 h5) 0 (some h1)) 1 (some h0)) 1 (some h2)) 2 (some h0)) 2 (some h3)) 3 (some h0)) 3 (some h4)) 4 (some h0))))))), (h0, .inr (0, v0)), (h1, .inr (0, v1)), (h2, .inr (0, v2)), (h3, .inr (0, v3)), (h4, .inr (0, v4)), (h5, .inr (0, v5))] := hD
          refine lv_iinc (v := nI 5) (lv' := [(1, .int (nI 5)), (2, .ref h0), (0, .ref me)]) hx hb dX3_moveOldestToTheEnd_41 hl (k := 1) rfl (nI_add _ _) (by decide) rfl (fun ls hl => ?_)
          refine lv_goto (tgt := 2) hx hb dX3_moveOldestToTheEnd_44 (by decide) ?_
          refine lv_iload_n hx hb dX3_moveOldestToTheEnd_2 rfl (lv_at hl 0 rfl) ?_
          refine lv_aload_n hx hb dX3_moveOldestToTheEnd_3 rfl (lv_at hl 2 rfl) ?_
          refine va_get (ci := 3) (v := .ref oh) (C := RX3) (T := TX3) (N := 7) hx hb hts inGX3 hown hK hP 0 rfl rfl 2 (by decide) (hts _ mw_1_128) (fun _ h9 => h9) rfl dX3_moveOldestToTheEnd_4 ?_
          refine va_alen (v := nI 6) hx hb hK hP 1 3 rfl rfl rfl dX3_moveOldestToTheEnd_7 ?_
          refine z_ge hx hb (tgt := 47) 5 6 dX3_moveOldestToTheEnd_8 (by decide) (by decide) (by decide) (fun c_8 => ?_) (fun c_8 => ?_)
          · skip
            exact absurd c_8 (by decide)
          · skip
            refine lv_aload_n hx hb dX3_moveOldestToTheEnd_11 rfl (lv_at hl 2 rfl) ?_
            refine va_get (ci := 3) (v := .ref oh) (C := RX3) (T := TX3) (N := 7) hx hb hts inGX3 hown hK hP 0 rfl rfl 2 (by decide) (hts _ mw_1_128) (fun _ h9 => h9) rfl dX3_moveOldestToTheEnd_12 ?_
            refine lv_iload_n hx hb dX3_moveOldestToTheEnd_15 rfl (lv_at hl 0 rfl) ?_
            refine lv_iconst (v := nI 1) hx hb dX3_moveOldestToTheEnd_16 (by decide) ?_
            refine n_isub hx hb (by decide) dX3_moveOldestToTheEnd_17 ?_
            refine n_aald hx hb hK hP 1 3 rfl rfl (by omega) (by omega) dX3_moveOldestToTheEnd_18 ?_
            refine lv_cvq (y := .ref h0) rfl ?_
            refine lv_astore_n (lv' := [(2, .ref h0), (1, .int (nI 5)), (0, .ref me)]) hx hb dX3_moveOldestToTheEnd_19 rfl hl (by decide) rfl (fun ls hl => ?_)
            refine lv_aload_n hx hb dX3_moveOldestToTheEnd_20 rfl (lv_at hl 2 rfl) ?_
            refine va_get (ci := 3) (v := .ref oh) (C := RX3) (T := TX3) (N := 7) hx hb hts inGX3 hown hK hP 0 rfl rfl 2 (by decide) (hts _ mw_1_128) (fun _ h9 => h9) rfl dX3_moveOldestToTheEnd_21 ?_
            refine lv_iload_n hx hb dX3_moveOldestToTheEnd_24 rfl (lv_at hl 1 rfl) ?_
            refine lv_iconst (v := nI 1) hx hb dX3_moveOldestToTheEnd_25 (by decide) ?_
            refine n_isub hx hb (by decide) dX3_moveOldestToTheEnd_26 ?_
            refine lv_aload_n hx hb dX3_moveOldestToTheEnd_27 rfl (lv_at hl 2 rfl) ?_
            refine va_get (ci := 3) (v := .ref oh) (C := RX3) (T := TX3) (N := 7) hx hb hts inGX3 hown hK hP 0 rfl rfl 2 (by decide) (hts _ mw_1_128) (fun _ h9 => h9) rfl dX3_moveOldestToTheEnd_28 ?_
            refine lv_iload_n hx hb dX3_moveOldestToTheEnd_31 rfl (lv_at hl 1 rfl) ?_
            refine n_aald hx hb hK hP 1 3 rfl rfl (by omega) (by omega) dX3_moveOldestToTheEnd_32 ?_
            refine lv_cvq (y := .ref h5) rfl ?_
            refine n_aast hx hb hK hP hD hS 1 3 7 0 rfl rfl rfl rfl (by omega) (by omega) dX3_moveOldestToTheEnd_33 (fun H locs hP hD hS => ?_)
            have hP : va_P G.1 vwCl [(me, .inr (3, [.ref o, .ref ou, .ref oh, .ref os, .ref op, .int kc, .int sv])), (oh, .inl (gD G, 6, .inr (.inr (.inr (.inr (va_up (va_up (va_up (va_up (va_up (va_up (va_up (va_up (va_up (lis6 h0 h1 h2 h3 h4 h5) 0 (some h1)) 1 (some h0)) 1 (some h2)) 2 (some h0)) 2 (some h3)) 3 (some h0)) 3 (some h4)) 4 (some h0)) 4 (some h5))))))), (h0, .inr (0, v0)), (h1, .inr (0, v1)), (h2, .inr (0, v2)), (h3, .inr (0, v3)), (h4, .inr (0, v4)), (h5, .inr (0, v5))] H := hP
            have hD : va_D A [(me, .inr (3, [.ref o, .ref ou, .ref oh, .ref os, .ref op, .int kc, .int sv])), (oh, .inl (gD G, 6, .inr (.inr (.inr (.inr (va_up (va_up (va_up (va_up (va_up (va_up (va_up (va_up (va_up (lis6 h0 h1 h2 h3 h4 h5) 0 (some h1)) 1 (some h0)) 1 (some h2)) 2 (some h0)) 2 (some h3)) 3 (some h0)) 3 (some h4)) 4 (some h0)) 4 (some h5))))))), (h0, .inr (0, v0)), (h1, .inr (0, v1)), (h2, .inr (0, v2)), (h3, .inr (0, v3)), (h4, .inr (0, v4)), (h5, .inr (0, v5))] := hD
            refine lv_aload_n hx hb dX3_moveOldestToTheEnd_34 rfl (lv_at hl 2 rfl) ?_
            refine va_get (ci := 3) (v := .ref oh) (C := RX3) (T := TX3) (N := 7) hx hb hts inGX3 hown hK hP 0 rfl rfl 2 (by decide) (hts _ mw_1_128) (fun _ h9 => h9) rfl dX3_moveOldestToTheEnd_35 ?_
            refine lv_iload_n hx hb dX3_moveOldestToTheEnd_38 rfl (lv_at hl 1 rfl) ?_
            refine lv_aload_n hx hb dX3_moveOldestToTheEnd_39 rfl (lv_at hl 0 rfl) ?_
            refine n_aast hx hb hK hP hD hS 1 3 2 0 rfl rfl rfl rfl (by omega) (by omega) dX3_moveOldestToTheEnd_40 (fun H locs hP hD hS => ?_)
            have hP : va_P G.1 vwCl [(me, .inr (3, [.ref o, .ref ou, .ref oh, .ref os, .ref op, .int kc, .int sv])), (oh, .inl (gD G, 6, .inr (.inr (.inr (.inr (va_up (va_up (va_up (va_up (va_up (va_up (va_up (va_up (va_up (va_up (lis6 h0 h1 h2 h3 h4 h5) 0 (some h1)) 1 (some h0)) 1 (some h2)) 2 (some h0)) 2 (some h3)) 3 (some h0)) 3 (some h4)) 4 (some h0)) 4 (some h5)) 5 (some h0))))))), (h0, .inr (0, v0)), (h1, .inr (0, v1)), (h2, .inr (0, v2)), (h3, .inr (0, v3)), (h4, .inr (0, v4)), (h5, .inr (0, v5))] H := hP
            have hD : va_D A [(me, .inr (3, [.ref o, .ref ou, .ref oh, .ref os, .ref op, .int kc, .int sv])), (oh, .inl (gD G, 6, .inr (.inr (.inr (.inr (va_up (va_up (va_up (va_up (va_up (va_up (va_up (va_up (va_up (va_up (lis6 h0 h1 h2 h3 h4 h5) 0 (some h1)) 1 (some h0)) 1 (some h2)) 2 (some h0)) 2 (some h3)) 3 (some h0)) 3 (some h4)) 4 (some h0)) 4 (some h5)) 5 (some h0))))))), (h0, .inr (0, v0)), (h1, .inr (0, v1)), (h2, .inr (0, v2)), (h3, .inr (0, v3)), (h4, .inr (0, v4)), (h5, .inr (0, v5))] := hD
            refine lv_iinc (v := nI 6) (lv' := [(1, .int (nI 6)), (2, .ref h0), (0, .ref me)]) hx hb dX3_moveOldestToTheEnd_41 hl (k := 1) rfl (nI_add _ _) (by decide) rfl (fun ls hl => ?_)
            refine lv_goto (tgt := 2) hx hb dX3_moveOldestToTheEnd_44 (by decide) ?_
            refine lv_iload_n hx hb dX3_moveOldestToTheEnd_2 rfl (lv_at hl 0 rfl) ?_
            refine lv_aload_n hx hb dX3_moveOldestToTheEnd_3 rfl (lv_at hl 2 rfl) ?_
            refine va_get (ci := 3) (v := .ref oh) (C := RX3) (T := TX3) (N := 7) hx hb hts inGX3 hown hK hP 0 rfl rfl 2 (by decide) (hts _ mw_1_128) (fun _ h9 => h9) rfl dX3_moveOldestToTheEnd_4 ?_
            refine va_alen (v := nI 6) hx hb hK hP 1 3 rfl rfl rfl dX3_moveOldestToTheEnd_7 ?_
            refine z_ge hx hb (tgt := 47) 6 6 dX3_moveOldestToTheEnd_8 (by decide) (by decide) (by decide) (fun c_8 => ?_) (fun c_8 => ?_)
            · skip
              have hPj := hP.sub (ws' := [(me, .inr (3, [.ref o, .ref ou, .ref oh, .ref os, .ref op, .int kc, .int sv])), (oh, .inl (gD G, 6, .inr (.inr (.inr (.inr (va_up (va_up (va_up (va_up (va_up (va_up (va_up (va_up (va_up (va_up (lis6 h0 h1 h2 h3 h4 h5) 0 (some h1)) 1 (some h0)) 1 (some h2)) 2 (some h0)) 2 (some h3)) 3 (some h0)) 3 (some h4)) 4 (some h0)) 4 (some h5)) 5 (some h0))))))), (h0, .inr (0, v0)), (h1, .inr (0, v1)), (h2, .inr (0, v2)), (h3, .inr (0, v3)), (h4, .inr (0, v4)), (h5, .inr (0, v5))]) [0, 1, 2, 3, 4, 5, 6, 7] rfl
              have hwj : ([(me, .inr (3, [.ref o, .ref ou, .ref oh, .ref os, .ref op, .int kc, .int sv])), (oh, .inl (gD G, 6, .inr (.inr (.inr (.inr (va_up (va_up (va_up (va_up (va_up (va_up (va_up (va_up (va_up (va_up (lis6 h0 h1 h2 h3 h4 h5) 0 (some h1)) 1 (some h0)) 1 (some h2)) 2 (some h0)) 2 (some h3)) 3 (some h0)) 3 (some h4)) 4 (some h0)) 4 (some h5)) 5 (some h0))))))), (h0, .inr (0, v0)), (h1, .inr (0, v1)), (h2, .inr (0, v2)), (h3, .inr (0, v3)), (h4, .inr (0, v4)), (h5, .inr (0, v5))] : va_W) = [(me, .inr (3, [.ref o, .ref ou, .ref oh, .ref os, .ref op, .int kc, .int sv])), (oh, .inl (gD G, 6, .inr (.inr (.inr (.inr (lis6 h1 h2 h3 h4 h5 h0)))))), (h0, .inr (0, v0)), (h1, .inr (0, v1)), (h2, .inr (0, v2)), (h3, .inr (0, v3)), (h4, .inr (0, v4)), (h5, .inr (0, v5))] := (wlc (rfl) (wlc (by rw [rot6]) (wlc (rfl) (wlc (rfl) (wlc (rfl) (wlc (rfl) (wlc (rfl) (wlc (rfl) rfl))))))))
              rw [hwj] at hPj
              exact e_wv hx hb hr hlk hPj hS dX3_moveOldestToTheEnd_47
            · skip
              exact absurd c_8 (by decide)
set_option maxHeartbeats 4000000 in
set_option maxRecDepth 100000 in
theorem c_X3_record_k (l : Launch) (G : gT) (sz : Nat) (me : Nat) (o : Nat) (ou : Nat) (oh : Nat) (os : Nat) (op : Nat) (c : Nat) (sv : Int32) (ab : Nat) (af : Nat) (an : Nat) (aw : Nat) (hf : Nat → Option Nat) (r : Nat → Int32) (o2 : Nat) (b2 : Nat) (f2 : Nat) (n2 : Nat) (w2 : Nat) (r2 : Nat → Int32) (hc : c ≤ 5) (ho2 : hf c = some o2) : Rv l G yX3_record cX3_record 1 none 4 sz [(me, .inr (3, [.ref o, .ref ou, .ref oh, .ref os, .ref op, .int (nI c), .int sv])), (oh, .inl (gD G, 6, .inr (.inr (.inr (.inr hf))))), (o, dO r ab af an aw), (ab, .inl (gI G, 1920, .inl (dB r))), (af, .inl (gI G, 120, .inl (dF r))), (an, .inl (gI G, 120, .inl (dN r))), (aw, .inl (gI G, 7, .inl (dW r))), (o2, dO r2 b2 f2 n2 w2), (b2, .inl (gI G, 1920, .inl (dB r2))), (f2, .inl (gI G, 120, .inl (dF r2))), (n2, .inl (gI G, 120, .inl (dN r2))), (w2, .inl (gI G, 7, .inl (dW r2)))] [.ref me] [(me, .inr (3, [.ref o, .ref ou, .ref oh, .ref os, .ref op, .int (nI (c + 1)), .int sv])), (oh, .inl (gD G, 6, .inr (.inr (.inr (.inr hf))))), (o, dO r ab af an aw), (ab, .inl (gI G, 1920, .inl (dB r))), (af, .inl (gI G, 120, .inl (dF r))), (an, .inl (gI G, 120, .inl (dN r))), (aw, .inl (gI G, 7, .inl (dW r))), (o2, dO r b2 f2 n2 w2), (b2, .inl (gI G, 1920, .inl (dB r))), (f2, .inl (gI G, 120, .inl (dF r))), (n2, .inl (gI G, 120, .inl (dN r))), (w2, .inl (gI G, 7, .inl (dW r)))] := by
  refine Rv.mk (by decide) (Nat.le_of_ble_eq_true rfl) (fun pq eq sq mq bq tq cq ls A hr hlk hF hKx hZ hA hP hD hS hl => ?_)
  have hx := hF.1
  have hb := hF.2.1
  have hml := hF.2.2.1
  have hown : sq.vm.findClass RX3 = some mq.cls := hF.2.2.2.1
  have hts : ∀ w ∈ GW, w.before _ sq = true := hF.2.2.2.2
  have hK := hKx.1
  have hl : lv_has ls 1 [(0, .ref me)] := hl
  have hP : va_P G.1 vwCl [(me, .inr (3, [.ref o, .ref ou, .ref oh, .ref os, .ref op, .int (nI c), .int sv])), (oh, .inl (gD G, 6, .inr (.inr (.inr (.inr hf))))), (o, dO r ab af an aw), (ab, .inl (gI G, 1920, .inl (dB r))), (af, .inl (gI G, 120, .inl (dF r))), (an, .inl (gI G, 120, .inl (dN r))), (aw, .inl (gI G, 7, .inl (dW r))), (o2, dO r2 b2 f2 n2 w2), (b2, .inl (gI G, 1920, .inl (dB r2))), (f2, .inl (gI G, 120, .inl (dF r2))), (n2, .inl (gI G, 120, .inl (dN r2))), (w2, .inl (gI G, 7, .inl (dW r2)))] sq.heap := hP
  have hD : va_D A [(me, .inr (3, [.ref o, .ref ou, .ref oh, .ref os, .ref op, .int (nI c), .int sv])), (oh, .inl (gD G, 6, .inr (.inr (.inr (.inr hf))))), (o, dO r ab af an aw), (ab, .inl (gI G, 1920, .inl (dB r))), (af, .inl (gI G, 120, .inl (dF r))), (an, .inl (gI G, 120, .inl (dN r))), (aw, .inl (gI G, 7, .inl (dW r))), (o2, dO r2 b2 f2 n2 w2), (b2, .inl (gI G, 1920, .inl (dB r2))), (f2, .inl (gI G, 120, .inl (dF r2))), (n2, .inl (gI G, 120, .inl (dN r2))), (w2, .inl (gI G, 7, .inl (dW r2)))] := hD
  refine lv_aload_n hx hb dX3_record_0 rfl (lv_at hl 0 rfl) ?_
  refine va_get (ci := 3) (v := .int (nI c)) (C := RX3) (T := TX3) (N := 7) hx hb hts inGX3 hown hK hP 0 rfl rfl 5 (by decide) (hts _ mw_1_131) (fun _ h9 => h9) rfl dX3_record_1 ?_
  refine lv_bipush (v := nI 6) hx hb dX3_record_4 (by decide) ?_
  refine z_lt hx hb (tgt := 23) ((c : Nat) : Int) 6 dX3_record_6 (by decide) (toI (by omega)) (by decide) (fun c_6 => ?_) (fun c_6 => ?_)
  · skip
    refine lv_aload_n hx hb dX3_record_23 rfl (lv_at hl 0 rfl) ?_
    refine va_get (ci := 3) (v := .ref o) (C := RX3) (T := TX3) (N := 7) hx hb hts inGX3 hown hK hP 0 rfl rfl 0 (by decide) (hts _ mw_1_126) (fun _ h9 => h9) rfl dX3_record_24 ?_
    refine lv_aload_n hx hb dX3_record_27 rfl (lv_at hl 0 rfl) ?_
    refine va_get (ci := 3) (v := .ref oh) (C := RX3) (T := TX3) (N := 7) hx hb hts inGX3 hown hK hP 0 rfl rfl 2 (by decide) (hts _ mw_1_128) (fun _ h9 => h9) rfl dX3_record_28 ?_
    refine lv_aload_n hx hb dX3_record_31 rfl (lv_at hl 0 rfl) ?_
    refine va_get (ci := 3) (v := .int (nI c)) (C := RX3) (T := TX3) (N := 7) hx hb hts inGX3 hown hK hP 0 rfl rfl 5 (by decide) (hts _ mw_1_131) (fun _ h9 => h9) rfl dX3_record_32 ?_
    refine k_rqS (As := [.ref oh, .int (nI c)]) (rest := [.ref o]) hF (c_X3_stateAt l G oh hf 6 c (by omega) (by omega)) mw_1_237 mw_1_238 mw_1_1 mw_1_239 hd_X3_stateAt ⟨Nat.le_of_ble_eq_true rfl, Nat.le_of_ble_eq_true rfl⟩ (Rd.of hKx hZ hS) (hP.sub (ws' := [(oh, .inl (gD G, 6, .inr (.inr (.inr (.inr hf)))))]) [1] rfl) rfl hl.1 rfl (Nat.le_of_ble_eq_true rfl) dX3_record_35 ⟨Nat.zero_le _, Nat.zero_le _⟩ ?_
    refine lv_cvq (y := .ref o2) (congrArg va_rf ho2) ?_
    refine k_rvS (As := [.ref o, .ref o2]) (rest := []) (wr := [(me, .inr (3, [.ref o, .ref ou, .ref oh, .ref os, .ref op, .int (nI c), .int sv])), (oh, .inl (gD G, 6, .inr (.inr (.inr (.inr hf)))))]) hF (c_X3_copy l G _ o ab af an aw r o2 b2 f2 n2 w2 r2) mw_2_0 mw_2_1 mw_1_1 mw_2_2 hd_X3_copy ⟨Nat.le_of_ble_eq_true rfl, Nat.le_of_ble_eq_true rfl⟩ hKx hZ hS hP hD hA [2, 3, 4, 5, 6, 7, 8, 9, 10, 11] [0, 1] rfl rfl (by decide) (by decide) (by decide) rfl rfl hl.1 rfl (Nat.le_of_ble_eq_true rfl) dX3_record_38 ⟨Nat.zero_le _, Nat.zero_le _⟩ (fun H locs hP hD hS => ?_)
    have hP : va_P G.1 vwCl [(me, .inr (3, [.ref o, .ref ou, .ref oh, .ref os, .ref op, .int (nI c), .int sv])), (oh, .inl (gD G, 6, .inr (.inr (.inr (.inr hf))))), (o, dO r ab af an aw), (ab, .inl (gI G, 1920, .inl (dB r))), (af, .inl (gI G, 120, .inl (dF r))), (an, .inl (gI G, 120, .inl (dN r))), (aw, .inl (gI G, 7, .inl (dW r))), (o2, dO r b2 f2 n2 w2), (b2, .inl (gI G, 1920, .inl (dB r))), (f2, .inl (gI G, 120, .inl (dF r))), (n2, .inl (gI G, 120, .inl (dN r))), (w2, .inl (gI G, 7, .inl (dW r)))] H := hP
    have hD : va_D A [(me, .inr (3, [.ref o, .ref ou, .ref oh, .ref os, .ref op, .int (nI c), .int sv])), (oh, .inl (gD G, 6, .inr (.inr (.inr (.inr hf))))), (o, dO r ab af an aw), (ab, .inl (gI G, 1920, .inl (dB r))), (af, .inl (gI G, 120, .inl (dF r))), (an, .inl (gI G, 120, .inl (dN r))), (aw, .inl (gI G, 7, .inl (dW r))), (o2, dO r b2 f2 n2 w2), (b2, .inl (gI G, 1920, .inl (dB r))), (f2, .inl (gI G, 120, .inl (dF r))), (n2, .inl (gI G, 120, .inl (dN r))), (w2, .inl (gI G, 7, .inl (dW r)))] := hD
    refine lv_aload_n hx hb dX3_record_41 rfl (lv_at hl 0 rfl) ?_
    refine lv_dup hx hb dX3_record_42 rfl ?_
    refine va_get (ci := 3) (v := .int (nI c)) (C := RX3) (T := TX3) (N := 7) hx hb hts inGX3 hown hK hP 0 rfl rfl 5 (by decide) (hts _ mw_1_131) (fun _ h9 => h9) rfl dX3_record_43 ?_
    refine lv_iconst (v := nI 1) hx hb dX3_record_46 (by decide) ?_
    refine n_iadd hx hb dX3_record_47 ?_
    refine va_put (ci := 3) (v := .int (nI (c + 1))) (ty := .int) (C := RX3) (T := TX3) (N := 7) hx hb hts inGX3 tyX3 tyX3_ok nmX3 hown hK hP hD hS 0 rfl rfl 5 (by decide) (hts _ mw_1_131) (fun _ h9 => h9) rfl (by decide +kernel) rfl rfl (Nat.le_of_ble_eq_true rfl) dX3_record_48 (fun H locs hP hD hS => ?_)
    have hP : va_P G.1 vwCl [(me, .inr (3, [.ref o, .ref ou, .ref oh, .ref os, .ref op, .int (nI (c + 1)), .int sv])), (oh, .inl (gD G, 6, .inr (.inr (.inr (.inr hf))))), (o, dO r ab af an aw), (ab, .inl (gI G, 1920, .inl (dB r))), (af, .inl (gI G, 120, .inl (dF r))), (an, .inl (gI G, 120, .inl (dN r))), (aw, .inl (gI G, 7, .inl (dW r))), (o2, dO r b2 f2 n2 w2), (b2, .inl (gI G, 1920, .inl (dB r))), (f2, .inl (gI G, 120, .inl (dF r))), (n2, .inl (gI G, 120, .inl (dN r))), (w2, .inl (gI G, 7, .inl (dW r)))] H := hP
    have hD : va_D A [(me, .inr (3, [.ref o, .ref ou, .ref oh, .ref os, .ref op, .int (nI (c + 1)), .int sv])), (oh, .inl (gD G, 6, .inr (.inr (.inr (.inr hf))))), (o, dO r ab af an aw), (ab, .inl (gI G, 1920, .inl (dB r))), (af, .inl (gI G, 120, .inl (dF r))), (an, .inl (gI G, 120, .inl (dN r))), (aw, .inl (gI G, 7, .inl (dW r))), (o2, dO r b2 f2 n2 w2), (b2, .inl (gI G, 1920, .inl (dB r))), (f2, .inl (gI G, 120, .inl (dF r))), (n2, .inl (gI G, 120, .inl (dN r))), (w2, .inl (gI G, 7, .inl (dW r)))] := hD
    have hPj := hP.sub (ws' := [(me, .inr (3, [.ref o, .ref ou, .ref oh, .ref os, .ref op, .int (nI (c + 1)), .int sv])), (oh, .inl (gD G, 6, .inr (.inr (.inr (.inr hf))))), (o, dO r ab af an aw), (ab, .inl (gI G, 1920, .inl (dB r))), (af, .inl (gI G, 120, .inl (dF r))), (an, .inl (gI G, 120, .inl (dN r))), (aw, .inl (gI G, 7, .inl (dW r))), (o2, dO r b2 f2 n2 w2), (b2, .inl (gI G, 1920, .inl (dB r))), (f2, .inl (gI G, 120, .inl (dF r))), (n2, .inl (gI G, 120, .inl (dN r))), (w2, .inl (gI G, 7, .inl (dW r)))]) [0, 1, 2, 3, 4, 5, 6, 7, 8, 9, 10, 11] rfl
    exact e_wv hx hb hr hlk hPj hS dX3_record_51
  · skip
    exact absurd c_6 (by omega)
set_option maxHeartbeats 4000000 in
set_option maxRecDepth 100000 in
theorem c_X3_record_6 (l : Launch) (G : gT) (sz : Nat) (me : Nat) (o : Nat) (ou : Nat) (oh : Nat) (os : Nat) (op : Nat) (sv : Int32) (ab : Nat) (af : Nat) (an : Nat) (aw : Nat) (h0 : Nat) (h1 : Nat) (h2 : Nat) (h3 : Nat) (h4 : Nat) (h5 : Nat) (r : Nat → Int32) (b2 : Nat) (f2 : Nat) (n2 : Nat) (w2 : Nat) (r2 : Nat → Int32) (v1 : List Value) (v2 : List Value) (v3 : List Value) (v4 : List Value) (v5 : List Value)  : Rv l G yX3_record cX3_record 1 none 4 sz [(me, .inr (3, [.ref o, .ref ou, .ref oh, .ref os, .ref op, .int (nI 6), .int sv])), (oh, .inl (gD G, 6, .inr (.inr (.inr (.inr (lis6 h0 h1 h2 h3 h4 h5)))))), (o, dO r ab af an aw), (ab, .inl (gI G, 1920, .inl (dB r))), (af, .inl (gI G, 120, .inl (dF r))), (an, .inl (gI G, 120, .inl (dN r))), (aw, .inl (gI G, 7, .inl (dW r))), (h0, dO r2 b2 f2 n2 w2), (b2, .inl (gI G, 1920, .inl (dB r2))), (f2, .inl (gI G, 120, .inl (dF r2))), (n2, .inl (gI G, 120, .inl (dN r2))), (w2, .inl (gI G, 7, .inl (dW r2))), (h1, .inr (0, v1)), (h2, .inr (0, v2)), (h3, .inr (0, v3)), (h4, .inr (0, v4)), (h5, .inr (0, v5))] [.ref me] [(me, .inr (3, [.ref o, .ref ou, .ref oh, .ref os, .ref op, .int (nI 6), .int sv])), (oh, .inl (gD G, 6, .inr (.inr (.inr (.inr (lis6 h1 h2 h3 h4 h5 h0)))))), (o, dO r ab af an aw), (ab, .inl (gI G, 1920, .inl (dB r))), (af, .inl (gI G, 120, .inl (dF r))), (an, .inl (gI G, 120, .inl (dN r))), (aw, .inl (gI G, 7, .inl (dW r))), (h0, dO r b2 f2 n2 w2), (b2, .inl (gI G, 1920, .inl (dB r))), (f2, .inl (gI G, 120, .inl (dF r))), (n2, .inl (gI G, 120, .inl (dN r))), (w2, .inl (gI G, 7, .inl (dW r))), (h1, .inr (0, v1)), (h2, .inr (0, v2)), (h3, .inr (0, v3)), (h4, .inr (0, v4)), (h5, .inr (0, v5))] := by
  refine Rv.mk (by decide) (Nat.le_of_ble_eq_true rfl) (fun pq eq sq mq bq tq cq ls A hr hlk hF hKx hZ hA hP hD hS hl => ?_)
  have hx := hF.1
  have hb := hF.2.1
  have hml := hF.2.2.1
  have hown : sq.vm.findClass RX3 = some mq.cls := hF.2.2.2.1
  have hts : ∀ w ∈ GW, w.before _ sq = true := hF.2.2.2.2
  have hK := hKx.1
  have hl : lv_has ls 1 [(0, .ref me)] := hl
  have hP : va_P G.1 vwCl [(me, .inr (3, [.ref o, .ref ou, .ref oh, .ref os, .ref op, .int (nI 6), .int sv])), (oh, .inl (gD G, 6, .inr (.inr (.inr (.inr (lis6 h0 h1 h2 h3 h4 h5)))))), (o, dO r ab af an aw), (ab, .inl (gI G, 1920, .inl (dB r))), (af, .inl (gI G, 120, .inl (dF r))), (an, .inl (gI G, 120, .inl (dN r))), (aw, .inl (gI G, 7, .inl (dW r))), (h0, dO r2 b2 f2 n2 w2), (b2, .inl (gI G, 1920, .inl (dB r2))), (f2, .inl (gI G, 120, .inl (dF r2))), (n2, .inl (gI G, 120, .inl (dN r2))), (w2, .inl (gI G, 7, .inl (dW r2))), (h1, .inr (0, v1)), (h2, .inr (0, v2)), (h3, .inr (0, v3)), (h4, .inr (0, v4)), (h5, .inr (0, v5))] sq.heap := hP
  have hD : va_D A [(me, .inr (3, [.ref o, .ref ou, .ref oh, .ref os, .ref op, .int (nI 6), .int sv])), (oh, .inl (gD G, 6, .inr (.inr (.inr (.inr (lis6 h0 h1 h2 h3 h4 h5)))))), (o, dO r ab af an aw), (ab, .inl (gI G, 1920, .inl (dB r))), (af, .inl (gI G, 120, .inl (dF r))), (an, .inl (gI G, 120, .inl (dN r))), (aw, .inl (gI G, 7, .inl (dW r))), (h0, dO r2 b2 f2 n2 w2), (b2, .inl (gI G, 1920, .inl (dB r2))), (f2, .inl (gI G, 120, .inl (dF r2))), (n2, .inl (gI G, 120, .inl (dN r2))), (w2, .inl (gI G, 7, .inl (dW r2))), (h1, .inr (0, v1)), (h2, .inr (0, v2)), (h3, .inr (0, v3)), (h4, .inr (0, v4)), (h5, .inr (0, v5))] := hD
  refine lv_aload_n hx hb dX3_record_0 rfl (lv_at hl 0 rfl) ?_
  refine va_get (ci := 3) (v := .int (nI 6)) (C := RX3) (T := TX3) (N := 7) hx hb hts inGX3 hown hK hP 0 rfl rfl 5 (by decide) (hts _ mw_1_131) (fun _ h9 => h9) rfl dX3_record_1 ?_
  refine lv_bipush (v := nI 6) hx hb dX3_record_4 (by decide) ?_
  refine z_lt hx hb (tgt := 23) 6 6 dX3_record_6 (by decide) (by decide) (by decide) (fun c_6 => ?_) (fun c_6 => ?_)
  · skip
    exact absurd c_6 (by decide)
  · skip
    refine lv_aload_n hx hb dX3_record_9 rfl (lv_at hl 0 rfl) ?_
    refine k_rvV (ci := 3) (q0 := 0) (As := []) (rest := []) (wr := [(o, dO r ab af an aw), (ab, .inl (gI G, 1920, .inl (dB r))), (af, .inl (gI G, 120, .inl (dF r))), (an, .inl (gI G, 120, .inl (dN r))), (aw, .inl (gI G, 7, .inl (dW r))), (b2, .inl (gI G, 1920, .inl (dB r2))), (f2, .inl (gI G, 120, .inl (dF r2))), (n2, .inl (gI G, 120, .inl (dN r2))), (w2, .inl (gI G, 7, .inl (dW r2)))]) hF (c_X3_moveOldestToTheEnd l G _ me o ou oh os op (nI 6) sv ab af an aw h0 h1 h2 h3 h4 h5 ([.int (r2 0), .int (r2 1), .int (r2 2), .int (r2 3), .int (r2 4), .int (r2 5), .int (r2 6), .ref b2, .ref f2, .ref n2, .ref w2]) v1 v2 v3 v4 v5) ⟨_, rfl, rfl⟩ rfl rfl mw_1_233 mw_1_235 mw_p1_2 mw_1_1 mw_1_236 hd_X3_moveOldestToTheEnd ⟨Nat.le_of_ble_eq_true rfl, Nat.le_of_ble_eq_true rfl⟩ hKx hZ hS hP hD hA [0, 1, 7, 12, 13, 14, 15, 16] [2, 3, 4, 5, 6, 8, 9, 10, 11] rfl rfl (by decide) (by decide) (by decide) rfl rfl hl.1 rfl (Nat.le_of_ble_eq_true rfl) dX3_record_10 ⟨Nat.zero_le _, Nat.zero_le _⟩ (fun H locs hP hD hS => ?_)
    have hP : va_P G.1 vwCl [(o, dO r ab af an aw), (ab, .inl (gI G, 1920, .inl (dB r))), (af, .inl (gI G, 120, .inl (dF r))), (an, .inl (gI G, 120, .inl (dN r))), (aw, .inl (gI G, 7, .inl (dW r))), (b2, .inl (gI G, 1920, .inl (dB r2))), (f2, .inl (gI G, 120, .inl (dF r2))), (n2, .inl (gI G, 120, .inl (dN r2))), (w2, .inl (gI G, 7, .inl (dW r2))), (me, .inr (3, [.ref o, .ref ou, .ref oh, .ref os, .ref op, .int (nI 6), .int sv])), (oh, .inl (gD G, 6, .inr (.inr (.inr (.inr (lis6 h1 h2 h3 h4 h5 h0)))))), (h0, .inr (0, ([.int (r2 0), .int (r2 1), .int (r2 2), .int (r2 3), .int (r2 4), .int (r2 5), .int (r2 6), .ref b2, .ref f2, .ref n2, .ref w2]))), (h1, .inr (0, v1)), (h2, .inr (0, v2)), (h3, .inr (0, v3)), (h4, .inr (0, v4)), (h5, .inr (0, v5))] H := hP
    have hD : va_D A [(o, dO r ab af an aw), (ab, .inl (gI G, 1920, .inl (dB r))), (af, .inl (gI G, 120, .inl (dF r))), (an, .inl (gI G, 120, .inl (dN r))), (aw, .inl (gI G, 7, .inl (dW r))), (b2, .inl (gI G, 1920, .inl (dB r2))), (f2, .inl (gI G, 120, .inl (dF r2))), (n2, .inl (gI G, 120, .inl (dN r2))), (w2, .inl (gI G, 7, .inl (dW r2))), (me, .inr (3, [.ref o, .ref ou, .ref oh, .ref os, .ref op, .int (nI 6), .int sv])), (oh, .inl (gD G, 6, .inr (.inr (.inr (.inr (lis6 h1 h2 h3 h4 h5 h0)))))), (h0, .inr (0, ([.int (r2 0), .int (r2 1), .int (r2 2), .int (r2 3), .int (r2 4), .int (r2 5), .int (r2 6), .ref b2, .ref f2, .ref n2, .ref w2]))), (h1, .inr (0, v1)), (h2, .inr (0, v2)), (h3, .inr (0, v3)), (h4, .inr (0, v4)), (h5, .inr (0, v5))] := hD
    refine lv_aload_n hx hb dX3_record_13 rfl (lv_at hl 0 rfl) ?_
    refine lv_dup hx hb dX3_record_14 rfl ?_
    refine va_get (ci := 3) (v := .int (nI 6)) (C := RX3) (T := TX3) (N := 7) hx hb hts inGX3 hown hK hP 9 rfl rfl 5 (by decide) (hts _ mw_1_131) (fun _ h9 => h9) rfl dX3_record_15 ?_
    refine lv_iconst (v := nI 1) hx hb dX3_record_18 (by decide) ?_
    refine n_isub hx hb (by decide) dX3_record_19 ?_
    refine va_put (ci := 3) (v := .int (nI 5)) (ty := .int) (C := RX3) (T := TX3) (N := 7) hx hb hts inGX3 tyX3 tyX3_ok nmX3 hown hK hP hD hS 9 rfl rfl 5 (by decide) (hts _ mw_1_131) (fun _ h9 => h9) rfl (by decide +kernel) rfl rfl (Nat.le_of_ble_eq_true rfl) dX3_record_20 (fun H locs hP hD hS => ?_)
    have hP : va_P G.1 vwCl [(o, dO r ab af an aw), (ab, .inl (gI G, 1920, .inl (dB r))), (af, .inl (gI G, 120, .inl (dF r))), (an, .inl (gI G, 120, .inl (dN r))), (aw, .inl (gI G, 7, .inl (dW r))), (b2, .inl (gI G, 1920, .inl (dB r2))), (f2, .inl (gI G, 120, .inl (dF r2))), (n2, .inl (gI G, 120, .inl (dN r2))), (w2, .inl (gI G, 7, .inl (dW r2))), (me, .inr (3, [.ref o, .ref ou, .ref oh, .ref os, .ref op, .int (nI 5), .int sv])), (oh, .inl (gD G, 6, .inr (.inr (.inr (.inr (lis6 h1 h2 h3 h4 h5 h0)))))), (h0, .inr (0, ([.int (r2 0), .int (r2 1), .int (r2 2), .int (r2 3), .int (r2 4), .int (r2 5), .int (r2 6), .ref b2, .ref f2, .ref n2, .ref w2]))), (h1, .inr (0, v1)), (h2, .inr (0, v2)), (h3, .inr (0, v3)), (h4, .inr (0, v4)), (h5, .inr (0, v5))] H := hP
    have hD : va_D A [(o, dO r ab af an aw), (ab, .inl (gI G, 1920, .inl (dB r))), (af, .inl (gI G, 120, .inl (dF r))), (an, .inl (gI G, 120, .inl (dN r))), (aw, .inl (gI G, 7, .inl (dW r))), (b2, .inl (gI G, 1920, .inl (dB r2))), (f2, .inl (gI G, 120, .inl (dF r2))), (n2, .inl (gI G, 120, .inl (dN r2))), (w2, .inl (gI G, 7, .inl (dW r2))), (me, .inr (3, [.ref o, .ref ou, .ref oh, .ref os, .ref op, .int (nI 5), .int sv])), (oh, .inl (gD G, 6, .inr (.inr (.inr (.inr (lis6 h1 h2 h3 h4 h5 h0)))))), (h0, .inr (0, ([.int (r2 0), .int (r2 1), .int (r2 2), .int (r2 3), .int (r2 4), .int (r2 5), .int (r2 6), .ref b2, .ref f2, .ref n2, .ref w2]))), (h1, .inr (0, v1)), (h2, .inr (0, v2)), (h3, .inr (0, v3)), (h4, .inr (0, v4)), (h5, .inr (0, v5))] := hD
    refine lv_aload_n hx hb dX3_record_23 rfl (lv_at hl 0 rfl) ?_
    refine va_get (ci := 3) (v := .ref o) (C := RX3) (T := TX3) (N := 7) hx hb hts inGX3 hown hK hP 9 rfl rfl 0 (by decide) (hts _ mw_1_126) (fun _ h9 => h9) rfl dX3_record_24 ?_
    refine lv_aload_n hx hb dX3_record_27 rfl (lv_at hl 0 rfl) ?_
    refine va_get (ci := 3) (v := .ref oh) (C := RX3) (T := TX3) (N := 7) hx hb hts inGX3 hown hK hP 9 rfl rfl 2 (by decide) (hts _ mw_1_128) (fun _ h9 => h9) rfl dX3_record_28 ?_
    refine lv_aload_n hx hb dX3_record_31 rfl (lv_at hl 0 rfl) ?_
    refine va_get (ci := 3) (v := .int (nI 5)) (C := RX3) (T := TX3) (N := 7) hx hb hts inGX3 hown hK hP 9 rfl rfl 5 (by decide) (hts _ mw_1_131) (fun _ h9 => h9) rfl dX3_record_32 ?_
    refine k_rqS (As := [.ref oh, .int (nI 5)]) (rest := [.ref o]) hF (c_X3_stateAt l G oh (lis6 h1 h2 h3 h4 h5 h0) 6 5 (by omega) (by omega)) mw_1_237 mw_1_238 mw_1_1 mw_1_239 hd_X3_stateAt ⟨Nat.le_of_ble_eq_true rfl, Nat.le_of_ble_eq_true rfl⟩ (Rd.of hKx hZ hS) (hP.sub (ws' := [(oh, .inl (gD G, 6, .inr (.inr (.inr (.inr (lis6 h1 h2 h3 h4 h5 h0))))))]) [10] rfl) rfl hl.1 rfl (Nat.le_of_ble_eq_true rfl) dX3_record_35 ⟨Nat.zero_le _, Nat.zero_le _⟩ ?_
    refine lv_cvq (y := .ref h0) (rfl) ?_
    refine k_rvS (As := [.ref o, .ref h0]) (rest := []) (wr := [(me, .inr (3, [.ref o, .ref ou, .ref oh, .ref os, .ref op, .int (nI 5), .int sv])), (oh, .inl (gD G, 6, .inr (.inr (.inr (.inr (lis6 h1 h2 h3 h4 h5 h0)))))), (h1, .inr (0, v1)), (h2, .inr (0, v2)), (h3, .inr (0, v3)), (h4, .inr (0, v4)), (h5, .inr (0, v5))]) hF (c_X3_copy l G _ o ab af an aw r h0 b2 f2 n2 w2 r2) mw_2_0 mw_2_1 mw_1_1 mw_2_2 hd_X3_copy ⟨Nat.le_of_ble_eq_true rfl, Nat.le_of_ble_eq_true rfl⟩ hKx hZ hS hP hD hA [0, 1, 2, 3, 4, 11, 5, 6, 7, 8] [9, 10, 12, 13, 14, 15, 16] rfl rfl (by decide) (by decide) (by decide) rfl rfl hl.1 rfl (Nat.le_of_ble_eq_true rfl) dX3_record_38 ⟨Nat.zero_le _, Nat.zero_le _⟩ (fun H locs hP hD hS => ?_)
    have hP : va_P G.1 vwCl [(me, .inr (3, [.ref o, .ref ou, .ref oh, .ref os, .ref op, .int (nI 5), .int sv])), (oh, .inl (gD G, 6, .inr (.inr (.inr (.inr (lis6 h1 h2 h3 h4 h5 h0)))))), (h1, .inr (0, v1)), (h2, .inr (0, v2)), (h3, .inr (0, v3)), (h4, .inr (0, v4)), (h5, .inr (0, v5)), (o, dO r ab af an aw), (ab, .inl (gI G, 1920, .inl (dB r))), (af, .inl (gI G, 120, .inl (dF r))), (an, .inl (gI G, 120, .inl (dN r))), (aw, .inl (gI G, 7, .inl (dW r))), (h0, dO r b2 f2 n2 w2), (b2, .inl (gI G, 1920, .inl (dB r))), (f2, .inl (gI G, 120, .inl (dF r))), (n2, .inl (gI G, 120, .inl (dN r))), (w2, .inl (gI G, 7, .inl (dW r)))] H := hP
    have hD : va_D A [(me, .inr (3, [.ref o, .ref ou, .ref oh, .ref os, .ref op, .int (nI 5), .int sv])), (oh, .inl (gD G, 6, .inr (.inr (.inr (.inr (lis6 h1 h2 h3 h4 h5 h0)))))), (h1, .inr (0, v1)), (h2, .inr (0, v2)), (h3, .inr (0, v3)), (h4, .inr (0, v4)), (h5, .inr (0, v5)), (o, dO r ab af an aw), (ab, .inl (gI G, 1920, .inl (dB r))), (af, .inl (gI G, 120, .inl (dF r))), (an, .inl (gI G, 120, .inl (dN r))), (aw, .inl (gI G, 7, .inl (dW r))), (h0, dO r b2 f2 n2 w2), (b2, .inl (gI G, 1920, .inl (dB r))), (f2, .inl (gI G, 120, .inl (dF r))), (n2, .inl (gI G, 120, .inl (dN r))), (w2, .inl (gI G, 7, .inl (dW r)))] := hD
    refine lv_aload_n hx hb dX3_record_41 rfl (lv_at hl 0 rfl) ?_
    refine lv_dup hx hb dX3_record_42 rfl ?_
    refine va_get (ci := 3) (v := .int (nI 5)) (C := RX3) (T := TX3) (N := 7) hx hb hts inGX3 hown hK hP 0 rfl rfl 5 (by decide) (hts _ mw_1_131) (fun _ h9 => h9) rfl dX3_record_43 ?_
    refine lv_iconst (v := nI 1) hx hb dX3_record_46 (by decide) ?_
    refine n_iadd hx hb dX3_record_47 ?_
    refine va_put (ci := 3) (v := .int (nI 6)) (ty := .int) (C := RX3) (T := TX3) (N := 7) hx hb hts inGX3 tyX3 tyX3_ok nmX3 hown hK hP hD hS 0 rfl rfl 5 (by decide) (hts _ mw_1_131) (fun _ h9 => h9) rfl (by decide +kernel) rfl rfl (Nat.le_of_ble_eq_true rfl) dX3_record_48 (fun H locs hP hD hS => ?_)
    have hP : va_P G.1 vwCl [(me, .inr (3, [.ref o, .ref ou, .ref oh, .ref os, .ref op, .int (nI 6), .int sv])), (oh, .inl (gD G, 6, .inr (.inr (.inr (.inr (lis6 h1 h2 h3 h4 h5 h0)))))), (h1, .inr (0, v1)), (h2, .inr (0, v2)), (h3, .inr (0, v3)), (h4, .inr (0, v4)), (h5, .inr (0, v5)), (o, dO r ab af an aw), (ab, .inl (gI G, 1920, .inl (dB r))), (af, .inl (gI G, 120, .inl (dF r))), (an, .inl (gI G, 120, .inl (dN r))), (aw, .inl (gI G, 7, .inl (dW r))), (h0, dO r b2 f2 n2 w2), (b2, .inl (gI G, 1920, .inl (dB r))), (f2, .inl (gI G, 120, .inl (dF r))), (n2, .inl (gI G, 120, .inl (dN r))), (w2, .inl (gI G, 7, .inl (dW r)))] H := hP
    have hD : va_D A [(me, .inr (3, [.ref o, .ref ou, .ref oh, .ref os, .ref op, .int (nI 6), .int sv])), (oh, .inl (gD G, 6, .inr (.inr (.inr (.inr (lis6 h1 h2 h3 h4 h5 h0)))))), (h1, .inr (0, v1)), (h2, .inr (0, v2)), (h3, .inr (0, v3)), (h4, .inr (0, v4)), (h5, .inr (0, v5)), (o, dO r ab af an aw), (ab, .inl (gI G, 1920, .inl (dB r))), (af, .inl (gI G, 120, .inl (dF r))), (an, .inl (gI G, 120, .inl (dN r))), (aw, .inl (gI G, 7, .inl (dW r))), (h0, dO r b2 f2 n2 w2), (b2, .inl (gI G, 1920, .inl (dB r))), (f2, .inl (gI G, 120, .inl (dF r))), (n2, .inl (gI G, 120, .inl (dN r))), (w2, .inl (gI G, 7, .inl (dW r)))] := hD
    have hPj := hP.sub (ws' := [(me, .inr (3, [.ref o, .ref ou, .ref oh, .ref os, .ref op, .int (nI 6), .int sv])), (oh, .inl (gD G, 6, .inr (.inr (.inr (.inr (lis6 h1 h2 h3 h4 h5 h0)))))), (o, dO r ab af an aw), (ab, .inl (gI G, 1920, .inl (dB r))), (af, .inl (gI G, 120, .inl (dF r))), (an, .inl (gI G, 120, .inl (dN r))), (aw, .inl (gI G, 7, .inl (dW r))), (h0, dO r b2 f2 n2 w2), (b2, .inl (gI G, 1920, .inl (dB r))), (f2, .inl (gI G, 120, .inl (dF r))), (n2, .inl (gI G, 120, .inl (dN r))), (w2, .inl (gI G, 7, .inl (dW r))), (h1, .inr (0, v1)), (h2, .inr (0, v2)), (h3, .inr (0, v3)), (h4, .inr (0, v4)), (h5, .inr (0, v5))]) [0, 1, 7, 8, 9, 10, 11, 12, 13, 14, 15, 16, 2, 3, 4, 5, 6] rfl
    exact e_wv hx hb hr hlk hPj hS dX3_record_51
