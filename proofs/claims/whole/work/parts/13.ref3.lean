theorem hd_X4_copyDiary : hdY yX4_copyDiary 4 := ⟨by decide +kernel, by decide +kernel, by decide +kernel⟩
theorem hd_X4_record : hdY yX4_record 0 := ⟨by decide +kernel, by decide +kernel, by decide +kernel⟩
theorem hd_X4_set : hdY yX4_set 2 := ⟨by decide +kernel, by decide +kernel, by decide +kernel⟩
theorem hd_X4_passOn : hdY yX4_passOn 2 := ⟨by decide +kernel, by decide +kernel, by decide +kernel⟩
theorem hd_X4_whyNotPass : hdY yX4_whyNotPass 2 := ⟨by decide +kernel, by decide +kernel, by decide +kernel⟩
theorem hd_X4_pass : hdY yX4_pass 1 := ⟨by decide +kernel, by decide +kernel, by decide +kernel⟩
theorem hd_X4_whyNotDays : hdY yX4_whyNotDays 3 := ⟨by decide +kernel, by decide +kernel, by decide +kernel⟩
theorem hd_X4_whyNotMark : hdY yX4_whyNotMark 4 := ⟨by decide +kernel, by decide +kernel, by decide +kernel⟩
theorem hd_X4_markOn : hdY yX4_markOn 5 := ⟨by decide +kernel, by decide +kernel, by decide +kernel⟩
theorem hd_X4_mark : hdY yX4_mark 3 := ⟨by decide +kernel, by decide +kernel, by decide +kernel⟩
theorem hd_X4_clear : hdY yX4_clear 3 := ⟨by decide +kernel, by decide +kernel, by decide +kernel⟩
set_option maxHeartbeats 4000000 in
set_option maxRecDepth 100000 in
theorem c_X4_copyDiary (l : Launch) (G : gT) (sz : Nat) (a : Nat) (b : Nat) (n0 : Nat) (n1 : Nat) (f : Nat → Int32) (g : Nat → Int32) (sq0 : Nat) (dp0 : Nat) (h1 : sq0 + 2175 ≤ n0) (h2 : dp0 + 2175 ≤ n1) (h3 : n0 < 2147483648) (h4 : n1 < 2147483648) : Rv l G yX4_copyDiary cX4_copyDiary 5 none 0 sz [(a, .inl (gI G, n0, .inl f)), (b, .inl (gI G, n1, .inl g))] [.ref a, .int (nI sq0), .ref b, .int (nI dp0)] [(a, .inl (gI G, n0, .inl f)), (b, .inl (gI G, n1, .inl (va_cpy f g sq0 dp0 2175)))] := by
  refine Rv.mk (by decide) (Nat.le_of_ble_eq_true rfl) (fun pq eq sq mq bq tq cq ls A hr hlk hF hKx hZ hA hP hD hS hl => ?_)
  have hx := hF.1
  have hb := hF.2.1
  have hml := hF.2.2.1
  have hown : sq.vm.findClass RX4 = some mq.cls := hF.2.2.2.1
  have hts : ∀ w ∈ GW, w.before _ sq = true := hF.2.2.2.2
  have hK := hKx.1
  have hl : lv_has ls 5 [(0, .ref a), (1, .int (nI sq0)), (2, .ref b), (3, .int (nI dp0))] := hl
  have hP : va_P G.1 vwCl [(a, .inl (gI G, n0, .inl f)), (b, .inl (gI G, n1, .inl g))] sq.heap := hP
  have hD : va_D A [(a, .inl (gI G, n0, .inl f)), (b, .inl (gI G, n1, .inl g))] := hD
  refine lv_iconst (v := nI 0) hx hb dX4_copyDiary_0 (by decide) ?_
  refine lv_istore (lv' := [(4, .int (nI 0)), (0, .ref a), (1, .int (nI sq0)), (2, .ref b), (3, .int (nI dp0))]) hx hb dX4_copyDiary_1 hl (by decide) rfl (fun ls hl => ?_)
  have hPj := hP.sub (ws' := [(a, .inl (gI G, n0, .inl f)), (b, .inl (gI G, n1, .inl g))]) [0, 1] rfl
  have hDj := hD.sub (ws' := [(a, .inl (gI G, n0, .inl f)), (b, .inl (gI G, n1, .inl g))]) [0, 1] (by decide) rfl
  have hwj : ([(a, .inl (gI G, n0, .inl f)), (b, .inl (gI G, n1, .inl g))] : va_W) = [(a, .inl (gI G, n0, .inl f)), (b, .inl (gI G, n1, .inl (va_cpy f g sq0 dp0 0)))] := (wlc (rfl) (wlc (wli (cpk_0 f g sq0 dp0).symm) rfl))
  rw [hwj] at hPj hDj
  refine wloopH [] (fun k H locs ls => (k ≤ 2175) ∧ va_P G.1 vwCl [(a, .inl (gI G, n0, .inl f)), (b, .inl (gI G, n1, .inl (va_cpy f g sq0 dp0 k)))] H ∧ va_D A [(a, .inl (gI G, n0, .inl f)), (b, .inl (gI G, n1, .inl (va_cpy f g sq0 dp0 k)))] ∧ va_S A sq.heap H locs ∧ lv_has ls 5 [(4, .int (nI k)), (0, .ref a), (1, .int (nI sq0)), (2, .ref b), (3, .int (nI dp0))]) (fun k => 2175 - k) ?_ 0 ⟨(by omega), hPj, hDj, hS, lv_sub hl [0, 1, 2, 3, 4] rfl⟩
  intro k ih
  intro H locs ls ⟨hk, hP, hD, hS, hl⟩
  refine lv_iload hx hb dX4_copyDiary_3 (lv_at hl 0 rfl) ?_
  refine lv_sipush (v := nI 2175) hx hb dX4_copyDiary_5 (by decide) ?_
  refine z_ge hx hb (tgt := 29) ((k : Nat) : Int) 2175 dX4_copyDiary_8 (by decide) (toI (by omega)) (by decide) (fun c_8 => ?_) (fun c_8 => ?_)
  · skip
    have hk2 : k = 2175 := by omega
    subst hk2
    have hPj := hP.sub (ws' := [(a, .inl (gI G, n0, .inl f)), (b, .inl (gI G, n1, .inl (va_cpy f g sq0 dp0 2175)))]) [0, 1] rfl
    exact e_wv hx hb hr hlk hPj hS dX4_copyDiary_29
  · skip
    refine lv_aload_n hx hb dX4_copyDiary_11 rfl (lv_at hl 3 rfl) ?_
    refine lv_iload_n hx hb dX4_copyDiary_12 rfl (lv_at hl 4 rfl) ?_
    refine lv_iload hx hb dX4_copyDiary_13 (lv_at hl 0 rfl) ?_
    refine n_iadd hx hb dX4_copyDiary_15 ?_
    refine lv_aload_n hx hb dX4_copyDiary_16 rfl (lv_at hl 1 rfl) ?_
    refine lv_iload_n hx hb dX4_copyDiary_17 rfl (lv_at hl 2 rfl) ?_
    refine lv_iload hx hb dX4_copyDiary_18 (lv_at hl 0 rfl) ?_
    refine n_iadd hx hb dX4_copyDiary_20 ?_
    refine n_iald hx hb hK hP 0 0 rfl rfl (by omega) (by omega) dX4_copyDiary_21 ?_
    refine n_iast hx hb hK hP hD hS 1 0 rfl rfl (by omega) (by omega) dX4_copyDiary_22 (fun H locs hP hD hS => ?_)
    have hP : va_P G.1 vwCl [(a, .inl (gI G, n0, .inl f)), (b, .inl (gI G, n1, .inl (upd (va_cpy f g sq0 dp0 k) (dp0 + k) (f (sq0 + k)))))] H := hP
    have hD : va_D A [(a, .inl (gI G, n0, .inl f)), (b, .inl (gI G, n1, .inl (upd (va_cpy f g sq0 dp0 k) (dp0 + k) (f (sq0 + k)))))] := hD
    refine lv_iinc (v := nI (k + 1)) (lv' := [(4, .int (nI (k + 1))), (0, .ref a), (1, .int (nI sq0)), (2, .ref b), (3, .int (nI dp0))]) hx hb dX4_copyDiary_23 hl (k := 0) rfl (nI_add _ _) (by decide) rfl (fun ls hl => ?_)
    refine lv_goto (tgt := 3) hx hb dX4_copyDiary_26 (by decide) ?_
    have w_1 : ([(a, .inl (gI G, n0, .inl f)), (b, .inl (gI G, n1, .inl (upd (va_cpy f g sq0 dp0 k) (dp0 + k) (f (sq0 + k)))))] : va_W) = [(a, .inl (gI G, n0, .inl f)), (b, .inl (gI G, n1, .inl (va_cpy f g sq0 dp0 (k + 1))))] := (wlc (rfl) (wlc (wli (cpk_s f g sq0 dp0 k)) rfl))
    have hPj := hP.sub (ws' := [(a, .inl (gI G, n0, .inl f)), (b, .inl (gI G, n1, .inl (upd (va_cpy f g sq0 dp0 k) (dp0 + k) (f (sq0 + k)))))]) [0, 1] rfl
    have hDj := hD.sub (ws' := [(a, .inl (gI G, n0, .inl f)), (b, .inl (gI G, n1, .inl (upd (va_cpy f g sq0 dp0 k) (dp0 + k) (f (sq0 + k)))))]) [0, 1] (by decide) rfl
    rw [w_1] at hPj hDj
    exact ih (k + 1) _ _ ls (by omega) ⟨(by omega), hPj, hDj, hS, lv_sub hl [0, 1, 2, 3, 4] rfl⟩
set_option maxHeartbeats 4000000 in
set_option maxRecDepth 100000 in
theorem c_X4_record (l : Launch) (G : gT) (sz : Nat) (h : Nat) (an : Nat) (tr : Nat) (ah : Nat) (c : Nat) (ak : Nat) (ai : Nat) (ap : Nat) (sy : Int32) (af : Nat) (sp : Int32) (r : Nat → Int32) (hh : Nat → Int32) (hc : c ≤ 6) : Rv l G yX4_record cX4_record 2 none 1 sz [(h, .inr (4, [.ref an, .ref tr, .ref ah, .int (nI c), .ref ak, .ref ai, .ref ap, .int sy, .ref af, .int sp])), (an, .inl (gI G, 2175, .inl r)), (ah, .inl (gI G, 13050, .inl hh))] [.ref h] [(h, .inr (4, [.ref an, .ref tr, .ref ah, .int (nI (rch c + 1)), .ref ak, .ref ai, .ref ap, .int sy, .ref af, .int sp])), (an, .inl (gI G, 2175, .inl r)), (ah, .inl (gI G, 13050, .inl (va_cpy r (rhh c hh) 0 (2175 * rch c) 2175)))] := by
  refine Rv.mk (by decide) (Nat.le_of_ble_eq_true rfl) (fun pq eq sq mq bq tq cq ls A hr hlk hF hKx hZ hA hP hD hS hl => ?_)
  have hx := hF.1
  have hb := hF.2.1
  have hml := hF.2.2.1
  have hown : sq.vm.findClass RX4 = some mq.cls := hF.2.2.2.1
  have hts : ∀ w ∈ GW, w.before _ sq = true := hF.2.2.2.2
  have hK := hKx.1
  have hl : lv_has ls 2 [(0, .ref h)] := hl
  have hP : va_P G.1 vwCl [(h, .inr (4, [.ref an, .ref tr, .ref ah, .int (nI c), .ref ak, .ref ai, .ref ap, .int sy, .ref af, .int sp])), (an, .inl (gI G, 2175, .inl r)), (ah, .inl (gI G, 13050, .inl hh))] sq.heap := hP
  have hD : va_D A [(h, .inr (4, [.ref an, .ref tr, .ref ah, .int (nI c), .ref ak, .ref ai, .ref ap, .int sy, .ref af, .int sp])), (an, .inl (gI G, 2175, .inl r)), (ah, .inl (gI G, 13050, .inl hh))] := hD
  refine wjoinH 50 [] (fun H locs ls => va_P G.1 vwCl [(h, .inr (4, [.ref an, .ref tr, .ref ah, .int (nI (rch c)), .ref ak, .ref ai, .ref ap, .int sy, .ref af, .int sp])), (an, .inl (gI G, 2175, .inl r)), (ah, .inl (gI G, 13050, .inl (rhh c hh)))] H ∧ va_D A [(h, .inr (4, [.ref an, .ref tr, .ref ah, .int (nI (rch c)), .ref ak, .ref ai, .ref ap, .int sy, .ref af, .int sp])), (an, .inl (gI G, 2175, .inl r)), (ah, .inl (gI G, 13050, .inl (rhh c hh)))] ∧ va_S A sq.heap H locs ∧ lv_has ls 2 [(0, .ref h)]) ?_ (fun J50 => ?_)
  · skip
    intro H locs ls ⟨hP, hD, hS, hl⟩
    have hrc := rch_le hc
    refine lv_aload_n hx hb dX4_record_50 rfl (lv_at hl 0 rfl) ?_
    refine va_get (ci := 4) (v := .ref an) (C := RX4) (T := TX4) (N := 10) hx hb hts inGX4 hown hK hP 0 rfl rfl 0 (by decide) (hts _ mw_3_54) (fun _ h9 => h9) rfl dX4_record_51 ?_
    refine lv_iconst (v := nI 0) hx hb dX4_record_54 (by decide) ?_
    refine lv_aload_n hx hb dX4_record_55 rfl (lv_at hl 0 rfl) ?_
    refine va_get (ci := 4) (v := .ref ah) (C := RX4) (T := TX4) (N := 10) hx hb hts inGX4 hown hK hP 0 rfl rfl 2 (by decide) (hts _ mw_3_56) (fun _ h9 => h9) rfl dX4_record_56 ?_
    refine lv_sipush (v := nI 2175) hx hb dX4_record_59 (by decide) ?_
    refine lv_aload_n hx hb dX4_record_62 rfl (lv_at hl 0 rfl) ?_
    refine va_get (ci := 4) (v := .int (nI (rch c))) (C := RX4) (T := TX4) (N := 10) hx hb hts inGX4 hown hK hP 0 rfl rfl 3 (by decide) (hts _ mw_3_57) (fun _ h9 => h9) rfl dX4_record_63 ?_
    refine n_imul hx hb dX4_record_66 ?_
    refine k_rvS (As := [.ref an, .int (nI 0), .ref ah, .int (nI (2175 * (rch c)))]) (rest := []) (wr := [(h, .inr (4, [.ref an, .ref tr, .ref ah, .int (nI (rch c)), .ref ak, .ref ai, .ref ap, .int sy, .ref af, .int sp]))]) hF (c_X4_copyDiary l G _ an ah 2175 13050 r (rhh c hh) 0 (2175 * (rch c)) (by omega) (by omega) (by omega) (by omega)) mw_3_99 mw_3_100 mw_1_5 mw_3_101 hd_X4_copyDiary ⟨Nat.le_of_ble_eq_true rfl, Nat.le_of_ble_eq_true rfl⟩ hKx hZ hS hP hD hA [1, 2] [0] rfl rfl (by decide) (by decide) (by decide) rfl rfl hl.1 rfl (Nat.le_of_ble_eq_true rfl) dX4_record_67 ⟨Nat.zero_le _, Nat.zero_le _⟩ (fun H locs hP hD hS => ?_)
    have hP : va_P G.1 vwCl [(h, .inr (4, [.ref an, .ref tr, .ref ah, .int (nI (rch c)), .ref ak, .ref ai, .ref ap, .int sy, .ref af, .int sp])), (an, .inl (gI G, 2175, .inl r)), (ah, .inl (gI G, 13050, .inl (va_cpy r (rhh c hh) 0 (2175 * (rch c)) 2175)))] H := hP
    have hD : va_D A [(h, .inr (4, [.ref an, .ref tr, .ref ah, .int (nI (rch c)), .ref ak, .ref ai, .ref ap, .int sy, .ref af, .int sp])), (an, .inl (gI G, 2175, .inl r)), (ah, .inl (gI G, 13050, .inl (va_cpy r (rhh c hh) 0 (2175 * (rch c)) 2175)))] := hD
    refine lv_aload_n hx hb dX4_record_70 rfl (lv_at hl 0 rfl) ?_
    refine lv_dup hx hb dX4_record_71 rfl ?_
    refine va_get (ci := 4) (v := .int (nI (rch c))) (C := RX4) (T := TX4) (N := 10) hx hb hts inGX4 hown hK hP 0 rfl rfl 3 (by decide) (hts _ mw_3_57) (fun _ h9 => h9) rfl dX4_record_72 ?_
    refine lv_iconst (v := nI 1) hx hb dX4_record_75 (by decide) ?_
    refine n_iadd hx hb dX4_record_76 ?_
    refine va_put (ci := 4) (v := .int (nI (rch c + 1))) (ty := .int) (C := RX4) (T := TX4) (N := 10) hx hb hts inGX4 tyX4 tyX4_ok nmX4 hown hK hP hD hS 0 rfl rfl 3 (by decide) (hts _ mw_3_57) (fun _ h9 => h9) rfl (by decide +kernel) rfl rfl (Nat.le_of_ble_eq_true rfl) dX4_record_77 (fun H locs hP hD hS => ?_)
    have hP : va_P G.1 vwCl [(h, .inr (4, [.ref an, .ref tr, .ref ah, .int (nI (rch c + 1)), .ref ak, .ref ai, .ref ap, .int sy, .ref af, .int sp])), (an, .inl (gI G, 2175, .inl r)), (ah, .inl (gI G, 13050, .inl (va_cpy r (rhh c hh) 0 (2175 * (rch c)) 2175)))] H := hP
    have hD : va_D A [(h, .inr (4, [.ref an, .ref tr, .ref ah, .int (nI (rch c + 1)), .ref ak, .ref ai, .ref ap, .int sy, .ref af, .int sp])), (an, .inl (gI G, 2175, .inl r)), (ah, .inl (gI G, 13050, .inl (va_cpy r (rhh c hh) 0 (2175 * (rch c)) 2175)))] := hD
    have hPj := hP.sub (ws' := [(h, .inr (4, [.ref an, .ref tr, .ref ah, .int (nI (rch c + 1)), .ref ak, .ref ai, .ref ap, .int sy, .ref af, .int sp])), (an, .inl (gI G, 2175, .inl r)), (ah, .inl (gI G, 13050, .inl (va_cpy r (rhh c hh) 0 (2175 * (rch c)) 2175)))]) [0, 1, 2] rfl
    have hwj : ([(h, .inr (4, [.ref an, .ref tr, .ref ah, .int (nI (rch c + 1)), .ref ak, .ref ai, .ref ap, .int sy, .ref af, .int sp])), (an, .inl (gI G, 2175, .inl r)), (ah, .inl (gI G, 13050, .inl (va_cpy r (rhh c hh) 0 (2175 * (rch c)) 2175)))] : va_W) = [(h, .inr (4, [.ref an, .ref tr, .ref ah, .int (nI (rch c + 1)), .ref ak, .ref ai, .ref ap, .int sy, .ref af, .int sp])), (an, .inl (gI G, 2175, .inl r)), (ah, .inl (gI G, 13050, .inl (va_cpy r (rhh c hh) 0 (2175 * rch c) 2175)))] := (wlc (rfl) (wlc (rfl) (wlc (rfl) rfl)))
    rw [hwj] at hPj
    exact e_wv hx hb hr hlk hPj hS dX4_record_80
  · skip
    refine lv_aload_n hx hb dX4_record_0 rfl (lv_at hl 0 rfl) ?_
    refine va_get (ci := 4) (v := .int (nI c)) (C := RX4) (T := TX4) (N := 10) hx hb hts inGX4 hown hK hP 0 rfl rfl 3 (by decide) (hts _ mw_3_57) (fun _ h9 => h9) rfl dX4_record_1 ?_
    refine lv_bipush (v := nI 6) hx hb dX4_record_4 (by decide) ?_
    refine z_ne hx hb (tgt := 50) ((c : Nat) : Int) 6 dX4_record_6 (by decide) (toI (by omega)) (by decide) (fun c_6 => ?_) (fun c_6 => ?_)
    · skip
      have w_1 : ([(h, .inr (4, [.ref an, .ref tr, .ref ah, .int (nI c), .ref ak, .ref ai, .ref ap, .int sy, .ref af, .int sp])), (an, .inl (gI G, 2175, .inl r)), (ah, .inl (gI G, 13050, .inl hh))] : va_W) = [(h, .inr (4, [.ref an, .ref tr, .ref ah, .int (nI (rch c)), .ref ak, .ref ai, .ref ap, .int sy, .ref af, .int sp])), (an, .inl (gI G, 2175, .inl r)), (ah, .inl (gI G, 13050, .inl (rhh c hh)))] := (wlc (by first | rw [rch_6 (by omega)] | rw [rch_n (by omega)]) (wlc (rfl) (wlc (wli (by first | rw [rhh_6 (by omega)] | rw [rhh_n (by omega)])) rfl)))
      have hPj := hP.sub (ws' := [(h, .inr (4, [.ref an, .ref tr, .ref ah, .int (nI c), .ref ak, .ref ai, .ref ap, .int sy, .ref af, .int sp])), (an, .inl (gI G, 2175, .inl r)), (ah, .inl (gI G, 13050, .inl hh))]) [0, 1, 2] rfl
      have hDj := hD.sub (ws' := [(h, .inr (4, [.ref an, .ref tr, .ref ah, .int (nI c), .ref ak, .ref ai, .ref ap, .int sy, .ref af, .int sp])), (an, .inl (gI G, 2175, .inl r)), (ah, .inl (gI G, 13050, .inl hh))]) [0, 1, 2] (by decide) rfl
      rw [w_1] at hPj hDj
      exact J50 _ _ ls ⟨hPj, hDj, hS, lv_sub hl [0] rfl⟩
    · skip
      refine lv_iconst (v := nI 0) hx hb dX4_record_9 (by decide) ?_
      refine lv_istore_n (lv' := [(1, .int (nI 0)), (0, .ref h)]) hx hb dX4_record_10 rfl hl (by decide) rfl (fun ls hl => ?_)
      have hPj := hP.sub (ws' := [(h, .inr (4, [.ref an, .ref tr, .ref ah, .int (nI c), .ref ak, .ref ai, .ref ap, .int sy, .ref af, .int sp])), (an, .inl (gI G, 2175, .inl r)), (ah, .inl (gI G, 13050, .inl hh))]) [0, 1, 2] rfl
      have hDj := hD.sub (ws' := [(h, .inr (4, [.ref an, .ref tr, .ref ah, .int (nI c), .ref ak, .ref ai, .ref ap, .int sy, .ref af, .int sp])), (an, .inl (gI G, 2175, .inl r)), (ah, .inl (gI G, 13050, .inl hh))]) [0, 1, 2] (by decide) rfl
      have hwj : ([(h, .inr (4, [.ref an, .ref tr, .ref ah, .int (nI c), .ref ak, .ref ai, .ref ap, .int sy, .ref af, .int sp])), (an, .inl (gI G, 2175, .inl r)), (ah, .inl (gI G, 13050, .inl hh))] : va_W) = [(h, .inr (4, [.ref an, .ref tr, .ref ah, .int (nI c), .ref ak, .ref ai, .ref ap, .int sy, .ref af, .int sp])), (an, .inl (gI G, 2175, .inl r)), (ah, .inl (gI G, 13050, .inl (shk hh 0)))] := (wlc (rfl) (wlc (rfl) (wlc (wli (shk_0 hh).symm) rfl)))
      rw [hwj] at hPj hDj
      refine wloopH [] (fun k H locs ls => (k ≤ 10875) ∧ va_P G.1 vwCl [(h, .inr (4, [.ref an, .ref tr, .ref ah, .int (nI c), .ref ak, .ref ai, .ref ap, .int sy, .ref af, .int sp])), (an, .inl (gI G, 2175, .inl r)), (ah, .inl (gI G, 13050, .inl (shk hh k)))] H ∧ va_D A [(h, .inr (4, [.ref an, .ref tr, .ref ah, .int (nI c), .ref ak, .ref ai, .ref ap, .int sy, .ref af, .int sp])), (an, .inl (gI G, 2175, .inl r)), (ah, .inl (gI G, 13050, .inl (shk hh k)))] ∧ va_S A sq.heap H locs ∧ lv_has ls 2 [(1, .int (nI k)), (0, .ref h)]) (fun k => 10875 - k) ?_ 0 ⟨(by omega), hPj, hDj, hS, lv_sub hl [0, 1] rfl⟩
      intro k ih
      intro H locs ls ⟨hk, hP, hD, hS, hl⟩
      refine lv_iload_n hx hb dX4_record_11 rfl (lv_at hl 0 rfl) ?_
      refine lv_sipush (v := nI 10875) hx hb dX4_record_12 (by decide) ?_
      refine z_ge hx hb (tgt := 40) ((k : Nat) : Int) 10875 dX4_record_15 (by decide) (toI (by omega)) (by decide) (fun c_15 => ?_) (fun c_15 => ?_)
      · skip
        have hk2 : k = 10875 := by omega
        subst hk2
        refine lv_aload_n hx hb dX4_record_40 rfl (lv_at hl 1 rfl) ?_
        refine lv_dup hx hb dX4_record_41 rfl ?_
        refine va_get (ci := 4) (v := .int (nI c)) (C := RX4) (T := TX4) (N := 10) hx hb hts inGX4 hown hK hP 0 rfl rfl 3 (by decide) (hts _ mw_3_57) (fun _ h9 => h9) rfl dX4_record_42 ?_
        refine lv_iconst (v := nI 1) hx hb dX4_record_45 (by decide) ?_
        refine n_isub hx hb (by omega) dX4_record_46 ?_
        refine va_put (ci := 4) (v := .int (nI (c - 1))) (ty := .int) (C := RX4) (T := TX4) (N := 10) hx hb hts inGX4 tyX4 tyX4_ok nmX4 hown hK hP hD hS 0 rfl rfl 3 (by decide) (hts _ mw_3_57) (fun _ h9 => h9) rfl (by decide +kernel) rfl rfl (Nat.le_of_ble_eq_true rfl) dX4_record_47 (fun H locs hP hD hS => ?_)
        have hP : va_P G.1 vwCl [(h, .inr (4, [.ref an, .ref tr, .ref ah, .int (nI (c - 1)), .ref ak, .ref ai, .ref ap, .int sy, .ref af, .int sp])), (an, .inl (gI G, 2175, .inl r)), (ah, .inl (gI G, 13050, .inl (shk hh 10875)))] H := hP
        have hD : va_D A [(h, .inr (4, [.ref an, .ref tr, .ref ah, .int (nI (c - 1)), .ref ak, .ref ai, .ref ap, .int sy, .ref af, .int sp])), (an, .inl (gI G, 2175, .inl r)), (ah, .inl (gI G, 13050, .inl (shk hh 10875)))] := hD
        have w_2 : ([(h, .inr (4, [.ref an, .ref tr, .ref ah, .int (nI (c - 1)), .ref ak, .ref ai, .ref ap, .int sy, .ref af, .int sp])), (an, .inl (gI G, 2175, .inl r)), (ah, .inl (gI G, 13050, .inl (shk hh 10875)))] : va_W) = [(h, .inr (4, [.ref an, .ref tr, .ref ah, .int (nI (rch c)), .ref ak, .ref ai, .ref ap, .int sy, .ref af, .int sp])), (an, .inl (gI G, 2175, .inl r)), (ah, .inl (gI G, 13050, .inl (rhh c hh)))] := (wlc (by first | rw [rch_6 (by omega)] | rw [rch_n (by omega)]) (wlc (rfl) (wlc (wli (by first | rw [rhh_6 (by omega)] | rw [rhh_n (by omega)])) rfl)))
        have hPj := hP.sub (ws' := [(h, .inr (4, [.ref an, .ref tr, .ref ah, .int (nI (c - 1)), .ref ak, .ref ai, .ref ap, .int sy, .ref af, .int sp])), (an, .inl (gI G, 2175, .inl r)), (ah, .inl (gI G, 13050, .inl (shk hh 10875)))]) [0, 1, 2] rfl
        have hDj := hD.sub (ws' := [(h, .inr (4, [.ref an, .ref tr, .ref ah, .int (nI (c - 1)), .ref ak, .ref ai, .ref ap, .int sy, .ref af, .int sp])), (an, .inl (gI G, 2175, .inl r)), (ah, .inl (gI G, 13050, .inl (shk hh 10875)))]) [0, 1, 2] (by decide) rfl
        rw [w_2] at hPj hDj
        exact J50 _ _ ls ⟨hPj, hDj, hS, lv_sub hl [1] rfl⟩
      · skip
        refine lv_aload_n hx hb dX4_record_18 rfl (lv_at hl 1 rfl) ?_
        refine va_get (ci := 4) (v := .ref ah) (C := RX4) (T := TX4) (N := 10) hx hb hts inGX4 hown hK hP 0 rfl rfl 2 (by decide) (hts _ mw_3_56) (fun _ h9 => h9) rfl dX4_record_19 ?_
        refine lv_iload_n hx hb dX4_record_22 rfl (lv_at hl 0 rfl) ?_
        refine lv_aload_n hx hb dX4_record_23 rfl (lv_at hl 1 rfl) ?_
        refine va_get (ci := 4) (v := .ref ah) (C := RX4) (T := TX4) (N := 10) hx hb hts inGX4 hown hK hP 0 rfl rfl 2 (by decide) (hts _ mw_3_56) (fun _ h9 => h9) rfl dX4_record_24 ?_
        refine lv_iload_n hx hb dX4_record_27 rfl (lv_at hl 0 rfl) ?_
        refine lv_sipush (v := nI 2175) hx hb dX4_record_28 (by decide) ?_
        refine n_iadd hx hb dX4_record_31 ?_
        refine n_iald hx hb hK hP 2 0 rfl rfl (by omega) (by omega) dX4_record_32 ?_
        refine lv_cv (y := hh (k + 2175)) (shk_o (by omega)) ?_
        refine n_iast hx hb hK hP hD hS 2 0 rfl rfl (by omega) (by omega) dX4_record_33 (fun H locs hP hD hS => ?_)
        have hP : va_P G.1 vwCl [(h, .inr (4, [.ref an, .ref tr, .ref ah, .int (nI c), .ref ak, .ref ai, .ref ap, .int sy, .ref af, .int sp])), (an, .inl (gI G, 2175, .inl r)), (ah, .inl (gI G, 13050, .inl (upd (shk hh k) k (hh (k + 2175)))))] H := hP
        have hD : va_D A [(h, .inr (4, [.ref an, .ref tr, .ref ah, .int (nI c), .ref ak, .ref ai, .ref ap, .int sy, .ref af, .int sp])), (an, .inl (gI G, 2175, .inl r)), (ah, .inl (gI G, 13050, .inl (upd (shk hh k) k (hh (k + 2175)))))] := hD
        refine lv_iinc (v := nI (k + 1)) (lv' := [(1, .int (nI (k + 1))), (0, .ref h)]) hx hb dX4_record_34 hl (k := 0) rfl (nI_add _ _) (by decide) rfl (fun ls hl => ?_)
        refine lv_goto (tgt := 11) hx hb dX4_record_37 (by decide) ?_
        have w_3 : ([(h, .inr (4, [.ref an, .ref tr, .ref ah, .int (nI c), .ref ak, .ref ai, .ref ap, .int sy, .ref af, .int sp])), (an, .inl (gI G, 2175, .inl r)), (ah, .inl (gI G, 13050, .inl (upd (shk hh k) k (hh (k + 2175)))))] : va_W) = [(h, .inr (4, [.ref an, .ref tr, .ref ah, .int (nI c), .ref ak, .ref ai, .ref ap, .int sy, .ref af, .int sp])), (an, .inl (gI G, 2175, .inl r)), (ah, .inl (gI G, 13050, .inl (shk hh (k + 1))))] := (wlc (rfl) (wlc (rfl) (wlc (wli (shk_s hh k)) rfl)))
        have hPj := hP.sub (ws' := [(h, .inr (4, [.ref an, .ref tr, .ref ah, .int (nI c), .ref ak, .ref ai, .ref ap, .int sy, .ref af, .int sp])), (an, .inl (gI G, 2175, .inl r)), (ah, .inl (gI G, 13050, .inl (upd (shk hh k) k (hh (k + 2175)))))]) [0, 1, 2] rfl
        have hDj := hD.sub (ws' := [(h, .inr (4, [.ref an, .ref tr, .ref ah, .int (nI c), .ref ak, .ref ai, .ref ap, .int sy, .ref af, .int sp])), (an, .inl (gI G, 2175, .inl r)), (ah, .inl (gI G, 13050, .inl (upd (shk hh k) k (hh (k + 2175)))))]) [0, 1, 2] (by decide) rfl
        rw [w_3] at hPj hDj
        exact ih (k + 1) _ _ ls (by omega) ⟨(by omega), hPj, hDj, hS, lv_sub hl [0, 1] rfl⟩
set_option maxHeartbeats 4000000 in
set_option maxRecDepth 100000 in
theorem c_X4_set_k (l : Launch) (G : gT) (sz : Nat) (h : Nat) (an : Nat) (tr : Nat) (ah : Nat) (c : Nat) (ak : Nat) (ai : Nat) (ap : Nat) (sy : Int32) (af : Nat) (sp : Int32) (r : Nat → Int32) (hh : Nat → Int32) (v : Nat) (hc : c ≤ 6) (hv : 1 ≤ v ∧ v ≤ 12) (hB : Br r) (hT : td r = 0) : Rw l G yX4_set cX4_set 5 (some .int) 7 sz [(h, .inr (4, [.ref an, .ref tr, .ref ah, .int (nI c), .ref ak, .ref ai, .ref ap, .int sy, .ref af, .int sp])), (af, .inl (gI G, 121, .inl (fun q9 => nI (fdy q9)))), (an, .inl (gI G, 2175, .inl r)), (ah, .inl (gI G, 13050, .inl hh))] [.ref h, .int (nI 0), .int (nI v)] (r 1) [(h, .inr (4, [.ref an, .ref tr, .ref ah, .int (nI (rch c + 1)), .ref ak, .ref ai, .ref ap, .int sy, .ref af, .int sp])), (af, .inl (gI G, 121, .inl (fun q9 => nI (fdy q9)))), (an, .inl (gI G, 2175, .inl (upd r 1 (nI v)))), (ah, .inl (gI G, 13050, .inl (va_cpy r (rhh c hh) 0 (2175 * rch c) 2175)))] := by
  refine Rw.mk (by decide) (Nat.le_of_ble_eq_true rfl) (fun pq eq sq mq bq tq cq ls A hr hlk hF hKx hZ hA hP hD hS hl => ?_)
  have hx := hF.1
  have hb := hF.2.1
  have hml := hF.2.2.1
  have hown : sq.vm.findClass RX4 = some mq.cls := hF.2.2.2.1
  have hts : ∀ w ∈ GW, w.before _ sq = true := hF.2.2.2.2
  have hK := hKx.1
  have hl : lv_has ls 5 [(0, .ref h), (1, .int (nI 0)), (2, .int (nI v))] := hl
  have hP : va_P G.1 vwCl [(h, .inr (4, [.ref an, .ref tr, .ref ah, .int (nI c), .ref ak, .ref ai, .ref ap, .int sy, .ref af, .int sp])), (af, .inl (gI G, 121, .inl (fun q9 => nI (fdy q9)))), (an, .inl (gI G, 2175, .inl r)), (ah, .inl (gI G, 13050, .inl hh))] sq.heap := hP
  have hD : va_D A [(h, .inr (4, [.ref an, .ref tr, .ref ah, .int (nI c), .ref ak, .ref ai, .ref ap, .int sy, .ref af, .int sp])), (af, .inl (gI G, 121, .inl (fun q9 => nI (fdy q9)))), (an, .inl (gI G, 2175, .inl r)), (ah, .inl (gI G, 13050, .inl hh))] := hD
  have hB2 : Bs (upd r 1 (nI v)) 8 := Bs_keep (hB.b (by omega)) (by omega)
  have hF0 := fga_keep (v := v) hB
  obtain ⟨h0, -⟩ := id hB.1
  refine lv_iload_n hx hb dX4_set_0 rfl (lv_at hl 1 rfl) ?_
  refine z0_ne hx hb (tgt := 16) 0 dX4_set_1 (by decide) (by decide) (fun c_1 => ?_) (fun c_1 => ?_)
  · skip
    exact absurd c_1 (by decide)
  · skip
    refine lv_iload_n hx hb dX4_set_4 rfl (lv_at hl 2 rfl) ?_
    refine lv_i2l (v := (nI v).toInt64) hx hb dX4_set_5 rfl ?_
    refine lv_lconst (v := 1) hx hb dX4_set_6 (by decide) ?_
    refine lv_ldc2 (v := 12) hx hb hown (hts _ mw_3_90) dX4_set_7 ?_
    refine k_roS (As := [.long ((nI v).toInt64), .long 1, .long 12]) (rest := []) hF (c_X4_in l G ((nI v).toInt64) 1 12 ((v : Nat) : Int) 1 12 (l64 (toI (by omega))) (by decide) (by decide)) mw_3_91 mw_3_92 mw_1_5 mw_3_93 hd_X4_in ⟨Nat.le_of_ble_eq_true rfl, Nat.le_of_ble_eq_true rfl⟩ (Rd.of hKx hZ hS) (hP.sub (ws' := []) [] rfl) rfl hl.1 rfl (Nat.le_of_ble_eq_true rfl) dX4_set_10 ⟨Nat.zero_le _, Nat.zero_le _⟩ ?_
    refine p0_ne hx hb (tgt := 33) dX4_set_13 (by decide) (fun c_13 => ?_) (fun c_13 => ?_)
    · skip
      refine lv_iconst (v := nI 1) hx hb dX4_set_33 (by decide) ?_
      refine lv_goto (tgt := 38) hx hb dX4_set_34 (by decide) ?_
      refine lv_istore_n (lv' := [(3, .int (nI 1)), (0, .ref h), (1, .int (nI 0)), (2, .int (nI v))]) hx hb dX4_set_38 rfl hl (by decide) rfl (fun ls hl => ?_)
      refine lv_iload_n hx hb dX4_set_39 rfl (lv_at hl 0 rfl) ?_
      refine z0_ne hx hb (tgt := 46) 1 dX4_set_40 (by decide) (by decide) (fun c_40 => ?_) (fun c_40 => ?_)
      · skip
        refine lv_iload_n hx hb dX4_set_46 rfl (lv_at hl 2 rfl) ?_
        refine z0_ne hx hb (tgt := 62) 0 dX4_set_47 (by decide) (by decide) (fun c_47 => ?_) (fun c_47 => ?_)
        · skip
          exact absurd c_47 (by decide)
        · skip
          refine lv_aload_n hx hb dX4_set_50 rfl (lv_at hl 1 rfl) ?_
          refine va_get (ci := 4) (v := .ref an) (C := RX4) (T := TX4) (N := 10) hx hb hts inGX4 hown hK hP 0 rfl rfl 0 (by decide) (hts _ mw_3_54) (fun _ h9 => h9) rfl dX4_set_51 ?_
          refine lv_iconst (v := nI 0) hx hb dX4_set_54 (by decide) ?_
          refine n_iald hx hb hK hP 2 0 rfl rfl (by omega) (by omega) dX4_set_55 ?_
          refine lv_cv (y := nI 0) (h0.trans (congrArg nI hT)) ?_
          refine z0_eq hx hb (tgt := 62) 0 dX4_set_56 (by decide) (by decide) (fun c_56 => ?_) (fun c_56 => ?_)
          · skip
            refine lv_aload_n hx hb dX4_set_62 rfl (lv_at hl 1 rfl) ?_
            refine k_rvV (ci := 4) (q0 := 0) (As := []) (rest := []) (wr := [(af, .inl (gI G, 121, .inl (fun q9 => nI (fdy q9))))]) hF (c_X4_record l G _ h an tr ah c ak ai ap sy af sp r hh (by omega)) ⟨_, rfl, rfl⟩ rfl rfl mw_3_95 mw_3_97 mw_p1_8 mw_1_5 mw_3_98 hd_X4_record ⟨Nat.le_of_ble_eq_true rfl, Nat.le_of_ble_eq_true rfl⟩ hKx hZ hS hP hD hA [0, 2, 3] [1] rfl rfl (by decide) (by decide) (by decide) rfl rfl hl.1 rfl (Nat.le_of_ble_eq_true rfl) dX4_set_63 ⟨Nat.zero_le _, Nat.zero_le _⟩ (fun H locs hP hD hS => ?_)
            have hP : va_P G.1 vwCl [(af, .inl (gI G, 121, .inl (fun q9 => nI (fdy q9)))), (h, .inr (4, [.ref an, .ref tr, .ref ah, .int (nI (rch c + 1)), .ref ak, .ref ai, .ref ap, .int sy, .ref af, .int sp])), (an, .inl (gI G, 2175, .inl r)), (ah, .inl (gI G, 13050, .inl (va_cpy r (rhh c hh) 0 (2175 * rch c) 2175)))] H := hP
            have hD : va_D A [(af, .inl (gI G, 121, .inl (fun q9 => nI (fdy q9)))), (h, .inr (4, [.ref an, .ref tr, .ref ah, .int (nI (rch c + 1)), .ref ak, .ref ai, .ref ap, .int sy, .ref af, .int sp])), (an, .inl (gI G, 2175, .inl r)), (ah, .inl (gI G, 13050, .inl (va_cpy r (rhh c hh) 0 (2175 * rch c) 2175)))] := hD
            refine lv_aload_n hx hb dX4_set_66 rfl (lv_at hl 1 rfl) ?_
            refine va_get (ci := 4) (v := .ref an) (C := RX4) (T := TX4) (N := 10) hx hb hts inGX4 hown hK hP 1 rfl rfl 0 (by decide) (hts _ mw_3_54) (fun _ h9 => h9) rfl dX4_set_67 ?_
            refine lv_iconst (v := nI 1) hx hb dX4_set_70 (by decide) ?_
            refine lv_iload_n hx hb dX4_set_71 rfl (lv_at hl 2 rfl) ?_
            refine n_iadd hx hb dX4_set_72 ?_
            refine n_iald hx hb hK hP 2 0 rfl rfl (by omega) (by omega) dX4_set_73 ?_
            refine lv_istore (lv' := [(4, .int (r 1)), (3, .int (nI 1)), (0, .ref h), (1, .int (nI 0)), (2, .int (nI v))]) hx hb dX4_set_74 hl (by decide) rfl (fun ls hl => ?_)
            refine lv_aload_n hx hb dX4_set_76 rfl (lv_at hl 2 rfl) ?_
            refine va_get (ci := 4) (v := .ref an) (C := RX4) (T := TX4) (N := 10) hx hb hts inGX4 hown hK hP 1 rfl rfl 0 (by decide) (hts _ mw_3_54) (fun _ h9 => h9) rfl dX4_set_77 ?_
            refine lv_iconst (v := nI 1) hx hb dX4_set_80 (by decide) ?_
            refine lv_iload_n hx hb dX4_set_81 rfl (lv_at hl 3 rfl) ?_
            refine n_iadd hx hb dX4_set_82 ?_
            refine lv_iload_n hx hb dX4_set_83 rfl (lv_at hl 4 rfl) ?_
            refine n_iast hx hb hK hP hD hS 2 0 rfl rfl (by omega) (by omega) dX4_set_84 (fun H locs hP hD hS => ?_)
            have hP : va_P G.1 vwCl [(af, .inl (gI G, 121, .inl (fun q9 => nI (fdy q9)))), (h, .inr (4, [.ref an, .ref tr, .ref ah, .int (nI (rch c + 1)), .ref ak, .ref ai, .ref ap, .int sy, .ref af, .int sp])), (an, .inl (gI G, 2175, .inl (upd r 1 (nI v)))), (ah, .inl (gI G, 13050, .inl (va_cpy r (rhh c hh) 0 (2175 * rch c) 2175)))] H := hP
            have hD : va_D A [(af, .inl (gI G, 121, .inl (fun q9 => nI (fdy q9)))), (h, .inr (4, [.ref an, .ref tr, .ref ah, .int (nI (rch c + 1)), .ref ak, .ref ai, .ref ap, .int sy, .ref af, .int sp])), (an, .inl (gI G, 2175, .inl (upd r 1 (nI v)))), (ah, .inl (gI G, 13050, .inl (va_cpy r (rhh c hh) 0 (2175 * rch c) 2175)))] := hD
            refine lv_aload_n hx hb dX4_set_85 rfl (lv_at hl 2 rfl) ?_
            refine va_get (ci := 4) (v := .ref an) (C := RX4) (T := TX4) (N := 10) hx hb hts inGX4 hown hK hP 1 rfl rfl 0 (by decide) (hts _ mw_3_54) (fun _ h9 => h9) rfl dX4_set_86 ?_
            refine k_rvS (As := [.ref an]) (rest := []) (wr := [(af, .inl (gI G, 121, .inl (fun q9 => nI (fdy q9)))), (h, .inr (4, [.ref an, .ref tr, .ref ah, .int (nI (rch c + 1)), .ref ak, .ref ai, .ref ap, .int sy, .ref af, .int sp])), (ah, .inl (gI G, 13050, .inl (va_cpy r (rhh c hh) 0 (2175 * rch c) 2175)))]) hF (c_X4_foldAgain l G _ an (upd r 1 (nI v)) (hB2)) mw_3_102 mw_3_103 mw_1_5 mw_3_104 hd_X4_foldAgain ⟨Nat.le_of_ble_eq_true rfl, Nat.le_of_ble_eq_true rfl⟩ hKx hZ hS hP hD hA [2] [0, 1, 3] rfl rfl (by decide) (by decide) (by decide) rfl rfl hl.1 rfl (Nat.le_of_ble_eq_true rfl) dX4_set_89 ⟨Nat.zero_le _, Nat.zero_le _⟩ (fun H locs hP hD hS => ?_)
            have hP : va_P G.1 vwCl [(af, .inl (gI G, 121, .inl (fun q9 => nI (fdy q9)))), (h, .inr (4, [.ref an, .ref tr, .ref ah, .int (nI (rch c + 1)), .ref ak, .ref ai, .ref ap, .int sy, .ref af, .int sp])), (ah, .inl (gI G, 13050, .inl (va_cpy r (rhh c hh) 0 (2175 * rch c) 2175))), (an, .inl (gI G, 2175, .inl (fga (upd r 1 (nI v)))))] H := hP
            have hD : va_D A [(af, .inl (gI G, 121, .inl (fun q9 => nI (fdy q9)))), (h, .inr (4, [.ref an, .ref tr, .ref ah, .int (nI (rch c + 1)), .ref ak, .ref ai, .ref ap, .int sy, .ref af, .int sp])), (ah, .inl (gI G, 13050, .inl (va_cpy r (rhh c hh) 0 (2175 * rch c) 2175))), (an, .inl (gI G, 2175, .inl (fga (upd r 1 (nI v)))))] := hD
            have hw_1 : ([(af, .inl (gI G, 121, .inl (fun q9 => nI (fdy q9)))), (h, .inr (4, [.ref an, .ref tr, .ref ah, .int (nI (rch c + 1)), .ref ak, .ref ai, .ref ap, .int sy, .ref af, .int sp])), (ah, .inl (gI G, 13050, .inl (va_cpy r (rhh c hh) 0 (2175 * rch c) 2175))), (an, .inl (gI G, 2175, .inl (fga (upd r 1 (nI v)))))] : va_W) = [(af, .inl (gI G, 121, .inl (fun q9 => nI (fdy q9)))), (h, .inr (4, [.ref an, .ref tr, .ref ah, .int (nI (rch c + 1)), .ref ak, .ref ai, .ref ap, .int sy, .ref af, .int sp])), (ah, .inl (gI G, 13050, .inl (va_cpy r (rhh c hh) 0 (2175 * rch c) 2175))), (an, .inl (gI G, 2175, .inl (upd r 1 (nI v))))] := (wlc rfl (wlc rfl (wlc rfl (wlc (wli (hF0)) rfl))))
            rw [hw_1] at hP hD
            refine lv_iload hx hb dX4_set_92 (lv_at hl 0 rfl) ?_
            have hPj := hP.sub (ws' := [(h, .inr (4, [.ref an, .ref tr, .ref ah, .int (nI (rch c + 1)), .ref ak, .ref ai, .ref ap, .int sy, .ref af, .int sp])), (af, .inl (gI G, 121, .inl (fun q9 => nI (fdy q9)))), (an, .inl (gI G, 2175, .inl (upd r 1 (nI v)))), (ah, .inl (gI G, 13050, .inl (va_cpy r (rhh c hh) 0 (2175 * rch c) 2175)))]) [1, 0, 3, 2] rfl
            exact e_wi hx hb hr hlk hPj hS (rfl) dX4_set_94
          · skip
            exact absurd c_56 (by decide)
      · skip
        exact absurd c_40 (by decide)
    · skip
      exact absurd c_13 (by omega)
set_option maxHeartbeats 4000000 in
set_option maxRecDepth 100000 in
theorem c_X4_set_o (l : Launch) (G : gT) (sz : Nat) (h : Nat) (an : Nat) (tr : Nat) (ah : Nat) (c : Nat) (ak : Nat) (ai : Nat) (ap : Nat) (sy : Int32) (af : Nat) (sp : Int32) (r : Nat → Int32) (hh : Nat → Int32) (v : Nat) (hc : c ≤ 6) (hv : v ≤ 6) (hB : Br r) : Rw l G yX4_set cX4_set 5 (some .int) 7 sz [(h, .inr (4, [.ref an, .ref tr, .ref ah, .int (nI c), .ref ak, .ref ai, .ref ap, .int sy, .ref af, .int sp])), (af, .inl (gI G, 121, .inl (fun q9 => nI (fdy q9)))), (an, .inl (gI G, 2175, .inl r)), (ah, .inl (gI G, 13050, .inl hh))] [.ref h, .int (nI 1), .int (nI v)] (r 2) [(h, .inr (4, [.ref an, .ref tr, .ref ah, .int (nI (rch c + 1)), .ref ak, .ref ai, .ref ap, .int sy, .ref af, .int sp])), (af, .inl (gI G, 121, .inl (fun q9 => nI (fdy q9)))), (an, .inl (gI G, 2175, .inl (fga (upd r 2 (nI v))))), (ah, .inl (gI G, 13050, .inl (va_cpy r (rhh c hh) 0 (2175 * rch c) 2175)))] := by
  refine Rw.mk (by decide) (Nat.le_of_ble_eq_true rfl) (fun pq eq sq mq bq tq cq ls A hr hlk hF hKx hZ hA hP hD hS hl => ?_)
  have hx := hF.1
  have hb := hF.2.1
  have hml := hF.2.2.1
  have hown : sq.vm.findClass RX4 = some mq.cls := hF.2.2.2.1
  have hts : ∀ w ∈ GW, w.before _ sq = true := hF.2.2.2.2
  have hK := hKx.1
  have hl : lv_has ls 5 [(0, .ref h), (1, .int (nI 1)), (2, .int (nI v))] := hl
  have hP : va_P G.1 vwCl [(h, .inr (4, [.ref an, .ref tr, .ref ah, .int (nI c), .ref ak, .ref ai, .ref ap, .int sy, .ref af, .int sp])), (af, .inl (gI G, 121, .inl (fun q9 => nI (fdy q9)))), (an, .inl (gI G, 2175, .inl r)), (ah, .inl (gI G, 13050, .inl hh))] sq.heap := hP
  have hD : va_D A [(h, .inr (4, [.ref an, .ref tr, .ref ah, .int (nI c), .ref ak, .ref ai, .ref ap, .int sy, .ref af, .int sp])), (af, .inl (gI G, 121, .inl (fun q9 => nI (fdy q9)))), (an, .inl (gI G, 2175, .inl r)), (ah, .inl (gI G, 13050, .inl hh))] := hD
  have hB2 : Bs (upd r 2 (nI v)) 8 := Bs_open (hB.b (by omega)) (by omega)
  refine lv_iload_n hx hb dX4_set_0 rfl (lv_at hl 1 rfl) ?_
  refine z0_ne hx hb (tgt := 16) 1 dX4_set_1 (by decide) (by decide) (fun c_1 => ?_) (fun c_1 => ?_)
  · skip
    refine lv_iload_n hx hb dX4_set_16 rfl (lv_at hl 1 rfl) ?_
    refine lv_iconst (v := nI 1) hx hb dX4_set_17 (by decide) ?_
    refine z_ne hx hb (tgt := 37) 1 1 dX4_set_18 (by decide) (by decide) (by decide) (fun c_18 => ?_) (fun c_18 => ?_)
    · skip
      exact absurd c_18 (by decide)
    · skip
      refine lv_iload_n hx hb dX4_set_21 rfl (lv_at hl 2 rfl) ?_
      refine lv_i2l (v := (nI v).toInt64) hx hb dX4_set_22 rfl ?_
      refine lv_lconst (v := 0) hx hb dX4_set_23 (by decide) ?_
      refine lv_ldc2 (v := 6) hx hb hown (hts _ mw_3_94) dX4_set_24 ?_
      refine k_roS (As := [.long ((nI v).toInt64), .long 0, .long 6]) (rest := []) hF (c_X4_in l G ((nI v).toInt64) 0 6 ((v : Nat) : Int) 0 6 (l64 (toI (by omega))) (by decide) (by decide)) mw_3_91 mw_3_92 mw_1_5 mw_3_93 hd_X4_in ⟨Nat.le_of_ble_eq_true rfl, Nat.le_of_ble_eq_true rfl⟩ (Rd.of hKx hZ hS) (hP.sub (ws' := []) [] rfl) rfl hl.1 rfl (Nat.le_of_ble_eq_true rfl) dX4_set_27 ⟨Nat.zero_le _, Nat.zero_le _⟩ ?_
      refine p0_eq hx hb (tgt := 37) dX4_set_30 (by decide) (fun c_30 => ?_) (fun c_30 => ?_)
      · skip
        exact absurd c_30 (by omega)
      · skip
        refine lv_iconst (v := nI 1) hx hb dX4_set_33 (by decide) ?_
        refine lv_goto (tgt := 38) hx hb dX4_set_34 (by decide) ?_
        refine lv_istore_n (lv' := [(3, .int (nI 1)), (0, .ref h), (1, .int (nI 1)), (2, .int (nI v))]) hx hb dX4_set_38 rfl hl (by decide) rfl (fun ls hl => ?_)
        refine lv_iload_n hx hb dX4_set_39 rfl (lv_at hl 0 rfl) ?_
        refine z0_ne hx hb (tgt := 46) 1 dX4_set_40 (by decide) (by decide) (fun c_40 => ?_) (fun c_40 => ?_)
        · skip
          refine lv_iload_n hx hb dX4_set_46 rfl (lv_at hl 2 rfl) ?_
          refine z0_ne hx hb (tgt := 62) 1 dX4_set_47 (by decide) (by decide) (fun c_47 => ?_) (fun c_47 => ?_)
          · skip
            refine lv_aload_n hx hb dX4_set_62 rfl (lv_at hl 1 rfl) ?_
            refine k_rvV (ci := 4) (q0 := 0) (As := []) (rest := []) (wr := [(af, .inl (gI G, 121, .inl (fun q9 => nI (fdy q9))))]) hF (c_X4_record l G _ h an tr ah c ak ai ap sy af sp r hh (by omega)) ⟨_, rfl, rfl⟩ rfl rfl mw_3_95 mw_3_97 mw_p1_8 mw_1_5 mw_3_98 hd_X4_record ⟨Nat.le_of_ble_eq_true rfl, Nat.le_of_ble_eq_true rfl⟩ hKx hZ hS hP hD hA [0, 2, 3] [1] rfl rfl (by decide) (by decide) (by decide) rfl rfl hl.1 rfl (Nat.le_of_ble_eq_true rfl) dX4_set_63 ⟨Nat.zero_le _, Nat.zero_le _⟩ (fun H locs hP hD hS => ?_)
            have hP : va_P G.1 vwCl [(af, .inl (gI G, 121, .inl (fun q9 => nI (fdy q9)))), (h, .inr (4, [.ref an, .ref tr, .ref ah, .int (nI (rch c + 1)), .ref ak, .ref ai, .ref ap, .int sy, .ref af, .int sp])), (an, .inl (gI G, 2175, .inl r)), (ah, .inl (gI G, 13050, .inl (va_cpy r (rhh c hh) 0 (2175 * rch c) 2175)))] H := hP
            have hD : va_D A [(af, .inl (gI G, 121, .inl (fun q9 => nI (fdy q9)))), (h, .inr (4, [.ref an, .ref tr, .ref ah, .int (nI (rch c + 1)), .ref ak, .ref ai, .ref ap, .int sy, .ref af, .int sp])), (an, .inl (gI G, 2175, .inl r)), (ah, .inl (gI G, 13050, .inl (va_cpy r (rhh c hh) 0 (2175 * rch c) 2175)))] := hD
            refine lv_aload_n hx hb dX4_set_66 rfl (lv_at hl 1 rfl) ?_
            refine va_get (ci := 4) (v := .ref an) (C := RX4) (T := TX4) (N := 10) hx hb hts inGX4 hown hK hP 1 rfl rfl 0 (by decide) (hts _ mw_3_54) (fun _ h9 => h9) rfl dX4_set_67 ?_
            refine lv_iconst (v := nI 1) hx hb dX4_set_70 (by decide) ?_
            refine lv_iload_n hx hb dX4_set_71 rfl (lv_at hl 2 rfl) ?_
            refine n_iadd hx hb dX4_set_72 ?_
            refine n_iald hx hb hK hP 2 0 rfl rfl (by omega) (by omega) dX4_set_73 ?_
            refine lv_istore (lv' := [(4, .int (r 2)), (3, .int (nI 1)), (0, .ref h), (1, .int (nI 1)), (2, .int (nI v))]) hx hb dX4_set_74 hl (by decide) rfl (fun ls hl => ?_)
            refine lv_aload_n hx hb dX4_set_76 rfl (lv_at hl 2 rfl) ?_
            refine va_get (ci := 4) (v := .ref an) (C := RX4) (T := TX4) (N := 10) hx hb hts inGX4 hown hK hP 1 rfl rfl 0 (by decide) (hts _ mw_3_54) (fun _ h9 => h9) rfl dX4_set_77 ?_
            refine lv_iconst (v := nI 1) hx hb dX4_set_80 (by decide) ?_
            refine lv_iload_n hx hb dX4_set_81 rfl (lv_at hl 3 rfl) ?_
            refine n_iadd hx hb dX4_set_82 ?_
            refine lv_iload_n hx hb dX4_set_83 rfl (lv_at hl 4 rfl) ?_
            refine n_iast hx hb hK hP hD hS 2 0 rfl rfl (by omega) (by omega) dX4_set_84 (fun H locs hP hD hS => ?_)
            have hP : va_P G.1 vwCl [(af, .inl (gI G, 121, .inl (fun q9 => nI (fdy q9)))), (h, .inr (4, [.ref an, .ref tr, .ref ah, .int (nI (rch c + 1)), .ref ak, .ref ai, .ref ap, .int sy, .ref af, .int sp])), (an, .inl (gI G, 2175, .inl (upd r 2 (nI v)))), (ah, .inl (gI G, 13050, .inl (va_cpy r (rhh c hh) 0 (2175 * rch c) 2175)))] H := hP
            have hD : va_D A [(af, .inl (gI G, 121, .inl (fun q9 => nI (fdy q9)))), (h, .inr (4, [.ref an, .ref tr, .ref ah, .int (nI (rch c + 1)), .ref ak, .ref ai, .ref ap, .int sy, .ref af, .int sp])), (an, .inl (gI G, 2175, .inl (upd r 2 (nI v)))), (ah, .inl (gI G, 13050, .inl (va_cpy r (rhh c hh) 0 (2175 * rch c) 2175)))] := hD
            refine lv_aload_n hx hb dX4_set_85 rfl (lv_at hl 2 rfl) ?_
            refine va_get (ci := 4) (v := .ref an) (C := RX4) (T := TX4) (N := 10) hx hb hts inGX4 hown hK hP 1 rfl rfl 0 (by decide) (hts _ mw_3_54) (fun _ h9 => h9) rfl dX4_set_86 ?_
            refine k_rvS (As := [.ref an]) (rest := []) (wr := [(af, .inl (gI G, 121, .inl (fun q9 => nI (fdy q9)))), (h, .inr (4, [.ref an, .ref tr, .ref ah, .int (nI (rch c + 1)), .ref ak, .ref ai, .ref ap, .int sy, .ref af, .int sp])), (ah, .inl (gI G, 13050, .inl (va_cpy r (rhh c hh) 0 (2175 * rch c) 2175)))]) hF (c_X4_foldAgain l G _ an (upd r 2 (nI v)) (hB2)) mw_3_102 mw_3_103 mw_1_5 mw_3_104 hd_X4_foldAgain ⟨Nat.le_of_ble_eq_true rfl, Nat.le_of_ble_eq_true rfl⟩ hKx hZ hS hP hD hA [2] [0, 1, 3] rfl rfl (by decide) (by decide) (by decide) rfl rfl hl.1 rfl (Nat.le_of_ble_eq_true rfl) dX4_set_89 ⟨Nat.zero_le _, Nat.zero_le _⟩ (fun H locs hP hD hS => ?_)
            have hP : va_P G.1 vwCl [(af, .inl (gI G, 121, .inl (fun q9 => nI (fdy q9)))), (h, .inr (4, [.ref an, .ref tr, .ref ah, .int (nI (rch c + 1)), .ref ak, .ref ai, .ref ap, .int sy, .ref af, .int sp])), (ah, .inl (gI G, 13050, .inl (va_cpy r (rhh c hh) 0 (2175 * rch c) 2175))), (an, .inl (gI G, 2175, .inl (fga (upd r 2 (nI v)))))] H := hP
            have hD : va_D A [(af, .inl (gI G, 121, .inl (fun q9 => nI (fdy q9)))), (h, .inr (4, [.ref an, .ref tr, .ref ah, .int (nI (rch c + 1)), .ref ak, .ref ai, .ref ap, .int sy, .ref af, .int sp])), (ah, .inl (gI G, 13050, .inl (va_cpy r (rhh c hh) 0 (2175 * rch c) 2175))), (an, .inl (gI G, 2175, .inl (fga (upd r 2 (nI v)))))] := hD
            refine lv_iload hx hb dX4_set_92 (lv_at hl 0 rfl) ?_
            have hPj := hP.sub (ws' := [(h, .inr (4, [.ref an, .ref tr, .ref ah, .int (nI (rch c + 1)), .ref ak, .ref ai, .ref ap, .int sy, .ref af, .int sp])), (af, .inl (gI G, 121, .inl (fun q9 => nI (fdy q9)))), (an, .inl (gI G, 2175, .inl (fga (upd r 2 (nI v))))), (ah, .inl (gI G, 13050, .inl (va_cpy r (rhh c hh) 0 (2175 * rch c) 2175)))]) [1, 0, 3, 2] rfl
            exact e_wi hx hb hr hlk hPj hS (rfl) dX4_set_94
          · skip
            exact absurd c_47 (by decide)
        · skip
          exact absurd c_40 (by decide)
  · skip
    exact absurd c_1 (by decide)
set_option maxHeartbeats 4000000 in
set_option maxRecDepth 100000 in
theorem c_X4_set_e (l : Launch) (G : gT) (h : Nat) (an : Nat) (tr : Nat) (ah : Nat) (c : Nat) (ak : Nat) (ai : Nat) (ap : Nat) (sy : Int32) (af : Nat) (sp : Int32) (r : Nat → Int32) (x : Int32) (S0 : Int) (y : Int32) (V : Int) (hx1 : x.toInt = S0) (hy1 : y.toInt = V) (he : ¬ (eSt S0 V (r 0).toInt).toInt = 0) : Ro l G yX4_set cX4_set 5 (some .int) 7 [(h, .inr (4, [.ref an, .ref tr, .ref ah, .int (nI c), .ref ak, .ref ai, .ref ap, .int sy, .ref af, .int sp])), (an, .inl (gI G, 2175, .inl r))] [.ref h, .int x, .int y] (eSt S0 V (r 0).toInt) := by
  refine Ro.mk (by decide) (Nat.le_of_ble_eq_true rfl) (fun pq eq sq mq bq tq cq ls hr hlk hF hKx hZ hP hl => ?_)
  have hx := hF.1
  have hb := hF.2.1
  have hml := hF.2.2.1
  have hown : sq.vm.findClass RX4 = some mq.cls := hF.2.2.2.1
  have hts : ∀ w ∈ GW, w.before _ sq = true := hF.2.2.2.2
  have hK := hKx.1
  have hl : lv_has ls 5 [(0, .ref h), (1, .int x), (2, .int y)] := hl
  have hS : va_S (fun _ => False) sq.heap sq.heap [] := va_S.rf
  have hP : va_P G.1 vwCl [(h, .inr (4, [.ref an, .ref tr, .ref ah, .int (nI c), .ref ak, .ref ai, .ref ap, .int sy, .ref af, .int sp])), (an, .inl (gI G, 2175, .inl r))] sq.heap := hP
  refine lv_iload_n hx hb dX4_set_0 rfl (lv_at hl 1 rfl) ?_
  refine z0_ne hx hb (tgt := 16) S0 dX4_set_1 (by decide) hx1 (fun c_1 => ?_) (fun c_1 => ?_)
  · skip
    refine lv_iload_n hx hb dX4_set_16 rfl (lv_at hl 1 rfl) ?_
    refine lv_iconst (v := nI 1) hx hb dX4_set_17 (by decide) ?_
    refine z_ne hx hb (tgt := 37) S0 1 dX4_set_18 (by decide) hx1 (by decide) (fun c_18 => ?_) (fun c_18 => ?_)
    · skip
      refine lv_iconst (v := nI 0) hx hb dX4_set_37 (by decide) ?_
      refine lv_istore_n (lv' := [(3, .int (nI 0)), (0, .ref h), (1, .int x), (2, .int y)]) hx hb dX4_set_38 rfl hl (by decide) rfl (fun ls hl => ?_)
      refine lv_iload_n hx hb dX4_set_39 rfl (lv_at hl 0 rfl) ?_
      refine z0_ne hx hb (tgt := 46) 0 dX4_set_40 (by decide) (by decide) (fun c_40 => ?_) (fun c_40 => ?_)
      · skip
        exact absurd c_40 (by decide)
      · skip
        refine lv_bipush (v := (-2)) hx hb dX4_set_43 (by decide) ?_
        exact e_ri hx hb hr hlk ((eSt_1 (by omega)).symm) dX4_set_45
    · skip
      refine lv_iload_n hx hb dX4_set_21 rfl (lv_at hl 2 rfl) ?_
      refine lv_i2l (v := y.toInt64) hx hb dX4_set_22 rfl ?_
      refine lv_lconst (v := 0) hx hb dX4_set_23 (by decide) ?_
      refine lv_ldc2 (v := 6) hx hb hown (hts _ mw_3_94) dX4_set_24 ?_
      refine k_roS (As := [.long y.toInt64, .long 0, .long 6]) (rest := []) hF (c_X4_in l G y.toInt64 0 6 V 0 6 (l64 hy1) (by decide) (by decide)) mw_3_91 mw_3_92 mw_1_5 mw_3_93 hd_X4_in ⟨Nat.le_of_ble_eq_true rfl, Nat.le_of_ble_eq_true rfl⟩ (Rd.of hKx hZ hS) (hP.sub (ws' := []) [] rfl) rfl hl.1 rfl (Nat.le_of_ble_eq_true rfl) dX4_set_27 ⟨Nat.zero_le _, Nat.zero_le _⟩ ?_
      refine p0_eq hx hb (tgt := 37) dX4_set_30 (by decide) (fun c_30 => ?_) (fun c_30 => ?_)
      · skip
        refine lv_iconst (v := nI 0) hx hb dX4_set_37 (by decide) ?_
        refine lv_istore_n (lv' := [(3, .int (nI 0)), (0, .ref h), (1, .int x), (2, .int y)]) hx hb dX4_set_38 rfl hl (by decide) rfl (fun ls hl => ?_)
        refine lv_iload_n hx hb dX4_set_39 rfl (lv_at hl 0 rfl) ?_
        refine z0_ne hx hb (tgt := 46) 0 dX4_set_40 (by decide) (by decide) (fun c_40 => ?_) (fun c_40 => ?_)
        · skip
          exact absurd c_40 (by decide)
        · skip
          refine lv_bipush (v := (-2)) hx hb dX4_set_43 (by decide) ?_
          exact e_ri hx hb hr hlk ((eSt_1 (by omega)).symm) dX4_set_45
      · skip
        refine lv_iconst (v := nI 1) hx hb dX4_set_33 (by decide) ?_
        refine lv_goto (tgt := 38) hx hb dX4_set_34 (by decide) ?_
        refine lv_istore_n (lv' := [(3, .int (nI 1)), (0, .ref h), (1, .int x), (2, .int y)]) hx hb dX4_set_38 rfl hl (by decide) rfl (fun ls hl => ?_)
        refine lv_iload_n hx hb dX4_set_39 rfl (lv_at hl 0 rfl) ?_
        refine z0_ne hx hb (tgt := 46) 1 dX4_set_40 (by decide) (by decide) (fun c_40 => ?_) (fun c_40 => ?_)
        · skip
          refine lv_iload_n hx hb dX4_set_46 rfl (lv_at hl 2 rfl) ?_
          refine z0_ne hx hb (tgt := 62) S0 dX4_set_47 (by decide) hx1 (fun c_47 => ?_) (fun c_47 => ?_)
          · skip
            exact absurd (congrArg Int32.toInt (eSt_0 (by omega) (by omega))) he
          · skip
            refine lv_aload_n hx hb dX4_set_50 rfl (lv_at hl 1 rfl) ?_
            refine va_get (ci := 4) (v := .ref an) (C := RX4) (T := TX4) (N := 10) hx hb hts inGX4 hown hK hP 0 rfl rfl 0 (by decide) (hts _ mw_3_54) (fun _ h9 => h9) rfl dX4_set_51 ?_
            refine lv_iconst (v := nI 0) hx hb dX4_set_54 (by decide) ?_
            refine n_iald hx hb hK hP 1 0 rfl rfl (by omega) (by omega) dX4_set_55 ?_
            refine z0_eq hx hb (tgt := 62) ((r 0).toInt) dX4_set_56 (by decide) rfl (fun c_56 => ?_) (fun c_56 => ?_)
            · skip
              exact absurd (congrArg Int32.toInt (eSt_0 (by omega) (by omega))) he
            · skip
              refine lv_bipush (v := (-5)) hx hb dX4_set_59 (by decide) ?_
              exact e_ri hx hb hr hlk ((eSt_2 (by omega) (by omega)).symm) dX4_set_61
        · skip
          exact absurd c_40 (by decide)
  · skip
    refine lv_iload_n hx hb dX4_set_4 rfl (lv_at hl 2 rfl) ?_
    refine lv_i2l (v := y.toInt64) hx hb dX4_set_5 rfl ?_
    refine lv_lconst (v := 1) hx hb dX4_set_6 (by decide) ?_
    refine lv_ldc2 (v := 12) hx hb hown (hts _ mw_3_90) dX4_set_7 ?_
    refine k_roS (As := [.long y.toInt64, .long 1, .long 12]) (rest := []) hF (c_X4_in l G y.toInt64 1 12 V 1 12 (l64 hy1) (by decide) (by decide)) mw_3_91 mw_3_92 mw_1_5 mw_3_93 hd_X4_in ⟨Nat.le_of_ble_eq_true rfl, Nat.le_of_ble_eq_true rfl⟩ (Rd.of hKx hZ hS) (hP.sub (ws' := []) [] rfl) rfl hl.1 rfl (Nat.le_of_ble_eq_true rfl) dX4_set_10 ⟨Nat.zero_le _, Nat.zero_le _⟩ ?_
    refine p0_ne hx hb (tgt := 33) dX4_set_13 (by decide) (fun c_13 => ?_) (fun c_13 => ?_)
    · skip
      refine lv_iconst (v := nI 1) hx hb dX4_set_33 (by decide) ?_
      refine lv_goto (tgt := 38) hx hb dX4_set_34 (by decide) ?_
      refine lv_istore_n (lv' := [(3, .int (nI 1)), (0, .ref h), (1, .int x), (2, .int y)]) hx hb dX4_set_38 rfl hl (by decide) rfl (fun ls hl => ?_)
      refine lv_iload_n hx hb dX4_set_39 rfl (lv_at hl 0 rfl) ?_
      refine z0_ne hx hb (tgt := 46) 1 dX4_set_40 (by decide) (by decide) (fun c_40 => ?_) (fun c_40 => ?_)
      · skip
        refine lv_iload_n hx hb dX4_set_46 rfl (lv_at hl 2 rfl) ?_
        refine z0_ne hx hb (tgt := 62) S0 dX4_set_47 (by decide) hx1 (fun c_47 => ?_) (fun c_47 => ?_)
        · skip
          exact absurd (congrArg Int32.toInt (eSt_0 (by omega) (by omega))) he
        · skip
          refine lv_aload_n hx hb dX4_set_50 rfl (lv_at hl 1 rfl) ?_
          refine va_get (ci := 4) (v := .ref an) (C := RX4) (T := TX4) (N := 10) hx hb hts inGX4 hown hK hP 0 rfl rfl 0 (by decide) (hts _ mw_3_54) (fun _ h9 => h9) rfl dX4_set_51 ?_
          refine lv_iconst (v := nI 0) hx hb dX4_set_54 (by decide) ?_
          refine n_iald hx hb hK hP 1 0 rfl rfl (by omega) (by omega) dX4_set_55 ?_
          refine z0_eq hx hb (tgt := 62) ((r 0).toInt) dX4_set_56 (by decide) rfl (fun c_56 => ?_) (fun c_56 => ?_)
          · skip
            exact absurd (congrArg Int32.toInt (eSt_0 (by omega) (by omega))) he
          · skip
            refine lv_bipush (v := (-5)) hx hb dX4_set_59 (by decide) ?_
            exact e_ri hx hb hr hlk ((eSt_2 (by omega) (by omega)).symm) dX4_set_61
      · skip
        exact absurd c_40 (by decide)
    · skip
      refine lv_iload_n hx hb dX4_set_16 rfl (lv_at hl 1 rfl) ?_
      refine lv_iconst (v := nI 1) hx hb dX4_set_17 (by decide) ?_
      refine z_ne hx hb (tgt := 37) S0 1 dX4_set_18 (by decide) hx1 (by decide) (fun c_18 => ?_) (fun c_18 => ?_)
      · skip
        refine lv_iconst (v := nI 0) hx hb dX4_set_37 (by decide) ?_
        refine lv_istore_n (lv' := [(3, .int (nI 0)), (0, .ref h), (1, .int x), (2, .int y)]) hx hb dX4_set_38 rfl hl (by decide) rfl (fun ls hl => ?_)
        refine lv_iload_n hx hb dX4_set_39 rfl (lv_at hl 0 rfl) ?_
        refine z0_ne hx hb (tgt := 46) 0 dX4_set_40 (by decide) (by decide) (fun c_40 => ?_) (fun c_40 => ?_)
        · skip
          exact absurd c_40 (by decide)
        · skip
          refine lv_bipush (v := (-2)) hx hb dX4_set_43 (by decide) ?_
          exact e_ri hx hb hr hlk ((eSt_1 (by omega)).symm) dX4_set_45
      · skip
        refine lv_iload_n hx hb dX4_set_21 rfl (lv_at hl 2 rfl) ?_
        refine lv_i2l (v := y.toInt64) hx hb dX4_set_22 rfl ?_
        refine lv_lconst (v := 0) hx hb dX4_set_23 (by decide) ?_
        refine lv_ldc2 (v := 6) hx hb hown (hts _ mw_3_94) dX4_set_24 ?_
        refine k_roS (As := [.long y.toInt64, .long 0, .long 6]) (rest := []) hF (c_X4_in l G y.toInt64 0 6 V 0 6 (l64 hy1) (by decide) (by decide)) mw_3_91 mw_3_92 mw_1_5 mw_3_93 hd_X4_in ⟨Nat.le_of_ble_eq_true rfl, Nat.le_of_ble_eq_true rfl⟩ (Rd.of hKx hZ hS) (hP.sub (ws' := []) [] rfl) rfl hl.1 rfl (Nat.le_of_ble_eq_true rfl) dX4_set_27 ⟨Nat.zero_le _, Nat.zero_le _⟩ ?_
        refine p0_eq hx hb (tgt := 37) dX4_set_30 (by decide) (fun c_30 => ?_) (fun c_30 => ?_)
        · skip
          refine lv_iconst (v := nI 0) hx hb dX4_set_37 (by decide) ?_
          refine lv_istore_n (lv' := [(3, .int (nI 0)), (0, .ref h), (1, .int x), (2, .int y)]) hx hb dX4_set_38 rfl hl (by decide) rfl (fun ls hl => ?_)
          refine lv_iload_n hx hb dX4_set_39 rfl (lv_at hl 0 rfl) ?_
          refine z0_ne hx hb (tgt := 46) 0 dX4_set_40 (by decide) (by decide) (fun c_40 => ?_) (fun c_40 => ?_)
          · skip
            exact absurd c_40 (by decide)
          · skip
            refine lv_bipush (v := (-2)) hx hb dX4_set_43 (by decide) ?_
            exact e_ri hx hb hr hlk ((eSt_1 (by omega)).symm) dX4_set_45
        · skip
          refine lv_iconst (v := nI 1) hx hb dX4_set_33 (by decide) ?_
          refine lv_goto (tgt := 38) hx hb dX4_set_34 (by decide) ?_
          refine lv_istore_n (lv' := [(3, .int (nI 1)), (0, .ref h), (1, .int x), (2, .int y)]) hx hb dX4_set_38 rfl hl (by decide) rfl (fun ls hl => ?_)
          refine lv_iload_n hx hb dX4_set_39 rfl (lv_at hl 0 rfl) ?_
          refine z0_ne hx hb (tgt := 46) 1 dX4_set_40 (by decide) (by decide) (fun c_40 => ?_) (fun c_40 => ?_)
          · skip
            refine lv_iload_n hx hb dX4_set_46 rfl (lv_at hl 2 rfl) ?_
            refine z0_ne hx hb (tgt := 62) S0 dX4_set_47 (by decide) hx1 (fun c_47 => ?_) (fun c_47 => ?_)
            · skip
              exact absurd (congrArg Int32.toInt (eSt_0 (by omega) (by omega))) he
            · skip
              refine lv_aload_n hx hb dX4_set_50 rfl (lv_at hl 1 rfl) ?_
              refine va_get (ci := 4) (v := .ref an) (C := RX4) (T := TX4) (N := 10) hx hb hts inGX4 hown hK hP 0 rfl rfl 0 (by decide) (hts _ mw_3_54) (fun _ h9 => h9) rfl dX4_set_51 ?_
              refine lv_iconst (v := nI 0) hx hb dX4_set_54 (by decide) ?_
              refine n_iald hx hb hK hP 1 0 rfl rfl (by omega) (by omega) dX4_set_55 ?_
              refine z0_eq hx hb (tgt := 62) ((r 0).toInt) dX4_set_56 (by decide) rfl (fun c_56 => ?_) (fun c_56 => ?_)
              · skip
                exact absurd (congrArg Int32.toInt (eSt_0 (by omega) (by omega))) he
              · skip
                refine lv_bipush (v := (-5)) hx hb dX4_set_59 (by decide) ?_
                exact e_ri hx hb hr hlk ((eSt_2 (by omega) (by omega)).symm) dX4_set_61
          · skip
            exact absurd c_40 (by decide)
set_option maxHeartbeats 4000000 in
set_option maxRecDepth 100000 in
theorem c_X4_passOn (l : Launch) (G : gT) (sz : Nat) (h : Nat) (an : Nat) (tr : Nat) (ah : Nat) (ch : Int32) (ak : Nat) (ai : Nat) (ap : Nat) (sy : Int32) (af : Nat) (sp : Int32) (a : Nat) (r : Nat → Int32) (d : Nat) (hB : Br r) (hd1 : d ≤ 400) (hd : td r + d < 3650) : Rw l G yX4_passOn cX4_passOn 5 (some .int) 6 sz [(h, .inr (4, [.ref an, .ref tr, .ref ah, .int ch, .ref ak, .ref ai, .ref ap, .int sy, .ref af, .int sp])), (af, .inl (gI G, 121, .inl (fun q9 => nI (fdy q9)))), (a, .inl (gI G, 2175, .inl r))] [.ref h, .ref a, .int (nI d)] (nI (td r + d)) [(h, .inr (4, [.ref an, .ref tr, .ref ah, .int ch, .ref ak, .ref ai, .ref ap, .int sy, .ref af, .int sp])), (af, .inl (gI G, 121, .inl (fun q9 => nI (fdy q9)))), (a, .inl (gI G, 2175, .inl (psk r d 120)))] := by
  refine Rw.mk (by decide) (Nat.le_of_ble_eq_true rfl) (fun pq eq sq mq bq tq cq ls A hr hlk hF hKx hZ hA hP hD hS hl => ?_)
  have hx := hF.1
  have hb := hF.2.1
  have hml := hF.2.2.1
  have hown : sq.vm.findClass RX4 = some mq.cls := hF.2.2.2.1
  have hts : ∀ w ∈ GW, w.before _ sq = true := hF.2.2.2.2
  have hK := hKx.1
  have hl : lv_has ls 5 [(0, .ref h), (1, .ref a), (2, .int (nI d))] := hl
  have hP : va_P G.1 vwCl [(h, .inr (4, [.ref an, .ref tr, .ref ah, .int ch, .ref ak, .ref ai, .ref ap, .int sy, .ref af, .int sp])), (af, .inl (gI G, 121, .inl (fun q9 => nI (fdy q9)))), (a, .inl (gI G, 2175, .inl r))] sq.heap := hP
  have hD : va_D A [(h, .inr (4, [.ref an, .ref tr, .ref ah, .int ch, .ref ak, .ref ai, .ref ap, .int sy, .ref af, .int sp])), (af, .inl (gI G, 121, .inl (fun q9 => nI (fdy q9)))), (a, .inl (gI G, 2175, .inl r))] := hD
  obtain ⟨h0, ht, h1, hkp, -⟩ := id hB.1
  have hm0 := mot_row ht
  refine lv_aload_n hx hb dX4_passOn_0 rfl (lv_at hl 0 rfl) ?_
  refine lv_aload_n hx hb dX4_passOn_1 rfl (lv_at hl 1 rfl) ?_
  refine lv_iconst (v := nI 0) hx hb dX4_passOn_2 (by decide) ?_
  refine n_iald hx hb hK hP 2 0 rfl rfl (by omega) (by omega) dX4_passOn_3 ?_
  refine lv_cv (y := nI (td r)) (h0) ?_
  refine k_roV (ci := 4) (q0 := 0) (As := [.int (nI (td r))]) (rest := []) hF (c_X4_monthOf l G h an tr ah ch ak ai ap sy af sp (td r) (by omega)) hKx hP ⟨_, rfl, rfl⟩ rfl rfl mw_3_148 mw_3_150 mw_p1_11 mw_1_5 mw_3_151 hd_X4_monthOf ⟨Nat.le_of_ble_eq_true rfl, Nat.le_of_ble_eq_true rfl⟩ (Rd.of hKx hZ hS) (hP.sub (ws' := [(h, .inr (4, [.ref an, .ref tr, .ref ah, .int ch, .ref ak, .ref ai, .ref ap, .int sy, .ref af, .int sp])), (af, .inl (gI G, 121, .inl (fun q9 => nI (fdy q9))))]) [0, 1] rfl) rfl hl.1 rfl (Nat.le_of_ble_eq_true rfl) dX4_passOn_4 ⟨Nat.zero_le _, Nat.zero_le _⟩ ?_
  refine lv_aload_n hx hb dX4_passOn_7 rfl (lv_at hl 1 rfl) ?_
  refine lv_iconst (v := nI 1) hx hb dX4_passOn_8 (by decide) ?_
  refine n_iald hx hb hK hP 2 0 rfl rfl (by omega) (by omega) dX4_passOn_9 ?_
  refine lv_cv (y := nI (kpn r)) (h1) ?_
  refine lv_isub hx hb dX4_passOn_10 ?_
  refine lv_cv (y := nI (mot (td r)) - nI (kpn r)) (rfl) ?_
  refine lv_istore_n (lv' := [(3, .int (nI (mot (td r)) - nI (kpn r))), (0, .ref h), (1, .ref a), (2, .int (nI d))]) hx hb dX4_passOn_11 rfl hl (by decide) rfl (fun ls hl => ?_)
  refine lv_aload_n hx hb dX4_passOn_12 rfl (lv_at hl 2 rfl) ?_
  refine lv_iconst (v := nI 0) hx hb dX4_passOn_13 (by decide) ?_
  refine lv_dup2_11 hx hb dX4_passOn_14 rfl rfl ?_
  refine n_iald hx hb hK hP 2 0 rfl rfl (by omega) (by omega) dX4_passOn_15 ?_
  refine lv_cv (y := nI (td r)) (h0) ?_
  refine lv_iload_n hx hb dX4_passOn_16 rfl (lv_at hl 3 rfl) ?_
  refine n_iadd hx hb dX4_passOn_17 ?_
  refine n_iast hx hb hK hP hD hS 2 0 rfl rfl (by omega) (by omega) dX4_passOn_18 (fun H locs hP hD hS => ?_)
  have hP : va_P G.1 vwCl [(h, .inr (4, [.ref an, .ref tr, .ref ah, .int ch, .ref ak, .ref ai, .ref ap, .int sy, .ref af, .int sp])), (af, .inl (gI G, 121, .inl (fun q9 => nI (fdy q9)))), (a, .inl (gI G, 2175, .inl (upd r 0 (nI (td r + d)))))] H := hP
  have hD : va_D A [(h, .inr (4, [.ref an, .ref tr, .ref ah, .int ch, .ref ak, .ref ai, .ref ap, .int sy, .ref af, .int sp])), (af, .inl (gI G, 121, .inl (fun q9 => nI (fdy q9)))), (a, .inl (gI G, 2175, .inl (upd r 0 (nI (td r + d)))))] := hD
  refine lv_iconst (v := nI 0) hx hb dX4_passOn_19 (by decide) ?_
  refine lv_istore (lv' := [(4, .int (nI 0)), (3, .int (nI (mot (td r)) - nI (kpn r))), (0, .ref h), (1, .ref a), (2, .int (nI d))]) hx hb dX4_passOn_20 hl (by decide) rfl (fun ls hl => ?_)
  have hPj := hP.sub (ws' := [(h, .inr (4, [.ref an, .ref tr, .ref ah, .int ch, .ref ak, .ref ai, .ref ap, .int sy, .ref af, .int sp])), (af, .inl (gI G, 121, .inl (fun q9 => nI (fdy q9)))), (a, .inl (gI G, 2175, .inl (upd r 0 (nI (td r + d)))))]) [0, 1, 2] rfl
  have hDj := hD.sub (ws' := [(h, .inr (4, [.ref an, .ref tr, .ref ah, .int ch, .ref ak, .ref ai, .ref ap, .int sy, .ref af, .int sp])), (af, .inl (gI G, 121, .inl (fun q9 => nI (fdy q9)))), (a, .inl (gI G, 2175, .inl (upd r 0 (nI (td r + d)))))]) [0, 1, 2] (by decide) rfl
  have hwj : ([(h, .inr (4, [.ref an, .ref tr, .ref ah, .int ch, .ref ak, .ref ai, .ref ap, .int sy, .ref af, .int sp])), (af, .inl (gI G, 121, .inl (fun q9 => nI (fdy q9)))), (a, .inl (gI G, 2175, .inl (upd r 0 (nI (td r + d)))))] : va_W) = [(h, .inr (4, [.ref an, .ref tr, .ref ah, .int ch, .ref ak, .ref ai, .ref ap, .int sy, .ref af, .int sp])), (af, .inl (gI G, 121, .inl (fun q9 => nI (fdy q9)))), (a, .inl (gI G, 2175, .inl (psk r d 0)))] := (wlc (rfl) (wlc (rfl) (wlc (rfl) rfl)))
  rw [hwj] at hPj hDj
  refine wloopH [] (fun m H locs ls => (m ≤ 120) ∧ va_P G.1 vwCl [(h, .inr (4, [.ref an, .ref tr, .ref ah, .int ch, .ref ak, .ref ai, .ref ap, .int sy, .ref af, .int sp])), (af, .inl (gI G, 121, .inl (fun q9 => nI (fdy q9)))), (a, .inl (gI G, 2175, .inl (psk r d m)))] H ∧ va_D A [(h, .inr (4, [.ref an, .ref tr, .ref ah, .int ch, .ref ak, .ref ai, .ref ap, .int sy, .ref af, .int sp])), (af, .inl (gI G, 121, .inl (fun q9 => nI (fdy q9)))), (a, .inl (gI G, 2175, .inl (psk r d m)))] ∧ va_S A sq.heap H locs ∧ lv_has ls 5 [(4, .int (nI m)), (3, .int (nI (mot (td r)) - nI (kpn r))), (0, .ref h), (1, .ref a), (2, .int (nI d))]) (fun m => 120 - m) ?_ 0 ⟨(by omega), hPj, hDj, hS, lv_sub hl [0, 1, 2, 3, 4] rfl⟩
  intro m ih
  intro H locs ls ⟨hm, hP, hD, hS, hl⟩
  obtain ⟨hBm, hbt, hbk, -⟩ := Bs_psk hB.1 (by omega) hd m
  refine lv_iload hx hb dX4_passOn_22 (lv_at hl 0 rfl) ?_
  refine lv_bipush (v := nI 120) hx hb dX4_passOn_24 (by decide) ?_
  refine z_ge hx hb (tgt := 59) ((m : Nat) : Int) 120 dX4_passOn_26 (by decide) (toI (by omega)) (by decide) (fun c_26 => ?_) (fun c_26 => ?_)
  · skip
    have hm2 : m = 120 := by omega
    subst hm2
    refine lv_aload_n hx hb dX4_passOn_59 rfl (lv_at hl 3 rfl) ?_
    refine lv_iconst (v := nI 0) hx hb dX4_passOn_60 (by decide) ?_
    refine n_iald hx hb hK hP 2 0 rfl rfl (by omega) (by omega) dX4_passOn_61 ?_
    refine lv_cv (y := nI (td r + d)) (psk_0 120) ?_
    have hPj := hP.sub (ws' := [(h, .inr (4, [.ref an, .ref tr, .ref ah, .int ch, .ref ak, .ref ai, .ref ap, .int sy, .ref af, .int sp])), (af, .inl (gI G, 121, .inl (fun q9 => nI (fdy q9)))), (a, .inl (gI G, 2175, .inl (psk r d 120)))]) [0, 1, 2] rfl
    exact e_wi hx hb hr hlk hPj hS (rfl) dX4_passOn_62
  · skip
    refine lv_iload hx hb dX4_passOn_29 (lv_at hl 0 rfl) ?_
    refine lv_iload_n hx hb dX4_passOn_31 rfl (lv_at hl 1 rfl) ?_
    refine z_le hx hb (tgt := 53) ((m : Nat) : Int) (((mot (td r) : Nat) : Int) - ((kpn r : Nat) : Int)) dX4_passOn_32 (by decide) (toI (by omega)) (pk_sub_toInt (by omega) (by omega)) (fun c_32 => ?_) (fun c_32 => ?_)
    · skip
      refine lv_iinc (v := nI (m + 1)) (lv' := [(4, .int (nI (m + 1))), (3, .int (nI (mot (td r)) - nI (kpn r))), (0, .ref h), (1, .ref a), (2, .int (nI d))]) hx hb dX4_passOn_53 hl (k := 0) rfl (nI_add _ _) (by decide) rfl (fun ls hl => ?_)
      refine lv_goto (tgt := 22) hx hb dX4_passOn_56 (by decide) ?_
      have w_1 : ([(h, .inr (4, [.ref an, .ref tr, .ref ah, .int ch, .ref ak, .ref ai, .ref ap, .int sy, .ref af, .int sp])), (af, .inl (gI G, 121, .inl (fun q9 => nI (fdy q9)))), (a, .inl (gI G, 2175, .inl (psk r d m)))] : va_W) = [(h, .inr (4, [.ref an, .ref tr, .ref ah, .int ch, .ref ak, .ref ai, .ref ap, .int sy, .ref af, .int sp])), (af, .inl (gI G, 121, .inl (fun q9 => nI (fdy q9)))), (a, .inl (gI G, 2175, .inl (psk r d (m + 1))))] := (wlc (rfl) (wlc (rfl) (wlc (wli (by first | exact psk_t (by omega) | exact psk_f (by omega))) rfl)))
      have hPj := hP.sub (ws' := [(h, .inr (4, [.ref an, .ref tr, .ref ah, .int ch, .ref ak, .ref ai, .ref ap, .int sy, .ref af, .int sp])), (af, .inl (gI G, 121, .inl (fun q9 => nI (fdy q9)))), (a, .inl (gI G, 2175, .inl (psk r d m)))]) [0, 1, 2] rfl
      have hDj := hD.sub (ws' := [(h, .inr (4, [.ref an, .ref tr, .ref ah, .int ch, .ref ak, .ref ai, .ref ap, .int sy, .ref af, .int sp])), (af, .inl (gI G, 121, .inl (fun q9 => nI (fdy q9)))), (a, .inl (gI G, 2175, .inl (psk r d m)))]) [0, 1, 2] (by decide) rfl
      rw [w_1] at hPj hDj
      exact ih (m + 1) _ _ ls (by omega) ⟨(by omega), hPj, hDj, hS, lv_sub hl [0, 1, 2, 3, 4] rfl⟩
    · skip
      refine lv_aload_n hx hb dX4_passOn_35 rfl (lv_at hl 2 rfl) ?_
      refine lv_aload_n hx hb dX4_passOn_36 rfl (lv_at hl 3 rfl) ?_
      refine lv_iload hx hb dX4_passOn_37 (lv_at hl 0 rfl) ?_
      refine k_roV (ci := 4) (q0 := 0) (As := [.ref a, .int (nI m)]) (rest := []) hF (c_X4_isOld l G h an tr ah ch ak ai ap sy af sp a (psk r d m) m (by omega) (hBm.mono (by omega))) hKx hP ⟨_, rfl, rfl⟩ rfl rfl mw_3_152 mw_3_154 mw_p1_12 mw_1_5 mw_3_155 hd_X4_isOld ⟨Nat.le_of_ble_eq_true rfl, Nat.le_of_ble_eq_true rfl⟩ (Rd.of hKx hZ hS) (hP.sub (ws' := [(h, .inr (4, [.ref an, .ref tr, .ref ah, .int ch, .ref ak, .ref ai, .ref ap, .int sy, .ref af, .int sp])), (af, .inl (gI G, 121, .inl (fun q9 => nI (fdy q9)))), (a, .inl (gI G, 2175, .inl (psk r d m)))]) [0, 1, 2] rfl) rfl hl.1 rfl (Nat.le_of_ble_eq_true rfl) dX4_passOn_39 ⟨Nat.zero_le _, Nat.zero_le _⟩ ?_
      refine lv_cv (y := pI (m + kpn r ≤ mot (td r + d))) (by rw [hbt, hbk]) ?_
      refine p0_eq hx hb (tgt := 53) dX4_passOn_42 (by decide) (fun c_42 => ?_) (fun c_42 => ?_)
      · skip
        refine lv_iinc (v := nI (m + 1)) (lv' := [(4, .int (nI (m + 1))), (3, .int (nI (mot (td r)) - nI (kpn r))), (0, .ref h), (1, .ref a), (2, .int (nI d))]) hx hb dX4_passOn_53 hl (k := 0) rfl (nI_add _ _) (by decide) rfl (fun ls hl => ?_)
        refine lv_goto (tgt := 22) hx hb dX4_passOn_56 (by decide) ?_
        have w_2 : ([(h, .inr (4, [.ref an, .ref tr, .ref ah, .int ch, .ref ak, .ref ai, .ref ap, .int sy, .ref af, .int sp])), (af, .inl (gI G, 121, .inl (fun q9 => nI (fdy q9)))), (a, .inl (gI G, 2175, .inl (psk r d m)))] : va_W) = [(h, .inr (4, [.ref an, .ref tr, .ref ah, .int ch, .ref ak, .ref ai, .ref ap, .int sy, .ref af, .int sp])), (af, .inl (gI G, 121, .inl (fun q9 => nI (fdy q9)))), (a, .inl (gI G, 2175, .inl (psk r d (m + 1))))] := (wlc (rfl) (wlc (rfl) (wlc (wli (by first | exact psk_t (by omega) | exact psk_f (by omega))) rfl)))
        have hPj := hP.sub (ws' := [(h, .inr (4, [.ref an, .ref tr, .ref ah, .int ch, .ref ak, .ref ai, .ref ap, .int sy, .ref af, .int sp])), (af, .inl (gI G, 121, .inl (fun q9 => nI (fdy q9)))), (a, .inl (gI G, 2175, .inl (psk r d m)))]) [0, 1, 2] rfl
        have hDj := hD.sub (ws' := [(h, .inr (4, [.ref an, .ref tr, .ref ah, .int ch, .ref ak, .ref ai, .ref ap, .int sy, .ref af, .int sp])), (af, .inl (gI G, 121, .inl (fun q9 => nI (fdy q9)))), (a, .inl (gI G, 2175, .inl (psk r d m)))]) [0, 1, 2] (by decide) rfl
        rw [w_2] at hPj hDj
        exact ih (m + 1) _ _ ls (by omega) ⟨(by omega), hPj, hDj, hS, lv_sub hl [0, 1, 2, 3, 4] rfl⟩
      · skip
        refine lv_aload_n hx hb dX4_passOn_45 rfl (lv_at hl 3 rfl) ?_
        refine lv_iload hx hb dX4_passOn_46 (lv_at hl 0 rfl) ?_
        refine lv_bipush (v := (-6)) hx hb dX4_passOn_48 (by decide) ?_
        refine k_rvS (As := [.ref a, .int (nI m), .int (-6)]) (rest := []) (wr := [(h, .inr (4, [.ref an, .ref tr, .ref ah, .int ch, .ref ak, .ref ai, .ref ap, .int sy, .ref af, .int sp])), (af, .inl (gI G, 121, .inl (fun q9 => nI (fdy q9))))]) hF (c_X4_fold l G _ a (psk r d m) m (-6) (-6) (by omega) (by decide)) mw_3_108 mw_3_109 mw_1_5 mw_3_110 hd_X4_fold ⟨Nat.le_of_ble_eq_true rfl, Nat.le_of_ble_eq_true rfl⟩ hKx hZ hS hP hD hA [2] [0, 1] rfl rfl (by decide) (by decide) (by decide) rfl rfl hl.1 rfl (Nat.le_of_ble_eq_true rfl) dX4_passOn_50 ⟨Nat.zero_le _, Nat.zero_le _⟩ (fun H locs hP hD hS => ?_)
        have hP : va_P G.1 vwCl [(h, .inr (4, [.ref an, .ref tr, .ref ah, .int ch, .ref ak, .ref ai, .ref ap, .int sy, .ref af, .int sp])), (af, .inl (gI G, 121, .inl (fun q9 => nI (fdy q9)))), (a, .inl (gI G, 2175, .inl (fld (psk r d m) m (-6))))] H := hP
        have hD : va_D A [(h, .inr (4, [.ref an, .ref tr, .ref ah, .int ch, .ref ak, .ref ai, .ref ap, .int sy, .ref af, .int sp])), (af, .inl (gI G, 121, .inl (fun q9 => nI (fdy q9)))), (a, .inl (gI G, 2175, .inl (fld (psk r d m) m (-6))))] := hD
        refine lv_iinc (v := nI (m + 1)) (lv' := [(4, .int (nI (m + 1))), (3, .int (nI (mot (td r)) - nI (kpn r))), (0, .ref h), (1, .ref a), (2, .int (nI d))]) hx hb dX4_passOn_53 hl (k := 0) rfl (nI_add _ _) (by decide) rfl (fun ls hl => ?_)
        refine lv_goto (tgt := 22) hx hb dX4_passOn_56 (by decide) ?_
        have w_3 : ([(h, .inr (4, [.ref an, .ref tr, .ref ah, .int ch, .ref ak, .ref ai, .ref ap, .int sy, .ref af, .int sp])), (af, .inl (gI G, 121, .inl (fun q9 => nI (fdy q9)))), (a, .inl (gI G, 2175, .inl (fld (psk r d m) m (-6))))] : va_W) = [(h, .inr (4, [.ref an, .ref tr, .ref ah, .int ch, .ref ak, .ref ai, .ref ap, .int sy, .ref af, .int sp])), (af, .inl (gI G, 121, .inl (fun q9 => nI (fdy q9)))), (a, .inl (gI G, 2175, .inl (psk r d (m + 1))))] := (wlc (rfl) (wlc (rfl) (wlc (wli (by first | exact psk_t (by omega) | exact psk_f (by omega))) rfl)))
        have hPj := hP.sub (ws' := [(h, .inr (4, [.ref an, .ref tr, .ref ah, .int ch, .ref ak, .ref ai, .ref ap, .int sy, .ref af, .int sp])), (af, .inl (gI G, 121, .inl (fun q9 => nI (fdy q9)))), (a, .inl (gI G, 2175, .inl (fld (psk r d m) m (-6))))]) [0, 1, 2] rfl
        have hDj := hD.sub (ws' := [(h, .inr (4, [.ref an, .ref tr, .ref ah, .int ch, .ref ak, .ref ai, .ref ap, .int sy, .ref af, .int sp])), (af, .inl (gI G, 121, .inl (fun q9 => nI (fdy q9)))), (a, .inl (gI G, 2175, .inl (fld (psk r d m) m (-6))))]) [0, 1, 2] (by decide) rfl
        rw [w_3] at hPj hDj
        exact ih (m + 1) _ _ ls (by omega) ⟨(by omega), hPj, hDj, hS, lv_sub hl [0, 1, 2, 3, 4] rfl⟩
set_option maxHeartbeats 4000000 in
set_option maxRecDepth 100000 in
theorem c_X4_whyNotPass (l : Launch) (G : gT) (h : Nat) (an : Nat) (tr : Nat) (ah : Nat) (ch : Int32) (ak : Nat) (ai : Nat) (ap : Nat) (sy : Int32) (af : Nat) (sp : Int32) (a : Nat) (r : Nat → Int32) (x : Int32) (X : Int) (hX : x.toInt = X) (h0 : r 0 = nI (td r)) (ht : td r < 3650) : Ro l G yX4_whyNotPass cX4_whyNotPass 3 (some .int) 1 [(h, .inr (4, [.ref an, .ref tr, .ref ah, .int ch, .ref ak, .ref ai, .ref ap, .int sy, .ref af, .int sp])), (a, .inl (gI G, 2175, .inl r))] [.ref h, .ref a, .int x] (ePs X ((td r : Nat) : Int)) := by
  refine Ro.mk (by decide) (Nat.le_of_ble_eq_true rfl) (fun pq eq sq mq bq tq cq ls hr hlk hF hKx hZ hP hl => ?_)
  have hx := hF.1
  have hb := hF.2.1
  have hml := hF.2.2.1
  have hown : sq.vm.findClass RX4 = some mq.cls := hF.2.2.2.1
  have hts : ∀ w ∈ GW, w.before _ sq = true := hF.2.2.2.2
  have hK := hKx.1
  have hl : lv_has ls 3 [(0, .ref h), (1, .ref a), (2, .int x)] := hl
  have hS : va_S (fun _ => False) sq.heap sq.heap [] := va_S.rf
  have hP : va_P G.1 vwCl [(h, .inr (4, [.ref an, .ref tr, .ref ah, .int ch, .ref ak, .ref ai, .ref ap, .int sy, .ref af, .int sp])), (a, .inl (gI G, 2175, .inl r))] sq.heap := hP
  refine lv_iload_n hx hb dX4_whyNotPass_0 rfl (lv_at hl 2 rfl) ?_
  refine lv_i2l (v := x.toInt64) hx hb dX4_whyNotPass_1 rfl ?_
  refine lv_lconst (v := 1) hx hb dX4_whyNotPass_2 (by decide) ?_
  refine lv_ldc2 (v := 400) hx hb hown (hts _ mw_3_143) dX4_whyNotPass_3 ?_
  refine k_roS (As := [.long x.toInt64, .long 1, .long 400]) (rest := []) hF (c_X4_in l G x.toInt64 1 400 X 1 400 (l64 hX) (by decide) (by decide)) mw_3_91 mw_3_92 mw_1_5 mw_3_93 hd_X4_in ⟨Nat.le_of_ble_eq_true rfl, Nat.le_of_ble_eq_true rfl⟩ (Rd.of hKx hZ hS) (hP.sub (ws' := []) [] rfl) rfl hl.1 rfl (Nat.le_of_ble_eq_true rfl) dX4_whyNotPass_6 ⟨Nat.zero_le _, Nat.zero_le _⟩ ?_
  refine p0_ne hx hb (tgt := 17) dX4_whyNotPass_9 (by decide) (fun c_9 => ?_) (fun c_9 => ?_)
  · skip
    obtain ⟨y, hy, rfl⟩ := nI_ex (N := 401) hX (by omega)
    have hX2 : (y : Int) = X := by rw [← hX, toI (by omega)]
    refine lv_aload_n hx hb dX4_whyNotPass_17 rfl (lv_at hl 1 rfl) ?_
    refine lv_iconst (v := nI 0) hx hb dX4_whyNotPass_18 (by decide) ?_
    refine n_iald hx hb hK hP 1 0 rfl rfl (by omega) (by omega) dX4_whyNotPass_19 ?_
    refine lv_cv (y := nI (td r)) (h0) ?_
    refine lv_iload_n hx hb dX4_whyNotPass_20 rfl (lv_at hl 2 rfl) ?_
    refine n_iadd hx hb dX4_whyNotPass_21 ?_
    refine lv_sipush (v := nI 3650) hx hb dX4_whyNotPass_22 (by decide) ?_
    refine z_lt hx hb (tgt := 33) ((td r + y : Nat) : Int) 3650 dX4_whyNotPass_25 (by decide) (toI (by omega)) (by decide) (fun c_25 => ?_) (fun c_25 => ?_)
    · skip
      refine lv_iconst (v := nI 0) hx hb dX4_whyNotPass_33 (by decide) ?_
      exact e_ri hx hb hr hlk (by unfold ePs; first | exact (cI_t (by omega)).symm | exact ((cI_f (by omega)).trans (cI_t (by omega))).symm | exact ((cI_f (by omega)).trans (cI_f (by omega))).symm) dX4_whyNotPass_34
    · skip
      refine lv_bipush (v := (-4)) hx hb dX4_whyNotPass_28 (by decide) ?_
      refine lv_goto (tgt := 34) hx hb dX4_whyNotPass_30 (by decide) ?_
      exact e_ri hx hb hr hlk (by unfold ePs; first | exact (cI_t (by omega)).symm | exact ((cI_f (by omega)).trans (cI_t (by omega))).symm | exact ((cI_f (by omega)).trans (cI_f (by omega))).symm) dX4_whyNotPass_34
  · skip
    refine lv_bipush (v := (-2)) hx hb dX4_whyNotPass_12 (by decide) ?_
    refine lv_goto (tgt := 34) hx hb dX4_whyNotPass_14 (by decide) ?_
    exact e_ri hx hb hr hlk (by unfold ePs; first | exact (cI_t (by omega)).symm | exact ((cI_f (by omega)).trans (cI_t (by omega))).symm | exact ((cI_f (by omega)).trans (cI_f (by omega))).symm) dX4_whyNotPass_34
set_option maxHeartbeats 4000000 in
set_option maxRecDepth 100000 in
theorem c_X4_pass_k (l : Launch) (G : gT) (sz : Nat) (h : Nat) (an : Nat) (tr : Nat) (ah : Nat) (c : Nat) (ak : Nat) (ai : Nat) (ap : Nat) (sy : Int32) (af : Nat) (sp : Int32) (r : Nat → Int32) (hh : Nat → Int32) (d : Nat) (hc : c ≤ 6) (hB : Br r) (hd1 : 1 ≤ d ∧ d ≤ 400) (hd : td r + d < 3650) : Rw l G yX4_pass cX4_pass 3 (some .int) 7 sz [(h, .inr (4, [.ref an, .ref tr, .ref ah, .int (nI c), .ref ak, .ref ai, .ref ap, .int sy, .ref af, .int sp])), (af, .inl (gI G, 121, .inl (fun q9 => nI (fdy q9)))), (an, .inl (gI G, 2175, .inl r)), (ah, .inl (gI G, 13050, .inl hh))] [.ref h, .int (nI d)] (nI (td r + d)) [(h, .inr (4, [.ref an, .ref tr, .ref ah, .int (nI (rch c + 1)), .ref ak, .ref ai, .ref ap, .int sy, .ref af, .int sp])), (af, .inl (gI G, 121, .inl (fun q9 => nI (fdy q9)))), (an, .inl (gI G, 2175, .inl (psk r d 120))), (ah, .inl (gI G, 13050, .inl (va_cpy r (rhh c hh) 0 (2175 * rch c) 2175)))] := by
  refine Rw.mk (by decide) (Nat.le_of_ble_eq_true rfl) (fun pq eq sq mq bq tq cq ls A hr hlk hF hKx hZ hA hP hD hS hl => ?_)
  have hx := hF.1
  have hb := hF.2.1
  have hml := hF.2.2.1
  have hown : sq.vm.findClass RX4 = some mq.cls := hF.2.2.2.1
  have hts : ∀ w ∈ GW, w.before _ sq = true := hF.2.2.2.2
  have hK := hKx.1
  have hl : lv_has ls 3 [(0, .ref h), (1, .int (nI d))] := hl
  have hP : va_P G.1 vwCl [(h, .inr (4, [.ref an, .ref tr, .ref ah, .int (nI c), .ref ak, .ref ai, .ref ap, .int sy, .ref af, .int sp])), (af, .inl (gI G, 121, .inl (fun q9 => nI (fdy q9)))), (an, .inl (gI G, 2175, .inl r)), (ah, .inl (gI G, 13050, .inl hh))] sq.heap := hP
  have hD : va_D A [(h, .inr (4, [.ref an, .ref tr, .ref ah, .int (nI c), .ref ak, .ref ai, .ref ap, .int sy, .ref af, .int sp])), (af, .inl (gI G, 121, .inl (fun q9 => nI (fdy q9)))), (an, .inl (gI G, 2175, .inl r)), (ah, .inl (gI G, 13050, .inl hh))] := hD
  obtain ⟨h0, ht, -⟩ := id hB.1
  refine lv_aload_n hx hb dX4_pass_0 rfl (lv_at hl 0 rfl) ?_
  refine lv_aload_n hx hb dX4_pass_1 rfl (lv_at hl 0 rfl) ?_
  refine va_get (ci := 4) (v := .ref an) (C := RX4) (T := TX4) (N := 10) hx hb hts inGX4 hown hK hP 0 rfl rfl 0 (by decide) (hts _ mw_3_54) (fun _ h9 => h9) rfl dX4_pass_2 ?_
  refine lv_iload_n hx hb dX4_pass_5 rfl (lv_at hl 1 rfl) ?_
  refine k_roV (ci := 4) (q0 := 0) (As := [.ref an, .int (nI d)]) (rest := []) hF (c_X4_whyNotPass l G h an tr ah (nI c) ak ai ap sy af sp an r (nI d) ((d : Nat) : Int) (toI (by omega)) (by omega) (by omega)) hKx hP ⟨_, rfl, rfl⟩ rfl rfl mw_3_139 mw_3_141 mw_p1_9 mw_1_5 mw_3_142 hd_X4_whyNotPass ⟨Nat.le_of_ble_eq_true rfl, Nat.le_of_ble_eq_true rfl⟩ (Rd.of hKx hZ hS) (hP.sub (ws' := [(h, .inr (4, [.ref an, .ref tr, .ref ah, .int (nI c), .ref ak, .ref ai, .ref ap, .int sy, .ref af, .int sp])), (an, .inl (gI G, 2175, .inl r))]) [0, 2] rfl) rfl hl.1 rfl (Nat.le_of_ble_eq_true rfl) dX4_pass_6 ⟨Nat.zero_le _, Nat.zero_le _⟩ ?_
  refine lv_cv (y := nI 0) ((cI_f (by omega)).trans (cI_f (by omega))) ?_
  refine lv_istore_n (lv' := [(2, .int (nI 0)), (0, .ref h), (1, .int (nI d))]) hx hb dX4_pass_9 rfl hl (by decide) rfl (fun ls hl => ?_)
  refine lv_iload_n hx hb dX4_pass_10 rfl (lv_at hl 0 rfl) ?_
  refine z0_eq hx hb (tgt := 16) 0 dX4_pass_11 (by decide) (by decide) (fun c_11 => ?_) (fun c_11 => ?_)
  · skip
    refine lv_aload_n hx hb dX4_pass_16 rfl (lv_at hl 1 rfl) ?_
    refine k_rvV (ci := 4) (q0 := 0) (As := []) (rest := []) (wr := [(af, .inl (gI G, 121, .inl (fun q9 => nI (fdy q9))))]) hF (c_X4_record l G _ h an tr ah c ak ai ap sy af sp r hh (by omega)) ⟨_, rfl, rfl⟩ rfl rfl mw_3_95 mw_3_97 mw_p1_8 mw_1_5 mw_3_98 hd_X4_record ⟨Nat.le_of_ble_eq_true rfl, Nat.le_of_ble_eq_true rfl⟩ hKx hZ hS hP hD hA [0, 2, 3] [1] rfl rfl (by decide) (by decide) (by decide) rfl rfl hl.1 rfl (Nat.le_of_ble_eq_true rfl) dX4_pass_17 ⟨Nat.zero_le _, Nat.zero_le _⟩ (fun H locs hP hD hS => ?_)
    have hP : va_P G.1 vwCl [(af, .inl (gI G, 121, .inl (fun q9 => nI (fdy q9)))), (h, .inr (4, [.ref an, .ref tr, .ref ah, .int (nI (rch c + 1)), .ref ak, .ref ai, .ref ap, .int sy, .ref af, .int sp])), (an, .inl (gI G, 2175, .inl r)), (ah, .inl (gI G, 13050, .inl (va_cpy r (rhh c hh) 0 (2175 * rch c) 2175)))] H := hP
    have hD : va_D A [(af, .inl (gI G, 121, .inl (fun q9 => nI (fdy q9)))), (h, .inr (4, [.ref an, .ref tr, .ref ah, .int (nI (rch c + 1)), .ref ak, .ref ai, .ref ap, .int sy, .ref af, .int sp])), (an, .inl (gI G, 2175, .inl r)), (ah, .inl (gI G, 13050, .inl (va_cpy r (rhh c hh) 0 (2175 * rch c) 2175)))] := hD
    refine lv_aload_n hx hb dX4_pass_20 rfl (lv_at hl 1 rfl) ?_
    refine lv_aload_n hx hb dX4_pass_21 rfl (lv_at hl 1 rfl) ?_
    refine va_get (ci := 4) (v := .ref an) (C := RX4) (T := TX4) (N := 10) hx hb hts inGX4 hown hK hP 1 rfl rfl 0 (by decide) (hts _ mw_3_54) (fun _ h9 => h9) rfl dX4_pass_22 ?_
    refine lv_iload_n hx hb dX4_pass_25 rfl (lv_at hl 2 rfl) ?_
    refine k_rwV (ci := 4) (q0 := 1) (As := [.ref an, .int (nI d)]) (rest := []) (wr := [(ah, .inl (gI G, 13050, .inl (va_cpy r (rhh c hh) 0 (2175 * rch c) 2175)))]) hF (c_X4_passOn l G _ h an tr ah (nI (rch c + 1)) ak ai ap sy af sp an r d (by omega) (by omega) (by omega)) ⟨_, rfl, rfl⟩ rfl rfl mw_3_144 mw_3_146 mw_p1_10 mw_1_5 mw_3_147 hd_X4_passOn ⟨Nat.le_of_ble_eq_true rfl, Nat.le_of_ble_eq_true rfl⟩ hKx hZ hS hP hD hA [1, 0, 2] [3] rfl rfl (by decide) (by decide) (by decide) rfl rfl hl.1 rfl (Nat.le_of_ble_eq_true rfl) dX4_pass_26 ⟨Nat.zero_le _, Nat.zero_le _⟩ (fun H locs hP hD hS => ?_)
    have hP : va_P G.1 vwCl [(ah, .inl (gI G, 13050, .inl (va_cpy r (rhh c hh) 0 (2175 * rch c) 2175))), (h, .inr (4, [.ref an, .ref tr, .ref ah, .int (nI (rch c + 1)), .ref ak, .ref ai, .ref ap, .int sy, .ref af, .int sp])), (af, .inl (gI G, 121, .inl (fun q9 => nI (fdy q9)))), (an, .inl (gI G, 2175, .inl (psk r d 120)))] H := hP
    have hD : va_D A [(ah, .inl (gI G, 13050, .inl (va_cpy r (rhh c hh) 0 (2175 * rch c) 2175))), (h, .inr (4, [.ref an, .ref tr, .ref ah, .int (nI (rch c + 1)), .ref ak, .ref ai, .ref ap, .int sy, .ref af, .int sp])), (af, .inl (gI G, 121, .inl (fun q9 => nI (fdy q9)))), (an, .inl (gI G, 2175, .inl (psk r d 120)))] := hD
    have hPj := hP.sub (ws' := [(h, .inr (4, [.ref an, .ref tr, .ref ah, .int (nI (rch c + 1)), .ref ak, .ref ai, .ref ap, .int sy, .ref af, .int sp])), (af, .inl (gI G, 121, .inl (fun q9 => nI (fdy q9)))), (an, .inl (gI G, 2175, .inl (psk r d 120))), (ah, .inl (gI G, 13050, .inl (va_cpy r (rhh c hh) 0 (2175 * rch c) 2175)))]) [1, 2, 3, 0] rfl
    exact e_wi hx hb hr hlk hPj hS (rfl) dX4_pass_29
  · skip
    exact absurd c_11 (by decide)
set_option maxHeartbeats 4000000 in
set_option maxRecDepth 100000 in
theorem c_X4_pass_e (l : Launch) (G : gT) (h : Nat) (an : Nat) (tr : Nat) (ah : Nat) (c : Nat) (ak : Nat) (ai : Nat) (ap : Nat) (sy : Int32) (af : Nat) (sp : Int32) (r : Nat → Int32) (x : Int32) (X : Int) (hX : x.toInt = X) (h0 : r 0 = nI (td r)) (ht : td r < 3650) (he : ¬ (ePs X ((td r : Nat) : Int)).toInt = 0) : Ro l G yX4_pass cX4_pass 3 (some .int) 7 [(h, .inr (4, [.ref an, .ref tr, .ref ah, .int (nI c), .ref ak, .ref ai, .ref ap, .int sy, .ref af, .int sp])), (an, .inl (gI G, 2175, .inl r))] [.ref h, .int x] (ePs X ((td r : Nat) : Int)) := by
  refine Ro.mk (by decide) (Nat.le_of_ble_eq_true rfl) (fun pq eq sq mq bq tq cq ls hr hlk hF hKx hZ hP hl => ?_)
  have hx := hF.1
  have hb := hF.2.1
  have hml := hF.2.2.1
  have hown : sq.vm.findClass RX4 = some mq.cls := hF.2.2.2.1
  have hts : ∀ w ∈ GW, w.before _ sq = true := hF.2.2.2.2
  have hK := hKx.1
  have hl : lv_has ls 3 [(0, .ref h), (1, .int x)] := hl
  have hS : va_S (fun _ => False) sq.heap sq.heap [] := va_S.rf
  have hP : va_P G.1 vwCl [(h, .inr (4, [.ref an, .ref tr, .ref ah, .int (nI c), .ref ak, .ref ai, .ref ap, .int sy, .ref af, .int sp])), (an, .inl (gI G, 2175, .inl r))] sq.heap := hP
  refine lv_aload_n hx hb dX4_pass_0 rfl (lv_at hl 0 rfl) ?_
  refine lv_aload_n hx hb dX4_pass_1 rfl (lv_at hl 0 rfl) ?_
  refine va_get (ci := 4) (v := .ref an) (C := RX4) (T := TX4) (N := 10) hx hb hts inGX4 hown hK hP 0 rfl rfl 0 (by decide) (hts _ mw_3_54) (fun _ h9 => h9) rfl dX4_pass_2 ?_
  refine lv_iload_n hx hb dX4_pass_5 rfl (lv_at hl 1 rfl) ?_
  refine k_roV (ci := 4) (q0 := 0) (As := [.ref an, .int x]) (rest := []) hF (c_X4_whyNotPass l G h an tr ah (nI c) ak ai ap sy af sp an r x X hX (by omega) (by omega)) hKx hP ⟨_, rfl, rfl⟩ rfl rfl mw_3_139 mw_3_141 mw_p1_9 mw_1_5 mw_3_142 hd_X4_whyNotPass ⟨Nat.le_of_ble_eq_true rfl, Nat.le_of_ble_eq_true rfl⟩ (Rd.of hKx hZ hS) (hP.sub (ws' := [(h, .inr (4, [.ref an, .ref tr, .ref ah, .int (nI c), .ref ak, .ref ai, .ref ap, .int sy, .ref af, .int sp])), (an, .inl (gI G, 2175, .inl r))]) [0, 1] rfl) rfl hl.1 rfl (Nat.le_of_ble_eq_true rfl) dX4_pass_6 ⟨Nat.zero_le _, Nat.zero_le _⟩ ?_
  refine lv_istore_n (lv' := [(2, .int (ePs X ((td r : Nat) : Int))), (0, .ref h), (1, .int x)]) hx hb dX4_pass_9 rfl hl (by decide) rfl (fun ls hl => ?_)
  refine lv_iload_n hx hb dX4_pass_10 rfl (lv_at hl 0 rfl) ?_
  refine z0_eq hx hb (tgt := 16) ((ePs X ((td r : Nat) : Int)).toInt) dX4_pass_11 (by decide) rfl (fun c_11 => ?_) (fun c_11 => ?_)
  · skip
    exact absurd c_11 he
  · skip
    refine lv_iload_n hx hb dX4_pass_14 rfl (lv_at hl 0 rfl) ?_
    exact e_ri hx hb hr hlk (rfl) dX4_pass_15
set_option maxHeartbeats 4000000 in
set_option maxRecDepth 100000 in
theorem c_X4_whyNotDays (l : Launch) (G : gT) (P : Prop) (x : Int32) (F : Int) (y : Int32) (T : Int) (hF1 : x.toInt = F) (hT1 : y.toInt = T) : Ro l G yX4_whyNotDays cX4_whyNotDays 3 (some .int) 2 [] [.int (pI P), .int x, .int y] (eDy P F T) := by
  refine Ro.mk (by decide) (Nat.le_of_ble_eq_true rfl) (fun pq eq sq mq bq tq cq ls hr hlk hF hKx hZ hP hl => ?_)
  have hx := hF.1
  have hb := hF.2.1
  have hml := hF.2.2.1
  have hown : sq.vm.findClass RX4 = some mq.cls := hF.2.2.2.1
  have hts : ∀ w ∈ GW, w.before _ sq = true := hF.2.2.2.2
  have hK := hKx.1
  have hl : lv_has ls 3 [(0, .int (pI P)), (1, .int x), (2, .int y)] := hl
  have hS : va_S (fun _ => False) sq.heap sq.heap [] := va_S.rf
  have hP : va_P G.1 vwCl [] sq.heap := hP
  refine lv_iload_n hx hb dX4_whyNotDays_0 rfl (lv_at hl 0 rfl) ?_
  refine p0_eq hx hb (tgt := 18) dX4_whyNotDays_1 (by decide) (fun c_1 => ?_) (fun c_1 => ?_)
  · skip
    refine lv_iconst (v := (-1)) hx hb dX4_whyNotDays_18 (by decide) ?_
    refine lv_goto (tgt := 33) hx hb dX4_whyNotDays_19 (by decide) ?_
    exact e_ri hx hb hr hlk (by unfold eDy; first | exact (cI_t (Or.inl c_1)).symm | exact (cI_t (Or.inr (by omega))).symm | exact ((cI_f (fun z => z.elim (fun q => q c_1) (by omega))).trans (cI_t (by omega))).symm | exact ((cI_f (fun z => z.elim (fun q => q c_1) (by omega))).trans (cI_f (by omega))).symm) dX4_whyNotDays_33
  · skip
    refine lv_iload_n hx hb dX4_whyNotDays_4 rfl (lv_at hl 1 rfl) ?_
    refine k_roS (As := [.int x]) (rest := []) hF (c_X4_isDay l G x F hF1) mw_3_171 mw_3_172 mw_1_5 mw_3_173 hd_X4_isDay ⟨Nat.le_of_ble_eq_true rfl, Nat.le_of_ble_eq_true rfl⟩ (Rd.of hKx hZ hS) (hP.sub (ws' := []) [] rfl) rfl hl.1 rfl (Nat.le_of_ble_eq_true rfl) dX4_whyNotDays_5 ⟨Nat.zero_le _, Nat.zero_le _⟩ ?_
    refine p0_eq hx hb (tgt := 18) dX4_whyNotDays_8 (by decide) (fun c_8 => ?_) (fun c_8 => ?_)
    · skip
      refine lv_iconst (v := (-1)) hx hb dX4_whyNotDays_18 (by decide) ?_
      refine lv_goto (tgt := 33) hx hb dX4_whyNotDays_19 (by decide) ?_
      exact e_ri hx hb hr hlk (by unfold eDy; first | exact (cI_t (Or.inl c_1)).symm | exact (cI_t (Or.inr (by omega))).symm | exact ((cI_f (fun z => z.elim (fun q => q c_1) (by omega))).trans (cI_t (by omega))).symm | exact ((cI_f (fun z => z.elim (fun q => q c_1) (by omega))).trans (cI_f (by omega))).symm) dX4_whyNotDays_33
    · skip
      refine lv_iload_n hx hb dX4_whyNotDays_11 rfl (lv_at hl 2 rfl) ?_
      refine k_roS (As := [.int y]) (rest := []) hF (c_X4_isDay l G y T hT1) mw_3_171 mw_3_172 mw_1_5 mw_3_173 hd_X4_isDay ⟨Nat.le_of_ble_eq_true rfl, Nat.le_of_ble_eq_true rfl⟩ (Rd.of hKx hZ hS) (hP.sub (ws' := []) [] rfl) rfl hl.1 rfl (Nat.le_of_ble_eq_true rfl) dX4_whyNotDays_12 ⟨Nat.zero_le _, Nat.zero_le _⟩ ?_
      refine p0_ne hx hb (tgt := 22) dX4_whyNotDays_15 (by decide) (fun c_15 => ?_) (fun c_15 => ?_)
      · skip
        refine lv_iload_n hx hb dX4_whyNotDays_22 rfl (lv_at hl 2 rfl) ?_
        refine lv_iload_n hx hb dX4_whyNotDays_23 rfl (lv_at hl 1 rfl) ?_
        refine z_ge hx hb (tgt := 32) T F dX4_whyNotDays_24 (by decide) hT1 hF1 (fun c_24 => ?_) (fun c_24 => ?_)
        · skip
          refine lv_iconst (v := nI 0) hx hb dX4_whyNotDays_32 (by decide) ?_
          exact e_ri hx hb hr hlk (by unfold eDy; first | exact (cI_t (Or.inl c_1)).symm | exact (cI_t (Or.inr (by omega))).symm | exact ((cI_f (fun z => z.elim (fun q => q c_1) (by omega))).trans (cI_t (by omega))).symm | exact ((cI_f (fun z => z.elim (fun q => q c_1) (by omega))).trans (cI_f (by omega))).symm) dX4_whyNotDays_33
        · skip
          refine lv_bipush (v := (-2)) hx hb dX4_whyNotDays_27 (by decide) ?_
          refine lv_goto (tgt := 33) hx hb dX4_whyNotDays_29 (by decide) ?_
          exact e_ri hx hb hr hlk (by unfold eDy; first | exact (cI_t (Or.inl c_1)).symm | exact (cI_t (Or.inr (by omega))).symm | exact ((cI_f (fun z => z.elim (fun q => q c_1) (by omega))).trans (cI_t (by omega))).symm | exact ((cI_f (fun z => z.elim (fun q => q c_1) (by omega))).trans (cI_f (by omega))).symm) dX4_whyNotDays_33
      · skip
        refine lv_iconst (v := (-1)) hx hb dX4_whyNotDays_18 (by decide) ?_
        refine lv_goto (tgt := 33) hx hb dX4_whyNotDays_19 (by decide) ?_
        exact e_ri hx hb hr hlk (by unfold eDy; first | exact (cI_t (Or.inl c_1)).symm | exact (cI_t (Or.inr (by omega))).symm | exact ((cI_f (fun z => z.elim (fun q => q c_1) (by omega))).trans (cI_t (by omega))).symm | exact ((cI_f (fun z => z.elim (fun q => q c_1) (by omega))).trans (cI_f (by omega))).symm) dX4_whyNotDays_33
set_option maxHeartbeats 4000000 in
set_option maxRecDepth 100000 in
theorem c_X4_whyNotMark (l : Launch) (G : gT) (h : Nat) (an : Nat) (tr : Nat) (ah : Nat) (ch : Int32) (ak : Nat) (ai : Nat) (ap : Nat) (sy : Int32) (af : Nat) (sp : Int32) (a : Nat) (r : Nat → Int32) (w : Int32) (S0 : Int) (x : Int32) (F : Int) (y : Int32) (T : Int) (hw1 : w.toInt = S0) (hF1 : x.toInt = F) (hT1 : y.toInt = T) (h0 : r 0 = nI (td r)) (ht : td r < 3650) : Ro l G yX4_whyNotMark cX4_whyNotMark 6 (some .int) 3 [(h, .inr (4, [.ref an, .ref tr, .ref ah, .int ch, .ref ak, .ref ai, .ref ap, .int sy, .ref af, .int sp])), (a, .inl (gI G, 2175, .inl r))] [.ref h, .ref a, .int w, .int x, .int y] (eMk (0 ≤ S0 ∧ S0 ≤ 15) F T ((td r : Nat) : Int)) := by
  refine Ro.mk (by decide) (Nat.le_of_ble_eq_true rfl) (fun pq eq sq mq bq tq cq ls hr hlk hF hKx hZ hP hl => ?_)
  have hx := hF.1
  have hb := hF.2.1
  have hml := hF.2.2.1
  have hown : sq.vm.findClass RX4 = some mq.cls := hF.2.2.2.1
  have hts : ∀ w ∈ GW, w.before _ sq = true := hF.2.2.2.2
  have hK := hKx.1
  have hl : lv_has ls 6 [(0, .ref h), (1, .ref a), (2, .int w), (3, .int x), (4, .int y)] := hl
  have hS : va_S (fun _ => False) sq.heap sq.heap [] := va_S.rf
  have hP : va_P G.1 vwCl [(h, .inr (4, [.ref an, .ref tr, .ref ah, .int ch, .ref ak, .ref ai, .ref ap, .int sy, .ref af, .int sp])), (a, .inl (gI G, 2175, .inl r))] sq.heap := hP
  refine lv_iload_n hx hb dX4_whyNotMark_0 rfl (lv_at hl 2 rfl) ?_
  refine k_roS (As := [.int w]) (rest := []) hF (c_X4_isSubject l G w S0 hw1) mw_3_164 mw_3_165 mw_1_5 mw_3_166 hd_X4_isSubject ⟨Nat.le_of_ble_eq_true rfl, Nat.le_of_ble_eq_true rfl⟩ (Rd.of hKx hZ hS) (hP.sub (ws' := []) [] rfl) rfl hl.1 rfl (Nat.le_of_ble_eq_true rfl) dX4_whyNotMark_1 ⟨Nat.zero_le _, Nat.zero_le _⟩ ?_
  refine lv_iload_n hx hb dX4_whyNotMark_4 rfl (lv_at hl 3 rfl) ?_
  refine lv_iload hx hb dX4_whyNotMark_5 (lv_at hl 4 rfl) ?_
  refine k_roS (As := [.int (pI (0 ≤ S0 ∧ S0 ≤ 15)), .int x, .int y]) (rest := []) hF (c_X4_whyNotDays l G (0 ≤ S0 ∧ S0 ≤ 15) x F y T hF1 hT1) mw_3_168 mw_3_169 mw_1_5 mw_3_170 hd_X4_whyNotDays ⟨Nat.le_of_ble_eq_true rfl, Nat.le_of_ble_eq_true rfl⟩ (Rd.of hKx hZ hS) (hP.sub (ws' := []) [] rfl) rfl hl.1 rfl (Nat.le_of_ble_eq_true rfl) dX4_whyNotMark_7 ⟨Nat.zero_le _, Nat.zero_le _⟩ ?_
  refine lv_istore (lv' := [(5, .int (eDy (0 ≤ S0 ∧ S0 ≤ 15) F T)), (0, .ref h), (1, .ref a), (2, .int w), (3, .int x), (4, .int y)]) hx hb dX4_whyNotMark_10 hl (by decide) rfl (fun ls hl => ?_)
  refine lv_iload hx hb dX4_whyNotMark_12 (lv_at hl 0 rfl) ?_
  refine z0_eq hx hb (tgt := 22) ((eDy (0 ≤ S0 ∧ S0 ≤ 15) F T).toInt) dX4_whyNotMark_14 (by decide) rfl (fun c_14 => ?_) (fun c_14 => ?_)
  · skip
    refine lv_iload hx hb dX4_whyNotMark_22 (lv_at hl 5 rfl) ?_
    refine lv_aload_n hx hb dX4_whyNotMark_24 rfl (lv_at hl 2 rfl) ?_
    refine lv_iconst (v := nI 0) hx hb dX4_whyNotMark_25 (by decide) ?_
    refine n_iald hx hb hK hP 1 0 rfl rfl (by omega) (by omega) dX4_whyNotMark_26 ?_
    refine lv_cv (y := nI (td r)) (h0) ?_
    refine z_le hx hb (tgt := 35) T ((td r : Nat) : Int) dX4_whyNotMark_27 (by decide) hT1 (toI (by omega)) (fun c_27 => ?_) (fun c_27 => ?_)
    · skip
      refine lv_iconst (v := nI 0) hx hb dX4_whyNotMark_35 (by decide) ?_
      exact e_ri hx hb hr hlk (by unfold eMk; first | exact (cI_t c_14).symm | exact ((cI_f (fun z => z c_14)).trans (cI_t (by omega))).symm | exact ((cI_f (fun z => z c_14)).trans (cI_f (by omega))).symm) dX4_whyNotMark_36
    · skip
      refine lv_bipush (v := (-5)) hx hb dX4_whyNotMark_30 (by decide) ?_
      refine lv_goto (tgt := 36) hx hb dX4_whyNotMark_32 (by decide) ?_
      exact e_ri hx hb hr hlk (by unfold eMk; first | exact (cI_t c_14).symm | exact ((cI_f (fun z => z c_14)).trans (cI_t (by omega))).symm | exact ((cI_f (fun z => z c_14)).trans (cI_f (by omega))).symm) dX4_whyNotMark_36
  · skip
    refine lv_iload hx hb dX4_whyNotMark_17 (lv_at hl 0 rfl) ?_
    refine lv_goto (tgt := 36) hx hb dX4_whyNotMark_19 (by decide) ?_
    exact e_ri hx hb hr hlk (by unfold eMk; first | exact (cI_t c_14).symm | exact ((cI_f (fun z => z c_14)).trans (cI_t (by omega))).symm | exact ((cI_f (fun z => z c_14)).trans (cI_f (by omega))).symm) dX4_whyNotMark_36
set_option maxHeartbeats 4000000 in
set_option maxRecDepth 100000 in
theorem c_X4_markOn (l : Launch) (G : gT) (sz : Nat) (h : Nat) (an : Nat) (tr : Nat) (ah : Nat) (ch : Int32) (ak : Nat) (ai : Nat) (ap : Nat) (sy : Int32) (af : Nat) (sp : Int32) (a : Nat) (r : Nat → Int32) (s : Nat) (f : Nat) (t : Nat) (P : Prop) (hB : Br r) (hs : s < 16) (hft : f ≤ t) (ht : t < 3650) : Rw l G yX4_markOn cX4_markOn 10 (some .int) 8 sz [(h, .inr (4, [.ref an, .ref tr, .ref ah, .int ch, .ref ak, .ref ai, .ref ap, .int sy, .ref af, .int sp])), (af, .inl (gI G, 121, .inl (fun q9 => nI (fdy q9)))), (a, .inl (gI G, 2175, .inl r))] [.ref h, .ref a, .int (nI s), .int (nI f), .int (nI t), .int (pI P)] (nI (mkn r s f t (mot f) P (mot t + 1 - mot f))) [(h, .inr (4, [.ref an, .ref tr, .ref ah, .int ch, .ref ak, .ref ai, .ref ap, .int sy, .ref af, .int sp])), (af, .inl (gI G, 121, .inl (fun q9 => nI (fdy q9)))), (a, .inl (gI G, 2175, .inl (mko r s f t (mot f) P (mot t + 1 - mot f))))] := by
  refine Rw.mk (by decide) (Nat.le_of_ble_eq_true rfl) (fun pq eq sq mq bq tq cq ls A hr hlk hF hKx hZ hA hP hD hS hl => ?_)
  have hx := hF.1
  have hb := hF.2.1
  have hml := hF.2.2.1
  have hown : sq.vm.findClass RX4 = some mq.cls := hF.2.2.2.1
  have hts : ∀ w ∈ GW, w.before _ sq = true := hF.2.2.2.2
  have hK := hKx.1
  have hl : lv_has ls 10 [(0, .ref h), (1, .ref a), (2, .int (nI s)), (3, .int (nI f)), (4, .int (nI t)), (5, .int (pI P))] := hl
  have hP : va_P G.1 vwCl [(h, .inr (4, [.ref an, .ref tr, .ref ah, .int ch, .ref ak, .ref ai, .ref ap, .int sy, .ref af, .int sp])), (af, .inl (gI G, 121, .inl (fun q9 => nI (fdy q9)))), (a, .inl (gI G, 2175, .inl r))] sq.heap := hP
  have hD : va_D A [(h, .inr (4, [.ref an, .ref tr, .ref ah, .int ch, .ref ak, .ref ai, .ref ap, .int sy, .ref af, .int sp])), (af, .inl (gI G, 121, .inl (fun q9 => nI (fdy q9)))), (a, .inl (gI G, 2175, .inl r))] := hD
  have hmf := mot_mono ht hft
  have hmt := mot_row ht
  have hf : f < 3650 := by omega
  refine lv_iconst (v := nI 0) hx hb dX4_markOn_0 (by decide) ?_
  refine lv_istore (lv' := [(6, .int (nI 0)), (0, .ref h), (1, .ref a), (2, .int (nI s)), (3, .int (nI f)), (4, .int (nI t)), (5, .int (pI P))]) hx hb dX4_markOn_1 hl (by decide) rfl (fun ls hl => ?_)
  refine lv_aload_n hx hb dX4_markOn_3 rfl (lv_at hl 1 rfl) ?_
  refine lv_iload_n hx hb dX4_markOn_4 rfl (lv_at hl 4 rfl) ?_
  refine k_roV (ci := 4) (q0 := 0) (As := [.int (nI f)]) (rest := []) hF (c_X4_monthOf l G h an tr ah ch ak ai ap sy af sp f (by omega)) hKx hP ⟨_, rfl, rfl⟩ rfl rfl mw_3_148 mw_3_150 mw_p1_11 mw_1_5 mw_3_151 hd_X4_monthOf ⟨Nat.le_of_ble_eq_true rfl, Nat.le_of_ble_eq_true rfl⟩ (Rd.of hKx hZ hS) (hP.sub (ws' := [(h, .inr (4, [.ref an, .ref tr, .ref ah, .int ch, .ref ak, .ref ai, .ref ap, .int sy, .ref af, .int sp])), (af, .inl (gI G, 121, .inl (fun q9 => nI (fdy q9))))]) [0, 1] rfl) rfl hl.1 rfl (Nat.le_of_ble_eq_true rfl) dX4_markOn_5 ⟨Nat.zero_le _, Nat.zero_le _⟩ ?_
  refine lv_istore (lv' := [(7, .int (nI (mot f))), (6, .int (nI 0)), (0, .ref h), (1, .ref a), (2, .int (nI s)), (3, .int (nI f)), (4, .int (nI t)), (5, .int (pI P))]) hx hb dX4_markOn_8 hl (by decide) rfl (fun ls hl => ?_)
  have hPj := hP.sub (ws' := [(h, .inr (4, [.ref an, .ref tr, .ref ah, .int ch, .ref ak, .ref ai, .ref ap, .int sy, .ref af, .int sp])), (af, .inl (gI G, 121, .inl (fun q9 => nI (fdy q9)))), (a, .inl (gI G, 2175, .inl r))]) [0, 1, 2] rfl
  have hDj := hD.sub (ws' := [(h, .inr (4, [.ref an, .ref tr, .ref ah, .int ch, .ref ak, .ref ai, .ref ap, .int sy, .ref af, .int sp])), (af, .inl (gI G, 121, .inl (fun q9 => nI (fdy q9)))), (a, .inl (gI G, 2175, .inl r))]) [0, 1, 2] (by decide) rfl
  have hwj : ([(h, .inr (4, [.ref an, .ref tr, .ref ah, .int ch, .ref ak, .ref ai, .ref ap, .int sy, .ref af, .int sp])), (af, .inl (gI G, 121, .inl (fun q9 => nI (fdy q9)))), (a, .inl (gI G, 2175, .inl r))] : va_W) = [(h, .inr (4, [.ref an, .ref tr, .ref ah, .int ch, .ref ak, .ref ai, .ref ap, .int sy, .ref af, .int sp])), (af, .inl (gI G, 121, .inl (fun q9 => nI (fdy q9)))), (a, .inl (gI G, 2175, .inl (mko r s f t (mot f) P 0)))] := (wlc (rfl) (wlc (rfl) (wlc (rfl) rfl)))
  rw [hwj] at hPj hDj
  refine wloopH [] (fun j H locs ls => (j ≤ mot t + 1 - mot f) ∧ va_P G.1 vwCl [(h, .inr (4, [.ref an, .ref tr, .ref ah, .int ch, .ref ak, .ref ai, .ref ap, .int sy, .ref af, .int sp])), (af, .inl (gI G, 121, .inl (fun q9 => nI (fdy q9)))), (a, .inl (gI G, 2175, .inl (mko r s f t (mot f) P j)))] H ∧ va_D A [(h, .inr (4, [.ref an, .ref tr, .ref ah, .int ch, .ref ak, .ref ai, .ref ap, .int sy, .ref af, .int sp])), (af, .inl (gI G, 121, .inl (fun q9 => nI (fdy q9)))), (a, .inl (gI G, 2175, .inl (mko r s f t (mot f) P j)))] ∧ va_S A sq.heap H locs ∧ lv_has ls 10 [(7, .int (nI (mot f + j))), (6, .int (nI (mkn r s f t (mot f) P j))), (0, .ref h), (1, .ref a), (2, .int (nI s)), (3, .int (nI f)), (4, .int (nI t)), (5, .int (pI P))]) (fun j => (mot t + 1 - mot f) - j) ?_ 0 ⟨(by omega), hPj, hDj, hS, lv_sub hl [0, 1, 2, 3, 4, 5, 6, 7] (lvc (by first | rfl | exact congrArg nI (by omega)) (lvc (by first | rfl | exact congrArg nI (by omega)) (lvr (lvr (lvr (lvr (lvr (lvr rfl))))))))⟩
  intro j ih
  intro H locs ls ⟨hj, hP, hD, hS, hl⟩
  refine lv_iload hx hb dX4_markOn_10 (lv_at hl 0 rfl) ?_
  refine lv_aload_n hx hb dX4_markOn_12 rfl (lv_at hl 2 rfl) ?_
  refine lv_iload hx hb dX4_markOn_13 (lv_at hl 6 rfl) ?_
  refine k_roV (ci := 4) (q0 := 0) (As := [.int (nI t)]) (rest := [.int (nI (mot f + j))]) hF (c_X4_monthOf l G h an tr ah ch ak ai ap sy af sp t (by omega)) hKx hP ⟨_, rfl, rfl⟩ rfl rfl mw_3_148 mw_3_150 mw_p1_11 mw_1_5 mw_3_151 hd_X4_monthOf ⟨Nat.le_of_ble_eq_true rfl, Nat.le_of_ble_eq_true rfl⟩ (Rd.of hKx hZ hS) (hP.sub (ws' := [(h, .inr (4, [.ref an, .ref tr, .ref ah, .int ch, .ref ak, .ref ai, .ref ap, .int sy, .ref af, .int sp])), (af, .inl (gI G, 121, .inl (fun q9 => nI (fdy q9))))]) [0, 1] rfl) rfl hl.1 rfl (Nat.le_of_ble_eq_true rfl) dX4_markOn_15 ⟨Nat.zero_le _, Nat.zero_le _⟩ ?_
  refine z_gt hx hb (tgt := 99) ((mot f + j : Nat) : Int) ((mot t : Nat) : Int) dX4_markOn_18 (by decide) (toI (by omega)) (toI (by omega)) (fun c_18 => ?_) (fun c_18 => ?_)
  · skip
    have hj2 : j = mot t + 1 - mot f := by omega
    subst hj2
    refine lv_iload hx hb dX4_markOn_99 (lv_at hl 1 rfl) ?_
    have hPj := hP.sub (ws' := [(h, .inr (4, [.ref an, .ref tr, .ref ah, .int ch, .ref ak, .ref ai, .ref ap, .int sy, .ref af, .int sp])), (af, .inl (gI G, 121, .inl (fun q9 => nI (fdy q9)))), (a, .inl (gI G, 2175, .inl (mko r s f t (mot f) P (mot t + 1 - mot f))))]) [0, 1, 2] rfl
    exact e_wi hx hb hr hlk hPj hS (rfl) dX4_markOn_101
  · skip
    refine lv_aload_n hx hb dX4_markOn_21 rfl (lv_at hl 2 rfl) ?_
    refine lv_iload hx hb dX4_markOn_22 (lv_at hl 0 rfl) ?_
    refine lv_iload_n hx hb dX4_markOn_24 rfl (lv_at hl 5 rfl) ?_
    refine lv_iload hx hb dX4_markOn_25 (lv_at hl 6 rfl) ?_
    refine k_roV (ci := 4) (q0 := 0) (As := [.int (nI (mot f + j)), .int (nI f), .int (nI t)]) (rest := []) hF (c_X4_meant l G h an tr ah ch ak ai ap sy af sp (mot f + j) f t (by omega) (by omega) (by omega)) hKx hP ⟨_, rfl, rfl⟩ rfl rfl mw_3_179 mw_3_181 mw_p1_15 mw_1_5 mw_3_182 hd_X4_meant ⟨Nat.le_of_ble_eq_true rfl, Nat.le_of_ble_eq_true rfl⟩ (Rd.of hKx hZ hS) (hP.sub (ws' := [(h, .inr (4, [.ref an, .ref tr, .ref ah, .int ch, .ref ak, .ref ai, .ref ap, .int sy, .ref af, .int sp])), (af, .inl (gI G, 121, .inl (fun q9 => nI (fdy q9))))]) [0, 1] rfl) rfl hl.1 rfl (Nat.le_of_ble_eq_true rfl) dX4_markOn_27 ⟨Nat.zero_le _, Nat.zero_le _⟩ ?_
    refine lv_istore (lv' := [(8, .int (mnt (mot f + j) f t)), (7, .int (nI (mot f + j))), (6, .int (nI (mkn r s f t (mot f) P j))), (0, .ref h), (1, .ref a), (2, .int (nI s)), (3, .int (nI f)), (4, .int (nI t)), (5, .int (pI P))]) hx hb dX4_markOn_30 hl (by decide) rfl (fun ls hl => ?_)
    refine lv_iload hx hb dX4_markOn_32 (lv_at hl 8 rfl) ?_
    refine p0_eq hx hb (tgt := 53) dX4_markOn_34 (by decide) (fun c_34 => ?_) (fun c_34 => ?_)
    · skip
      refine lv_iload hx hb dX4_markOn_53 (lv_at hl 0 rfl) ?_
      refine lv_aload_n hx hb dX4_markOn_55 rfl (lv_at hl 4 rfl) ?_
      refine lv_iload hx hb dX4_markOn_56 (lv_at hl 1 rfl) ?_
      refine lv_iload_n hx hb dX4_markOn_58 rfl (lv_at hl 5 rfl) ?_
      refine k_roS (As := [.int (nI (mot f + j)), .int (nI s)]) (rest := [.ref a, .int (mnt (mot f + j) f t)]) hF (c_X4_at l G (mot f + j) s) mw_3_117 mw_3_118 mw_1_5 mw_3_119 hd_X4_at ⟨Nat.le_of_ble_eq_true rfl, Nat.le_of_ble_eq_true rfl⟩ (Rd.of hKx hZ hS) (hP.sub (ws' := []) [] rfl) rfl hl.1 rfl (Nat.le_of_ble_eq_true rfl) dX4_markOn_59 ⟨Nat.zero_le _, Nat.zero_le _⟩ ?_
      refine n_iald hx hb hK hP 2 0 rfl rfl (by omega) (by omega) dX4_markOn_62 ?_
      refine lv_cv (y := r (255 + 16 * (mot f + j) + s)) (by rw [Nat.add_assoc 255]; exact mko_mk hB hs j (by omega) (by omega)) ?_
      refine lv_iand hx hb dX4_markOn_63 ?_
      refine lv_cv (y := due r s (mot f + j) f t P) ((cI_f c_34).symm) ?_
      refine lv_istore (lv' := [(9, .int (due r s (mot f + j) f t P)), (8, .int (mnt (mot f + j) f t)), (7, .int (nI (mot f + j))), (6, .int (nI (mkn r s f t (mot f) P j))), (0, .ref h), (1, .ref a), (2, .int (nI s)), (3, .int (nI f)), (4, .int (nI t)), (5, .int (pI P))]) hx hb dX4_markOn_64 hl (by decide) rfl (fun ls hl => ?_)
      refine lv_iload hx hb dX4_markOn_66 (lv_at hl 3 rfl) ?_
      refine lv_iload hx hb dX4_markOn_68 (lv_at hl 0 rfl) ?_
      refine k_roS (As := [.int (due r s (mot f + j) f t P)]) (rest := [.int (nI (mkn r s f t (mot f) P j))]) hF (c_X4_ones l G (due r s (mot f + j) f t P)) mw_3_120 mw_3_121 mw_1_5 mw_3_122 hd_X4_ones ⟨Nat.le_of_ble_eq_true rfl, Nat.le_of_ble_eq_true rfl⟩ (Rd.of hKx hZ hS) (hP.sub (ws' := []) [] rfl) rfl hl.1 rfl (Nat.le_of_ble_eq_true rfl) dX4_markOn_70 ⟨Nat.zero_le _, Nat.zero_le _⟩ ?_
      refine n_iadd hx hb dX4_markOn_73 ?_
      refine lv_istore (lv' := [(6, .int (nI (mkn r s f t (mot f) P j + ons (due r s (mot f + j) f t P)))), (9, .int (due r s (mot f + j) f t P)), (8, .int (mnt (mot f + j) f t)), (7, .int (nI (mot f + j))), (0, .ref h), (1, .ref a), (2, .int (nI s)), (3, .int (nI f)), (4, .int (nI t)), (5, .int (pI P))]) hx hb dX4_markOn_74 hl (by decide) rfl (fun ls hl => ?_)
      refine lv_iload hx hb dX4_markOn_76 (lv_at hl 1 rfl) ?_
      refine z0_eq hx hb (tgt := 93) ((due r s (mot f + j) f t P).toInt) dX4_markOn_78 (by decide) rfl (fun c_78 => ?_) (fun c_78 => ?_)
      · skip
        refine lv_iinc (v := nI (mot f + j + 1)) (lv' := [(7, .int (nI (mot f + j + 1))), (6, .int (nI (mkn r s f t (mot f) P j + ons (due r s (mot f + j) f t P)))), (9, .int (due r s (mot f + j) f t P)), (8, .int (mnt (mot f + j) f t)), (0, .ref h), (1, .ref a), (2, .int (nI s)), (3, .int (nI f)), (4, .int (nI t)), (5, .int (pI P))]) hx hb dX4_markOn_93 hl (k := 3) rfl (nI_add _ _) (by decide) rfl (fun ls hl => ?_)
        refine lv_goto (tgt := 10) hx hb dX4_markOn_96 (by decide) ?_
        have w_1 : ([(h, .inr (4, [.ref an, .ref tr, .ref ah, .int ch, .ref ak, .ref ai, .ref ap, .int sy, .ref af, .int sp])), (af, .inl (gI G, 121, .inl (fun q9 => nI (fdy q9)))), (a, .inl (gI G, 2175, .inl (mko r s f t (mot f) P j)))] : va_W) = [(h, .inr (4, [.ref an, .ref tr, .ref ah, .int ch, .ref ak, .ref ai, .ref ap, .int sy, .ref af, .int sp])), (af, .inl (gI G, 121, .inl (fun q9 => nI (fdy q9)))), (a, .inl (gI G, 2175, .inl (mko r s f t (mot f) P (j + 1))))] := (wlc (rfl) (wlc (rfl) (wlc (wli (by first | exact mko_t c_78 | exact mko_f c_78)) rfl)))
        have hPj := hP.sub (ws' := [(h, .inr (4, [.ref an, .ref tr, .ref ah, .int ch, .ref ak, .ref ai, .ref ap, .int sy, .ref af, .int sp])), (af, .inl (gI G, 121, .inl (fun q9 => nI (fdy q9)))), (a, .inl (gI G, 2175, .inl (mko r s f t (mot f) P j)))]) [0, 1, 2] rfl
        have hDj := hD.sub (ws' := [(h, .inr (4, [.ref an, .ref tr, .ref ah, .int ch, .ref ak, .ref ai, .ref ap, .int sy, .ref af, .int sp])), (af, .inl (gI G, 121, .inl (fun q9 => nI (fdy q9)))), (a, .inl (gI G, 2175, .inl (mko r s f t (mot f) P j)))]) [0, 1, 2] (by decide) rfl
        rw [w_1] at hPj hDj
        exact ih (j + 1) _ _ ls (by omega) ⟨(by omega), hPj, hDj, hS, lv_sub hl [0, 1, 4, 5, 6, 7, 8, 9] (lvc (by first | rfl | exact congrArg nI (by omega)) (lvc (by first | rfl | exact congrArg nI (by omega)) (lvr (lvr (lvr (lvr (lvr (lvr rfl))))))))⟩
      · skip
        refine lv_aload_n hx hb dX4_markOn_81 rfl (lv_at hl 4 rfl) ?_
        refine lv_aload_n hx hb dX4_markOn_82 rfl (lv_at hl 5 rfl) ?_
        refine lv_iload_n hx hb dX4_markOn_83 rfl (lv_at hl 6 rfl) ?_
        refine lv_iload hx hb dX4_markOn_84 (lv_at hl 3 rfl) ?_
        refine lv_iload hx hb dX4_markOn_86 (lv_at hl 2 rfl) ?_
        refine lv_iload hx hb dX4_markOn_88 (lv_at hl 9 rfl) ?_
        refine k_rvV (ci := 4) (q0 := 0) (As := [.ref a, .int (nI s), .int (nI (mot f + j)), .int (mnt (mot f + j) f t), .int (pI P)]) (rest := []) (wr := []) hF (c_X4_lay l G _ h an tr ah ch ak ai ap sy af sp a (mko r s f t (mot f) P j) s (mot f + j) (mnt (mot f + j) f t) P (by omega) (by omega) ((Br_mko hB j (by omega)).b (by omega))) ⟨_, rfl, rfl⟩ rfl rfl mw_3_187 mw_3_189 mw_p2_1 mw_1_5 mw_3_190 hd_X4_lay ⟨Nat.le_of_ble_eq_true rfl, Nat.le_of_ble_eq_true rfl⟩ hKx hZ hS hP hD hA [0, 1, 2] [] rfl rfl (by decide) (by decide) (by decide) rfl rfl hl.1 rfl (Nat.le_of_ble_eq_true rfl) dX4_markOn_90 ⟨Nat.zero_le _, Nat.zero_le _⟩ (fun H locs hP hD hS => ?_)
        have hP : va_P G.1 vwCl [(h, .inr (4, [.ref an, .ref tr, .ref ah, .int ch, .ref ak, .ref ai, .ref ap, .int sy, .ref af, .int sp])), (af, .inl (gI G, 121, .inl (fun q9 => nI (fdy q9)))), (a, .inl (gI G, 2175, .inl (lay (mko r s f t (mot f) P j) s (mot f + j) (mnt (mot f + j) f t) P)))] H := hP
        have hD : va_D A [(h, .inr (4, [.ref an, .ref tr, .ref ah, .int ch, .ref ak, .ref ai, .ref ap, .int sy, .ref af, .int sp])), (af, .inl (gI G, 121, .inl (fun q9 => nI (fdy q9)))), (a, .inl (gI G, 2175, .inl (lay (mko r s f t (mot f) P j) s (mot f + j) (mnt (mot f + j) f t) P)))] := hD
        refine lv_iinc (v := nI (mot f + j + 1)) (lv' := [(7, .int (nI (mot f + j + 1))), (6, .int (nI (mkn r s f t (mot f) P j + ons (due r s (mot f + j) f t P)))), (9, .int (due r s (mot f + j) f t P)), (8, .int (mnt (mot f + j) f t)), (0, .ref h), (1, .ref a), (2, .int (nI s)), (3, .int (nI f)), (4, .int (nI t)), (5, .int (pI P))]) hx hb dX4_markOn_93 hl (k := 3) rfl (nI_add _ _) (by decide) rfl (fun ls hl => ?_)
        refine lv_goto (tgt := 10) hx hb dX4_markOn_96 (by decide) ?_
        have w_2 : ([(h, .inr (4, [.ref an, .ref tr, .ref ah, .int ch, .ref ak, .ref ai, .ref ap, .int sy, .ref af, .int sp])), (af, .inl (gI G, 121, .inl (fun q9 => nI (fdy q9)))), (a, .inl (gI G, 2175, .inl (lay (mko r s f t (mot f) P j) s (mot f + j) (mnt (mot f + j) f t) P)))] : va_W) = [(h, .inr (4, [.ref an, .ref tr, .ref ah, .int ch, .ref ak, .ref ai, .ref ap, .int sy, .ref af, .int sp])), (af, .inl (gI G, 121, .inl (fun q9 => nI (fdy q9)))), (a, .inl (gI G, 2175, .inl (mko r s f t (mot f) P (j + 1))))] := (wlc (rfl) (wlc (rfl) (wlc (wli (by first | exact mko_t c_78 | exact mko_f c_78)) rfl)))
        have hPj := hP.sub (ws' := [(h, .inr (4, [.ref an, .ref tr, .ref ah, .int ch, .ref ak, .ref ai, .ref ap, .int sy, .ref af, .int sp])), (af, .inl (gI G, 121, .inl (fun q9 => nI (fdy q9)))), (a, .inl (gI G, 2175, .inl (lay (mko r s f t (mot f) P j) s (mot f + j) (mnt (mot f + j) f t) P)))]) [0, 1, 2] rfl
        have hDj := hD.sub (ws' := [(h, .inr (4, [.ref an, .ref tr, .ref ah, .int ch, .ref ak, .ref ai, .ref ap, .int sy, .ref af, .int sp])), (af, .inl (gI G, 121, .inl (fun q9 => nI (fdy q9)))), (a, .inl (gI G, 2175, .inl (lay (mko r s f t (mot f) P j) s (mot f + j) (mnt (mot f + j) f t) P)))]) [0, 1, 2] (by decide) rfl
        rw [w_2] at hPj hDj
        exact ih (j + 1) _ _ ls (by omega) ⟨(by omega), hPj, hDj, hS, lv_sub hl [0, 1, 4, 5, 6, 7, 8, 9] (lvc (by first | rfl | exact congrArg nI (by omega)) (lvc (by first | rfl | exact congrArg nI (by omega)) (lvr (lvr (lvr (lvr (lvr (lvr rfl))))))))⟩
    · skip
      refine lv_iload hx hb dX4_markOn_37 (lv_at hl 0 rfl) ?_
      refine lv_aload_n hx hb dX4_markOn_39 rfl (lv_at hl 4 rfl) ?_
      refine lv_iload hx hb dX4_markOn_40 (lv_at hl 1 rfl) ?_
      refine lv_iload_n hx hb dX4_markOn_42 rfl (lv_at hl 5 rfl) ?_
      refine k_roS (As := [.int (nI (mot f + j)), .int (nI s)]) (rest := [.ref a, .int (mnt (mot f + j) f t)]) hF (c_X4_at l G (mot f + j) s) mw_3_117 mw_3_118 mw_1_5 mw_3_119 hd_X4_at ⟨Nat.le_of_ble_eq_true rfl, Nat.le_of_ble_eq_true rfl⟩ (Rd.of hKx hZ hS) (hP.sub (ws' := []) [] rfl) rfl hl.1 rfl (Nat.le_of_ble_eq_true rfl) dX4_markOn_43 ⟨Nat.zero_le _, Nat.zero_le _⟩ ?_
      refine n_iald hx hb hK hP 2 0 rfl rfl (by omega) (by omega) dX4_markOn_46 ?_
      refine lv_cv (y := r (255 + 16 * (mot f + j) + s)) (by rw [Nat.add_assoc 255]; exact mko_mk hB hs j (by omega) (by omega)) ?_
      refine lv_iconst (v := (-1)) hx hb dX4_markOn_47 (by decide) ?_
      refine lv_ixor hx hb dX4_markOn_48 ?_
      refine lv_iand hx hb dX4_markOn_49 ?_
      refine lv_cv (y := due r s (mot f + j) f t P) ((cI_t c_34).symm) ?_
      refine lv_goto (tgt := 64) hx hb dX4_markOn_50 (by decide) ?_
      refine lv_istore (lv' := [(9, .int (due r s (mot f + j) f t P)), (8, .int (mnt (mot f + j) f t)), (7, .int (nI (mot f + j))), (6, .int (nI (mkn r s f t (mot f) P j))), (0, .ref h), (1, .ref a), (2, .int (nI s)), (3, .int (nI f)), (4, .int (nI t)), (5, .int (pI P))]) hx hb dX4_markOn_64 hl (by decide) rfl (fun ls hl => ?_)
      refine lv_iload hx hb dX4_markOn_66 (lv_at hl 3 rfl) ?_
      refine lv_iload hx hb dX4_markOn_68 (lv_at hl 0 rfl) ?_
      refine k_roS (As := [.int (due r s (mot f + j) f t P)]) (rest := [.int (nI (mkn r s f t (mot f) P j))]) hF (c_X4_ones l G (due r s (mot f + j) f t P)) mw_3_120 mw_3_121 mw_1_5 mw_3_122 hd_X4_ones ⟨Nat.le_of_ble_eq_true rfl, Nat.le_of_ble_eq_true rfl⟩ (Rd.of hKx hZ hS) (hP.sub (ws' := []) [] rfl) rfl hl.1 rfl (Nat.le_of_ble_eq_true rfl) dX4_markOn_70 ⟨Nat.zero_le _, Nat.zero_le _⟩ ?_
      refine n_iadd hx hb dX4_markOn_73 ?_
      refine lv_istore (lv' := [(6, .int (nI (mkn r s f t (mot f) P j + ons (due r s (mot f + j) f t P)))), (9, .int (due r s (mot f + j) f t P)), (8, .int (mnt (mot f + j) f t)), (7, .int (nI (mot f + j))), (0, .ref h), (1, .ref a), (2, .int (nI s)), (3, .int (nI f)), (4, .int (nI t)), (5, .int (pI P))]) hx hb dX4_markOn_74 hl (by decide) rfl (fun ls hl => ?_)
      refine lv_iload hx hb dX4_markOn_76 (lv_at hl 1 rfl) ?_
      refine z0_eq hx hb (tgt := 93) ((due r s (mot f + j) f t P).toInt) dX4_markOn_78 (by decide) rfl (fun c_78 => ?_) (fun c_78 => ?_)
      · skip
        refine lv_iinc (v := nI (mot f + j + 1)) (lv' := [(7, .int (nI (mot f + j + 1))), (6, .int (nI (mkn r s f t (mot f) P j + ons (due r s (mot f + j) f t P)))), (9, .int (due r s (mot f + j) f t P)), (8, .int (mnt (mot f + j) f t)), (0, .ref h), (1, .ref a), (2, .int (nI s)), (3, .int (nI f)), (4, .int (nI t)), (5, .int (pI P))]) hx hb dX4_markOn_93 hl (k := 3) rfl (nI_add _ _) (by decide) rfl (fun ls hl => ?_)
        refine lv_goto (tgt := 10) hx hb dX4_markOn_96 (by decide) ?_
        have w_3 : ([(h, .inr (4, [.ref an, .ref tr, .ref ah, .int ch, .ref ak, .ref ai, .ref ap, .int sy, .ref af, .int sp])), (af, .inl (gI G, 121, .inl (fun q9 => nI (fdy q9)))), (a, .inl (gI G, 2175, .inl (mko r s f t (mot f) P j)))] : va_W) = [(h, .inr (4, [.ref an, .ref tr, .ref ah, .int ch, .ref ak, .ref ai, .ref ap, .int sy, .ref af, .int sp])), (af, .inl (gI G, 121, .inl (fun q9 => nI (fdy q9)))), (a, .inl (gI G, 2175, .inl (mko r s f t (mot f) P (j + 1))))] := (wlc (rfl) (wlc (rfl) (wlc (wli (by first | exact mko_t c_78 | exact mko_f c_78)) rfl)))
        have hPj := hP.sub (ws' := [(h, .inr (4, [.ref an, .ref tr, .ref ah, .int ch, .ref ak, .ref ai, .ref ap, .int sy, .ref af, .int sp])), (af, .inl (gI G, 121, .inl (fun q9 => nI (fdy q9)))), (a, .inl (gI G, 2175, .inl (mko r s f t (mot f) P j)))]) [0, 1, 2] rfl
        have hDj := hD.sub (ws' := [(h, .inr (4, [.ref an, .ref tr, .ref ah, .int ch, .ref ak, .ref ai, .ref ap, .int sy, .ref af, .int sp])), (af, .inl (gI G, 121, .inl (fun q9 => nI (fdy q9)))), (a, .inl (gI G, 2175, .inl (mko r s f t (mot f) P j)))]) [0, 1, 2] (by decide) rfl
        rw [w_3] at hPj hDj
        exact ih (j + 1) _ _ ls (by omega) ⟨(by omega), hPj, hDj, hS, lv_sub hl [0, 1, 4, 5, 6, 7, 8, 9] (lvc (by first | rfl | exact congrArg nI (by omega)) (lvc (by first | rfl | exact congrArg nI (by omega)) (lvr (lvr (lvr (lvr (lvr (lvr rfl))))))))⟩
      · skip
        refine lv_aload_n hx hb dX4_markOn_81 rfl (lv_at hl 4 rfl) ?_
        refine lv_aload_n hx hb dX4_markOn_82 rfl (lv_at hl 5 rfl) ?_
        refine lv_iload_n hx hb dX4_markOn_83 rfl (lv_at hl 6 rfl) ?_
        refine lv_iload hx hb dX4_markOn_84 (lv_at hl 3 rfl) ?_
        refine lv_iload hx hb dX4_markOn_86 (lv_at hl 2 rfl) ?_
        refine lv_iload hx hb dX4_markOn_88 (lv_at hl 9 rfl) ?_
        refine k_rvV (ci := 4) (q0 := 0) (As := [.ref a, .int (nI s), .int (nI (mot f + j)), .int (mnt (mot f + j) f t), .int (pI P)]) (rest := []) (wr := []) hF (c_X4_lay l G _ h an tr ah ch ak ai ap sy af sp a (mko r s f t (mot f) P j) s (mot f + j) (mnt (mot f + j) f t) P (by omega) (by omega) ((Br_mko hB j (by omega)).b (by omega))) ⟨_, rfl, rfl⟩ rfl rfl mw_3_187 mw_3_189 mw_p2_1 mw_1_5 mw_3_190 hd_X4_lay ⟨Nat.le_of_ble_eq_true rfl, Nat.le_of_ble_eq_true rfl⟩ hKx hZ hS hP hD hA [0, 1, 2] [] rfl rfl (by decide) (by decide) (by decide) rfl rfl hl.1 rfl (Nat.le_of_ble_eq_true rfl) dX4_markOn_90 ⟨Nat.zero_le _, Nat.zero_le _⟩ (fun H locs hP hD hS => ?_)
        have hP : va_P G.1 vwCl [(h, .inr (4, [.ref an, .ref tr, .ref ah, .int ch, .ref ak, .ref ai, .ref ap, .int sy, .ref af, .int sp])), (af, .inl (gI G, 121, .inl (fun q9 => nI (fdy q9)))), (a, .inl (gI G, 2175, .inl (lay (mko r s f t (mot f) P j) s (mot f + j) (mnt (mot f + j) f t) P)))] H := hP
        have hD : va_D A [(h, .inr (4, [.ref an, .ref tr, .ref ah, .int ch, .ref ak, .ref ai, .ref ap, .int sy, .ref af, .int sp])), (af, .inl (gI G, 121, .inl (fun q9 => nI (fdy q9)))), (a, .inl (gI G, 2175, .inl (lay (mko r s f t (mot f) P j) s (mot f + j) (mnt (mot f + j) f t) P)))] := hD
        refine lv_iinc (v := nI (mot f + j + 1)) (lv' := [(7, .int (nI (mot f + j + 1))), (6, .int (nI (mkn r s f t (mot f) P j + ons (due r s (mot f + j) f t P)))), (9, .int (due r s (mot f + j) f t P)), (8, .int (mnt (mot f + j) f t)), (0, .ref h), (1, .ref a), (2, .int (nI s)), (3, .int (nI f)), (4, .int (nI t)), (5, .int (pI P))]) hx hb dX4_markOn_93 hl (k := 3) rfl (nI_add _ _) (by decide) rfl (fun ls hl => ?_)
        refine lv_goto (tgt := 10) hx hb dX4_markOn_96 (by decide) ?_
        have w_4 : ([(h, .inr (4, [.ref an, .ref tr, .ref ah, .int ch, .ref ak, .ref ai, .ref ap, .int sy, .ref af, .int sp])), (af, .inl (gI G, 121, .inl (fun q9 => nI (fdy q9)))), (a, .inl (gI G, 2175, .inl (lay (mko r s f t (mot f) P j) s (mot f + j) (mnt (mot f + j) f t) P)))] : va_W) = [(h, .inr (4, [.ref an, .ref tr, .ref ah, .int ch, .ref ak, .ref ai, .ref ap, .int sy, .ref af, .int sp])), (af, .inl (gI G, 121, .inl (fun q9 => nI (fdy q9)))), (a, .inl (gI G, 2175, .inl (mko r s f t (mot f) P (j + 1))))] := (wlc (rfl) (wlc (rfl) (wlc (wli (by first | exact mko_t c_78 | exact mko_f c_78)) rfl)))
        have hPj := hP.sub (ws' := [(h, .inr (4, [.ref an, .ref tr, .ref ah, .int ch, .ref ak, .ref ai, .ref ap, .int sy, .ref af, .int sp])), (af, .inl (gI G, 121, .inl (fun q9 => nI (fdy q9)))), (a, .inl (gI G, 2175, .inl (lay (mko r s f t (mot f) P j) s (mot f + j) (mnt (mot f + j) f t) P)))]) [0, 1, 2] rfl
        have hDj := hD.sub (ws' := [(h, .inr (4, [.ref an, .ref tr, .ref ah, .int ch, .ref ak, .ref ai, .ref ap, .int sy, .ref af, .int sp])), (af, .inl (gI G, 121, .inl (fun q9 => nI (fdy q9)))), (a, .inl (gI G, 2175, .inl (lay (mko r s f t (mot f) P j) s (mot f + j) (mnt (mot f + j) f t) P)))]) [0, 1, 2] (by decide) rfl
        rw [w_4] at hPj hDj
        exact ih (j + 1) _ _ ls (by omega) ⟨(by omega), hPj, hDj, hS, lv_sub hl [0, 1, 4, 5, 6, 7, 8, 9] (lvc (by first | rfl | exact congrArg nI (by omega)) (lvc (by first | rfl | exact congrArg nI (by omega)) (lvr (lvr (lvr (lvr (lvr (lvr rfl))))))))⟩
set_option maxHeartbeats 4000000 in
set_option maxRecDepth 100000 in
theorem c_X4_mark_k (l : Launch) (G : gT) (sz : Nat) (h : Nat) (an : Nat) (tr : Nat) (ah : Nat) (c : Nat) (ak : Nat) (ai : Nat) (ap : Nat) (sy : Int32) (af : Nat) (sp : Int32) (r : Nat → Int32) (hh : Nat → Int32) (s : Nat) (f : Nat) (t : Nat) (hc : c ≤ 6) (hB : Br r) (hs : s < 16) (hft : f ≤ t) (htd : t ≤ td r) : Rw l G yX4_mark cX4_mark 5 (some .int) 9 sz [(h, .inr (4, [.ref an, .ref tr, .ref ah, .int (nI c), .ref ak, .ref ai, .ref ap, .int sy, .ref af, .int sp])), (af, .inl (gI G, 121, .inl (fun q9 => nI (fdy q9)))), (an, .inl (gI G, 2175, .inl r)), (ah, .inl (gI G, 13050, .inl hh))] [.ref h, .int (nI s), .int (nI f), .int (nI t)] (nI (mkn r s f t (mot f) True (mot t + 1 - mot f))) [(h, .inr (4, [.ref an, .ref tr, .ref ah, .int (nI (rch c + 1)), .ref ak, .ref ai, .ref ap, .int sy, .ref af, .int sp])), (af, .inl (gI G, 121, .inl (fun q9 => nI (fdy q9)))), (an, .inl (gI G, 2175, .inl (mko r s f t (mot f) True (mot t + 1 - mot f)))), (ah, .inl (gI G, 13050, .inl (va_cpy r (rhh c hh) 0 (2175 * rch c) 2175)))] := by
  refine Rw.mk (by decide) (Nat.le_of_ble_eq_true rfl) (fun pq eq sq mq bq tq cq ls A hr hlk hF hKx hZ hA hP hD hS hl => ?_)
  have hx := hF.1
  have hb := hF.2.1
  have hml := hF.2.2.1
  have hown : sq.vm.findClass RX4 = some mq.cls := hF.2.2.2.1
  have hts : ∀ w ∈ GW, w.before _ sq = true := hF.2.2.2.2
  have hK := hKx.1
  have hl : lv_has ls 5 [(0, .ref h), (1, .int (nI s)), (2, .int (nI f)), (3, .int (nI t))] := hl
  have hP : va_P G.1 vwCl [(h, .inr (4, [.ref an, .ref tr, .ref ah, .int (nI c), .ref ak, .ref ai, .ref ap, .int sy, .ref af, .int sp])), (af, .inl (gI G, 121, .inl (fun q9 => nI (fdy q9)))), (an, .inl (gI G, 2175, .inl r)), (ah, .inl (gI G, 13050, .inl hh))] sq.heap := hP
  have hD : va_D A [(h, .inr (4, [.ref an, .ref tr, .ref ah, .int (nI c), .ref ak, .ref ai, .ref ap, .int sy, .ref af, .int sp])), (af, .inl (gI G, 121, .inl (fun q9 => nI (fdy q9)))), (an, .inl (gI G, 2175, .inl r)), (ah, .inl (gI G, 13050, .inl hh))] := hD
  obtain ⟨h0, ht0, -⟩ := id hB.1
  have ht : t < 3650 := by omega
  refine lv_aload_n hx hb dX4_mark_0 rfl (lv_at hl 0 rfl) ?_
  refine lv_aload_n hx hb dX4_mark_1 rfl (lv_at hl 0 rfl) ?_
  refine va_get (ci := 4) (v := .ref an) (C := RX4) (T := TX4) (N := 10) hx hb hts inGX4 hown hK hP 0 rfl rfl 0 (by decide) (hts _ mw_3_54) (fun _ h9 => h9) rfl dX4_mark_2 ?_
  refine lv_iload_n hx hb dX4_mark_5 rfl (lv_at hl 1 rfl) ?_
  refine lv_iload_n hx hb dX4_mark_6 rfl (lv_at hl 2 rfl) ?_
  refine lv_iload_n hx hb dX4_mark_7 rfl (lv_at hl 3 rfl) ?_
  refine k_roV (ci := 4) (q0 := 0) (As := [.ref an, .int (nI s), .int (nI f), .int (nI t)]) (rest := []) hF (c_X4_whyNotMark l G h an tr ah (nI c) ak ai ap sy af sp an r (nI s) ((s : Nat) : Int) (nI f) ((f : Nat) : Int) (nI t) ((t : Nat) : Int) (toI (by omega)) (toI (by omega)) (toI (by omega)) (by omega) (by omega)) hKx hP ⟨_, rfl, rfl⟩ rfl rfl mw_3_160 mw_3_162 mw_p1_13 mw_1_5 mw_3_163 hd_X4_whyNotMark ⟨Nat.le_of_ble_eq_true rfl, Nat.le_of_ble_eq_true rfl⟩ (Rd.of hKx hZ hS) (hP.sub (ws' := [(h, .inr (4, [.ref an, .ref tr, .ref ah, .int (nI c), .ref ak, .ref ai, .ref ap, .int sy, .ref af, .int sp])), (an, .inl (gI G, 2175, .inl r))]) [0, 2] rfl) rfl hl.1 rfl (Nat.le_of_ble_eq_true rfl) dX4_mark_8 ⟨Nat.zero_le _, Nat.zero_le _⟩ ?_
  refine lv_cv (y := nI 0) (eMk_0 (by omega) (by omega)) ?_
  refine lv_istore (lv' := [(4, .int (nI 0)), (0, .ref h), (1, .int (nI s)), (2, .int (nI f)), (3, .int (nI t))]) hx hb dX4_mark_11 hl (by decide) rfl (fun ls hl => ?_)
  refine lv_iload hx hb dX4_mark_13 (lv_at hl 0 rfl) ?_
  refine z0_eq hx hb (tgt := 21) 0 dX4_mark_15 (by decide) (by decide) (fun c_15 => ?_) (fun c_15 => ?_)
  · skip
    refine lv_aload_n hx hb dX4_mark_21 rfl (lv_at hl 1 rfl) ?_
    refine k_rvV (ci := 4) (q0 := 0) (As := []) (rest := []) (wr := [(af, .inl (gI G, 121, .inl (fun q9 => nI (fdy q9))))]) hF (c_X4_record l G _ h an tr ah c ak ai ap sy af sp r hh (by omega)) ⟨_, rfl, rfl⟩ rfl rfl mw_3_95 mw_3_97 mw_p1_8 mw_1_5 mw_3_98 hd_X4_record ⟨Nat.le_of_ble_eq_true rfl, Nat.le_of_ble_eq_true rfl⟩ hKx hZ hS hP hD hA [0, 2, 3] [1] rfl rfl (by decide) (by decide) (by decide) rfl rfl hl.1 rfl (Nat.le_of_ble_eq_true rfl) dX4_mark_22 ⟨Nat.zero_le _, Nat.zero_le _⟩ (fun H locs hP hD hS => ?_)
    have hP : va_P G.1 vwCl [(af, .inl (gI G, 121, .inl (fun q9 => nI (fdy q9)))), (h, .inr (4, [.ref an, .ref tr, .ref ah, .int (nI (rch c + 1)), .ref ak, .ref ai, .ref ap, .int sy, .ref af, .int sp])), (an, .inl (gI G, 2175, .inl r)), (ah, .inl (gI G, 13050, .inl (va_cpy r (rhh c hh) 0 (2175 * rch c) 2175)))] H := hP
    have hD : va_D A [(af, .inl (gI G, 121, .inl (fun q9 => nI (fdy q9)))), (h, .inr (4, [.ref an, .ref tr, .ref ah, .int (nI (rch c + 1)), .ref ak, .ref ai, .ref ap, .int sy, .ref af, .int sp])), (an, .inl (gI G, 2175, .inl r)), (ah, .inl (gI G, 13050, .inl (va_cpy r (rhh c hh) 0 (2175 * rch c) 2175)))] := hD
    refine lv_aload_n hx hb dX4_mark_25 rfl (lv_at hl 1 rfl) ?_
    refine lv_aload_n hx hb dX4_mark_26 rfl (lv_at hl 1 rfl) ?_
    refine va_get (ci := 4) (v := .ref an) (C := RX4) (T := TX4) (N := 10) hx hb hts inGX4 hown hK hP 1 rfl rfl 0 (by decide) (hts _ mw_3_54) (fun _ h9 => h9) rfl dX4_mark_27 ?_
    refine lv_iload_n hx hb dX4_mark_30 rfl (lv_at hl 2 rfl) ?_
    refine lv_iload_n hx hb dX4_mark_31 rfl (lv_at hl 3 rfl) ?_
    refine lv_iload_n hx hb dX4_mark_32 rfl (lv_at hl 4 rfl) ?_
    refine lv_iconst (v := nI 1) hx hb dX4_mark_33 (by decide) ?_
    refine lv_cv (y := pI True) (pI_t' trivial) ?_
    refine k_rwV (ci := 4) (q0 := 1) (As := [.ref an, .int (nI s), .int (nI f), .int (nI t), .int (pI True)]) (rest := []) (wr := [(ah, .inl (gI G, 13050, .inl (va_cpy r (rhh c hh) 0 (2175 * rch c) 2175)))]) hF (c_X4_markOn l G _ h an tr ah (nI (rch c + 1)) ak ai ap sy af sp an r s f t True (by omega) (by omega) (by omega) (by omega)) ⟨_, rfl, rfl⟩ rfl rfl mw_3_175 mw_3_177 mw_p1_14 mw_1_5 mw_3_178 hd_X4_markOn ⟨Nat.le_of_ble_eq_true rfl, Nat.le_of_ble_eq_true rfl⟩ hKx hZ hS hP hD hA [1, 0, 2] [3] rfl rfl (by decide) (by decide) (by decide) rfl rfl hl.1 rfl (Nat.le_of_ble_eq_true rfl) dX4_mark_34 ⟨Nat.zero_le _, Nat.zero_le _⟩ (fun H locs hP hD hS => ?_)
    have hP : va_P G.1 vwCl [(ah, .inl (gI G, 13050, .inl (va_cpy r (rhh c hh) 0 (2175 * rch c) 2175))), (h, .inr (4, [.ref an, .ref tr, .ref ah, .int (nI (rch c + 1)), .ref ak, .ref ai, .ref ap, .int sy, .ref af, .int sp])), (af, .inl (gI G, 121, .inl (fun q9 => nI (fdy q9)))), (an, .inl (gI G, 2175, .inl (mko r s f t (mot f) True (mot t + 1 - mot f))))] H := hP
    have hD : va_D A [(ah, .inl (gI G, 13050, .inl (va_cpy r (rhh c hh) 0 (2175 * rch c) 2175))), (h, .inr (4, [.ref an, .ref tr, .ref ah, .int (nI (rch c + 1)), .ref ak, .ref ai, .ref ap, .int sy, .ref af, .int sp])), (af, .inl (gI G, 121, .inl (fun q9 => nI (fdy q9)))), (an, .inl (gI G, 2175, .inl (mko r s f t (mot f) True (mot t + 1 - mot f))))] := hD
    have hPj := hP.sub (ws' := [(h, .inr (4, [.ref an, .ref tr, .ref ah, .int (nI (rch c + 1)), .ref ak, .ref ai, .ref ap, .int sy, .ref af, .int sp])), (af, .inl (gI G, 121, .inl (fun q9 => nI (fdy q9)))), (an, .inl (gI G, 2175, .inl (mko r s f t (mot f) True (mot t + 1 - mot f)))), (ah, .inl (gI G, 13050, .inl (va_cpy r (rhh c hh) 0 (2175 * rch c) 2175)))]) [1, 2, 3, 0] rfl
    exact e_wi hx hb hr hlk hPj hS (rfl) dX4_mark_37
  · skip
    exact absurd c_15 (by decide)
set_option maxHeartbeats 4000000 in
set_option maxRecDepth 100000 in
theorem c_X4_mark_e (l : Launch) (G : gT) (h : Nat) (an : Nat) (tr : Nat) (ah : Nat) (c : Nat) (ak : Nat) (ai : Nat) (ap : Nat) (sy : Int32) (af : Nat) (sp : Int32) (r : Nat → Int32) (w : Int32) (S0 : Int) (x : Int32) (F : Int) (y : Int32) (T : Int) (hw1 : w.toInt = S0) (hF1 : x.toInt = F) (hT1 : y.toInt = T) (h0 : r 0 = nI (td r)) (ht : td r < 3650) (he : ¬ (eMk (0 ≤ S0 ∧ S0 ≤ 15) F T ((td r : Nat) : Int)).toInt = 0) : Ro l G yX4_mark cX4_mark 5 (some .int) 9 [(h, .inr (4, [.ref an, .ref tr, .ref ah, .int (nI c), .ref ak, .ref ai, .ref ap, .int sy, .ref af, .int sp])), (an, .inl (gI G, 2175, .inl r))] [.ref h, .int w, .int x, .int y] (eMk (0 ≤ S0 ∧ S0 ≤ 15) F T ((td r : Nat) : Int)) := by
  refine Ro.mk (by decide) (Nat.le_of_ble_eq_true rfl) (fun pq eq sq mq bq tq cq ls hr hlk hF hKx hZ hP hl => ?_)
  have hx := hF.1
  have hb := hF.2.1
  have hml := hF.2.2.1
  have hown : sq.vm.findClass RX4 = some mq.cls := hF.2.2.2.1
  have hts : ∀ w ∈ GW, w.before _ sq = true := hF.2.2.2.2
  have hK := hKx.1
  have hl : lv_has ls 5 [(0, .ref h), (1, .int w), (2, .int x), (3, .int y)] := hl
  have hS : va_S (fun _ => False) sq.heap sq.heap [] := va_S.rf
  have hP : va_P G.1 vwCl [(h, .inr (4, [.ref an, .ref tr, .ref ah, .int (nI c), .ref ak, .ref ai, .ref ap, .int sy, .ref af, .int sp])), (an, .inl (gI G, 2175, .inl r))] sq.heap := hP
  refine lv_aload_n hx hb dX4_mark_0 rfl (lv_at hl 0 rfl) ?_
  refine lv_aload_n hx hb dX4_mark_1 rfl (lv_at hl 0 rfl) ?_
  refine va_get (ci := 4) (v := .ref an) (C := RX4) (T := TX4) (N := 10) hx hb hts inGX4 hown hK hP 0 rfl rfl 0 (by decide) (hts _ mw_3_54) (fun _ h9 => h9) rfl dX4_mark_2 ?_
  refine lv_iload_n hx hb dX4_mark_5 rfl (lv_at hl 1 rfl) ?_
  refine lv_iload_n hx hb dX4_mark_6 rfl (lv_at hl 2 rfl) ?_
  refine lv_iload_n hx hb dX4_mark_7 rfl (lv_at hl 3 rfl) ?_
  refine k_roV (ci := 4) (q0 := 0) (As := [.ref an, .int w, .int x, .int y]) (rest := []) hF (c_X4_whyNotMark l G h an tr ah (nI c) ak ai ap sy af sp an r w S0 x F y T hw1 hF1 hT1 (by omega) (by omega)) hKx hP ⟨_, rfl, rfl⟩ rfl rfl mw_3_160 mw_3_162 mw_p1_13 mw_1_5 mw_3_163 hd_X4_whyNotMark ⟨Nat.le_of_ble_eq_true rfl, Nat.le_of_ble_eq_true rfl⟩ (Rd.of hKx hZ hS) (hP.sub (ws' := [(h, .inr (4, [.ref an, .ref tr, .ref ah, .int (nI c), .ref ak, .ref ai, .ref ap, .int sy, .ref af, .int sp])), (an, .inl (gI G, 2175, .inl r))]) [0, 1] rfl) rfl hl.1 rfl (Nat.le_of_ble_eq_true rfl) dX4_mark_8 ⟨Nat.zero_le _, Nat.zero_le _⟩ ?_
  refine lv_istore (lv' := [(4, .int (eMk (0 ≤ S0 ∧ S0 ≤ 15) F T ((td r : Nat) : Int))), (0, .ref h), (1, .int w), (2, .int x), (3, .int y)]) hx hb dX4_mark_11 hl (by decide) rfl (fun ls hl => ?_)
  refine lv_iload hx hb dX4_mark_13 (lv_at hl 0 rfl) ?_
  refine z0_eq hx hb (tgt := 21) ((eMk (0 ≤ S0 ∧ S0 ≤ 15) F T ((td r : Nat) : Int)).toInt) dX4_mark_15 (by decide) rfl (fun c_15 => ?_) (fun c_15 => ?_)
  · skip
    exact absurd c_15 he
  · skip
    refine lv_iload hx hb dX4_mark_18 (lv_at hl 0 rfl) ?_
    exact e_ri hx hb hr hlk (rfl) dX4_mark_20
set_option maxHeartbeats 4000000 in
set_option maxRecDepth 100000 in
theorem c_X4_clear_k (l : Launch) (G : gT) (sz : Nat) (h : Nat) (an : Nat) (tr : Nat) (ah : Nat) (c : Nat) (ak : Nat) (ai : Nat) (ap : Nat) (sy : Int32) (af : Nat) (sp : Int32) (r : Nat → Int32) (hh : Nat → Int32) (s : Nat) (f : Nat) (t : Nat) (hc : c ≤ 6) (hB : Br r) (hs : s < 16) (hft : f ≤ t) (htd : t ≤ td r) : Rw l G yX4_clear cX4_clear 5 (some .int) 9 sz [(h, .inr (4, [.ref an, .ref tr, .ref ah, .int (nI c), .ref ak, .ref ai, .ref ap, .int sy, .ref af, .int sp])), (af, .inl (gI G, 121, .inl (fun q9 => nI (fdy q9)))), (an, .inl (gI G, 2175, .inl r)), (ah, .inl (gI G, 13050, .inl hh))] [.ref h, .int (nI s), .int (nI f), .int (nI t)] (nI (mkn r s f t (mot f) False (mot t + 1 - mot f))) [(h, .inr (4, [.ref an, .ref tr, .ref ah, .int (nI (rch c + 1)), .ref ak, .ref ai, .ref ap, .int sy, .ref af, .int sp])), (af, .inl (gI G, 121, .inl (fun q9 => nI (fdy q9)))), (an, .inl (gI G, 2175, .inl (mko r s f t (mot f) False (mot t + 1 - mot f)))), (ah, .inl (gI G, 13050, .inl (va_cpy r (rhh c hh) 0 (2175 * rch c) 2175)))] := by
  refine Rw.mk (by decide) (Nat.le_of_ble_eq_true rfl) (fun pq eq sq mq bq tq cq ls A hr hlk hF hKx hZ hA hP hD hS hl => ?_)
  have hx := hF.1
  have hb := hF.2.1
  have hml := hF.2.2.1
  have hown : sq.vm.findClass RX4 = some mq.cls := hF.2.2.2.1
  have hts : ∀ w ∈ GW, w.before _ sq = true := hF.2.2.2.2
  have hK := hKx.1
  have hl : lv_has ls 5 [(0, .ref h), (1, .int (nI s)), (2, .int (nI f)), (3, .int (nI t))] := hl
  have hP : va_P G.1 vwCl [(h, .inr (4, [.ref an, .ref tr, .ref ah, .int (nI c), .ref ak, .ref ai, .ref ap, .int sy, .ref af, .int sp])), (af, .inl (gI G, 121, .inl (fun q9 => nI (fdy q9)))), (an, .inl (gI G, 2175, .inl r)), (ah, .inl (gI G, 13050, .inl hh))] sq.heap := hP
  have hD : va_D A [(h, .inr (4, [.ref an, .ref tr, .ref ah, .int (nI c), .ref ak, .ref ai, .ref ap, .int sy, .ref af, .int sp])), (af, .inl (gI G, 121, .inl (fun q9 => nI (fdy q9)))), (an, .inl (gI G, 2175, .inl r)), (ah, .inl (gI G, 13050, .inl hh))] := hD
  obtain ⟨h0, ht0, -⟩ := id hB.1
  have ht : t < 3650 := by omega
  refine lv_aload_n hx hb dX4_clear_0 rfl (lv_at hl 0 rfl) ?_
  refine lv_aload_n hx hb dX4_clear_1 rfl (lv_at hl 0 rfl) ?_
  refine va_get (ci := 4) (v := .ref an) (C := RX4) (T := TX4) (N := 10) hx hb hts inGX4 hown hK hP 0 rfl rfl 0 (by decide) (hts _ mw_3_54) (fun _ h9 => h9) rfl dX4_clear_2 ?_
  refine lv_iload_n hx hb dX4_clear_5 rfl (lv_at hl 1 rfl) ?_
  refine lv_iload_n hx hb dX4_clear_6 rfl (lv_at hl 2 rfl) ?_
  refine lv_iload_n hx hb dX4_clear_7 rfl (lv_at hl 3 rfl) ?_
  refine k_roV (ci := 4) (q0 := 0) (As := [.ref an, .int (nI s), .int (nI f), .int (nI t)]) (rest := []) hF (c_X4_whyNotMark l G h an tr ah (nI c) ak ai ap sy af sp an r (nI s) ((s : Nat) : Int) (nI f) ((f : Nat) : Int) (nI t) ((t : Nat) : Int) (toI (by omega)) (toI (by omega)) (toI (by omega)) (by omega) (by omega)) hKx hP ⟨_, rfl, rfl⟩ rfl rfl mw_3_160 mw_3_162 mw_p1_13 mw_1_5 mw_3_163 hd_X4_whyNotMark ⟨Nat.le_of_ble_eq_true rfl, Nat.le_of_ble_eq_true rfl⟩ (Rd.of hKx hZ hS) (hP.sub (ws' := [(h, .inr (4, [.ref an, .ref tr, .ref ah, .int (nI c), .ref ak, .ref ai, .ref ap, .int sy, .ref af, .int sp])), (an, .inl (gI G, 2175, .inl r))]) [0, 2] rfl) rfl hl.1 rfl (Nat.le_of_ble_eq_true rfl) dX4_clear_8 ⟨Nat.zero_le _, Nat.zero_le _⟩ ?_
  refine lv_cv (y := nI 0) (eMk_0 (by omega) (by omega)) ?_
  refine lv_istore (lv' := [(4, .int (nI 0)), (0, .ref h), (1, .int (nI s)), (2, .int (nI f)), (3, .int (nI t))]) hx hb dX4_clear_11 hl (by decide) rfl (fun ls hl => ?_)
  refine lv_iload hx hb dX4_clear_13 (lv_at hl 0 rfl) ?_
  refine z0_eq hx hb (tgt := 21) 0 dX4_clear_15 (by decide) (by decide) (fun c_15 => ?_) (fun c_15 => ?_)
  · skip
    refine lv_aload_n hx hb dX4_clear_21 rfl (lv_at hl 1 rfl) ?_
    refine k_rvV (ci := 4) (q0 := 0) (As := []) (rest := []) (wr := [(af, .inl (gI G, 121, .inl (fun q9 => nI (fdy q9))))]) hF (c_X4_record l G _ h an tr ah c ak ai ap sy af sp r hh (by omega)) ⟨_, rfl, rfl⟩ rfl rfl mw_3_95 mw_3_97 mw_p1_8 mw_1_5 mw_3_98 hd_X4_record ⟨Nat.le_of_ble_eq_true rfl, Nat.le_of_ble_eq_true rfl⟩ hKx hZ hS hP hD hA [0, 2, 3] [1] rfl rfl (by decide) (by decide) (by decide) rfl rfl hl.1 rfl (Nat.le_of_ble_eq_true rfl) dX4_clear_22 ⟨Nat.zero_le _, Nat.zero_le _⟩ (fun H locs hP hD hS => ?_)
    have hP : va_P G.1 vwCl [(af, .inl (gI G, 121, .inl (fun q9 => nI (fdy q9)))), (h, .inr (4, [.ref an, .ref tr, .ref ah, .int (nI (rch c + 1)), .ref ak, .ref ai, .ref ap, .int sy, .ref af, .int sp])), (an, .inl (gI G, 2175, .inl r)), (ah, .inl (gI G, 13050, .inl (va_cpy r (rhh c hh) 0 (2175 * rch c) 2175)))] H := hP
    have hD : va_D A [(af, .inl (gI G, 121, .inl (fun q9 => nI (fdy q9)))), (h, .inr (4, [.ref an, .ref tr, .ref ah, .int (nI (rch c + 1)), .ref ak, .ref ai, .ref ap, .int sy, .ref af, .int sp])), (an, .inl (gI G, 2175, .inl r)), (ah, .inl (gI G, 13050, .inl (va_cpy r (rhh c hh) 0 (2175 * rch c) 2175)))] := hD
    refine lv_aload_n hx hb dX4_clear_25 rfl (lv_at hl 1 rfl) ?_
    refine lv_aload_n hx hb dX4_clear_26 rfl (lv_at hl 1 rfl) ?_
    refine va_get (ci := 4) (v := .ref an) (C := RX4) (T := TX4) (N := 10) hx hb hts inGX4 hown hK hP 1 rfl rfl 0 (by decide) (hts _ mw_3_54) (fun _ h9 => h9) rfl dX4_clear_27 ?_
    refine lv_iload_n hx hb dX4_clear_30 rfl (lv_at hl 2 rfl) ?_
    refine lv_iload_n hx hb dX4_clear_31 rfl (lv_at hl 3 rfl) ?_
    refine lv_iload_n hx hb dX4_clear_32 rfl (lv_at hl 4 rfl) ?_
    refine lv_iconst (v := nI 0) hx hb dX4_clear_33 (by decide) ?_
    refine lv_cv (y := pI False) (pI_f' (fun z => z)) ?_
    refine k_rwV (ci := 4) (q0 := 1) (As := [.ref an, .int (nI s), .int (nI f), .int (nI t), .int (pI False)]) (rest := []) (wr := [(ah, .inl (gI G, 13050, .inl (va_cpy r (rhh c hh) 0 (2175 * rch c) 2175)))]) hF (c_X4_markOn l G _ h an tr ah (nI (rch c + 1)) ak ai ap sy af sp an r s f t False (by omega) (by omega) (by omega) (by omega)) ⟨_, rfl, rfl⟩ rfl rfl mw_3_175 mw_3_177 mw_p1_14 mw_1_5 mw_3_178 hd_X4_markOn ⟨Nat.le_of_ble_eq_true rfl, Nat.le_of_ble_eq_true rfl⟩ hKx hZ hS hP hD hA [1, 0, 2] [3] rfl rfl (by decide) (by decide) (by decide) rfl rfl hl.1 rfl (Nat.le_of_ble_eq_true rfl) dX4_clear_34 ⟨Nat.zero_le _, Nat.zero_le _⟩ (fun H locs hP hD hS => ?_)
    have hP : va_P G.1 vwCl [(ah, .inl (gI G, 13050, .inl (va_cpy r (rhh c hh) 0 (2175 * rch c) 2175))), (h, .inr (4, [.ref an, .ref tr, .ref ah, .int (nI (rch c + 1)), .ref ak, .ref ai, .ref ap, .int sy, .ref af, .int sp])), (af, .inl (gI G, 121, .inl (fun q9 => nI (fdy q9)))), (an, .inl (gI G, 2175, .inl (mko r s f t (mot f) False (mot t + 1 - mot f))))] H := hP
    have hD : va_D A [(ah, .inl (gI G, 13050, .inl (va_cpy r (rhh c hh) 0 (2175 * rch c) 2175))), (h, .inr (4, [.ref an, .ref tr, .ref ah, .int (nI (rch c + 1)), .ref ak, .ref ai, .ref ap, .int sy, .ref af, .int sp])), (af, .inl (gI G, 121, .inl (fun q9 => nI (fdy q9)))), (an, .inl (gI G, 2175, .inl (mko r s f t (mot f) False (mot t + 1 - mot f))))] := hD
    have hPj := hP.sub (ws' := [(h, .inr (4, [.ref an, .ref tr, .ref ah, .int (nI (rch c + 1)), .ref ak, .ref ai, .ref ap, .int sy, .ref af, .int sp])), (af, .inl (gI G, 121, .inl (fun q9 => nI (fdy q9)))), (an, .inl (gI G, 2175, .inl (mko r s f t (mot f) False (mot t + 1 - mot f)))), (ah, .inl (gI G, 13050, .inl (va_cpy r (rhh c hh) 0 (2175 * rch c) 2175)))]) [1, 2, 3, 0] rfl
    exact e_wi hx hb hr hlk hPj hS (rfl) dX4_clear_37
  · skip
    exact absurd c_15 (by decide)
set_option maxHeartbeats 4000000 in
set_option maxRecDepth 100000 in
theorem c_X4_clear_e (l : Launch) (G : gT) (h : Nat) (an : Nat) (tr : Nat) (ah : Nat) (c : Nat) (ak : Nat) (ai : Nat) (ap : Nat) (sy : Int32) (af : Nat) (sp : Int32) (r : Nat → Int32) (w : Int32) (S0 : Int) (x : Int32) (F : Int) (y : Int32) (T : Int) (hw1 : w.toInt = S0) (hF1 : x.toInt = F) (hT1 : y.toInt = T) (h0 : r 0 = nI (td r)) (ht : td r < 3650) (he : ¬ (eMk (0 ≤ S0 ∧ S0 ≤ 15) F T ((td r : Nat) : Int)).toInt = 0) : Ro l G yX4_clear cX4_clear 5 (some .int) 9 [(h, .inr (4, [.ref an, .ref tr, .ref ah, .int (nI c), .ref ak, .ref ai, .ref ap, .int sy, .ref af, .int sp])), (an, .inl (gI G, 2175, .inl r))] [.ref h, .int w, .int x, .int y] (eMk (0 ≤ S0 ∧ S0 ≤ 15) F T ((td r : Nat) : Int)) := by
  refine Ro.mk (by decide) (Nat.le_of_ble_eq_true rfl) (fun pq eq sq mq bq tq cq ls hr hlk hF hKx hZ hP hl => ?_)
  have hx := hF.1
  have hb := hF.2.1
  have hml := hF.2.2.1
  have hown : sq.vm.findClass RX4 = some mq.cls := hF.2.2.2.1
  have hts : ∀ w ∈ GW, w.before _ sq = true := hF.2.2.2.2
  have hK := hKx.1
  have hl : lv_has ls 5 [(0, .ref h), (1, .int w), (2, .int x), (3, .int y)] := hl
  have hS : va_S (fun _ => False) sq.heap sq.heap [] := va_S.rf
  have hP : va_P G.1 vwCl [(h, .inr (4, [.ref an, .ref tr, .ref ah, .int (nI c), .ref ak, .ref ai, .ref ap, .int sy, .ref af, .int sp])), (an, .inl (gI G, 2175, .inl r))] sq.heap := hP
  refine lv_aload_n hx hb dX4_clear_0 rfl (lv_at hl 0 rfl) ?_
  refine lv_aload_n hx hb dX4_clear_1 rfl (lv_at hl 0 rfl) ?_
  refine va_get (ci := 4) (v := .ref an) (C := RX4) (T := TX4) (N := 10) hx hb hts inGX4 hown hK hP 0 rfl rfl 0 (by decide) (hts _ mw_3_54) (fun _ h9 => h9) rfl dX4_clear_2 ?_
  refine lv_iload_n hx hb dX4_clear_5 rfl (lv_at hl 1 rfl) ?_
  refine lv_iload_n hx hb dX4_clear_6 rfl (lv_at hl 2 rfl) ?_
  refine lv_iload_n hx hb dX4_clear_7 rfl (lv_at hl 3 rfl) ?_
  refine k_roV (ci := 4) (q0 := 0) (As := [.ref an, .int w, .int x, .int y]) (rest := []) hF (c_X4_whyNotMark l G h an tr ah (nI c) ak ai ap sy af sp an r w S0 x F y T hw1 hF1 hT1 (by omega) (by omega)) hKx hP ⟨_, rfl, rfl⟩ rfl rfl mw_3_160 mw_3_162 mw_p1_13 mw_1_5 mw_3_163 hd_X4_whyNotMark ⟨Nat.le_of_ble_eq_true rfl, Nat.le_of_ble_eq_true rfl⟩ (Rd.of hKx hZ hS) (hP.sub (ws' := [(h, .inr (4, [.ref an, .ref tr, .ref ah, .int (nI c), .ref ak, .ref ai, .ref ap, .int sy, .ref af, .int sp])), (an, .inl (gI G, 2175, .inl r))]) [0, 1] rfl) rfl hl.1 rfl (Nat.le_of_ble_eq_true rfl) dX4_clear_8 ⟨Nat.zero_le _, Nat.zero_le _⟩ ?_
  refine lv_istore (lv' := [(4, .int (eMk (0 ≤ S0 ∧ S0 ≤ 15) F T ((td r : Nat) : Int))), (0, .ref h), (1, .int w), (2, .int x), (3, .int y)]) hx hb dX4_clear_11 hl (by decide) rfl (fun ls hl => ?_)
  refine lv_iload hx hb dX4_clear_13 (lv_at hl 0 rfl) ?_
  refine z0_eq hx hb (tgt := 21) ((eMk (0 ≤ S0 ∧ S0 ≤ 15) F T ((td r : Nat) : Int)).toInt) dX4_clear_15 (by decide) rfl (fun c_15 => ?_) (fun c_15 => ?_)
  · skip
    exact absurd c_15 he
  · skip
    refine lv_iload hx hb dX4_clear_18 (lv_at hl 0 rfl) ?_
    exact e_ri hx hb hr hlk (rfl) dX4_clear_20
