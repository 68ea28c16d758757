theorem hd_X1_readAll : hdY yX1_readAll 0 := ⟨by decide +kernel, by decide +kernel, by decide +kernel⟩
set_option maxHeartbeats 4000000 in
set_option maxRecDepth 100000 in
theorem c_X1_readAll (l : Launch) (G : gT) (sz : Nat) (op : Nat) (pa : Nat) (pt : Nat) (n : Nat) (p : Nat → Int32) (i0 : Int32) (k3 : Int32) (k4 : Int32) (f : Nat → Option Nat) (hs : Nat → Nat) (T : Nat → Nat → Int32) (V : Int32) (W0 : Nat) (N0 : Nat) (O0 : Nat) (hn : n ≤ 80) (hPg : Pg p n) (hf : ∀ k, k < 40 → f k = some (hs k)) (hV0 : fV p n 0 = V) (hW0 : fW p n 0 = W0) (hN0 : alN p n 0 = N0) (hO0 : alO p n 0 = O0) : Rw l G yX1_readAll cX1_readAll 2 (some .int) 6 sz (sW hs T ++ [(op, .inr (1, [.ref pa, .ref pt, .int (nI n), .int i0, .int k3, .int k4])), (pa, .inl (gC G, 80, .inl p)), (pt, .inl (gS G, 40, .inr (.inr (.inr (.inr f)))))]) [.ref op] V (sW hs (tS p n T N0) ++ [(op, .inr (1, [.ref pa, .ref pt, .int (nI n), .int (nI W0), .int (nI N0), .int (nI O0)])), (pa, .inl (gC G, 80, .inl p)), (pt, .inl (gS G, 40, .inr (.inr (.inr (.inr f)))))]) := by
  refine Rw.mk (by decide) (Nat.le_of_ble_eq_true rfl) (fun pq eq sq mq bq tq cq ls A hr hlk hF hKx hZ hA hP hD hS hl => ?_)
  have hx := hF.1
  have hb := hF.2.1
  have hml := hF.2.2.1
  have hown : sq.vm.findClass RX1 = some mq.cls := hF.2.2.2.1
  have hts : ∀ w ∈ GW, w.before _ sq = true := hF.2.2.2.2
  have hK := hKx.1
  have hl : lv_has ls 2 [(0, .ref op)] := hl
  have hP : va_P G.1 vwCl (sW hs T ++ [(op, .inr (1, [.ref pa, .ref pt, .int (nI n), .int i0, .int k3, .int k4])), (pa, .inl (gC G, 80, .inl p)), (pt, .inl (gS G, 40, .inr (.inr (.inr (.inr f)))))]) sq.heap := hP
  have hD : va_D A (sW hs T ++ [(op, .inr (1, [.ref pa, .ref pt, .int (nI n), .int i0, .int k3, .int k4])), (pa, .inl (gC G, 80, .inl p)), (pt, .inl (gS G, 40, .inr (.inr (.inr (.inr f)))))]) := hD
  refine lv_aload_n hx hb dX1_readAll_0 rfl (lv_at hl 0 rfl) ?_
  refine lv_iconst (v := nI 0) hx hb dX1_readAll_1 (by decide) ?_
  refine va_put (ci := 1) (v := .int (nI 0)) (ty := .int) (C := RX1) (T := TX1) (N := 6) hx hb hts inGX1 tyX1 tyX1_ok nmX1 hown hK hP hD hS ((sW hs T).length + 0) (getF rfl) rfl 3 (by decide) (hts _ mw_1_108) (fun _ h9 => h9) rfl (by decide +kernel) rfl rfl (Nat.le_of_ble_eq_true rfl) dX1_readAll_2 (fun H locs hP hD hS => ?_)
  rw [setF] at hP hD
  have hP : va_P G.1 vwCl (sW hs T ++ [(op, .inr (1, [.ref pa, .ref pt, .int (nI n), .int (nI 0), .int k3, .int k4])), (pa, .inl (gC G, 80, .inl p)), (pt, .inl (gS G, 40, .inr (.inr (.inr (.inr f)))))]) H := hP
  have hD : va_D A (sW hs T ++ [(op, .inr (1, [.ref pa, .ref pt, .int (nI n), .int (nI 0), .int k3, .int k4])), (pa, .inl (gC G, 80, .inl p)), (pt, .inl (gS G, 40, .inr (.inr (.inr (.inr f)))))]) := hD
  refine lv_aload_n hx hb dX1_readAll_5 rfl (lv_at hl 0 rfl) ?_
  refine lv_iconst (v := nI 0) hx hb dX1_readAll_6 (by decide) ?_
  refine va_put (ci := 1) (v := .int (nI 0)) (ty := .int) (C := RX1) (T := TX1) (N := 6) hx hb hts inGX1 tyX1 tyX1_ok nmX1 hown hK hP hD hS ((sW hs T).length + 0) (getF rfl) rfl 4 (by decide) (hts _ mw_1_109) (fun _ h9 => h9) rfl (by decide +kernel) rfl rfl (Nat.le_of_ble_eq_true rfl) dX1_readAll_7 (fun H locs hP hD hS => ?_)
  rw [setF] at hP hD
  have hP : va_P G.1 vwCl (sW hs T ++ [(op, .inr (1, [.ref pa, .ref pt, .int (nI n), .int (nI 0), .int (nI 0), .int k4])), (pa, .inl (gC G, 80, .inl p)), (pt, .inl (gS G, 40, .inr (.inr (.inr (.inr f)))))]) H := hP
  have hD : va_D A (sW hs T ++ [(op, .inr (1, [.ref pa, .ref pt, .int (nI n), .int (nI 0), .int (nI 0), .int k4])), (pa, .inl (gC G, 80, .inl p)), (pt, .inl (gS G, 40, .inr (.inr (.inr (.inr f)))))]) := hD
  refine lv_aload_n hx hb dX1_readAll_10 rfl (lv_at hl 0 rfl) ?_
  refine lv_iconst (v := nI 0) hx hb dX1_readAll_11 (by decide) ?_
  refine va_put (ci := 1) (v := .int (nI 0)) (ty := .int) (C := RX1) (T := TX1) (N := 6) hx hb hts inGX1 tyX1 tyX1_ok nmX1 hown hK hP hD hS ((sW hs T).length + 0) (getF rfl) rfl 5 (by decide) (hts _ mw_1_111) (fun _ h9 => h9) rfl (by decide +kernel) rfl rfl (Nat.le_of_ble_eq_true rfl) dX1_readAll_12 (fun H locs hP hD hS => ?_)
  rw [setF] at hP hD
  have hP : va_P G.1 vwCl (sW hs T ++ [(op, .inr (1, [.ref pa, .ref pt, .int (nI n), .int (nI 0), .int (nI 0), .int (nI 0)])), (pa, .inl (gC G, 80, .inl p)), (pt, .inl (gS G, 40, .inr (.inr (.inr (.inr f)))))]) H := hP
  have hD : va_D A (sW hs T ++ [(op, .inr (1, [.ref pa, .ref pt, .int (nI n), .int (nI 0), .int (nI 0), .int (nI 0)])), (pa, .inl (gC G, 80, .inl p)), (pt, .inl (gS G, 40, .inr (.inr (.inr (.inr f)))))]) := hD
  refine lv_iconst (v := nI 0) hx hb dX1_readAll_15 (by decide) ?_
  refine lv_istore_n (lv' := [(1, .int (nI 0)), (0, .ref op)]) hx hb dX1_readAll_16 rfl hl (by decide) rfl (fun ls hl => ?_)
  have hPj := subP (F := sW hs T) (wl' := [(op, .inr (1, [.ref pa, .ref pt, .int (nI n), .int (nI 0), .int (nI 0), .int (nI 0)])), (pa, .inl (gC G, 80, .inl p)), (pt, .inl (gS G, 40, .inr (.inr (.inr (.inr f)))))]) hP [0, 1, 2] rfl
  have hDj := subD (F := sW hs T) (wl' := [(op, .inr (1, [.ref pa, .ref pt, .int (nI n), .int (nI 0), .int (nI 0), .int (nI 0)])), (pa, .inl (gC G, 80, .inl p)), (pt, .inl (gS G, 40, .inr (.inr (.inr (.inr f)))))]) hD [0, 1, 2] (by decide) rfl
  have w_1 : (sW hs T ++ [(op, .inr (1, [.ref pa, .ref pt, .int (nI n), .int (nI 0), .int (nI 0), .int (nI 0)])), (pa, .inl (gC G, 80, .inl p)), (pt, .inl (gS G, 40, .inr (.inr (.inr (.inr f)))))] : va_W) = sW hs (tS p n T (oq p n 0)) ++ [(op, .inr (1, [.ref pa, .ref pt, .int (nI n), .int (nI (os p n 0)), .int (nI (oq p n 0)), .int (nI 0)])), (pa, .inl (gC G, 80, .inl p)), (pt, .inl (gS G, 40, .inr (.inr (.inr (.inr f)))))] := apc (by rw [oq_0, tS_0]) (wlc (by rw [os_0, oq_0]) (wlc (rfl) (wlc (rfl) rfl)))
  rw [w_1] at hPj hDj
  refine wloopH [] (fun ow H locs ls => (os p n ow ≤ n) ∧ (2 * oq p n ow ≤ os p n ow) ∧ (ow ≤ oq p n ow) ∧ (cur p n (oq p n ow) = ent p n (os p n ow) ow) ∧ (V = fV p n (os p n ow)) ∧ (W0 = fW p n (os p n ow)) ∧ (N0 = oq p n ow + alN p n (os p n ow)) ∧ (O0 = ow + alO p n (os p n ow)) ∧ va_P G.1 vwCl (sW hs (tS p n T (oq p n ow)) ++ [(op, .inr (1, [.ref pa, .ref pt, .int (nI n), .int (nI (os p n ow)), .int (nI (oq p n ow)), .int (nI ow)])), (pa, .inl (gC G, 80, .inl p)), (pt, .inl (gS G, 40, .inr (.inr (.inr (.inr f)))))]) H ∧ va_D A (sW hs (tS p n T (oq p n ow)) ++ [(op, .inr (1, [.ref pa, .ref pt, .int (nI n), .int (nI (os p n ow)), .int (nI (oq p n ow)), .int (nI ow)])), (pa, .inl (gC G, 80, .inl p)), (pt, .inl (gS G, 40, .inr (.inr (.inr (.inr f)))))]) ∧ va_S A sq.heap H locs ∧ lv_has ls 2 [(1, .int (nI ow)), (0, .ref op)]) (fun ow => 81 - ow) ?_ 0 ⟨(by rw [os_0]; exact Nat.zero_le _), (by rw [os_0, oq_0]; exact Nat.le_refl _), (Nat.zero_le _), (by rw [os_0, oq_0]; rfl), (by rw [os_0]; exact hV0.symm), (by rw [os_0]; exact hW0.symm), (by rw [os_0, oq_0, Nat.zero_add]; exact hN0.symm), (by rw [os_0, Nat.zero_add]; exact hO0.symm), hPj, hDj, hS, lv_sub hl [0, 1] rfl⟩
  intro ow ih
  intro H locs ls ⟨hoi, hoq, hoo, hck, hV, hW, hN, hO, hP, hD, hS, hl⟩
  clear hV0 hW0 hN0 hO0
  have hoe := oE_in (p := p) (n := n) hoi
  refine lv_iload_n hx hb dX1_readAll_17 rfl (lv_at hl 0 rfl) ?_
  refine lv_bipush (v := nI 80) hx hb dX1_readAll_18 (by decide) ?_
  refine z_ge hx hb (tgt := 80) ((ow : Nat) : Int) 80 dX1_readAll_20 (by decide) (toI (by omega)) (by decide) (fun c_20 => ?_) (fun c_20 => ?_)
  · skip
    exact absurd c_20 (by omega)
  · skip
    refine lv_aload_n hx hb dX1_readAll_23 rfl (lv_at hl 1 rfl) ?_
    refine lv_iload_n hx hb dX1_readAll_24 rfl (lv_at hl 0 rfl) ?_
    refine k_rwVp (ci := 1) (As := [.int (nI ow)]) (rest := []) (wr := ([])) hF (c_X1_readOrder l G _ op pa pt n (os p n ow) (oq p n ow) (nI ow) p f hs T ow (hn) (hPg) (hoi) (hf) (hck) (hoq)) ⟨_, rfl, rfl⟩ ⟨(sW hs (tS p n T (oq p n ow))).length + 0, getF rfl⟩ rfl mw_3_6 mw_3_7 mw_3_8 mw_1_3 mw_3_9 hd_X1_readOrder ⟨Nat.le_of_ble_eq_true rfl, Nat.le_of_ble_eq_true rfl⟩ hKx hZ hS hP hD hA (pmG (F := sW hs (tS p n T (oq p n ow))) (pmI (wl := [(op, .inr (1, [.ref pa, .ref pt, .int (nI n), .int (nI (os p n ow)), .int (nI (oq p n ow)), .int (nI ow)])), (pa, .inl (gC G, 80, .inl p)), (pt, .inl (gS G, 40, .inr (.inr (.inr (.inr f)))))]) (wr := []) (wc := [(op, .inr (1, [.ref pa, .ref pt, .int (nI n), .int (nI (os p n ow)), .int (nI (oq p n ow)), .int (nI ow)])), (pa, .inl (gC G, 80, .inl p)), (pt, .inl (gS G, 40, .inr (.inr (.inr (.inr f)))))]) [0, 1, 2] (by decide) rfl rfl)) (pmG' (F := sW hs (tS p n T ((oq p n ow) + odN p n (os p n ow)))) (wr := []) (wc := [(op, .inr (1, [.ref pa, .ref pt, .int (nI n), .int (nI (oE p n (os p n ow))), .int (nI ((oq p n ow) + odN p n (os p n ow))), .int (nI ow)])), (pa, .inl (gC G, 80, .inl p)), (pt, .inl (gS G, 40, .inr (.inr (.inr (.inr f)))))])) (adrF sW_adr (Eq.trans (b := [op, pa, pt]) rfl rfl)) rfl hl.1 rfl (Nat.le_of_ble_eq_true rfl) dX1_readAll_25 ⟨Nat.zero_le _, Nat.zero_le _⟩ (fun H locs hP hD hS => ?_)
    have hP : va_P G.1 vwCl (sW hs (tS p n T ((oq p n ow) + odN p n (os p n ow))) ++ [(op, .inr (1, [.ref pa, .ref pt, .int (nI n), .int (nI (oE p n (os p n ow))), .int (nI ((oq p n ow) + odN p n (os p n ow))), .int (nI ow)])), (pa, .inl (gC G, 80, .inl p)), (pt, .inl (gS G, 40, .inr (.inr (.inr (.inr f)))))]) H := hP
    have hD : va_D A (sW hs (tS p n T ((oq p n ow) + odN p n (os p n ow))) ++ [(op, .inr (1, [.ref pa, .ref pt, .int (nI n), .int (nI (oE p n (os p n ow))), .int (nI ((oq p n ow) + odN p n (os p n ow))), .int (nI ow)])), (pa, .inl (gC G, 80, .inl p)), (pt, .inl (gS G, 40, .inr (.inr (.inr (.inr f)))))]) := hD
    refine p0_ne hx hb (tgt := 36) dX1_readAll_28 (by decide) (fun c_28 => ?_) (fun c_28 => ?_)
    · skip
      refine lv_aload_n hx hb dX1_readAll_36 rfl (lv_at hl 1 rfl) ?_
      refine lv_dup hx hb dX1_readAll_37 rfl ?_
      refine va_get (ci := 1) (v := .int (nI ow)) (C := RX1) (T := TX1) (N := 6) hx hb hts inGX1 hown hK hP.right 0 rfl rfl 5 (by decide) (hts _ mw_1_111) (fun _ h9 => h9) rfl dX1_readAll_38 ?_
      refine lv_iconst (v := nI 1) hx hb dX1_readAll_41 (by decide) ?_
      refine n_iadd hx hb dX1_readAll_42 ?_
      refine va_put (ci := 1) (v := .int (nI (ow + 1))) (ty := .int) (C := RX1) (T := TX1) (N := 6) hx hb hts inGX1 tyX1 tyX1_ok nmX1 hown hK hP hD hS ((sW hs (tS p n T ((oq p n ow) + odN p n (os p n ow)))).length + 0) (getF rfl) rfl 5 (by decide) (hts _ mw_1_111) (fun _ h9 => h9) rfl (by decide +kernel) rfl rfl (Nat.le_of_ble_eq_true rfl) dX1_readAll_43 (fun H locs hP hD hS => ?_)
      rw [setF] at hP hD
      have hP : va_P G.1 vwCl (sW hs (tS p n T ((oq p n ow) + odN p n (os p n ow))) ++ [(op, .inr (1, [.ref pa, .ref pt, .int (nI n), .int (nI (oE p n (os p n ow))), .int (nI ((oq p n ow) + odN p n (os p n ow))), .int (nI (ow + 1))])), (pa, .inl (gC G, 80, .inl p)), (pt, .inl (gS G, 40, .inr (.inr (.inr (.inr f)))))]) H := hP
      have hD : va_D A (sW hs (tS p n T ((oq p n ow) + odN p n (os p n ow))) ++ [(op, .inr (1, [.ref pa, .ref pt, .int (nI n), .int (nI (oE p n (os p n ow))), .int (nI ((oq p n ow) + odN p n (os p n ow))), .int (nI (ow + 1))])), (pa, .inl (gC G, 80, .inl p)), (pt, .inl (gS G, 40, .inr (.inr (.inr (.inr f)))))]) := hD
      refine lv_aload_n hx hb dX1_readAll_46 rfl (lv_at hl 1 rfl) ?_
      refine va_get (ci := 1) (v := .int (nI (oE p n (os p n ow)))) (C := RX1) (T := TX1) (N := 6) hx hb hts inGX1 hown hK hP.right 0 rfl rfl 3 (by decide) (hts _ mw_1_108) (fun _ h9 => h9) rfl dX1_readAll_47 ?_
      refine lv_aload_n hx hb dX1_readAll_50 rfl (lv_at hl 1 rfl) ?_
      refine va_get (ci := 1) (v := .int (nI n)) (C := RX1) (T := TX1) (N := 6) hx hb hts inGX1 hown hK hP.right 0 rfl rfl 2 (by decide) (hts _ mw_1_106) (fun _ h9 => h9) rfl dX1_readAll_51 ?_
      refine z_ne hx hb (tgt := 60) ((oE p n (os p n ow) : Nat) : Int) ((n : Nat) : Int) dX1_readAll_54 (by decide) (toI (by omega)) (toI (by omega)) (fun c_54 => ?_) (fun c_54 => ?_)
      · skip
        refine lv_aload_n hx hb dX1_readAll_60 rfl (lv_at hl 1 rfl) ?_
        refine lv_bipush (v := nI 59) hx hb dX1_readAll_61 (by decide) ?_
        refine k_rwVp (ci := 1) (As := [.int (nI 59)]) (rest := []) (wr := (sW hs (tS p n T ((oq p n ow) + odN p n (os p n ow))) ++ [(pt, .inl (gS G, 40, .inr (.inr (.inr (.inr f)))))])) hF (c_X1_take l G _ op pa pt n (oE p n (os p n ow)) (nI ((oq p n ow) + odN p n (os p n ow))) (nI (ow + 1)) p 59 (hn) (hPg) (Nat.le_trans hoe.2 (Nat.le_trans hn (by decide))) (⟨by decide, by decide⟩)) ⟨_, rfl, rfl⟩ ⟨(sW hs (tS p n T ((oq p n ow) + odN p n (os p n ow)))).length + 0, getF rfl⟩ rfl mw_3_10 mw_3_11 mw_3_12 mw_1_3 mw_3_13 hd_X1_take ⟨Nat.le_of_ble_eq_true rfl, Nat.le_of_ble_eq_true rfl⟩ hKx hZ hS hP hD hA (pmF (F := sW hs (tS p n T ((oq p n ow) + odN p n (os p n ow)))) (pmI (wl := [(op, .inr (1, [.ref pa, .ref pt, .int (nI n), .int (nI (oE p n (os p n ow))), .int (nI ((oq p n ow) + odN p n (os p n ow))), .int (nI (ow + 1))])), (pa, .inl (gC G, 80, .inl p)), (pt, .inl (gS G, 40, .inr (.inr (.inr (.inr f)))))]) (wr := [(pt, .inl (gS G, 40, .inr (.inr (.inr (.inr f)))))]) (wc := [(op, .inr (1, [.ref pa, .ref pt, .int (nI n), .int (nI (oE p n (os p n ow))), .int (nI ((oq p n ow) + odN p n (os p n ow))), .int (nI (ow + 1))])), (pa, .inl (gC G, 80, .inl p))]) [2, 0, 1] (by decide) rfl rfl)) (pmF' (F := sW hs (tS p n T ((oq p n ow) + odN p n (os p n ow)))) (wr := [(pt, .inl (gS G, 40, .inr (.inr (.inr (.inr f)))))]) (wc := [(op, .inr (1, [.ref pa, .ref pt, .int (nI n), .int (nI (tkE p n (oE p n (os p n ow)) ((59 : Nat) : Int))), .int (nI ((oq p n ow) + odN p n (os p n ow))), .int (nI (ow + 1))])), (pa, .inl (gC G, 80, .inl p))])) (Eq.trans (b := [op, pa]) rfl rfl) rfl hl.1 rfl (Nat.le_of_ble_eq_true rfl) dX1_readAll_63 ⟨Nat.zero_le _, Nat.zero_le _⟩ (fun H locs hP hD hS => ?_)
        have hP : va_P G.1 vwCl (sW hs (tS p n T ((oq p n ow) + odN p n (os p n ow))) ++ [(pt, .inl (gS G, 40, .inr (.inr (.inr (.inr f))))), (op, .inr (1, [.ref pa, .ref pt, .int (nI n), .int (nI (tkE p n (oE p n (os p n ow)) ((59 : Nat) : Int))), .int (nI ((oq p n ow) + odN p n (os p n ow))), .int (nI (ow + 1))])), (pa, .inl (gC G, 80, .inl p))]) H := hP
        have hD : va_D A (sW hs (tS p n T ((oq p n ow) + odN p n (os p n ow))) ++ [(pt, .inl (gS G, 40, .inr (.inr (.inr (.inr f))))), (op, .inr (1, [.ref pa, .ref pt, .int (nI n), .int (nI (tkE p n (oE p n (os p n ow)) ((59 : Nat) : Int))), .int (nI ((oq p n ow) + odN p n (os p n ow))), .int (nI (ow + 1))])), (pa, .inl (gC G, 80, .inl p))]) := hD
        refine p0_ne hx hb (tgt := 74) dX1_readAll_66 (by decide) (fun c_66 => ?_) (fun c_66 => ?_)
        · skip
          have hcc : oF p n (os p n ow) ∧ sg p n (oE p n (os p n ow)) = 59 := ⟨c_28, c_66⟩
          have h59 := sg_lt (p := p) (n := n) (i := oE p n (os p n ow)) (by omega)
          have hco := cur_o hn hoi hck hoq c_28
          have hd1n := odN_1 hn hoi c_28
          have hw_2 : (sW hs (tS p n T ((oq p n ow) + odN p n (os p n ow))) ++ [(pt, .inl (gS G, 40, .inr (.inr (.inr (.inr f))))), (op, .inr (1, [.ref pa, .ref pt, .int (nI n), .int (nI (tkE p n (oE p n (os p n ow)) ((59 : Nat) : Int))), .int (nI ((oq p n ow) + odN p n (os p n ow))), .int (nI (ow + 1))])), (pa, .inl (gC G, 80, .inl p))] : va_W) = sW hs (tS p n T ((oq p n ow) + odN p n (os p n ow))) ++ [(pt, .inl (gS G, 40, .inr (.inr (.inr (.inr f))))), (op, .inr (1, [.ref pa, .ref pt, .int (nI n), .int (nI (oE p n (os p n ow) + 1)), .int (nI ((oq p n ow) + odN p n (os p n ow))), .int (nI (ow + 1))])), (pa, .inl (gC G, 80, .inl p))] := apc (F := sW hs (tS p n T ((oq p n ow) + odN p n (os p n ow)))) rfl (wlc rfl (wlc (by rw [tkE_t c_66]) (wlc rfl rfl)))
          rw [hw_2] at hP hD
          refine lv_iinc (v := nI (ow + 1)) (lv' := [(1, .int (nI (ow + 1))), (0, .ref op)]) hx hb dX1_readAll_74 hl (k := 0) rfl (nI_add _ _) (by decide) rfl (fun ls hl => ?_)
          refine lv_goto (tgt := 17) hx hb dX1_readAll_77 (by decide) ?_
          have hPj := subP (F := sW hs (tS p n T ((oq p n ow) + odN p n (os p n ow)))) (wl' := [(op, .inr (1, [.ref pa, .ref pt, .int (nI n), .int (nI (oE p n (os p n ow) + 1)), .int (nI ((oq p n ow) + odN p n (os p n ow))), .int (nI (ow + 1))])), (pa, .inl (gC G, 80, .inl p)), (pt, .inl (gS G, 40, .inr (.inr (.inr (.inr f)))))]) hP [1, 2, 0] rfl
          have hDj := subD (F := sW hs (tS p n T ((oq p n ow) + odN p n (os p n ow)))) (wl' := [(op, .inr (1, [.ref pa, .ref pt, .int (nI n), .int (nI (oE p n (os p n ow) + 1)), .int (nI ((oq p n ow) + odN p n (os p n ow))), .int (nI (ow + 1))])), (pa, .inl (gC G, 80, .inl p)), (pt, .inl (gS G, 40, .inr (.inr (.inr (.inr f)))))]) hD [1, 2, 0] (by decide) rfl
          have w_3 : (sW hs (tS p n T ((oq p n ow) + odN p n (os p n ow))) ++ [(op, .inr (1, [.ref pa, .ref pt, .int (nI n), .int (nI (oE p n (os p n ow) + 1)), .int (nI ((oq p n ow) + odN p n (os p n ow))), .int (nI (ow + 1))])), (pa, .inl (gC G, 80, .inl p)), (pt, .inl (gS G, 40, .inr (.inr (.inr (.inr f)))))] : va_W) = sW hs (tS p n T (oq p n (ow + 1))) ++ [(op, .inr (1, [.ref pa, .ref pt, .int (nI n), .int (nI (os p n (ow + 1))), .int (nI (oq p n (ow + 1))), .int (nI (ow + 1))])), (pa, .inl (gC G, 80, .inl p)), (pt, .inl (gS G, 40, .inr (.inr (.inr (.inr f)))))] := apc (by rw [oq_s]) (wlc (by rw [os_s, oq_s]) (wlc (rfl) (wlc (rfl) rfl)))
          rw [w_3] at hPj hDj
          exact ih (ow + 1) _ _ ls (by omega) ⟨(by rw [os_s]; omega), (by rw [os_s, oq_s]; omega), (by rw [oq_s]; omega), (by rw [os_s, oq_s]; exact hco.1), (by rw [os_s]; exact hV.trans (fV_t hn hoi hcc).1), (by rw [os_s]; exact hW.trans (fV_t hn hoi hcc).2), (by rw [os_s, oq_s, Nat.add_assoc, ← alN_t hn hoi hcc]; exact hN), (by rw [os_s]; have hq9 := alO_t hn hoi hcc; omega), hPj, hDj, hS, lv_sub hl [0, 1] rfl⟩
        · skip
          have hsp : ¬ (oF p n (os p n ow) ∧ sg p n (oE p n (os p n ow)) = 59) := fun z => c_66 z.2
          have hff := fV_f (p := p) (n := n) (j := os p n ow) (by omega) hsp
          have hV2 : V = nI (oE p n (os p n ow)) := hV.trans (hff.1.trans (cI_f (fun z => absurd z.2 (by omega))))
          have hW2 : W0 = oE p n (os p n ow) := hW.trans hff.2
          have hN2 : N0 = oq p n ow + odN p n (os p n ow) := hN.trans (by rw [alN_f hsp])
          have hO2 : O0 = ow + 1 := hO.trans (by rw [alO_f hsp, cI_t c_28])
          have hw_4 : (sW hs (tS p n T ((oq p n ow) + odN p n (os p n ow))) ++ [(pt, .inl (gS G, 40, .inr (.inr (.inr (.inr f))))), (op, .inr (1, [.ref pa, .ref pt, .int (nI n), .int (nI (tkE p n (oE p n (os p n ow)) ((59 : Nat) : Int))), .int (nI ((oq p n ow) + odN p n (os p n ow))), .int (nI (ow + 1))])), (pa, .inl (gC G, 80, .inl p))] : va_W) = sW hs (tS p n T ((oq p n ow) + odN p n (os p n ow))) ++ [(pt, .inl (gS G, 40, .inr (.inr (.inr (.inr f))))), (op, .inr (1, [.ref pa, .ref pt, .int (nI n), .int (nI (oE p n (os p n ow))), .int (nI ((oq p n ow) + odN p n (os p n ow))), .int (nI (ow + 1))])), (pa, .inl (gC G, 80, .inl p))] := apc (F := sW hs (tS p n T ((oq p n ow) + odN p n (os p n ow)))) rfl (wlc rfl (wlc (by rw [tkE_f c_66]) (wlc rfl rfl)))
          rw [hw_4] at hP hD
          refine lv_aload_n hx hb dX1_readAll_69 rfl (lv_at hl 1 rfl) ?_
          refine va_get (ci := 1) (v := .int (nI (oE p n (os p n ow)))) (C := RX1) (T := TX1) (N := 6) hx hb hts inGX1 hown hK hP.right 1 rfl rfl 3 (by decide) (hts _ mw_1_108) (fun _ h9 => h9) rfl dX1_readAll_70 ?_
          have hPj := subP (F := sW hs (tS p n T ((oq p n ow) + odN p n (os p n ow)))) (wl' := [(op, .inr (1, [.ref pa, .ref pt, .int (nI n), .int (nI (oE p n (os p n ow))), .int (nI ((oq p n ow) + odN p n (os p n ow))), .int (nI (ow + 1))])), (pa, .inl (gC G, 80, .inl p)), (pt, .inl (gS G, 40, .inr (.inr (.inr (.inr f)))))]) hP [1, 2, 0] rfl
          have hwj : (sW hs (tS p n T ((oq p n ow) + odN p n (os p n ow))) ++ [(op, .inr (1, [.ref pa, .ref pt, .int (nI n), .int (nI (oE p n (os p n ow))), .int (nI ((oq p n ow) + odN p n (os p n ow))), .int (nI (ow + 1))])), (pa, .inl (gC G, 80, .inl p)), (pt, .inl (gS G, 40, .inr (.inr (.inr (.inr f)))))] : va_W) = sW hs (tS p n T N0) ++ [(op, .inr (1, [.ref pa, .ref pt, .int (nI n), .int (nI W0), .int (nI N0), .int (nI O0)])), (pa, .inl (gC G, 80, .inl p)), (pt, .inl (gS G, 40, .inr (.inr (.inr (.inr f)))))] := apc (by rw [hN2]) (wlc (by rw [hW2, hN2, hO2]) (wlc (rfl) (wlc (rfl) rfl)))
          rw [hwj] at hPj
          exact e_wi hx hb hr hlk hPj hS (hV2.symm) dX1_readAll_73
      · skip
        have hsp : ¬ (oF p n (os p n ow) ∧ sg p n (oE p n (os p n ow)) = 59) := fun z => absurd (sg_lt (p := p) (n := n) (i := oE p n (os p n ow)) (by omega)) (by omega)
        have hff := fV_f (p := p) (n := n) (j := os p n ow) (by omega) hsp
        have hV2 : V = -6 := hV.trans (hff.1.trans (cI_t ⟨c_28, by omega⟩))
        have hW2 : W0 = oE p n (os p n ow) := hW.trans hff.2
        have hN2 : N0 = oq p n ow + odN p n (os p n ow) := hN.trans (by rw [alN_f hsp])
        have hO2 : O0 = ow + 1 := hO.trans (by rw [alO_f hsp, cI_t c_28])
        refine lv_bipush (v := (-6)) hx hb dX1_readAll_57 (by decide) ?_
        have hPj := subP (F := sW hs (tS p n T ((oq p n ow) + odN p n (os p n ow)))) (wl' := [(op, .inr (1, [.ref pa, .ref pt, .int (nI n), .int (nI (oE p n (os p n ow))), .int (nI ((oq p n ow) + odN p n (os p n ow))), .int (nI (ow + 1))])), (pa, .inl (gC G, 80, .inl p)), (pt, .inl (gS G, 40, .inr (.inr (.inr (.inr f)))))]) hP [0, 1, 2] rfl
        have hwj : (sW hs (tS p n T ((oq p n ow) + odN p n (os p n ow))) ++ [(op, .inr (1, [.ref pa, .ref pt, .int (nI n), .int (nI (oE p n (os p n ow))), .int (nI ((oq p n ow) + odN p n (os p n ow))), .int (nI (ow + 1))])), (pa, .inl (gC G, 80, .inl p)), (pt, .inl (gS G, 40, .inr (.inr (.inr (.inr f)))))] : va_W) = sW hs (tS p n T N0) ++ [(op, .inr (1, [.ref pa, .ref pt, .int (nI n), .int (nI W0), .int (nI N0), .int (nI O0)])), (pa, .inl (gC G, 80, .inl p)), (pt, .inl (gS G, 40, .inr (.inr (.inr (.inr f)))))] := apc (by rw [hN2]) (wlc (by rw [hW2, hN2, hO2]) (wlc (rfl) (wlc (rfl) rfl)))
        rw [hwj] at hPj
        exact e_wi hx hb hr hlk hPj hS (hV2.symm) dX1_readAll_59
    · skip
      have hfa := ff_a (p := p) (n := n) (i := os p n ow) (by omega) (fun z => c_28 z.1)
      have hsp : ¬ (oF p n (os p n ow) ∧ sg p n (oE p n (os p n ow)) = 59) := fun z => c_28 z.1
      have hV2 : V = nI (oE p n (os p n ow)) := hV.trans hfa.1
      have hW2 : W0 = oE p n (os p n ow) := hW.trans hfa.2
      have hN2 : N0 = oq p n ow + odN p n (os p n ow) := hN.trans (by rw [alN_f hsp])
      have hO2 : O0 = ow := hO.trans (by rw [alO_f hsp, cI_f c_28, Nat.add_zero])
      refine lv_aload_n hx hb dX1_readAll_31 rfl (lv_at hl 1 rfl) ?_
      refine va_get (ci := 1) (v := .int (nI (oE p n (os p n ow)))) (C := RX1) (T := TX1) (N := 6) hx hb hts inGX1 hown hK hP.right 0 rfl rfl 3 (by decide) (hts _ mw_1_108) (fun _ h9 => h9) rfl dX1_readAll_32 ?_
      have hPj := subP (F := sW hs (tS p n T ((oq p n ow) + odN p n (os p n ow)))) (wl' := [(op, .inr (1, [.ref pa, .ref pt, .int (nI n), .int (nI (oE p n (os p n ow))), .int (nI ((oq p n ow) + odN p n (os p n ow))), .int (nI ow)])), (pa, .inl (gC G, 80, .inl p)), (pt, .inl (gS G, 40, .inr (.inr (.inr (.inr f)))))]) hP [0, 1, 2] rfl
      have hwj : (sW hs (tS p n T ((oq p n ow) + odN p n (os p n ow))) ++ [(op, .inr (1, [.ref pa, .ref pt, .int (nI n), .int (nI (oE p n (os p n ow))), .int (nI ((oq p n ow) + odN p n (os p n ow))), .int (nI ow)])), (pa, .inl (gC G, 80, .inl p)), (pt, .inl (gS G, 40, .inr (.inr (.inr (.inr f)))))] : va_W) = sW hs (tS p n T N0) ++ [(op, .inr (1, [.ref pa, .ref pt, .int (nI n), .int (nI W0), .int (nI N0), .int (nI O0)])), (pa, .inl (gC G, 80, .inl p)), (pt, .inl (gS G, 40, .inr (.inr (.inr (.inr f)))))] := apc (by rw [hN2]) (wlc (by rw [hW2, hN2, hO2]) (wlc (rfl) (wlc (rfl) rfl)))
      rw [hwj] at hPj
      exact e_wi hx hb hr hlk hPj hS (hV2.symm) dX1_readAll_35
