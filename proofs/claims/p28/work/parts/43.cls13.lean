theorem hd_X1_readOrder : hdY yX1_readOrder 1 := ⟨by decide +kernel, by decide +kernel, by decide +kernel⟩
set_option maxHeartbeats 4000000 in
set_option maxRecDepth 100000 in
theorem c_X1_readOrder (l : Launch) (G : gT) (sz : Nat) (op : Nat) (pa : Nat) (pt : Nat) (n : Nat) (i : Nat) (q : Nat) (k4 : Int32) (p : Nat → Int32) (f : Nat → Option Nat) (hs : Nat → Nat) (T : Nat → Nat → Int32) (ow : Nat) (hn : n ≤ 80) (hPg : Pg p n) (hi : i ≤ n) (hf : ∀ k, k < 40 → f k = some (hs k)) (hc : cur p n q = ent p n i ow) (hq : 2 * q ≤ i) : Rw l G yX1_readOrder cX1_readOrder 4 (some .boolean) 5 sz (sW hs (tS p n T q) ++ [(op, .inr (1, [.ref pa, .ref pt, .int (nI n), .int (nI i), .int (nI q), .int k4])), (pa, .inl (gC G, 80, .inl p)), (pt, .inl (gS G, 40, .inr (.inr (.inr (.inr f)))))]) [.ref op, .int (nI ow)] (pI (oF p n i)) (sW hs (tS p n T (q + odN p n i)) ++ [(op, .inr (1, [.ref pa, .ref pt, .int (nI n), .int (nI (oE p n i)), .int (nI (q + odN p n i)), .int k4])), (pa, .inl (gC G, 80, .inl p)), (pt, .inl (gS G, 40, .inr (.inr (.inr (.inr f)))))]) := by
  refine Rw.mk (by decide) (Nat.le_of_ble_eq_true rfl) (fun pq eq sq mq bq tq cq ls A hr hlk hF hKx hZ hA hP hD hS hl => ?_)
  have hx := hF.1
  have hb := hF.2.1
  have hml := hF.2.2.1
  have hown : sq.vm.findClass RX1 = some mq.cls := hF.2.2.2.1
  have hts : ∀ w ∈ GW, w.before _ sq = true := hF.2.2.2.2
  have hK := hKx.1
  have hl : lv_has ls 4 [(0, .ref op), (1, .int (nI ow))] := hl
  have hP : va_P G.1 vwCl (sW hs (tS p n T q) ++ [(op, .inr (1, [.ref pa, .ref pt, .int (nI n), .int (nI i), .int (nI q), .int k4])), (pa, .inl (gC G, 80, .inl p)), (pt, .inl (gS G, 40, .inr (.inr (.inr (.inr f)))))]) sq.heap := hP
  have hD : va_D A (sW hs (tS p n T q) ++ [(op, .inr (1, [.ref pa, .ref pt, .int (nI n), .int (nI i), .int (nI q), .int k4])), (pa, .inl (gC G, 80, .inl p)), (pt, .inl (gS G, 40, .inr (.inr (.inr (.inr f)))))]) := hD
  have hsb := sg_b (i := i) hPg
  have hsb1 := sg_b (i := i + 1) hPg
  refine lv_aload_n hx hb dX1_readOrder_0 rfl (lv_at hl 0 rfl) ?_
  refine lv_bipush (v := nI 112) hx hb dX1_readOrder_1 (by decide) ?_
  refine k_rwVp (ci := 1) (As := [.int (nI 112)]) (rest := []) (wr := (sW hs (tS p n T q) ++ [(pt, .inl (gS G, 40, .inr (.inr (.inr (.inr f)))))])) hF (c_X1_take l G _ op pa pt n i (nI q) k4 p 112 (by omega) (hPg) (by omega) (by omega)) ⟨_, rfl, rfl⟩ ⟨(sW hs (tS p n T q)).length + 0, getF rfl⟩ rfl mw_3_10 mw_3_11 mw_3_12 mw_1_3 mw_3_13 hd_X1_take ⟨Nat.le_of_ble_eq_true rfl, Nat.le_of_ble_eq_true rfl⟩ hKx hZ hS hP hD hA (pmF (F := sW hs (tS p n T q)) (pmI (wl := [(op, .inr (1, [.ref pa, .ref pt, .int (nI n), .int (nI i), .int (nI q), .int k4])), (pa, .inl (gC G, 80, .inl p)), (pt, .inl (gS G, 40, .inr (.inr (.inr (.inr f)))))]) (wr := [(pt, .inl (gS G, 40, .inr (.inr (.inr (.inr f)))))]) (wc := [(op, .inr (1, [.ref pa, .ref pt, .int (nI n), .int (nI i), .int (nI q), .int k4])), (pa, .inl (gC G, 80, .inl p))]) [2, 0, 1] (by decide) rfl rfl)) (pmF' (F := sW hs (tS p n T q)) (wr := [(pt, .inl (gS G, 40, .inr (.inr (.inr (.inr f)))))]) (wc := [(op, .inr (1, [.ref pa, .ref pt, .int (nI n), .int (nI (tkE p n i ((112 : Nat) : Int))), .int (nI q), .int k4])), (pa, .inl (gC G, 80, .inl p))])) (Eq.trans (b := [op, pa]) rfl rfl) rfl hl.1 rfl (Nat.le_of_ble_eq_true rfl) dX1_readOrder_3 ⟨Nat.zero_le _, Nat.zero_le _⟩ (fun H locs hP hD hS => ?_)
  have hP : va_P G.1 vwCl (sW hs (tS p n T q) ++ [(pt, .inl (gS G, 40, .inr (.inr (.inr (.inr f))))), (op, .inr (1, [.ref pa, .ref pt, .int (nI n), .int (nI (tkE p n i ((112 : Nat) : Int))), .int (nI q), .int k4])), (pa, .inl (gC G, 80, .inl p))]) H := hP
  have hD : va_D A (sW hs (tS p n T q) ++ [(pt, .inl (gS G, 40, .inr (.inr (.inr (.inr f))))), (op, .inr (1, [.ref pa, .ref pt, .int (nI n), .int (nI (tkE p n i ((112 : Nat) : Int))), .int (nI q), .int k4])), (pa, .inl (gC G, 80, .inl p))]) := hD
  refine p0_eq hx hb (tgt := 38) dX1_readOrder_6 (by decide) (fun c_6 => ?_) (fun c_6 => ?_)
  · skip
    have hw_1 : (sW hs (tS p n T q) ++ [(pt, .inl (gS G, 40, .inr (.inr (.inr (.inr f))))), (op, .inr (1, [.ref pa, .ref pt, .int (nI n), .int (nI (tkE p n i ((112 : Nat) : Int))), .int (nI q), .int k4])), (pa, .inl (gC G, 80, .inl p))] : va_W) = sW hs (tS p n T q) ++ [(pt, .inl (gS G, 40, .inr (.inr (.inr (.inr f))))), (op, .inr (1, [.ref pa, .ref pt, .int (nI n), .int (nI i), .int (nI q), .int k4])), (pa, .inl (gC G, 80, .inl p))] := apc (F := sW hs (tS p n T q)) rfl (wlc rfl (wlc (by rw [tkE_f c_6]) (wlc rfl rfl)))
    rw [hw_1] at hP hD
    refine wjoinH 80 [] (fun H locs ls => (sg p n i = 109 ∨ sg p n i = 99) ∧ (97 ≤ sg p n (i + 1) ∧ sg p n (i + 1) ≤ 112) ∧ va_P G.1 vwCl (sW hs (tS p n T q) ++ [(op, .inr (1, [.ref pa, .ref pt, .int (nI n), .int (nI (i + 1)), .int (nI q), .int k4])), (pa, .inl (gC G, 80, .inl p)), (pt, .inl (gS G, 40, .inr (.inr (.inr (.inr f)))))]) H ∧ va_D A (sW hs (tS p n T q) ++ [(op, .inr (1, [.ref pa, .ref pt, .int (nI n), .int (nI (i + 1)), .int (nI q), .int k4])), (pa, .inl (gC G, 80, .inl p)), (pt, .inl (gS G, 40, .inr (.inr (.inr (.inr f)))))]) ∧ va_S A sq.heap H locs ∧ lv_has ls 4 [(3, .int (nI ((sg p n (i + 1) - 97).toNat))), (2, .int (nI ((sg p n i).toNat))), (0, .ref op), (1, .int (nI ow))]) ?_ (fun J80 => ?_)
    · skip
      intro H locs ls ⟨hmc, hsu, hP, hD, hS, hl⟩
      have hi2 := sg_lt (p := p) (n := n) (i := i + 1) (by omega)
      refine lv_aload_n hx hb dX1_readOrder_80 rfl (lv_at hl 2 rfl) ?_
      refine lv_dup hx hb dX1_readOrder_81 rfl ?_
      refine va_get (ci := 1) (v := .int (nI (i + 1))) (C := RX1) (T := TX1) (N := 6) hx hb hts inGX1 hown hK hP.right 0 rfl rfl 3 (by decide) (hts _ mw_1_108) (fun _ h9 => h9) rfl dX1_readOrder_82 ?_
      refine lv_iconst (v := nI 1) hx hb dX1_readOrder_85 (by decide) ?_
      refine n_iadd hx hb dX1_readOrder_86 ?_
      refine va_put (ci := 1) (v := .int (nI (i + 1 + 1))) (ty := .int) (C := RX1) (T := TX1) (N := 6) hx hb hts inGX1 tyX1 tyX1_ok nmX1 hown hK hP hD hS ((sW hs (tS p n T q)).length + 0) (getF rfl) rfl 3 (by decide) (hts _ mw_1_108) (fun _ h9 => h9) rfl (by decide +kernel) rfl rfl (Nat.le_of_ble_eq_true rfl) dX1_readOrder_87 (fun H locs hP hD hS => ?_)
      rw [setF] at hP hD
      have hP : va_P G.1 vwCl (sW hs (tS p n T q) ++ [(op, .inr (1, [.ref pa, .ref pt, .int (nI n), .int (nI (i + 1 + 1)), .int (nI q), .int k4])), (pa, .inl (gC G, 80, .inl p)), (pt, .inl (gS G, 40, .inr (.inr (.inr (.inr f)))))]) H := hP
      have hD : va_D A (sW hs (tS p n T q) ++ [(op, .inr (1, [.ref pa, .ref pt, .int (nI n), .int (nI (i + 1 + 1)), .int (nI q), .int k4])), (pa, .inl (gC G, 80, .inl p)), (pt, .inl (gS G, 40, .inr (.inr (.inr (.inr f)))))]) := hD
      refine lv_aload_n hx hb dX1_readOrder_90 rfl (lv_at hl 2 rfl) ?_
      refine lv_bipush (v := nI 58) hx hb dX1_readOrder_91 (by decide) ?_
      refine k_rwVp (ci := 1) (As := [.int (nI 58)]) (rest := []) (wr := (sW hs (tS p n T q) ++ [(pt, .inl (gS G, 40, .inr (.inr (.inr (.inr f)))))])) hF (c_X1_take l G _ op pa pt n (i + 1 + 1) (nI q) k4 p 58 (by omega) (hPg) (by omega) (by omega)) ⟨_, rfl, rfl⟩ ⟨(sW hs (tS p n T q)).length + 0, getF rfl⟩ rfl mw_3_10 mw_3_11 mw_3_12 mw_1_3 mw_3_13 hd_X1_take ⟨Nat.le_of_ble_eq_true rfl, Nat.le_of_ble_eq_true rfl⟩ hKx hZ hS hP hD hA (pmF (F := sW hs (tS p n T q)) (pmI (wl := [(op, .inr (1, [.ref pa, .ref pt, .int (nI n), .int (nI (i + 1 + 1)), .int (nI q), .int k4])), (pa, .inl (gC G, 80, .inl p)), (pt, .inl (gS G, 40, .inr (.inr (.inr (.inr f)))))]) (wr := [(pt, .inl (gS G, 40, .inr (.inr (.inr (.inr f)))))]) (wc := [(op, .inr (1, [.ref pa, .ref pt, .int (nI n), .int (nI (i + 1 + 1)), .int (nI q), .int k4])), (pa, .inl (gC G, 80, .inl p))]) [2, 0, 1] (by decide) rfl rfl)) (pmF' (F := sW hs (tS p n T q)) (wr := [(pt, .inl (gS G, 40, .inr (.inr (.inr (.inr f)))))]) (wc := [(op, .inr (1, [.ref pa, .ref pt, .int (nI n), .int (nI (tkE p n (i + 1 + 1) ((58 : Nat) : Int))), .int (nI q), .int k4])), (pa, .inl (gC G, 80, .inl p))])) (Eq.trans (b := [op, pa]) rfl rfl) rfl hl.1 rfl (Nat.le_of_ble_eq_true rfl) dX1_readOrder_93 ⟨Nat.zero_le _, Nat.zero_le _⟩ (fun H locs hP hD hS => ?_)
      have hP : va_P G.1 vwCl (sW hs (tS p n T q) ++ [(pt, .inl (gS G, 40, .inr (.inr (.inr (.inr f))))), (op, .inr (1, [.ref pa, .ref pt, .int (nI n), .int (nI (tkE p n (i + 1 + 1) ((58 : Nat) : Int))), .int (nI q), .int k4])), (pa, .inl (gC G, 80, .inl p))]) H := hP
      have hD : va_D A (sW hs (tS p n T q) ++ [(pt, .inl (gS G, 40, .inr (.inr (.inr (.inr f))))), (op, .inr (1, [.ref pa, .ref pt, .int (nI n), .int (nI (tkE p n (i + 1 + 1) ((58 : Nat) : Int))), .int (nI q), .int k4])), (pa, .inl (gC G, 80, .inl p))]) := hD
      refine p0_eq hx hb (tgt := 113) dX1_readOrder_96 (by decide) (fun c_96 => ?_) (fun c_96 => ?_)
      · skip
        have ho := o_c (p := p) (n := n) (i := i) hmc hsu c_96
        have ho1 : oE p n i = i + 1 + 1 := ho.1
        have hnF := ho.2
        have hq2 : q + odN p n i = q := by rw [odN_0 (by omega) (fun z => c_96 z.2.2), Nat.add_zero]
        have hw_2 : (sW hs (tS p n T q) ++ [(pt, .inl (gS G, 40, .inr (.inr (.inr (.inr f))))), (op, .inr (1, [.ref pa, .ref pt, .int (nI n), .int (nI (tkE p n (i + 1 + 1) ((58 : Nat) : Int))), .int (nI q), .int k4])), (pa, .inl (gC G, 80, .inl p))] : va_W) = sW hs (tS p n T q) ++ [(pt, .inl (gS G, 40, .inr (.inr (.inr (.inr f))))), (op, .inr (1, [.ref pa, .ref pt, .int (nI n), .int (nI (i + 1 + 1)), .int (nI q), .int k4])), (pa, .inl (gC G, 80, .inl p))] := apc (F := sW hs (tS p n T q)) rfl (wlc rfl (wlc (by rw [tkE_f c_96]) (wlc rfl rfl)))
        rw [hw_2] at hP hD
        refine lv_iconst (v := nI 0) hx hb dX1_readOrder_113 (by decide) ?_
        have hPj := subP (F := sW hs (tS p n T q)) (wl' := [(op, .inr (1, [.ref pa, .ref pt, .int (nI n), .int (nI (i + 1 + 1)), .int (nI q), .int k4])), (pa, .inl (gC G, 80, .inl p)), (pt, .inl (gS G, 40, .inr (.inr (.inr (.inr f)))))]) hP [1, 2, 0] rfl
        have hwj : (sW hs (tS p n T q) ++ [(op, .inr (1, [.ref pa, .ref pt, .int (nI n), .int (nI (i + 1 + 1)), .int (nI q), .int k4])), (pa, .inl (gC G, 80, .inl p)), (pt, .inl (gS G, 40, .inr (.inr (.inr (.inr f)))))] : va_W) = sW hs (tS p n T (q + odN p n i)) ++ [(op, .inr (1, [.ref pa, .ref pt, .int (nI n), .int (nI (oE p n i)), .int (nI (q + odN p n i)), .int k4])), (pa, .inl (gC G, 80, .inl p)), (pt, .inl (gS G, 40, .inr (.inr (.inr (.inr f)))))] := apc (by rw [hq2]) (wlc (by rw [ho1, hq2]) (wlc (rfl) (wlc (rfl) rfl)))
        rw [hwj] at hPj
        exact e_wz hx hb hr hlk (nz_0) hPj hS (by first | exact pI_t' hoF | exact pI_f' hnF) dX1_readOrder_114
      · skip
        have ho := o_r (p := p) (n := n) (i := i) hmc hsu c_96
        have ho1 : oE p n i = rgE p n (i + 1 + 1 + 1) := ho.1
        have hi3 := sg_lt (p := p) (n := n) (i := i + 1 + 1) (by omega)
        have hq2 : q + odN p n i = q + rgN p n (i + 1 + 1 + 1) := by rw [odN_m ⟨hmc, hsu, c_96⟩]
        have hw_3 : (sW hs (tS p n T q) ++ [(pt, .inl (gS G, 40, .inr (.inr (.inr (.inr f))))), (op, .inr (1, [.ref pa, .ref pt, .int (nI n), .int (nI (tkE p n (i + 1 + 1) ((58 : Nat) : Int))), .int (nI q), .int k4])), (pa, .inl (gC G, 80, .inl p))] : va_W) = sW hs (tS p n T q) ++ [(pt, .inl (gS G, 40, .inr (.inr (.inr (.inr f))))), (op, .inr (1, [.ref pa, .ref pt, .int (nI n), .int (nI (i + 1 + 1 + 1)), .int (nI q), .int k4])), (pa, .inl (gC G, 80, .inl p))] := apc (F := sW hs (tS p n T q)) rfl (wlc rfl (wlc (by rw [tkE_t c_96]) (wlc rfl rfl)))
        rw [hw_3] at hP hD
        refine lv_aload_n hx hb dX1_readOrder_99 rfl (lv_at hl 2 rfl) ?_
        refine lv_iload_n hx hb dX1_readOrder_100 rfl (lv_at hl 1 rfl) ?_
        refine lv_iload_n hx hb dX1_readOrder_101 rfl (lv_at hl 0 rfl) ?_
        refine lv_iload_n hx hb dX1_readOrder_102 rfl (lv_at hl 3 rfl) ?_
        refine k_rwVp (ci := 1) (As := [.int (nI ((sg p n i).toNat)), .int (nI ((sg p n (i + 1) - 97).toNat)), .int (nI ow)]) (rest := []) (wr := ([])) hF (c_X1_readRanges l G _ op pa pt n (i + 1 + 1 + 1) q k4 p f hs T ((sg p n i).toNat) ((sg p n (i + 1) - 97).toNat) ow (by omega) (hPg) (by omega) (hf) (by omega) (by omega) (by rw [hc, ent_m hmc]) (by omega)) ⟨_, rfl, rfl⟩ ⟨(sW hs (tS p n T q)).length + 1, getF rfl⟩ rfl mw_3_35 mw_3_36 mw_3_37 mw_1_3 mw_3_38 hd_X1_readRanges ⟨Nat.le_of_ble_eq_true rfl, Nat.le_of_ble_eq_true rfl⟩ hKx hZ hS hP hD hA (pmG (F := sW hs (tS p n T q)) (pmI (wl := [(pt, .inl (gS G, 40, .inr (.inr (.inr (.inr f))))), (op, .inr (1, [.ref pa, .ref pt, .int (nI n), .int (nI (i + 1 + 1 + 1)), .int (nI q), .int k4])), (pa, .inl (gC G, 80, .inl p))]) (wr := []) (wc := [(op, .inr (1, [.ref pa, .ref pt, .int (nI n), .int (nI (i + 1 + 1 + 1)), .int (nI q), .int k4])), (pa, .inl (gC G, 80, .inl p)), (pt, .inl (gS G, 40, .inr (.inr (.inr (.inr f)))))]) [1, 2, 0] (by decide) rfl rfl)) (pmG' (F := sW hs (tS p n T (q + rgN p n (i + 1 + 1 + 1)))) (wr := []) (wc := [(op, .inr (1, [.ref pa, .ref pt, .int (nI n), .int (nI (rgE p n (i + 1 + 1 + 1))), .int (nI (q + rgN p n (i + 1 + 1 + 1))), .int k4])), (pa, .inl (gC G, 80, .inl p)), (pt, .inl (gS G, 40, .inr (.inr (.inr (.inr f)))))])) (adrF sW_adr (Eq.trans (b := [op, pa, pt]) rfl rfl)) rfl hl.1 rfl (Nat.le_of_ble_eq_true rfl) dX1_readOrder_103 ⟨Nat.zero_le _, Nat.zero_le _⟩ (fun H locs hP hD hS => ?_)
        have hP : va_P G.1 vwCl (sW hs (tS p n T (q + rgN p n (i + 1 + 1 + 1))) ++ [(op, .inr (1, [.ref pa, .ref pt, .int (nI n), .int (nI (rgE p n (i + 1 + 1 + 1))), .int (nI (q + rgN p n (i + 1 + 1 + 1))), .int k4])), (pa, .inl (gC G, 80, .inl p)), (pt, .inl (gS G, 40, .inr (.inr (.inr (.inr f)))))]) H := hP
        have hD : va_D A (sW hs (tS p n T (q + rgN p n (i + 1 + 1 + 1))) ++ [(op, .inr (1, [.ref pa, .ref pt, .int (nI n), .int (nI (rgE p n (i + 1 + 1 + 1))), .int (nI (q + rgN p n (i + 1 + 1 + 1))), .int k4])), (pa, .inl (gC G, 80, .inl p)), (pt, .inl (gS G, 40, .inr (.inr (.inr (.inr f)))))]) := hD
        refine p0_eq hx hb (tgt := 113) dX1_readOrder_106 (by decide) (fun c_106 => ?_) (fun c_106 => ?_)
        · skip
          have hnF : ¬ oF p n i := fun z => c_106 (ho.2.mp z)
          refine lv_iconst (v := nI 0) hx hb dX1_readOrder_113 (by decide) ?_
          have hPj := subP (F := sW hs (tS p n T (q + rgN p n (i + 1 + 1 + 1)))) (wl' := [(op, .inr (1, [.ref pa, .ref pt, .int (nI n), .int (nI (rgE p n (i + 1 + 1 + 1))), .int (nI (q + rgN p n (i + 1 + 1 + 1))), .int k4])), (pa, .inl (gC G, 80, .inl p)), (pt, .inl (gS G, 40, .inr (.inr (.inr (.inr f)))))]) hP [0, 1, 2] rfl
          have hwj : (sW hs (tS p n T (q + rgN p n (i + 1 + 1 + 1))) ++ [(op, .inr (1, [.ref pa, .ref pt, .int (nI n), .int (nI (rgE p n (i + 1 + 1 + 1))), .int (nI (q + rgN p n (i + 1 + 1 + 1))), .int k4])), (pa, .inl (gC G, 80, .inl p)), (pt, .inl (gS G, 40, .inr (.inr (.inr (.inr f)))))] : va_W) = sW hs (tS p n T (q + odN p n i)) ++ [(op, .inr (1, [.ref pa, .ref pt, .int (nI n), .int (nI (oE p n i)), .int (nI (q + odN p n i)), .int k4])), (pa, .inl (gC G, 80, .inl p)), (pt, .inl (gS G, 40, .inr (.inr (.inr (.inr f)))))] := apc (by rw [hq2]) (wlc (by rw [ho1, hq2]) (wlc (rfl) (wlc (rfl) rfl)))
          rw [hwj] at hPj
          exact e_wz hx hb hr hlk (nz_0) hPj hS (by first | exact pI_t' hoF | exact pI_f' hnF) dX1_readOrder_114
        · skip
          have hoF : oF p n i := ho.2.mpr c_106
          refine lv_iconst (v := nI 1) hx hb dX1_readOrder_109 (by decide) ?_
          refine lv_goto (tgt := 114) hx hb dX1_readOrder_110 (by decide) ?_
          have hPj := subP (F := sW hs (tS p n T (q + rgN p n (i + 1 + 1 + 1)))) (wl' := [(op, .inr (1, [.ref pa, .ref pt, .int (nI n), .int (nI (rgE p n (i + 1 + 1 + 1))), .int (nI (q + rgN p n (i + 1 + 1 + 1))), .int k4])), (pa, .inl (gC G, 80, .inl p)), (pt, .inl (gS G, 40, .inr (.inr (.inr (.inr f)))))]) hP [0, 1, 2] rfl
          have hwj : (sW hs (tS p n T (q + rgN p n (i + 1 + 1 + 1))) ++ [(op, .inr (1, [.ref pa, .ref pt, .int (nI n), .int (nI (rgE p n (i + 1 + 1 + 1))), .int (nI (q + rgN p n (i + 1 + 1 + 1))), .int k4])), (pa, .inl (gC G, 80, .inl p)), (pt, .inl (gS G, 40, .inr (.inr (.inr (.inr f)))))] : va_W) = sW hs (tS p n T (q + odN p n i)) ++ [(op, .inr (1, [.ref pa, .ref pt, .int (nI n), .int (nI (oE p n i)), .int (nI (q + odN p n i)), .int k4])), (pa, .inl (gC G, 80, .inl p)), (pt, .inl (gS G, 40, .inr (.inr (.inr (.inr f)))))] := apc (by rw [hq2]) (wlc (by rw [ho1, hq2]) (wlc (rfl) (wlc (rfl) rfl)))
          rw [hwj] at hPj
          exact e_wz hx hb hr hlk (nz_1) hPj hS (by first | exact pI_t' hoF | exact pI_f' hnF) dX1_readOrder_114
    · skip
      refine lv_aload_n hx hb dX1_readOrder_38 rfl (lv_at hl 0 rfl) ?_
      refine k_roV (ci := 1) (q0 := 1) (As := []) (rest := []) hF (c_X1_signHere l G op pa pt n i (nI q) k4 p (by omega) (hPg) (by omega)) hKx hP.right ⟨_, rfl, rfl⟩ rfl rfl mw_3_14 mw_3_15 mw_3_16 mw_1_3 mw_3_17 hd_X1_signHere ⟨Nat.le_of_ble_eq_true rfl, Nat.le_of_ble_eq_true rfl⟩ (Rd.of hKx hZ hS) (hP.right.sub (ws' := [(op, .inr (1, [.ref pa, .ref pt, .int (nI n), .int (nI i), .int (nI q), .int k4])), (pa, .inl (gC G, 80, .inl p))]) [1, 2] rfl) rfl hl.1 rfl (Nat.le_of_ble_eq_true rfl) dX1_readOrder_39 ⟨Nat.zero_le _, Nat.zero_le _⟩ ?_
      refine lv_cv (y := nI ((sg p n i).toNat)) (cgn_n hPg) ?_
      refine lv_istore_n (lv' := [(2, .int (nI ((sg p n i).toNat))), (0, .ref op), (1, .int (nI ow))]) hx hb dX1_readOrder_42 rfl hl (by decide) rfl (fun ls hl => ?_)
      refine lv_aload_n hx hb dX1_readOrder_43 rfl (lv_at hl 1 rfl) ?_
      refine lv_bipush (v := nI 109) hx hb dX1_readOrder_44 (by decide) ?_
      refine k_rwVp (ci := 1) (As := [.int (nI 109)]) (rest := []) (wr := (sW hs (tS p n T q) ++ [(pt, .inl (gS G, 40, .inr (.inr (.inr (.inr f)))))])) hF (c_X1_take l G _ op pa pt n i (nI q) k4 p 109 (by omega) (hPg) (by omega) (by omega)) ⟨_, rfl, rfl⟩ ⟨(sW hs (tS p n T q)).length + 1, getF rfl⟩ rfl mw_3_10 mw_3_11 mw_3_12 mw_1_3 mw_3_13 hd_X1_take ⟨Nat.le_of_ble_eq_true rfl, Nat.le_of_ble_eq_true rfl⟩ hKx hZ hS hP hD hA (pmF (F := sW hs (tS p n T q)) (pmI (wl := [(pt, .inl (gS G, 40, .inr (.inr (.inr (.inr f))))), (op, .inr (1, [.ref pa, .ref pt, .int (nI n), .int (nI i), .int (nI q), .int k4])), (pa, .inl (gC G, 80, .inl p))]) (wr := [(pt, .inl (gS G, 40, .inr (.inr (.inr (.inr f)))))]) (wc := [(op, .inr (1, [.ref pa, .ref pt, .int (nI n), .int (nI i), .int (nI q), .int k4])), (pa, .inl (gC G, 80, .inl p))]) [0, 1, 2] (by decide) rfl rfl)) (pmF' (F := sW hs (tS p n T q)) (wr := [(pt, .inl (gS G, 40, .inr (.inr (.inr (.inr f)))))]) (wc := [(op, .inr (1, [.ref pa, .ref pt, .int (nI n), .int (nI (tkE p n i ((109 : Nat) : Int))), .int (nI q), .int k4])), (pa, .inl (gC G, 80, .inl p))])) (Eq.trans (b := [op, pa]) rfl rfl) rfl hl.1 rfl (Nat.le_of_ble_eq_true rfl) dX1_readOrder_46 ⟨Nat.zero_le _, Nat.zero_le _⟩ (fun H locs hP hD hS => ?_)
      have hP : va_P G.1 vwCl (sW hs (tS p n T q) ++ [(pt, .inl (gS G, 40, .inr (.inr (.inr (.inr f))))), (op, .inr (1, [.ref pa, .ref pt, .int (nI n), .int (nI (tkE p n i ((109 : Nat) : Int))), .int (nI q), .int k4])), (pa, .inl (gC G, 80, .inl p))]) H := hP
      have hD : va_D A (sW hs (tS p n T q) ++ [(pt, .inl (gS G, 40, .inr (.inr (.inr (.inr f))))), (op, .inr (1, [.ref pa, .ref pt, .int (nI n), .int (nI (tkE p n i ((109 : Nat) : Int))), .int (nI q), .int k4])), (pa, .inl (gC G, 80, .inl p))]) := hD
      refine p0_ne hx hb (tgt := 63) dX1_readOrder_49 (by decide) (fun c_49 => ?_) (fun c_49 => ?_)
      · skip
        have hmc : sg p n i = 109 ∨ sg p n i = 99 := Or.inl c_49
        have hi1 := sg_lt (p := p) (n := n) (i := i) (by omega)
        have hw_4 : (sW hs (tS p n T q) ++ [(pt, .inl (gS G, 40, .inr (.inr (.inr (.inr f))))), (op, .inr (1, [.ref pa, .ref pt, .int (nI n), .int (nI (tkE p n i ((109 : Nat) : Int))), .int (nI q), .int k4])), (pa, .inl (gC G, 80, .inl p))] : va_W) = sW hs (tS p n T q) ++ [(pt, .inl (gS G, 40, .inr (.inr (.inr (.inr f))))), (op, .inr (1, [.ref pa, .ref pt, .int (nI n), .int (nI (i + 1)), .int (nI q), .int k4])), (pa, .inl (gC G, 80, .inl p))] := apc (F := sW hs (tS p n T q)) rfl (wlc rfl (wlc (by rw [tkE_t c_49]) (wlc rfl rfl)))
        rw [hw_4] at hP hD
        refine lv_aload_n hx hb dX1_readOrder_63 rfl (lv_at hl 1 rfl) ?_
        refine k_roV (ci := 1) (q0 := 1) (As := []) (rest := []) hF (c_X1_signHere l G op pa pt n (i + 1) (nI q) k4 p (by omega) (hPg) (by omega)) hKx hP.right ⟨_, rfl, rfl⟩ rfl rfl mw_3_14 mw_3_15 mw_3_16 mw_1_3 mw_3_17 hd_X1_signHere ⟨Nat.le_of_ble_eq_true rfl, Nat.le_of_ble_eq_true rfl⟩ (Rd.of hKx hZ hS) (hP.right.sub (ws' := [(op, .inr (1, [.ref pa, .ref pt, .int (nI n), .int (nI (i + 1)), .int (nI q), .int k4])), (pa, .inl (gC G, 80, .inl p))]) [1, 2] rfl) rfl hl.1 rfl (Nat.le_of_ble_eq_true rfl) dX1_readOrder_64 ⟨Nat.zero_le _, Nat.zero_le _⟩ ?_
        refine lv_cv (y := nI ((sg p n (i + 1)).toNat)) (cgn_n hPg) ?_
        refine lv_bipush (v := nI 97) hx hb dX1_readOrder_67 (by decide) ?_
        refine lv_isub hx hb dX1_readOrder_69 ?_
        refine lv_cv (y := nI (sg p n (i + 1)).toNat - nI 97) (rfl) ?_
        refine lv_istore_n (lv' := [(3, .int (nI (sg p n (i + 1)).toNat - nI 97)), (2, .int (nI ((sg p n i).toNat))), (0, .ref op), (1, .int (nI ow))]) hx hb dX1_readOrder_70 rfl hl (by decide) rfl (fun ls hl => ?_)
        refine lv_iload_n hx hb dX1_readOrder_71 rfl (lv_at hl 0 rfl) ?_
        refine k_roN (As := [.int (nI (sg p n (i + 1)).toNat - nI 97)]) (rest := []) hF (c_X3_isSubject l G (nI (sg p n (i + 1)).toNat - nI 97) ((((sg p n (i + 1)).toNat : Nat) : Int) - ((97 : Nat) : Int)) (pk_sub_toInt (by omega) (by omega))) hKx.2.2.2.2.2.2.2 mw_2_65 mw_1_1 mw_2_66 hd_X3_isSubject ⟨Nat.le_of_ble_eq_true rfl, Nat.le_of_ble_eq_true rfl⟩ (Rd.of hKx hZ hS) (hP.right.sub (ws' := []) [] rfl) rfl hl.1 rfl (Nat.le_of_ble_eq_true rfl) dX1_readOrder_72 ⟨Nat.zero_le _, Nat.zero_le _⟩ ?_
        refine p0_ne hx hb (tgt := 80) dX1_readOrder_75 (by decide) (fun c_75 => ?_) (fun c_75 => ?_)
        · skip
          have hsu : 97 ≤ sg p n (i + 1) ∧ sg p n (i + 1) ≤ 112 := by omega
          have hPj := subP (F := sW hs (tS p n T q)) (wl' := [(op, .inr (1, [.ref pa, .ref pt, .int (nI n), .int (nI (i + 1)), .int (nI q), .int k4])), (pa, .inl (gC G, 80, .inl p)), (pt, .inl (gS G, 40, .inr (.inr (.inr (.inr f)))))]) hP [1, 2, 0] rfl
          have hDj := subD (F := sW hs (tS p n T q)) (wl' := [(op, .inr (1, [.ref pa, .ref pt, .int (nI n), .int (nI (i + 1)), .int (nI q), .int k4])), (pa, .inl (gC G, 80, .inl p)), (pt, .inl (gS G, 40, .inr (.inr (.inr (.inr f)))))]) hD [1, 2, 0] (by decide) rfl
          exact J80 _ _ ls ⟨(hmc), (hsu), hPj, hDj, hS, lv_sub hl [0, 1, 2, 3] (lvc ((pk_sub (by omega)).trans (congrArg nI (by omega))) (lvr (lvr (lvr rfl))))⟩
        · skip
          have hsu : ¬ (97 ≤ sg p n (i + 1) ∧ sg p n (i + 1) ≤ 112) := by omega
          have ho := o_s (p := p) (n := n) (i := i) hmc hsu
          have ho1 := ho.1
          have hnF := ho.2
          have hq2 : q + odN p n i = q := by rw [odN_0 c_6 (fun z => hsu z.2.1), Nat.add_zero]
          refine lv_iconst (v := nI 0) hx hb dX1_readOrder_78 (by decide) ?_
          have hPj := subP (F := sW hs (tS p n T q)) (wl' := [(op, .inr (1, [.ref pa, .ref pt, .int (nI n), .int (nI (i + 1)), .int (nI q), .int k4])), (pa, .inl (gC G, 80, .inl p)), (pt, .inl (gS G, 40, .inr (.inr (.inr (.inr f)))))]) hP [1, 2, 0] rfl
          have hwj : (sW hs (tS p n T q) ++ [(op, .inr (1, [.ref pa, .ref pt, .int (nI n), .int (nI (i + 1)), .int (nI q), .int k4])), (pa, .inl (gC G, 80, .inl p)), (pt, .inl (gS G, 40, .inr (.inr (.inr (.inr f)))))] : va_W) = sW hs (tS p n T (q + odN p n i)) ++ [(op, .inr (1, [.ref pa, .ref pt, .int (nI n), .int (nI (oE p n i)), .int (nI (q + odN p n i)), .int k4])), (pa, .inl (gC G, 80, .inl p)), (pt, .inl (gS G, 40, .inr (.inr (.inr (.inr f)))))] := apc (by rw [hq2]) (wlc (by rw [ho1, hq2]) (wlc (rfl) (wlc (rfl) rfl)))
          rw [hwj] at hPj
          exact e_wz hx hb hr hlk (nz_0) hPj hS (by first | exact pI_t' hoF | exact pI_f' hnF) dX1_readOrder_79
      · skip
        have hw_5 : (sW hs (tS p n T q) ++ [(pt, .inl (gS G, 40, .inr (.inr (.inr (.inr f))))), (op, .inr (1, [.ref pa, .ref pt, .int (nI n), .int (nI (tkE p n i ((109 : Nat) : Int))), .int (nI q), .int k4])), (pa, .inl (gC G, 80, .inl p))] : va_W) = sW hs (tS p n T q) ++ [(pt, .inl (gS G, 40, .inr (.inr (.inr (.inr f))))), (op, .inr (1, [.ref pa, .ref pt, .int (nI n), .int (nI i), .int (nI q), .int k4])), (pa, .inl (gC G, 80, .inl p))] := apc (F := sW hs (tS p n T q)) rfl (wlc rfl (wlc (by rw [tkE_f c_49]) (wlc rfl rfl)))
        rw [hw_5] at hP hD
        refine lv_aload_n hx hb dX1_readOrder_52 rfl (lv_at hl 1 rfl) ?_
        refine lv_bipush (v := nI 99) hx hb dX1_readOrder_53 (by decide) ?_
        refine k_rwVp (ci := 1) (As := [.int (nI 99)]) (rest := []) (wr := (sW hs (tS p n T q) ++ [(pt, .inl (gS G, 40, .inr (.inr (.inr (.inr f)))))])) hF (c_X1_take l G _ op pa pt n i (nI q) k4 p 99 (by omega) (hPg) (by omega) (by omega)) ⟨_, rfl, rfl⟩ ⟨(sW hs (tS p n T q)).length + 1, getF rfl⟩ rfl mw_3_10 mw_3_11 mw_3_12 mw_1_3 mw_3_13 hd_X1_take ⟨Nat.le_of_ble_eq_true rfl, Nat.le_of_ble_eq_true rfl⟩ hKx hZ hS hP hD hA (pmF (F := sW hs (tS p n T q)) (pmI (wl := [(pt, .inl (gS G, 40, .inr (.inr (.inr (.inr f))))), (op, .inr (1, [.ref pa, .ref pt, .int (nI n), .int (nI i), .int (nI q), .int k4])), (pa, .inl (gC G, 80, .inl p))]) (wr := [(pt, .inl (gS G, 40, .inr (.inr (.inr (.inr f)))))]) (wc := [(op, .inr (1, [.ref pa, .ref pt, .int (nI n), .int (nI i), .int (nI q), .int k4])), (pa, .inl (gC G, 80, .inl p))]) [0, 1, 2] (by decide) rfl rfl)) (pmF' (F := sW hs (tS p n T q)) (wr := [(pt, .inl (gS G, 40, .inr (.inr (.inr (.inr f)))))]) (wc := [(op, .inr (1, [.ref pa, .ref pt, .int (nI n), .int (nI (tkE p n i ((99 : Nat) : Int))), .int (nI q), .int k4])), (pa, .inl (gC G, 80, .inl p))])) (Eq.trans (b := [op, pa]) rfl rfl) rfl hl.1 rfl (Nat.le_of_ble_eq_true rfl) dX1_readOrder_55 ⟨Nat.zero_le _, Nat.zero_le _⟩ (fun H locs hP hD hS => ?_)
        have hP : va_P G.1 vwCl (sW hs (tS p n T q) ++ [(pt, .inl (gS G, 40, .inr (.inr (.inr (.inr f))))), (op, .inr (1, [.ref pa, .ref pt, .int (nI n), .int (nI (tkE p n i ((99 : Nat) : Int))), .int (nI q), .int k4])), (pa, .inl (gC G, 80, .inl p))]) H := hP
        have hD : va_D A (sW hs (tS p n T q) ++ [(pt, .inl (gS G, 40, .inr (.inr (.inr (.inr f))))), (op, .inr (1, [.ref pa, .ref pt, .int (nI n), .int (nI (tkE p n i ((99 : Nat) : Int))), .int (nI q), .int k4])), (pa, .inl (gC G, 80, .inl p))]) := hD
        refine p0_ne hx hb (tgt := 63) dX1_readOrder_58 (by decide) (fun c_58 => ?_) (fun c_58 => ?_)
        · skip
          have hmc : sg p n i = 109 ∨ sg p n i = 99 := Or.inr c_58
          have hi1 := sg_lt (p := p) (n := n) (i := i) (by omega)
          have hw_6 : (sW hs (tS p n T q) ++ [(pt, .inl (gS G, 40, .inr (.inr (.inr (.inr f))))), (op, .inr (1, [.ref pa, .ref pt, .int (nI n), .int (nI (tkE p n i ((99 : Nat) : Int))), .int (nI q), .int k4])), (pa, .inl (gC G, 80, .inl p))] : va_W) = sW hs (tS p n T q) ++ [(pt, .inl (gS G, 40, .inr (.inr (.inr (.inr f))))), (op, .inr (1, [.ref pa, .ref pt, .int (nI n), .int (nI (i + 1)), .int (nI q), .int k4])), (pa, .inl (gC G, 80, .inl p))] := apc (F := sW hs (tS p n T q)) rfl (wlc rfl (wlc (by rw [tkE_t c_58]) (wlc rfl rfl)))
          rw [hw_6] at hP hD
          refine lv_aload_n hx hb dX1_readOrder_63 rfl (lv_at hl 1 rfl) ?_
          refine k_roV (ci := 1) (q0 := 1) (As := []) (rest := []) hF (c_X1_signHere l G op pa pt n (i + 1) (nI q) k4 p (by omega) (hPg) (by omega)) hKx hP.right ⟨_, rfl, rfl⟩ rfl rfl mw_3_14 mw_3_15 mw_3_16 mw_1_3 mw_3_17 hd_X1_signHere ⟨Nat.le_of_ble_eq_true rfl, Nat.le_of_ble_eq_true rfl⟩ (Rd.of hKx hZ hS) (hP.right.sub (ws' := [(op, .inr (1, [.ref pa, .ref pt, .int (nI n), .int (nI (i + 1)), .int (nI q), .int k4])), (pa, .inl (gC G, 80, .inl p))]) [1, 2] rfl) rfl hl.1 rfl (Nat.le_of_ble_eq_true rfl) dX1_readOrder_64 ⟨Nat.zero_le _, Nat.zero_le _⟩ ?_
          refine lv_cv (y := nI ((sg p n (i + 1)).toNat)) (cgn_n hPg) ?_
          refine lv_bipush (v := nI 97) hx hb dX1_readOrder_67 (by decide) ?_
          refine lv_isub hx hb dX1_readOrder_69 ?_
          refine lv_cv (y := nI (sg p n (i + 1)).toNat - nI 97) (rfl) ?_
          refine lv_istore_n (lv' := [(3, .int (nI (sg p n (i + 1)).toNat - nI 97)), (2, .int (nI ((sg p n i).toNat))), (0, .ref op), (1, .int (nI ow))]) hx hb dX1_readOrder_70 rfl hl (by decide) rfl (fun ls hl => ?_)
          refine lv_iload_n hx hb dX1_readOrder_71 rfl (lv_at hl 0 rfl) ?_
          refine k_roN (As := [.int (nI (sg p n (i + 1)).toNat - nI 97)]) (rest := []) hF (c_X3_isSubject l G (nI (sg p n (i + 1)).toNat - nI 97) ((((sg p n (i + 1)).toNat : Nat) : Int) - ((97 : Nat) : Int)) (pk_sub_toInt (by omega) (by omega))) hKx.2.2.2.2.2.2.2 mw_2_65 mw_1_1 mw_2_66 hd_X3_isSubject ⟨Nat.le_of_ble_eq_true rfl, Nat.le_of_ble_eq_true rfl⟩ (Rd.of hKx hZ hS) (hP.right.sub (ws' := []) [] rfl) rfl hl.1 rfl (Nat.le_of_ble_eq_true rfl) dX1_readOrder_72 ⟨Nat.zero_le _, Nat.zero_le _⟩ ?_
          refine p0_ne hx hb (tgt := 80) dX1_readOrder_75 (by decide) (fun c_75 => ?_) (fun c_75 => ?_)
          · skip
            have hsu : 97 ≤ sg p n (i + 1) ∧ sg p n (i + 1) ≤ 112 := by omega
            have hPj := subP (F := sW hs (tS p n T q)) (wl' := [(op, .inr (1, [.ref pa, .ref pt, .int (nI n), .int (nI (i + 1)), .int (nI q), .int k4])), (pa, .inl (gC G, 80, .inl p)), (pt, .inl (gS G, 40, .inr (.inr (.inr (.inr f)))))]) hP [1, 2, 0] rfl
            have hDj := subD (F := sW hs (tS p n T q)) (wl' := [(op, .inr (1, [.ref pa, .ref pt, .int (nI n), .int (nI (i + 1)), .int (nI q), .int k4])), (pa, .inl (gC G, 80, .inl p)), (pt, .inl (gS G, 40, .inr (.inr (.inr (.inr f)))))]) hD [1, 2, 0] (by decide) rfl
            exact J80 _ _ ls ⟨(hmc), (hsu), hPj, hDj, hS, lv_sub hl [0, 1, 2, 3] (lvc ((pk_sub (by omega)).trans (congrArg nI (by omega))) (lvr (lvr (lvr rfl))))⟩
          · skip
            have hsu : ¬ (97 ≤ sg p n (i + 1) ∧ sg p n (i + 1) ≤ 112) := by omega
            have ho := o_s (p := p) (n := n) (i := i) hmc hsu
            have ho1 := ho.1
            have hnF := ho.2
            have hq2 : q + odN p n i = q := by rw [odN_0 c_6 (fun z => hsu z.2.1), Nat.add_zero]
            refine lv_iconst (v := nI 0) hx hb dX1_readOrder_78 (by decide) ?_
            have hPj := subP (F := sW hs (tS p n T q)) (wl' := [(op, .inr (1, [.ref pa, .ref pt, .int (nI n), .int (nI (i + 1)), .int (nI q), .int k4])), (pa, .inl (gC G, 80, .inl p)), (pt, .inl (gS G, 40, .inr (.inr (.inr (.inr f)))))]) hP [1, 2, 0] rfl
            have hwj : (sW hs (tS p n T q) ++ [(op, .inr (1, [.ref pa, .ref pt, .int (nI n), .int (nI (i + 1)), .int (nI q), .int k4])), (pa, .inl (gC G, 80, .inl p)), (pt, .inl (gS G, 40, .inr (.inr (.inr (.inr f)))))] : va_W) = sW hs (tS p n T (q + odN p n i)) ++ [(op, .inr (1, [.ref pa, .ref pt, .int (nI n), .int (nI (oE p n i)), .int (nI (q + odN p n i)), .int k4])), (pa, .inl (gC G, 80, .inl p)), (pt, .inl (gS G, 40, .inr (.inr (.inr (.inr f)))))] := apc (by rw [hq2]) (wlc (by rw [ho1, hq2]) (wlc (rfl) (wlc (rfl) rfl)))
            rw [hwj] at hPj
            exact e_wz hx hb hr hlk (nz_0) hPj hS (by first | exact pI_t' hoF | exact pI_f' hnF) dX1_readOrder_79
        · skip
          have hmc : ¬ (sg p n i = 109 ∨ sg p n i = 99) := fun z => z.elim c_49 c_58
          have ho := o_n (p := p) (n := n) (i := i) c_6 hmc
          have ho1 := ho.1
          have hnF := ho.2
          have hq2 : q + odN p n i = q := by rw [odN_0 c_6 (fun z => hmc z.1), Nat.add_zero]
          have hw_7 : (sW hs (tS p n T q) ++ [(pt, .inl (gS G, 40, .inr (.inr (.inr (.inr f))))), (op, .inr (1, [.ref pa, .ref pt, .int (nI n), .int (nI (tkE p n i ((99 : Nat) : Int))), .int (nI q), .int k4])), (pa, .inl (gC G, 80, .inl p))] : va_W) = sW hs (tS p n T q) ++ [(pt, .inl (gS G, 40, .inr (.inr (.inr (.inr f))))), (op, .inr (1, [.ref pa, .ref pt, .int (nI n), .int (nI i), .int (nI q), .int k4])), (pa, .inl (gC G, 80, .inl p))] := apc (F := sW hs (tS p n T q)) rfl (wlc rfl (wlc (by rw [tkE_f c_58]) (wlc rfl rfl)))
          rw [hw_7] at hP hD
          refine lv_iconst (v := nI 0) hx hb dX1_readOrder_61 (by decide) ?_
          have hPj := subP (F := sW hs (tS p n T q)) (wl' := [(op, .inr (1, [.ref pa, .ref pt, .int (nI n), .int (nI i), .int (nI q), .int k4])), (pa, .inl (gC G, 80, .inl p)), (pt, .inl (gS G, 40, .inr (.inr (.inr (.inr f)))))]) hP [1, 2, 0] rfl
          have hwj : (sW hs (tS p n T q) ++ [(op, .inr (1, [.ref pa, .ref pt, .int (nI n), .int (nI i), .int (nI q), .int k4])), (pa, .inl (gC G, 80, .inl p)), (pt, .inl (gS G, 40, .inr (.inr (.inr (.inr f)))))] : va_W) = sW hs (tS p n T (q + odN p n i)) ++ [(op, .inr (1, [.ref pa, .ref pt, .int (nI n), .int (nI (oE p n i)), .int (nI (q + odN p n i)), .int k4])), (pa, .inl (gC G, 80, .inl p)), (pt, .inl (gS G, 40, .inr (.inr (.inr (.inr f)))))] := apc (by rw [hq2]) (wlc (by rw [ho1, hq2]) (wlc (rfl) (wlc (rfl) rfl)))
          rw [hwj] at hPj
          exact e_wz hx hb hr hlk (nz_0) hPj hS (by first | exact pI_t' hoF | exact pI_f' hnF) dX1_readOrder_62
  · skip
    have h112 : sg p n i = 112 := c_6
    have hi1 := sg_lt (p := p) (n := n) (i := i) (by omega)
    have ho := o_p (p := p) (n := n) (i := i) h112
    have ho1 := ho.1
    have hne2 := nE_in (p := p) (n := n) (i := i + 1) (by omega)
    have hcp : cur p n q = (i + 1, 112, 0, ow) := by rw [hc, ent_p h112]
    have hw_8 : (sW hs (tS p n T q) ++ [(pt, .inl (gS G, 40, .inr (.inr (.inr (.inr f))))), (op, .inr (1, [.ref pa, .ref pt, .int (nI n), .int (nI (tkE p n i ((112 : Nat) : Int))), .int (nI q), .int k4])), (pa, .inl (gC G, 80, .inl p))] : va_W) = sW hs (tS p n T q) ++ [(pt, .inl (gS G, 40, .inr (.inr (.inr (.inr f))))), (op, .inr (1, [.ref pa, .ref pt, .int (nI n), .int (nI (i + 1)), .int (nI q), .int k4])), (pa, .inl (gC G, 80, .inl p))] := apc (F := sW hs (tS p n T q)) rfl (wlc rfl (wlc (by rw [tkE_t c_6]) (wlc rfl rfl)))
    rw [hw_8] at hP hD
    refine lv_aload_n hx hb dX1_readOrder_9 rfl (lv_at hl 0 rfl) ?_
    refine k_rwVp (ci := 1) (As := []) (rest := []) (wr := (sW hs (tS p n T q) ++ [(pt, .inl (gS G, 40, .inr (.inr (.inr (.inr f)))))])) hF (c_X1_readNumber l G _ op pa pt n (i + 1) (nI q) k4 p (by omega) (hPg) (by omega)) ⟨_, rfl, rfl⟩ ⟨(sW hs (tS p n T q)).length + 1, getF rfl⟩ rfl mw_3_18 mw_3_19 mw_3_20 mw_1_3 mw_3_21 hd_X1_readNumber ⟨Nat.le_of_ble_eq_true rfl, Nat.le_of_ble_eq_true rfl⟩ hKx hZ hS hP hD hA (pmF (F := sW hs (tS p n T q)) (pmI (wl := [(pt, .inl (gS G, 40, .inr (.inr (.inr (.inr f))))), (op, .inr (1, [.ref pa, .ref pt, .int (nI n), .int (nI (i + 1)), .int (nI q), .int k4])), (pa, .inl (gC G, 80, .inl p))]) (wr := [(pt, .inl (gS G, 40, .inr (.inr (.inr (.inr f)))))]) (wc := [(op, .inr (1, [.ref pa, .ref pt, .int (nI n), .int (nI (i + 1)), .int (nI q), .int k4])), (pa, .inl (gC G, 80, .inl p))]) [0, 1, 2] (by decide) rfl rfl)) (pmF' (F := sW hs (tS p n T q)) (wr := [(pt, .inl (gS G, 40, .inr (.inr (.inr (.inr f)))))]) (wc := [(op, .inr (1, [.ref pa, .ref pt, .int (nI n), .int (nI (nE p n (i + 1))), .int (nI q), .int k4])), (pa, .inl (gC G, 80, .inl p))])) (Eq.trans (b := [op, pa]) rfl rfl) rfl hl.1 rfl (Nat.le_of_ble_eq_true rfl) dX1_readOrder_10 ⟨Nat.zero_le _, Nat.zero_le _⟩ (fun H locs hP hD hS => ?_)
    have hP : va_P G.1 vwCl (sW hs (tS p n T q) ++ [(pt, .inl (gS G, 40, .inr (.inr (.inr (.inr f))))), (op, .inr (1, [.ref pa, .ref pt, .int (nI n), .int (nI (nE p n (i + 1))), .int (nI q), .int k4])), (pa, .inl (gC G, 80, .inl p))]) H := hP
    have hD : va_D A (sW hs (tS p n T q) ++ [(pt, .inl (gS G, 40, .inr (.inr (.inr (.inr f))))), (op, .inr (1, [.ref pa, .ref pt, .int (nI n), .int (nI (nE p n (i + 1))), .int (nI q), .int k4])), (pa, .inl (gC G, 80, .inl p))]) := hD
    refine lv_istore_n (lv' := [(2, .int (cnR p n (i + 1))), (0, .ref op), (1, .int (nI ow))]) hx hb dX1_readOrder_13 rfl hl (by decide) rfl (fun ls hl => ?_)
    refine lv_iload_n hx hb dX1_readOrder_14 rfl (lv_at hl 0 rfl) ?_
    refine lv_iconst (v := (-1)) hx hb dX1_readOrder_15 (by decide) ?_
    refine z_eq hx hb (tgt := 36) ((cnR p n (i + 1)).toInt) (-1) dX1_readOrder_16 (by decide) rfl (by decide) (fun c_16 => ?_) (fun c_16 => ?_)
    · skip
      have hd1 : ¬ dgP p n (i + 1) := cnR_1.mp c_16
      have hq2 : q + odN p n i = q := by rw [odN_p h112, cI_f hd1, Nat.add_zero]
      have hnF : ¬ oF p n i := fun z => hd1 (ho.2.mp z)
      refine lv_iconst (v := nI 0) hx hb dX1_readOrder_36 (by decide) ?_
      have hPj := subP (F := sW hs (tS p n T q)) (wl' := [(op, .inr (1, [.ref pa, .ref pt, .int (nI n), .int (nI (nE p n (i + 1))), .int (nI q), .int k4])), (pa, .inl (gC G, 80, .inl p)), (pt, .inl (gS G, 40, .inr (.inr (.inr (.inr f)))))]) hP [1, 2, 0] rfl
      have hwj : (sW hs (tS p n T q) ++ [(op, .inr (1, [.ref pa, .ref pt, .int (nI n), .int (nI (nE p n (i + 1))), .int (nI q), .int k4])), (pa, .inl (gC G, 80, .inl p)), (pt, .inl (gS G, 40, .inr (.inr (.inr (.inr f)))))] : va_W) = sW hs (tS p n T (q + odN p n i)) ++ [(op, .inr (1, [.ref pa, .ref pt, .int (nI n), .int (nI (oE p n i)), .int (nI (q + odN p n i)), .int k4])), (pa, .inl (gC G, 80, .inl p)), (pt, .inl (gS G, 40, .inr (.inr (.inr (.inr f)))))] := apc (by rw [hq2]) (wlc (by rw [ho1, hq2]) (wlc (rfl) (wlc (rfl) rfl)))
      rw [hwj] at hPj
      exact e_wz hx hb hr hlk (nz_0) hPj hS (by first | exact pI_t' hoF | exact pI_f' hnF) dX1_readOrder_37
    · skip
      have hd1 : dgP p n (i + 1) := Classical.byContradiction (fun z => c_16 (cnR_1.mpr z))
      have hdn := (dg_ne hd1).2.2.2
      have hfs := hf q (by omega)
      have hq2 : q + odN p n i = q + 1 := by rw [odN_p h112, cI_t hd1]
      have hoF : oF p n i := ho.2.mpr hd1
      refine lv_aload_n hx hb dX1_readOrder_19 rfl (lv_at hl 1 rfl) ?_
      refine lv_bipush (v := nI 112) hx hb dX1_readOrder_20 (by decide) ?_
      refine lv_iconst (v := nI 0) hx hb dX1_readOrder_22 (by decide) ?_
      refine lv_iload_n hx hb dX1_readOrder_23 rfl (lv_at hl 0 rfl) ?_
      refine lv_cv (y := nI (nuV p n (i + 1))) (cnR_t hd1) ?_
      refine lv_iload_n hx hb dX1_readOrder_24 rfl (lv_at hl 0 rfl) ?_
      refine lv_cv (y := nI (nuV p n (i + 1))) (cnR_t hd1) ?_
      refine lv_iload_n hx hb dX1_readOrder_25 rfl (lv_at hl 2 rfl) ?_
      have hot := sW_out (hs := hs) (T := tS p n T q) (q := q) (wl := [(pt, .inl (gS G, 40, .inr (.inr (.inr (.inr f))))), (op, .inr (1, [.ref pa, .ref pt, .int (nI n), .int (nI (nE p n (i + 1))), .int (nI q), .int k4])), (pa, .inl (gC G, 80, .inl p))]) (by omega)
      have hP : va_P G.1 vwCl (sR hs (tS p n T q) q ++ [(pt, .inl (gS G, 40, .inr (.inr (.inr (.inr f))))), (op, .inr (1, [.ref pa, .ref pt, .int (nI n), .int (nI (nE p n (i + 1))), .int (nI q), .int k4])), (pa, .inl (gC G, 80, .inl p)), (hs q, .inr (2, [.int ((tS p n T q) q 0), .int ((tS p n T q) q 1), .int ((tS p n T q) q 2), .int ((tS p n T q) q 3), .int ((tS p n T q) q 4)]))]) H := hP.pm hot
      have hD : va_D A (sR hs (tS p n T q) q ++ [(pt, .inl (gS G, 40, .inr (.inr (.inr (.inr f))))), (op, .inr (1, [.ref pa, .ref pt, .int (nI n), .int (nI (nE p n (i + 1))), .int (nI q), .int k4])), (pa, .inl (gC G, 80, .inl p)), (hs q, .inr (2, [.int ((tS p n T q) q 0), .int ((tS p n T q) q 1), .int ((tS p n T q) q 2), .int ((tS p n T q) q 3), .int ((tS p n T q) q 4)]))]) := hD.pm hot
      refine k_rwVp (ci := 1) (As := [.int (nI 112), .int (nI 0), .int (nI (nuV p n (i + 1))), .int (nI (nuV p n (i + 1))), .int (nI ow)]) (rest := []) (wr := (sR hs (tS p n T q) q ++ [(pa, .inl (gC G, 80, .inl p))])) hF (c_X1_addStep l G _ op pa pt n (nE p n (i + 1)) q k4 f (hs q) ((tS p n T q) q 0) ((tS p n T q) q 1) ((tS p n T q) q 2) ((tS p n T q) q 3) ((tS p n T q) q 4) 112 0 (nuV p n (i + 1)) (nuV p n (i + 1)) ow (by omega) (hfs) (by omega)) ⟨_, rfl, rfl⟩ ⟨(sR hs (tS p n T q) q).length + 1, getF rfl⟩ rfl mw_3_26 mw_3_27 mw_3_28 mw_1_3 mw_3_29 hd_X1_addStep ⟨Nat.le_of_ble_eq_true rfl, Nat.le_of_ble_eq_true rfl⟩ hKx hZ hS hP hD hA (pmF (F := sR hs (tS p n T q) q) (pmI (wl := [(pt, .inl (gS G, 40, .inr (.inr (.inr (.inr f))))), (op, .inr (1, [.ref pa, .ref pt, .int (nI n), .int (nI (nE p n (i + 1))), .int (nI q), .int k4])), (pa, .inl (gC G, 80, .inl p)), (hs q, .inr (2, [.int ((tS p n T q) q 0), .int ((tS p n T q) q 1), .int ((tS p n T q) q 2), .int ((tS p n T q) q 3), .int ((tS p n T q) q 4)]))]) (wr := [(pa, .inl (gC G, 80, .inl p))]) (wc := [(op, .inr (1, [.ref pa, .ref pt, .int (nI n), .int (nI (nE p n (i + 1))), .int (nI q), .int k4])), (pt, .inl (gS G, 40, .inr (.inr (.inr (.inr f))))), (hs q, .inr (2, [.int ((tS p n T q) q 0), .int ((tS p n T q) q 1), .int ((tS p n T q) q 2), .int ((tS p n T q) q 3), .int ((tS p n T q) q 4)]))]) [2, 1, 0, 3] (by decide) rfl rfl)) (pmF' (F := sR hs (tS p n T q) q) (wr := [(pa, .inl (gC G, 80, .inl p))]) (wc := [(op, .inr (1, [.ref pa, .ref pt, .int (nI n), .int (nI (nE p n (i + 1))), .int (nI (q + 1)), .int k4])), (pt, .inl (gS G, 40, .inr (.inr (.inr (.inr f))))), (hs q, .inr (2, [.int (nI 112), .int (nI 0), .int (nI (nuV p n (i + 1))), .int (nI (nuV p n (i + 1))), .int (nI ow)]))])) (Eq.trans (b := [op, pt, hs q]) rfl rfl) rfl hl.1 rfl (Nat.le_of_ble_eq_true rfl) dX1_readOrder_26 ⟨Nat.zero_le _, Nat.zero_le _⟩ (fun H locs hP hD hS => ?_)
      have hP : va_P G.1 vwCl (sR hs (tS p n T q) q ++ [(pa, .inl (gC G, 80, .inl p)), (op, .inr (1, [.ref pa, .ref pt, .int (nI n), .int (nI (nE p n (i + 1))), .int (nI (q + 1)), .int k4])), (pt, .inl (gS G, 40, .inr (.inr (.inr (.inr f))))), (hs q, .inr (2, [.int (nI 112), .int (nI 0), .int (nI (nuV p n (i + 1))), .int (nI (nuV p n (i + 1))), .int (nI ow)]))]) H := hP
      have hD : va_D A (sR hs (tS p n T q) q ++ [(pa, .inl (gC G, 80, .inl p)), (op, .inr (1, [.ref pa, .ref pt, .int (nI n), .int (nI (nE p n (i + 1))), .int (nI (q + 1)), .int k4])), (pt, .inl (gS G, 40, .inr (.inr (.inr (.inr f))))), (hs q, .inr (2, [.int (nI 112), .int (nI 0), .int (nI (nuV p n (i + 1))), .int (nI (nuV p n (i + 1))), .int (nI ow)]))]) := hD
      have hin := sW_in (hs := hs) (T := tS p n T q) (T' := tS p n T (q + 1)) (q := q) (wl := [(pa, .inl (gC G, 80, .inl p)), (op, .inr (1, [.ref pa, .ref pt, .int (nI n), .int (nI (nE p n (i + 1))), .int (nI (q + 1)), .int k4])), (pt, .inl (gS G, 40, .inr (.inr (.inr (.inr f)))))]) (by omega) tS_s (tS_qp hcp)
      have hP : va_P G.1 vwCl (sW hs (tS p n T (q + 1)) ++ [(pa, .inl (gC G, 80, .inl p)), (op, .inr (1, [.ref pa, .ref pt, .int (nI n), .int (nI (nE p n (i + 1))), .int (nI (q + 1)), .int k4])), (pt, .inl (gS G, 40, .inr (.inr (.inr (.inr f)))))]) H := hP.pm hin
      have hD : va_D A (sW hs (tS p n T (q + 1)) ++ [(pa, .inl (gC G, 80, .inl p)), (op, .inr (1, [.ref pa, .ref pt, .int (nI n), .int (nI (nE p n (i + 1))), .int (nI (q + 1)), .int k4])), (pt, .inl (gS G, 40, .inr (.inr (.inr (.inr f)))))]) := hD.pm hin
      refine z0_eq hx hb (tgt := 36) 1 dX1_readOrder_29 (by decide) (by decide) (fun c_29 => ?_) (fun c_29 => ?_)
      · skip
        exact absurd c_29 (by decide)
      · skip
        refine lv_iconst (v := nI 1) hx hb dX1_readOrder_32 (by decide) ?_
        refine lv_goto (tgt := 37) hx hb dX1_readOrder_33 (by decide) ?_
        have hPj := subP (F := sW hs (tS p n T (q + 1))) (wl' := [(op, .inr (1, [.ref pa, .ref pt, .int (nI n), .int (nI (nE p n (i + 1))), .int (nI (q + 1)), .int k4])), (pa, .inl (gC G, 80, .inl p)), (pt, .inl (gS G, 40, .inr (.inr (.inr (.inr f)))))]) hP [1, 0, 2] rfl
        have hwj : (sW hs (tS p n T (q + 1)) ++ [(op, .inr (1, [.ref pa, .ref pt, .int (nI n), .int (nI (nE p n (i + 1))), .int (nI (q + 1)), .int k4])), (pa, .inl (gC G, 80, .inl p)), (pt, .inl (gS G, 40, .inr (.inr (.inr (.inr f)))))] : va_W) = sW hs (tS p n T (q + odN p n i)) ++ [(op, .inr (1, [.ref pa, .ref pt, .int (nI n), .int (nI (oE p n i)), .int (nI (q + odN p n i)), .int k4])), (pa, .inl (gC G, 80, .inl p)), (pt, .inl (gS G, 40, .inr (.inr (.inr (.inr f)))))] := apc (by rw [hq2]) (wlc (by rw [ho1, hq2]) (wlc (rfl) (wlc (rfl) rfl)))
        rw [hwj] at hPj
        exact e_wz hx hb hr hlk (nz_1) hPj hS (by first | exact pI_t' hoF | exact pI_f' hnF) dX1_readOrder_37
