theorem hd_X4_put : hdY yX4_put 1 := ⟨by decide +kernel, by decide +kernel, by decide +kernel⟩
set_option maxHeartbeats 4000000 in
set_option maxRecDepth 100000 in
theorem c_X4_put_k (l : Launch) (G : gT) (sz : Nat) (h : Nat) (an : Nat) (tr : Nat) (ah : Nat) (ch : Int32) (ak : Nat) (ai : Nat) (ap : Nat) (n : Nat) (af : Nat) (i : Nat) (p : Nat → Int32) (Wd : Nat) (hW : Wd < 18446744073709551616) (hc0 : ¬ chN Wd = 0) (hnc : n + chN Wd ≤ 80) : Rw l G yX4_put cX4_put 7 (some .int) 8 sz [(h, .inr (4, [.ref an, .ref tr, .ref ah, .int ch, .ref ak, .ref ai, .ref ap, .int (nI n), .ref af, .int (nI i)])), (ap, .inl (gI G, 80, .inl p))] [.ref h, .long (lw Wd)] (nI (n + chN Wd)) [(h, .inr (4, [.ref an, .ref tr, .ref ah, .int ch, .ref ak, .ref ai, .ref ap, .int (nI (n + chN Wd)), .ref af, .int (nI i)])), (ap, .inl (gI G, 80, .inl (apk p n Wd (chN Wd) (chN Wd))))] := by
  refine Rw.mk (by decide) (Nat.le_of_ble_eq_true rfl) (fun pq eq sq mq bq tq cq ls A hr hlk hF hKx hZ hA hP hD hS hl => ?_)
  have hx := hF.1
  have hb := hF.2.1
  have hml := hF.2.2.1
  have hown : sq.vm.findClass RX4 = some mq.cls := hF.2.2.2.1
  have hts : ∀ w ∈ GW, w.before _ sq = true := hF.2.2.2.2
  have hK := hKx.1
  have hl : lv_has ls 7 [(0, .ref h), (1, .long (lw Wd))] := hl
  have hP : va_P G.1 vwCl [(h, .inr (4, [.ref an, .ref tr, .ref ah, .int ch, .ref ak, .ref ai, .ref ap, .int (nI n), .ref af, .int (nI i)])), (ap, .inl (gI G, 80, .inl p))] sq.heap := hP
  have hD : va_D A [(h, .inr (4, [.ref an, .ref tr, .ref ah, .int ch, .ref ak, .ref ai, .ref ap, .int (nI n), .ref af, .int (nI i)])), (ap, .inl (gI G, 80, .inl p))] := hD
  refine lv_iconst (v := nI 0) hx hb dX4_put_0 (by decide) ?_
  refine lv_istore_n (lv' := [(3, .int (nI 0)), (0, .ref h), (1, .long (lw Wd))]) hx hb dX4_put_1 rfl hl (by decide) rfl (fun ls hl => ?_)
  refine lv_lload_n hx hb dX4_put_2 rfl (lv_at hl 2 rfl) ?_
  refine lv_cvq (y := .long (lw (Wd / 256 ^ 0))) (congrArg Value.long (by rw [Nat.pow_zero, Nat.div_one])) ?_
  refine lv_lstore (lv' := [(4, .long (lw (Wd / 256 ^ 0))), (3, .int (nI 0)), (0, .ref h), (1, .long (lw Wd))]) hx hb dX4_put_3 hl (by decide) rfl (fun ls hl => ?_)
  have hPj := hP.sub (ws' := [(h, .inr (4, [.ref an, .ref tr, .ref ah, .int ch, .ref ak, .ref ai, .ref ap, .int (nI n), .ref af, .int (nI i)])), (ap, .inl (gI G, 80, .inl p))]) [0, 1] rfl
  have hDj := hD.sub (ws' := [(h, .inr (4, [.ref an, .ref tr, .ref ah, .int ch, .ref ak, .ref ai, .ref ap, .int (nI n), .ref af, .int (nI i)])), (ap, .inl (gI G, 80, .inl p))]) [0, 1] (by decide) rfl
  refine wloopH [] (fun k H locs ls => (k ≤ 8) ∧ (chN Wd = chk Wd (8 - k) k) ∧ va_P G.1 vwCl [(h, .inr (4, [.ref an, .ref tr, .ref ah, .int ch, .ref ak, .ref ai, .ref ap, .int (nI n), .ref af, .int (nI i)])), (ap, .inl (gI G, 80, .inl p))] H ∧ va_D A [(h, .inr (4, [.ref an, .ref tr, .ref ah, .int ch, .ref ak, .ref ai, .ref ap, .int (nI n), .ref af, .int (nI i)])), (ap, .inl (gI G, 80, .inl p))] ∧ va_S A sq.heap H locs ∧ lv_has ls 7 [(3, .int (nI k)), (4, .long (lw (Wd / 256 ^ k))), (0, .ref h), (1, .long (lw Wd))]) (fun k => 8 - k) ?_ 0 ⟨(by omega), (rfl), hPj, hDj, hS, lv_sub hl [1, 0, 2, 3] rfl⟩
  intro k ih
  intro H locs ls ⟨hk, hC, hP, hD, hS, hl⟩
  have hbl := byt_lt (W := Wd) (k := k)
  have hch : chN Wd ≤ 8 := chk_le Wd 8 0
  refine wjoinH 56 [] (fun H locs ls => ((Wd / 256 ^ k = 0 → chN Wd = k) ∧ (¬ Wd / 256 ^ k = 0 → chN Wd = 0)) ∧ va_P G.1 vwCl [(h, .inr (4, [.ref an, .ref tr, .ref ah, .int ch, .ref ak, .ref ai, .ref ap, .int (nI n), .ref af, .int (nI i)])), (ap, .inl (gI G, 80, .inl p))] H ∧ va_D A [(h, .inr (4, [.ref an, .ref tr, .ref ah, .int ch, .ref ak, .ref ai, .ref ap, .int (nI n), .ref af, .int (nI i)])), (ap, .inl (gI G, 80, .inl p))] ∧ va_S A sq.heap H locs ∧ lv_has ls 7 [(3, .int (nI k)), (4, .long (lw (Wd / 256 ^ k))), (0, .ref h), (1, .long (lw Wd))]) ?_ (fun J56 => ?_)
  · skip
    intro H locs ls ⟨hE, hP, hD, hS, hl⟩
    refine lv_iload_n hx hb dX4_put_56 rfl (lv_at hl 0 rfl) ?_
    refine z0_eq hx hb (tgt := 67) ((k : Nat) : Int) dX4_put_57 (by decide) (toI (by omega)) (fun c_57 => ?_) (fun c_57 => ?_)
    · skip
      exact (Classical.em (Wd / 256 ^ k = 0)).elim (fun q9 => absurd (hE.1 q9) (by omega)) (fun q9 => absurd (hE.2 q9) (by omega))
    · skip
      refine lv_lload hx hb dX4_put_60 (lv_at hl 1 rfl) ?_
      refine lv_lconst (v := 0) hx hb dX4_put_62 (by decide) ?_
      refine W.lcmp hx hb dX4_put_63 ?_
      refine zc_eq hx hb (tgt := 70) (X := ((lw (Wd / 256 ^ k)).toInt)) (Y := 0) dX4_put_64 (by decide) rfl (by decide) (fun c_64 => ?_) (fun c_64 => ?_)
      · skip
        have hkc : chN Wd = k := hE.1 ((lw_0 (byt_le hW)).mp c_64)
        have hck : 1 ≤ k ∧ k ≤ 8 := by omega
        refine lv_aload_n hx hb dX4_put_70 rfl (lv_at hl 2 rfl) ?_
        refine va_get (ci := 4) (v := .int (nI n)) (C := RX4) (T := TX4) (N := 10) hx hb hts inGX4 hown hK hP 0 rfl rfl 7 (by decide) (hts _ mw_3_61) (fun _ h9 => h9) rfl dX4_put_71 ?_
        refine lv_iload_n hx hb dX4_put_74 rfl (lv_at hl 0 rfl) ?_
        refine n_iadd hx hb dX4_put_75 ?_
        refine lv_bipush (v := nI 80) hx hb dX4_put_76 (by decide) ?_
        refine z_le hx hb (tgt := 84) ((n + k : Nat) : Int) 80 dX4_put_78 (by decide) (toI (by omega)) (by decide) (fun c_78 => ?_) (fun c_78 => ?_)
        · skip
          refine lv_iload_n hx hb dX4_put_84 rfl (lv_at hl 0 rfl) ?_
          refine lv_iconst (v := nI 1) hx hb dX4_put_85 (by decide) ?_
          refine n_isub hx hb (by omega) dX4_put_86 ?_
          refine lv_istore (lv' := [(6, .int (nI (k - 1))), (3, .int (nI k)), (4, .long (lw (Wd / 256 ^ k))), (0, .ref h), (1, .long (lw Wd))]) hx hb dX4_put_87 hl (by decide) rfl (fun ls hl => ?_)
          have hPj := hP.sub (ws' := [(h, .inr (4, [.ref an, .ref tr, .ref ah, .int ch, .ref ak, .ref ai, .ref ap, .int (nI n), .ref af, .int (nI i)])), (ap, .inl (gI G, 80, .inl p))]) [0, 1] rfl
          have hDj := hD.sub (ws' := [(h, .inr (4, [.ref an, .ref tr, .ref ah, .int ch, .ref ak, .ref ai, .ref ap, .int (nI n), .ref af, .int (nI i)])), (ap, .inl (gI G, 80, .inl p))]) [0, 1] (by decide) rfl
          have hwj : ([(h, .inr (4, [.ref an, .ref tr, .ref ah, .int ch, .ref ak, .ref ai, .ref ap, .int (nI n), .ref af, .int (nI i)])), (ap, .inl (gI G, 80, .inl p))] : va_W) = [(h, .inr (4, [.ref an, .ref tr, .ref ah, .int ch, .ref ak, .ref ai, .ref ap, .int (nI (n + 0)), .ref af, .int (nI i)])), (ap, .inl (gI G, 80, .inl (apk p n Wd k 0)))] := (wlc (rfl) (wlc (rfl) rfl))
          rw [hwj] at hPj hDj
          refine wloopH [] (fun j H locs ls => (j ≤ k) ∧ va_P G.1 vwCl [(h, .inr (4, [.ref an, .ref tr, .ref ah, .int ch, .ref ak, .ref ai, .ref ap, .int (nI (n + j)), .ref af, .int (nI i)])), (ap, .inl (gI G, 80, .inl (apk p n Wd k j)))] H ∧ va_D A [(h, .inr (4, [.ref an, .ref tr, .ref ah, .int ch, .ref ak, .ref ai, .ref ap, .int (nI (n + j)), .ref af, .int (nI i)])), (ap, .inl (gI G, 80, .inl (apk p n Wd k j)))] ∧ va_S A sq.heap H locs ∧ lv_has ls 7 [(6, .int (ia k j)), (0, .ref h), (1, .long (lw Wd)), (3, .int (nI k))]) (fun j => k - j) ?_ 0 ⟨(by omega), hPj, hDj, hS, lv_sub hl [0, 3, 4, 1] (lvc ((ia_n (c := k) (j := 0) hck (by omega)).symm) (lvr (lvr (lvr rfl))))⟩
          intro j ihj
          intro H locs ls ⟨hj, hP, hD, hS, hl⟩
          refine lv_iload hx hb dX4_put_89 (lv_at hl 0 rfl) ?_
          refine z0_lt hx hb (tgt := 131) (((k : Nat) : Int) - 1 - ((j : Nat) : Int)) dX4_put_91 (by decide) (ia_i hck hj) (fun c_91 => ?_) (fun c_91 => ?_)
          · skip
            have hj2 : k = j := by omega
            subst hj2
            refine lv_aload_n hx hb dX4_put_131 rfl (lv_at hl 1 rfl) ?_
            refine va_get (ci := 4) (v := .int (nI (n + k))) (C := RX4) (T := TX4) (N := 10) hx hb hts inGX4 hown hK hP 0 rfl rfl 7 (by decide) (hts _ mw_3_61) (fun _ h9 => h9) rfl dX4_put_132 ?_
            have hPj := hP.sub (ws' := [(h, .inr (4, [.ref an, .ref tr, .ref ah, .int ch, .ref ak, .ref ai, .ref ap, .int (nI (n + k)), .ref af, .int (nI i)])), (ap, .inl (gI G, 80, .inl (apk p n Wd k k)))]) [0, 1] rfl
            have hwj : ([(h, .inr (4, [.ref an, .ref tr, .ref ah, .int ch, .ref ak, .ref ai, .ref ap, .int (nI (n + k)), .ref af, .int (nI i)])), (ap, .inl (gI G, 80, .inl (apk p n Wd k k)))] : va_W) = [(h, .inr (4, [.ref an, .ref tr, .ref ah, .int ch, .ref ak, .ref ai, .ref ap, .int (nI (n + chN Wd)), .ref af, .int (nI i)])), (ap, .inl (gI G, 80, .inl (apk p n Wd (chN Wd) (chN Wd))))] := (wlc (by rw [hkc]) (wlc (wli (by rw [hkc])) rfl))
            rw [hwj] at hPj
            exact e_wi hx hb hr hlk hPj hS (by rw [hkc]) dX4_put_135
          · skip
            refine lv_aload_n hx hb dX4_put_94 rfl (lv_at hl 1 rfl) ?_
            refine va_get (ci := 4) (v := .ref ap) (C := RX4) (T := TX4) (N := 10) hx hb hts inGX4 hown hK hP 0 rfl rfl 6 (by decide) (hts _ mw_3_60) (fun _ h9 => h9) rfl dX4_put_95 ?_
            refine lv_aload_n hx hb dX4_put_98 rfl (lv_at hl 1 rfl) ?_
            refine va_get (ci := 4) (v := .int (nI (n + j))) (C := RX4) (T := TX4) (N := 10) hx hb hts inGX4 hown hK hP 0 rfl rfl 7 (by decide) (hts _ mw_3_61) (fun _ h9 => h9) rfl dX4_put_99 ?_
            refine lv_lload_n hx hb dX4_put_102 rfl (lv_at hl 2 rfl) ?_
            refine lv_bipush (v := nI 8) hx hb dX4_put_103 (by decide) ?_
            refine lv_iload hx hb dX4_put_105 (lv_at hl 0 rfl) ?_
            refine lv_cv (y := nI (k - 1 - j)) (ia_n hck (by omega)) ?_
            refine n_imul hx hb dX4_put_107 ?_
            refine lv_lushr (v := ((lw Wd).toUInt64 >>> ((nI (8 * (k - 1 - j))).toInt64.toUInt64 &&& Int64.toUInt64 63)).toInt64) hx hb dX4_put_108 rfl ?_
            refine lv_cvq (y := .long (lw (Wd / 256 ^ (k - 1 - j)))) (congrArg Value.long ((lw_sh hW (by omega)).trans (congrArg (fun q9 => lw (Wd / q9)) byt_pw))) ?_
            refine lv_ldc2 (v := 255) hx hb hown (hts _ mw_4_47) dX4_put_109 ?_
            refine lv_land hx hb dX4_put_112 ?_
            refine lv_cvq (y := .long (lw (byt Wd (k - 1 - j)))) (congrArg Value.long (lw_and (byt_le hW))) ?_
            refine lv_l2i (v := (lw (byt Wd (k - 1 - j))).toInt32) hx hb dX4_put_113 rfl ?_
            refine lv_cv (y := nI (byt Wd (k - 1 - j))) (lw_l2i (Nat.lt_trans byt_lt (by decide))) ?_
            refine n_iast hx hb hK hP hD hS 1 0 rfl rfl (by omega) (by omega) dX4_put_114 (fun H locs hP hD hS => ?_)
            have hP : va_P G.1 vwCl [(h, .inr (4, [.ref an, .ref tr, .ref ah, .int ch, .ref ak, .ref ai, .ref ap, .int (nI (n + j)), .ref af, .int (nI i)])), (ap, .inl (gI G, 80, .inl (upd (apk p n Wd k j) (n + j) (nI (byt Wd (k - 1 - j))))))] H := hP
            have hD : va_D A [(h, .inr (4, [.ref an, .ref tr, .ref ah, .int ch, .ref ak, .ref ai, .ref ap, .int (nI (n + j)), .ref af, .int (nI i)])), (ap, .inl (gI G, 80, .inl (upd (apk p n Wd k j) (n + j) (nI (byt Wd (k - 1 - j))))))] := hD
            refine lv_aload_n hx hb dX4_put_115 rfl (lv_at hl 1 rfl) ?_
            refine lv_dup hx hb dX4_put_116 rfl ?_
            refine va_get (ci := 4) (v := .int (nI (n + j))) (C := RX4) (T := TX4) (N := 10) hx hb hts inGX4 hown hK hP 0 rfl rfl 7 (by decide) (hts _ mw_3_61) (fun _ h9 => h9) rfl dX4_put_117 ?_
            refine lv_iconst (v := nI 1) hx hb dX4_put_120 (by decide) ?_
            refine n_iadd hx hb dX4_put_121 ?_
            refine va_put (ci := 4) (v := .int (nI (n + j + 1))) (ty := .int) (C := RX4) (T := TX4) (N := 10) hx hb hts inGX4 tyX4 tyX4_ok nmX4 hown hK hP hD hS 0 rfl rfl 7 (by decide) (hts _ mw_3_61) (fun _ h9 => h9) rfl (by decide +kernel) rfl rfl (Nat.le_of_ble_eq_true rfl) dX4_put_122 (fun H locs hP hD hS => ?_)
            have hP : va_P G.1 vwCl [(h, .inr (4, [.ref an, .ref tr, .ref ah, .int ch, .ref ak, .ref ai, .ref ap, .int (nI (n + j + 1)), .ref af, .int (nI i)])), (ap, .inl (gI G, 80, .inl (upd (apk p n Wd k j) (n + j) (nI (byt Wd (k - 1 - j))))))] H := hP
            have hD : va_D A [(h, .inr (4, [.ref an, .ref tr, .ref ah, .int ch, .ref ak, .ref ai, .ref ap, .int (nI (n + j + 1)), .ref af, .int (nI i)])), (ap, .inl (gI G, 80, .inl (upd (apk p n Wd k j) (n + j) (nI (byt Wd (k - 1 - j))))))] := hD
            refine lv_iinc (v := ia k j + (-1)) (lv' := [(6, .int (ia k j + (-1))), (0, .ref h), (1, .long (lw Wd)), (3, .int (nI k))]) hx hb dX4_put_125 hl (k := 0) rfl (rfl) (by decide) rfl (fun ls hl => ?_)
            refine lv_goto (tgt := 89) hx hb dX4_put_128 (by decide) ?_
            have w_1 : ([(h, .inr (4, [.ref an, .ref tr, .ref ah, .int ch, .ref ak, .ref ai, .ref ap, .int (nI (n + j + 1)), .ref af, .int (nI i)])), (ap, .inl (gI G, 80, .inl (upd (apk p n Wd k j) (n + j) (nI (byt Wd (k - 1 - j))))))] : va_W) = [(h, .inr (4, [.ref an, .ref tr, .ref ah, .int ch, .ref ak, .ref ai, .ref ap, .int (nI (n + (j + 1))), .ref af, .int (nI i)])), (ap, .inl (gI G, 80, .inl (apk p n Wd k (j + 1))))] := (wlc (rfl) (wlc (rfl) rfl))
            have hPj := hP.sub (ws' := [(h, .inr (4, [.ref an, .ref tr, .ref ah, .int ch, .ref ak, .ref ai, .ref ap, .int (nI (n + j + 1)), .ref af, .int (nI i)])), (ap, .inl (gI G, 80, .inl (upd (apk p n Wd k j) (n + j) (nI (byt Wd (k - 1 - j))))))]) [0, 1] rfl
            have hDj := hD.sub (ws' := [(h, .inr (4, [.ref an, .ref tr, .ref ah, .int ch, .ref ak, .ref ai, .ref ap, .int (nI (n + j + 1)), .ref af, .int (nI i)])), (ap, .inl (gI G, 80, .inl (upd (apk p n Wd k j) (n + j) (nI (byt Wd (k - 1 - j))))))]) [0, 1] (by decide) rfl
            rw [w_1] at hPj hDj
            exact ihj (j + 1) _ _ ls (by omega) ⟨(by omega), hPj, hDj, hS, lv_sub hl [0, 1, 2, 3] (lvc (ia_s) (lvr (lvr (lvr rfl))))⟩
        · skip
          exact absurd c_78 (by omega)
      · skip
        exact absurd (hE.2 (fun z => c_64 ((lw_0 (byt_le hW)).mpr z))) (by omega)
  · skip
    refine lv_iload_n hx hb dX4_put_5 rfl (lv_at hl 0 rfl) ?_
    refine lv_bipush (v := nI 8) hx hb dX4_put_6 (by decide) ?_
    refine z_ge hx hb (tgt := 56) ((k : Nat) : Int) 8 dX4_put_8 (by decide) (toI (by omega)) (by decide) (fun c_8 => ?_) (fun c_8 => ?_)
    · skip
      exact J56 _ _ ls ⟨(by first | exact ptE8 hW (by omega) hC | exact ptE (by omega) (by omega) hC), (hP.sub (ws' := [(h, .inr (4, [.ref an, .ref tr, .ref ah, .int ch, .ref ak, .ref ai, .ref ap, .int (nI n), .ref af, .int (nI i)])), (ap, .inl (gI G, 80, .inl p))]) [0, 1] rfl), (hD.sub (ws' := [(h, .inr (4, [.ref an, .ref tr, .ref ah, .int ch, .ref ak, .ref ai, .ref ap, .int (nI n), .ref af, .int (nI i)])), (ap, .inl (gI G, 80, .inl p))]) [0, 1] (by decide) rfl), hS, lv_sub hl [0, 1, 2, 3] rfl⟩
    · skip
      refine lv_lload hx hb dX4_put_11 (lv_at hl 1 rfl) ?_
      refine lv_ldc2 (v := 255) hx hb hown (hts _ mw_4_47) dX4_put_13 ?_
      refine lv_land hx hb dX4_put_16 ?_
      refine lv_cvq (y := .long (lw (byt Wd (k)))) (congrArg Value.long (lw_and (byt_le hW))) ?_
      refine lv_lconst (v := 0) hx hb dX4_put_17 (by decide) ?_
      refine W.lcmp hx hb dX4_put_18 ?_
      refine zc_eq hx hb (tgt := 56) (X := ((byt Wd (k) : Nat) : Int)) (Y := 0) dX4_put_19 (by decide) (lw_i (Nat.lt_trans byt_lt (by decide))) (by decide) (fun c_19 => ?_) (fun c_19 => ?_)
      · skip
        exact J56 _ _ ls ⟨(by first | exact ptE8 hW (by omega) hC | exact ptE (by omega) (by omega) hC), (hP.sub (ws' := [(h, .inr (4, [.ref an, .ref tr, .ref ah, .int ch, .ref ak, .ref ai, .ref ap, .int (nI n), .ref af, .int (nI i)])), (ap, .inl (gI G, 80, .inl p))]) [0, 1] rfl), (hD.sub (ws' := [(h, .inr (4, [.ref an, .ref tr, .ref ah, .int ch, .ref ak, .ref ai, .ref ap, .int (nI n), .ref af, .int (nI i)])), (ap, .inl (gI G, 80, .inl p))]) [0, 1] (by decide) rfl), hS, lv_sub hl [0, 1, 2, 3] rfl⟩
      · skip
        refine lv_lload hx hb dX4_put_22 (lv_at hl 1 rfl) ?_
        refine lv_ldc2 (v := 255) hx hb hown (hts _ mw_4_47) dX4_put_24 ?_
        refine lv_land hx hb dX4_put_27 ?_
        refine lv_cvq (y := .long (lw (byt Wd (k)))) (congrArg Value.long (lw_and (byt_le hW))) ?_
        refine lv_ldc2 (v := 33) hx hb hown (hts _ mw_4_48) dX4_put_28 ?_
        refine lv_ldc2 (v := 126) hx hb hown (hts _ mw_4_49) dX4_put_31 ?_
        refine k_roS (As := [.long (lw (byt Wd (k))), .long 33, .long 126]) (rest := []) hF (c_X4_in l G (lw (byt Wd (k))) 33 126 ((byt Wd (k) : Nat) : Int) 33 126 (lw_i (Nat.lt_trans byt_lt (by decide))) (by decide) (by decide)) mw_3_91 mw_3_92 mw_1_5 mw_3_93 hd_X4_in ⟨Nat.le_of_ble_eq_true rfl, Nat.le_of_ble_eq_true rfl⟩ (Rd.of hKx hZ hS) (hP.sub (ws' := []) [] rfl) rfl hl.1 rfl (Nat.le_of_ble_eq_true rfl) dX4_put_34 ⟨Nat.zero_le _, Nat.zero_le _⟩ ?_
        refine p0_ne hx hb (tgt := 43) dX4_put_37 (by decide) (fun c_37 => ?_) (fun c_37 => ?_)
        · skip
          refine lv_iinc (v := nI (k + 1)) (lv' := [(3, .int (nI (k + 1))), (4, .long (lw (Wd / 256 ^ k))), (0, .ref h), (1, .long (lw Wd))]) hx hb dX4_put_43 hl (k := 0) rfl (nI_add _ _) (by decide) rfl (fun ls hl => ?_)
          refine lv_lload hx hb dX4_put_46 (lv_at hl 1 rfl) ?_
          refine lv_bipush (v := nI 8) hx hb dX4_put_48 (by decide) ?_
          refine lv_lushr (v := ((lw (Wd / 256 ^ k)).toUInt64 >>> ((nI 8).toInt64.toUInt64 &&& Int64.toUInt64 63)).toInt64) hx hb dX4_put_50 rfl ?_
          refine lv_cvq (y := .long (lw (Wd / 256 ^ (k + 1)))) (congrArg Value.long ((lw_sh (byt_le hW) (by decide)).trans (congrArg lw byt_sh))) ?_
          refine lv_lstore (lv' := [(4, .long (lw (Wd / 256 ^ (k + 1)))), (3, .int (nI (k + 1))), (0, .ref h), (1, .long (lw Wd))]) hx hb dX4_put_51 hl (by decide) rfl (fun ls hl => ?_)
          refine lv_goto (tgt := 5) hx hb dX4_put_53 (by decide) ?_
          exact ih (k + 1) _ _ ls (by omega) ⟨(by omega), (hC.trans (chk_g (by omega) (byt_n0 (by omega)) ⟨by omega, by omega⟩)), (hP.sub (ws' := [(h, .inr (4, [.ref an, .ref tr, .ref ah, .int ch, .ref ak, .ref ai, .ref ap, .int (nI n), .ref af, .int (nI i)])), (ap, .inl (gI G, 80, .inl p))]) [0, 1] rfl), (hD.sub (ws' := [(h, .inr (4, [.ref an, .ref tr, .ref ah, .int ch, .ref ak, .ref ai, .ref ap, .int (nI n), .ref af, .int (nI i)])), (ap, .inl (gI G, 80, .inl p))]) [0, 1] (by decide) rfl), hS, lv_sub hl [1, 0, 2, 3] rfl⟩
        · skip
          exact absurd (hC.trans (chk_b (by omega) (byt_n0 (by omega)) (fun z => by have hq9 := z.1; have hq8 := z.2; omega))) hc0
set_option maxHeartbeats 4000000 in
set_option maxRecDepth 100000 in
theorem c_X4_put_e (l : Launch) (G : gT) (h : Nat) (an : Nat) (tr : Nat) (ah : Nat) (ch : Int32) (ak : Nat) (ai : Nat) (ap : Nat) (n : Nat) (af : Nat) (i : Nat) (Wd : Nat) (hW : Wd < 18446744073709551616) (hc0 : chN Wd = 0) : Ro l G yX4_put cX4_put 7 (some .int) 8 [(h, .inr (4, [.ref an, .ref tr, .ref ah, .int ch, .ref ak, .ref ai, .ref ap, .int (nI n), .ref af, .int (nI i)]))] [.ref h, .long (lw Wd)] (-2) := by
  refine Ro.mk (by decide) (Nat.le_of_ble_eq_true rfl) (fun pq eq sq mq bq tq cq ls hr hlk hF hKx hZ hP hl => ?_)
  have hx := hF.1
  have hb := hF.2.1
  have hml := hF.2.2.1
  have hown : sq.vm.findClass RX4 = some mq.cls := hF.2.2.2.1
  have hts : ∀ w ∈ GW, w.before _ sq = true := hF.2.2.2.2
  have hK := hKx.1
  have hl : lv_has ls 7 [(0, .ref h), (1, .long (lw Wd))] := hl
  have hS : va_S (fun _ => False) sq.heap sq.heap [] := va_S.rf
  have hP : va_P G.1 vwCl [(h, .inr (4, [.ref an, .ref tr, .ref ah, .int ch, .ref ak, .ref ai, .ref ap, .int (nI n), .ref af, .int (nI i)]))] sq.heap := hP
  refine lv_iconst (v := nI 0) hx hb dX4_put_0 (by decide) ?_
  refine lv_istore_n (lv' := [(3, .int (nI 0)), (0, .ref h), (1, .long (lw Wd))]) hx hb dX4_put_1 rfl hl (by decide) rfl (fun ls hl => ?_)
  refine lv_lload_n hx hb dX4_put_2 rfl (lv_at hl 2 rfl) ?_
  refine lv_cvq (y := .long (lw (Wd / 256 ^ 0))) (congrArg Value.long (by rw [Nat.pow_zero, Nat.div_one])) ?_
  refine lv_lstore (lv' := [(4, .long (lw (Wd / 256 ^ 0))), (3, .int (nI 0)), (0, .ref h), (1, .long (lw Wd))]) hx hb dX4_put_3 hl (by decide) rfl (fun ls hl => ?_)
  refine wloop (n := 0) [] (fun k ls => (k ≤ 8) ∧ (chN Wd = chk Wd (8 - k) k) ∧ lv_has ls 7 [(3, .int (nI k)), (4, .long (lw (Wd / 256 ^ k))), (0, .ref h), (1, .long (lw Wd))]) (fun k => 8 - k) ?_ 0 ⟨(by omega), (rfl), lv_sub hl [1, 0, 2, 3] rfl⟩
  intro k ih
  intro ls ⟨hk, hC, hl⟩
  have hbl := byt_lt (W := Wd) (k := k)
  have hch : chN Wd ≤ 8 := chk_le Wd 8 0
  refine wjoin 56 [] (fun ls => ((Wd / 256 ^ k = 0 → chN Wd = k) ∧ (¬ Wd / 256 ^ k = 0 → chN Wd = 0)) ∧ lv_has ls 7 [(3, .int (nI k)), (4, .long (lw (Wd / 256 ^ k))), (0, .ref h), (1, .long (lw Wd))]) ?_ (fun J56 => ?_)
  · skip
    intro ls ⟨hE, hl⟩
    refine lv_iload_n hx hb dX4_put_56 rfl (lv_at hl 0 rfl) ?_
    refine z0_eq hx hb (tgt := 67) ((k : Nat) : Int) dX4_put_57 (by decide) (toI (by omega)) (fun c_57 => ?_) (fun c_57 => ?_)
    · skip
      refine lv_bipush (v := (-2)) hx hb dX4_put_67 (by decide) ?_
      exact e_ri hx hb hr hlk (rfl) dX4_put_69
    · skip
      refine lv_lload hx hb dX4_put_60 (lv_at hl 1 rfl) ?_
      refine lv_lconst (v := 0) hx hb dX4_put_62 (by decide) ?_
      refine W.lcmp hx hb dX4_put_63 ?_
      refine zc_eq hx hb (tgt := 70) (X := ((lw (Wd / 256 ^ k)).toInt)) (Y := 0) dX4_put_64 (by decide) rfl (by decide) (fun c_64 => ?_) (fun c_64 => ?_)
      · skip
        exact absurd (hE.1 ((lw_0 (byt_le hW)).mp c_64)) (by omega)
      · skip
        refine lv_bipush (v := (-2)) hx hb dX4_put_67 (by decide) ?_
        exact e_ri hx hb hr hlk (rfl) dX4_put_69
  · skip
    refine lv_iload_n hx hb dX4_put_5 rfl (lv_at hl 0 rfl) ?_
    refine lv_bipush (v := nI 8) hx hb dX4_put_6 (by decide) ?_
    refine z_ge hx hb (tgt := 56) ((k : Nat) : Int) 8 dX4_put_8 (by decide) (toI (by omega)) (by decide) (fun c_8 => ?_) (fun c_8 => ?_)
    · skip
      exact J56 ls ⟨(by first | exact ptE8 hW (by omega) hC | exact ptE (by omega) (by omega) hC), lv_sub hl [0, 1, 2, 3] rfl⟩
    · skip
      refine lv_lload hx hb dX4_put_11 (lv_at hl 1 rfl) ?_
      refine lv_ldc2 (v := 255) hx hb hown (hts _ mw_4_47) dX4_put_13 ?_
      refine lv_land hx hb dX4_put_16 ?_
      refine lv_cvq (y := .long (lw (byt Wd (k)))) (congrArg Value.long (lw_and (byt_le hW))) ?_
      refine lv_lconst (v := 0) hx hb dX4_put_17 (by decide) ?_
      refine W.lcmp hx hb dX4_put_18 ?_
      refine zc_eq hx hb (tgt := 56) (X := ((byt Wd (k) : Nat) : Int)) (Y := 0) dX4_put_19 (by decide) (lw_i (Nat.lt_trans byt_lt (by decide))) (by decide) (fun c_19 => ?_) (fun c_19 => ?_)
      · skip
        exact J56 ls ⟨(by first | exact ptE8 hW (by omega) hC | exact ptE (by omega) (by omega) hC), lv_sub hl [0, 1, 2, 3] rfl⟩
      · skip
        refine lv_lload hx hb dX4_put_22 (lv_at hl 1 rfl) ?_
        refine lv_ldc2 (v := 255) hx hb hown (hts _ mw_4_47) dX4_put_24 ?_
        refine lv_land hx hb dX4_put_27 ?_
        refine lv_cvq (y := .long (lw (byt Wd (k)))) (congrArg Value.long (lw_and (byt_le hW))) ?_
        refine lv_ldc2 (v := 33) hx hb hown (hts _ mw_4_48) dX4_put_28 ?_
        refine lv_ldc2 (v := 126) hx hb hown (hts _ mw_4_49) dX4_put_31 ?_
        refine k_roS (As := [.long (lw (byt Wd (k))), .long 33, .long 126]) (rest := []) hF (c_X4_in l G (lw (byt Wd (k))) 33 126 ((byt Wd (k) : Nat) : Int) 33 126 (lw_i (Nat.lt_trans byt_lt (by decide))) (by decide) (by decide)) mw_3_91 mw_3_92 mw_1_5 mw_3_93 hd_X4_in ⟨Nat.le_of_ble_eq_true rfl, Nat.le_of_ble_eq_true rfl⟩ (Rd.of hKx hZ hS) (hP.sub (ws' := []) [] rfl) rfl hl.1 rfl (Nat.le_of_ble_eq_true rfl) dX4_put_34 ⟨Nat.zero_le _, Nat.zero_le _⟩ ?_
        refine p0_ne hx hb (tgt := 43) dX4_put_37 (by decide) (fun c_37 => ?_) (fun c_37 => ?_)
        · skip
          refine lv_iinc (v := nI (k + 1)) (lv' := [(3, .int (nI (k + 1))), (4, .long (lw (Wd / 256 ^ k))), (0, .ref h), (1, .long (lw Wd))]) hx hb dX4_put_43 hl (k := 0) rfl (nI_add _ _) (by decide) rfl (fun ls hl => ?_)
          refine lv_lload hx hb dX4_put_46 (lv_at hl 1 rfl) ?_
          refine lv_bipush (v := nI 8) hx hb dX4_put_48 (by decide) ?_
          refine lv_lushr (v := ((lw (Wd / 256 ^ k)).toUInt64 >>> ((nI 8).toInt64.toUInt64 &&& Int64.toUInt64 63)).toInt64) hx hb dX4_put_50 rfl ?_
          refine lv_cvq (y := .long (lw (Wd / 256 ^ (k + 1)))) (congrArg Value.long ((lw_sh (byt_le hW) (by decide)).trans (congrArg lw byt_sh))) ?_
          refine lv_lstore (lv' := [(4, .long (lw (Wd / 256 ^ (k + 1)))), (3, .int (nI (k + 1))), (0, .ref h), (1, .long (lw Wd))]) hx hb dX4_put_51 hl (by decide) rfl (fun ls hl => ?_)
          refine lv_goto (tgt := 5) hx hb dX4_put_53 (by decide) ?_
          exact ih (k + 1) ls (by omega) ⟨(by omega), (hC.trans (chk_g (by omega) (byt_n0 (by omega)) ⟨by omega, by omega⟩)), lv_sub hl [1, 0, 2, 3] rfl⟩
        · skip
          refine lv_bipush (v := (-2)) hx hb dX4_put_40 (by decide) ?_
          exact e_ri hx hb hr hlk (rfl) dX4_put_42
set_option maxHeartbeats 4000000 in
set_option maxRecDepth 100000 in
theorem c_X4_put_e2 (l : Launch) (G : gT) (h : Nat) (an : Nat) (tr : Nat) (ah : Nat) (ch : Int32) (ak : Nat) (ai : Nat) (ap : Nat) (n : Nat) (af : Nat) (i : Nat) (Wd : Nat) (hW : Wd < 18446744073709551616) (hn : n ≤ 80) (hc0 : ¬ chN Wd = 0) (hnc : ¬ n + chN Wd ≤ 80) : Ro l G yX4_put cX4_put 7 (some .int) 8 [(h, .inr (4, [.ref an, .ref tr, .ref ah, .int ch, .ref ak, .ref ai, .ref ap, .int (nI n), .ref af, .int (nI i)]))] [.ref h, .long (lw Wd)] (-4) := by
  refine Ro.mk (by decide) (Nat.le_of_ble_eq_true rfl) (fun pq eq sq mq bq tq cq ls hr hlk hF hKx hZ hP hl => ?_)
  have hx := hF.1
  have hb := hF.2.1
  have hml := hF.2.2.1
  have hown : sq.vm.findClass RX4 = some mq.cls := hF.2.2.2.1
  have hts : ∀ w ∈ GW, w.before _ sq = true := hF.2.2.2.2
  have hK := hKx.1
  have hl : lv_has ls 7 [(0, .ref h), (1, .long (lw Wd))] := hl
  have hS : va_S (fun _ => False) sq.heap sq.heap [] := va_S.rf
  have hP : va_P G.1 vwCl [(h, .inr (4, [.ref an, .ref tr, .ref ah, .int ch, .ref ak, .ref ai, .ref ap, .int (nI n), .ref af, .int (nI i)]))] sq.heap := hP
  refine lv_iconst (v := nI 0) hx hb dX4_put_0 (by decide) ?_
  refine lv_istore_n (lv' := [(3, .int (nI 0)), (0, .ref h), (1, .long (lw Wd))]) hx hb dX4_put_1 rfl hl (by decide) rfl (fun ls hl => ?_)
  refine lv_lload_n hx hb dX4_put_2 rfl (lv_at hl 2 rfl) ?_
  refine lv_cvq (y := .long (lw (Wd / 256 ^ 0))) (congrArg Value.long (by rw [Nat.pow_zero, Nat.div_one])) ?_
  refine lv_lstore (lv' := [(4, .long (lw (Wd / 256 ^ 0))), (3, .int (nI 0)), (0, .ref h), (1, .long (lw Wd))]) hx hb dX4_put_3 hl (by decide) rfl (fun ls hl => ?_)
  refine wloop (n := 0) [] (fun k ls => (k ≤ 8) ∧ (chN Wd = chk Wd (8 - k) k) ∧ lv_has ls 7 [(3, .int (nI k)), (4, .long (lw (Wd / 256 ^ k))), (0, .ref h), (1, .long (lw Wd))]) (fun k => 8 - k) ?_ 0 ⟨(by omega), (rfl), lv_sub hl [1, 0, 2, 3] rfl⟩
  intro k ih
  intro ls ⟨hk, hC, hl⟩
  have hbl := byt_lt (W := Wd) (k := k)
  have hch : chN Wd ≤ 8 := chk_le Wd 8 0
  refine wjoin 56 [] (fun ls => ((Wd / 256 ^ k = 0 → chN Wd = k) ∧ (¬ Wd / 256 ^ k = 0 → chN Wd = 0)) ∧ lv_has ls 7 [(3, .int (nI k)), (4, .long (lw (Wd / 256 ^ k))), (0, .ref h), (1, .long (lw Wd))]) ?_ (fun J56 => ?_)
  · skip
    intro ls ⟨hE, hl⟩
    refine lv_iload_n hx hb dX4_put_56 rfl (lv_at hl 0 rfl) ?_
    refine z0_eq hx hb (tgt := 67) ((k : Nat) : Int) dX4_put_57 (by decide) (toI (by omega)) (fun c_57 => ?_) (fun c_57 => ?_)
    · skip
      exact (Classical.em (Wd / 256 ^ k = 0)).elim (fun q9 => absurd (hE.1 q9) (by omega)) (fun q9 => absurd (hE.2 q9) (by omega))
    · skip
      refine lv_lload hx hb dX4_put_60 (lv_at hl 1 rfl) ?_
      refine lv_lconst (v := 0) hx hb dX4_put_62 (by decide) ?_
      refine W.lcmp hx hb dX4_put_63 ?_
      refine zc_eq hx hb (tgt := 70) (X := ((lw (Wd / 256 ^ k)).toInt)) (Y := 0) dX4_put_64 (by decide) rfl (by decide) (fun c_64 => ?_) (fun c_64 => ?_)
      · skip
        have hkc : chN Wd = k := hE.1 ((lw_0 (byt_le hW)).mp c_64)
        refine lv_aload_n hx hb dX4_put_70 rfl (lv_at hl 2 rfl) ?_
        refine va_get (ci := 4) (v := .int (nI n)) (C := RX4) (T := TX4) (N := 10) hx hb hts inGX4 hown hK hP 0 rfl rfl 7 (by decide) (hts _ mw_3_61) (fun _ h9 => h9) rfl dX4_put_71 ?_
        refine lv_iload_n hx hb dX4_put_74 rfl (lv_at hl 0 rfl) ?_
        refine n_iadd hx hb dX4_put_75 ?_
        refine lv_bipush (v := nI 80) hx hb dX4_put_76 (by decide) ?_
        refine z_le hx hb (tgt := 84) ((n + k : Nat) : Int) 80 dX4_put_78 (by decide) (toI (by omega)) (by decide) (fun c_78 => ?_) (fun c_78 => ?_)
        · skip
          exact absurd c_78 (by omega)
        · skip
          refine lv_bipush (v := (-4)) hx hb dX4_put_81 (by decide) ?_
          exact e_ri hx hb hr hlk (rfl) dX4_put_83
      · skip
        exact absurd (hE.2 (fun z => c_64 ((lw_0 (byt_le hW)).mpr z))) (by omega)
  · skip
    refine lv_iload_n hx hb dX4_put_5 rfl (lv_at hl 0 rfl) ?_
    refine lv_bipush (v := nI 8) hx hb dX4_put_6 (by decide) ?_
    refine z_ge hx hb (tgt := 56) ((k : Nat) : Int) 8 dX4_put_8 (by decide) (toI (by omega)) (by decide) (fun c_8 => ?_) (fun c_8 => ?_)
    · skip
      exact J56 ls ⟨(by first | exact ptE8 hW (by omega) hC | exact ptE (by omega) (by omega) hC), lv_sub hl [0, 1, 2, 3] rfl⟩
    · skip
      refine lv_lload hx hb dX4_put_11 (lv_at hl 1 rfl) ?_
      refine lv_ldc2 (v := 255) hx hb hown (hts _ mw_4_47) dX4_put_13 ?_
      refine lv_land hx hb dX4_put_16 ?_
      refine lv_cvq (y := .long (lw (byt Wd (k)))) (congrArg Value.long (lw_and (byt_le hW))) ?_
      refine lv_lconst (v := 0) hx hb dX4_put_17 (by decide) ?_
      refine W.lcmp hx hb dX4_put_18 ?_
      refine zc_eq hx hb (tgt := 56) (X := ((byt Wd (k) : Nat) : Int)) (Y := 0) dX4_put_19 (by decide) (lw_i (Nat.lt_trans byt_lt (by decide))) (by decide) (fun c_19 => ?_) (fun c_19 => ?_)
      · skip
        exact J56 ls ⟨(by first | exact ptE8 hW (by omega) hC | exact ptE (by omega) (by omega) hC), lv_sub hl [0, 1, 2, 3] rfl⟩
      · skip
        refine lv_lload hx hb dX4_put_22 (lv_at hl 1 rfl) ?_
        refine lv_ldc2 (v := 255) hx hb hown (hts _ mw_4_47) dX4_put_24 ?_
        refine lv_land hx hb dX4_put_27 ?_
        refine lv_cvq (y := .long (lw (byt Wd (k)))) (congrArg Value.long (lw_and (byt_le hW))) ?_
        refine lv_ldc2 (v := 33) hx hb hown (hts _ mw_4_48) dX4_put_28 ?_
        refine lv_ldc2 (v := 126) hx hb hown (hts _ mw_4_49) dX4_put_31 ?_
        refine k_roS (As := [.long (lw (byt Wd (k))), .long 33, .long 126]) (rest := []) hF (c_X4_in l G (lw (byt Wd (k))) 33 126 ((byt Wd (k) : Nat) : Int) 33 126 (lw_i (Nat.lt_trans byt_lt (by decide))) (by decide) (by decide)) mw_3_91 mw_3_92 mw_1_5 mw_3_93 hd_X4_in ⟨Nat.le_of_ble_eq_true rfl, Nat.le_of_ble_eq_true rfl⟩ (Rd.of hKx hZ hS) (hP.sub (ws' := []) [] rfl) rfl hl.1 rfl (Nat.le_of_ble_eq_true rfl) dX4_put_34 ⟨Nat.zero_le _, Nat.zero_le _⟩ ?_
        refine p0_ne hx hb (tgt := 43) dX4_put_37 (by decide) (fun c_37 => ?_) (fun c_37 => ?_)
        · skip
          refine lv_iinc (v := nI (k + 1)) (lv' := [(3, .int (nI (k + 1))), (4, .long (lw (Wd / 256 ^ k))), (0, .ref h), (1, .long (lw Wd))]) hx hb dX4_put_43 hl (k := 0) rfl (nI_add _ _) (by decide) rfl (fun ls hl => ?_)
          refine lv_lload hx hb dX4_put_46 (lv_at hl 1 rfl) ?_
          refine lv_bipush (v := nI 8) hx hb dX4_put_48 (by decide) ?_
          refine lv_lushr (v := ((lw (Wd / 256 ^ k)).toUInt64 >>> ((nI 8).toInt64.toUInt64 &&& Int64.toUInt64 63)).toInt64) hx hb dX4_put_50 rfl ?_
          refine lv_cvq (y := .long (lw (Wd / 256 ^ (k + 1)))) (congrArg Value.long ((lw_sh (byt_le hW) (by decide)).trans (congrArg lw byt_sh))) ?_
          refine lv_lstore (lv' := [(4, .long (lw (Wd / 256 ^ (k + 1)))), (3, .int (nI (k + 1))), (0, .ref h), (1, .long (lw Wd))]) hx hb dX4_put_51 hl (by decide) rfl (fun ls hl => ?_)
          refine lv_goto (tgt := 5) hx hb dX4_put_53 (by decide) ?_
          exact ih (k + 1) ls (by omega) ⟨(by omega), (hC.trans (chk_g (by omega) (byt_n0 (by omega)) ⟨by omega, by omega⟩)), lv_sub hl [1, 0, 2, 3] rfl⟩
        · skip
          exact absurd (hC.trans (chk_b (by omega) (byt_n0 (by omega)) (fun z => by have hq9 := z.1; have hq8 := z.2; omega))) hc0
