section HLD
variable {pq : Program} {l : Launch} {eq : Env} {sq : State} {mq : MethodId} {bq : List Frame} {tq : Method} {cq : Code} {H : Heap} {locs : List Loc} {ls : Array Slot} {args : Array Value} {Q : State → Prop} {A : Nat → Prop} {G : gT} {me x : Nat} {q : Sx} {w : va_W}

set_option maxHeartbeats 4000000 in
set_option maxRecDepth 100000 in
theorem holds_in (hok : OkD q) (hF : CallFix pq mq cq cL_holds 18 sq args GW RL) (hKx : Kx G sq) (hZ : Zs A sq) (hA : ∀ q, sq.heap.size ≤ q → A q) (hC : CS G me q w) (hP : va_P G.1 vwCl ([] ++ w) H) (hD : va_D A ([] ++ w)) (hS : va_S A sq.heap H locs) {V4 V5 V6 V9 V10 V11 V12 : Int32} {m : Nat} (hm : m < 120) (hl : lv_has ls 18 [(12, .int V12), (11, .int V11), (10, .int V10), (9, .int V9), (8, .int (nI m)), (7, .int (nI 1)), (6, .int V6), (5, .int V5), (4, .int V4), (3, .int (nI (kpn (qr q)))), (2, .int (nI (mot (td (qr q))))), (0, .ref me), (1, .int (nI x))])
    (kk : ∀ (w : va_W) (H : Heap) (locs : List Loc) (ls : Array Slot), CS G me q w → va_P G.1 vwCl ([] ++ w) H → va_D A ([] ++ w) → va_S A sq.heap H locs → lv_has ls 18 [(14, .int (subk (qr q) m 16)), (13, .int (nI (mIn (qr q) m))), (12, .int V12), (11, .int V11), (10, .int V10), (9, .int V9), (8, .int (nI m)), (7, .int (nI 1)), (6, .int V6), (5, .int V5), (4, .int V4), (3, .int (nI (kpn (qr q)))), (2, .int (nI (mot (td (qr q))))), (0, .ref me), (1, .int (nI x))] → W pq l eq (rmL 10) sq mq args bq tq cq H locs 0 0 Q (F0 mq 150 ls [])) : W pq l eq (rmL 10) sq mq args bq tq cq H locs 0 0 Q (F0 mq 93 ls []) := by
  have hx := hF.1
  have hb := hF.2.1
  have hml := hF.2.2.1
  have hown : sq.vm.findClass "FoldedMonthsLaw" = some mq.cls := hF.2.2.2.1
  have hts : ∀ w ∈ GW, w.before _ sq = true := hF.2.2.2.2
  have hf : 0 ≤ (rmL 10).cells ∧ 0 ≤ (rmL 10).slots := ⟨Nat.zero_le _, Nat.zero_le _⟩
  have htd : td (qr q) < 3650 := hok.1.1.1.1.2.1
  have hmt := (mot_row htd).1
  have hk12 : kpn (qr q) ≤ 12 := hok.1.1.1.1.2.2.2.1
  have hk1 : 1 ≤ kpn (qr q) := hok.1.1.2.1
  have hny : ny (qr q) ≤ 6 := hok.1.1.1.1.2.2.2.2.2.2.2.1
  have hno : ny (qr q) ≤ opn (qr q) := hok.1.1.1.2
  have hop : opn (qr q) ≤ 6 := hok.1.1.1.1.2.2.2.2.2.1
  have hBd := hok.1.1.2.2.1.2.1
  refine lv_iconst (v := nI 0) hx hb dL_holds_93 (by decide) ?_
  refine lv_istore (lv' := [(13, .int (nI 0)), (12, .int V12), (11, .int V11), (10, .int V10), (9, .int V9), (8, .int (nI m)), (7, .int (nI 1)), (6, .int V6), (5, .int V5), (4, .int V4), (3, .int (nI (kpn (qr q)))), (2, .int (nI (mot (td (qr q))))), (0, .ref me), (1, .int (nI x))]) hx hb dL_holds_94 hl (by decide) rfl (fun ls hl => ?_)
  refine lv_iconst (v := nI 0) hx hb dL_holds_96 (by decide) ?_
  refine lv_istore (lv' := [(14, .int (nI 0)), (13, .int (nI 0)), (12, .int V12), (11, .int V11), (10, .int V10), (9, .int V9), (8, .int (nI m)), (7, .int (nI 1)), (6, .int V6), (5, .int V5), (4, .int V4), (3, .int (nI (kpn (qr q)))), (2, .int (nI (mot (td (qr q))))), (0, .ref me), (1, .int (nI x))]) hx hb dL_holds_97 hl (by decide) rfl (fun ls hl => ?_)
  refine lv_iconst (v := nI 0) hx hb dL_holds_99 (by decide) ?_
  refine lv_istore (lv' := [(15, .int (nI 0)), (14, .int (nI 0)), (13, .int (nI 0)), (12, .int V12), (11, .int V11), (10, .int V10), (9, .int V9), (8, .int (nI m)), (7, .int (nI 1)), (6, .int V6), (5, .int V5), (4, .int V4), (3, .int (nI (kpn (qr q)))), (2, .int (nI (mot (td (qr q))))), (0, .ref me), (1, .int (nI x))]) hx hb dL_holds_100 hl (by decide) rfl (fun ls hl => ?_)
  refine wloopH [] (fun (s : Nat) (H : Heap) (locs : List Loc) (ls : Array Slot) => s ≤ 16 ∧ lv_has ls 18 [(15, .int (nI s)), (14, .int (subk (qr q) m s)), (13, .int (nI (mIk (qr q) m s))), (12, .int V12), (11, .int V11), (10, .int V10), (9, .int V9), (8, .int (nI m)), (7, .int (nI 1)), (6, .int V6), (5, .int V5), (4, .int V4), (3, .int (nI (kpn (qr q)))), (2, .int (nI (mot (td (qr q))))), (0, .ref me), (1, .int (nI x))] ∧ ∃ w : va_W, CS G me q w ∧ va_P G.1 vwCl ([] ++ w) H ∧ va_D A ([] ++ w) ∧ va_S A sq.heap H locs) (fun s => 16 - s) ?_ 0 ⟨Nat.zero_le _, hl, _, hC, hP, hD, hS⟩
  intro s ih H locs ls ⟨hs16, hl, w, hC, hP, hD, hS⟩
  have hmk := mIk_le (qr q) m s
  have hons := ons_le (qr q (255 + 16 * m + s))
  refine lv_iload hx hb dL_holds_102 (lv_at hl 0 rfl) ?_
  refine lv_bipush (v := nI 16) hx hb dL_holds_104 (by decide) ?_
  refine z_ge hx hb (tgt := 150) ((s : Nat) : Int) 16 dL_holds_106 (by decide) (toI (by omega)) (by decide) (fun c_106 => ?_) (fun c_106 => ?_)
  · skip
    have es : s = 16 := by omega
    subst es
    exact kk _ _ _ ls hC hP hD hS (lv_sub hl [1, 2, 3, 4, 5, 6, 7, 8, 9, 10, 11, 12, 13, 14, 15] rfl)
  · skip
    have hbd : bt (qr q (255 + 16 * m + s)) 31 = false := by have h := hBd (16 * m + s) (by omega); rw [← Nat.add_assoc] at h; exact h
    refine lv_aload_n hx hb dL_holds_109 rfl (lv_at hl 14 rfl) ?_
    refine lv_iload hx hb dL_holds_110 (lv_at hl 0 rfl) ?_
    refine lv_iload hx hb dL_holds_112 (lv_at hl 7 rfl) ?_
    refine kA (As := [.int (nI s), .int (nI m)]) (rest := []) (wr := []) (wc := w) (b := me) hF (a_inMonth l hok s m (by omega) (by omega)) hC rfl mw_2_190 mw_2_191 mw_2_192 mw_1_1 mw_2_193 hd_X3_inMonth ⟨Nat.le_of_ble_eq_true rfl, Nat.le_of_ble_eq_true rfl⟩ hKx hZ hS hP hD hA rfl hl.1 rfl (Nat.le_of_ble_eq_true rfl) dL_holds_114 hf (fun wx2 H locs hCx1 hP hD hS => ?_)
    refine lv_istore (lv' := [(16, .int (nI (ons (qr q (255 + 16 * m + s))))), (15, .int (nI s)), (14, .int (subk (qr q) m s)), (13, .int (nI (mIk (qr q) m s))), (12, .int V12), (11, .int V11), (10, .int V10), (9, .int V9), (8, .int (nI m)), (7, .int (nI 1)), (6, .int V6), (5, .int V5), (4, .int V4), (3, .int (nI (kpn (qr q)))), (2, .int (nI (mot (td (qr q))))), (0, .ref me), (1, .int (nI x))]) hx hb dL_holds_117 hl (by decide) rfl (fun ls hl => ?_)
    refine lv_iload hx hb dL_holds_119 (lv_at hl 3 rfl) ?_
    refine lv_iload hx hb dL_holds_121 (lv_at hl 0 rfl) ?_
    refine n_iadd hx hb dL_holds_123 ?_
    refine lv_istore (lv' := [(13, .int (nI (mIk (qr q) m s + ons (qr q (255 + 16 * m + s))))), (16, .int (nI (ons (qr q (255 + 16 * m + s))))), (15, .int (nI s)), (14, .int (subk (qr q) m s)), (12, .int V12), (11, .int V11), (10, .int V10), (9, .int V9), (8, .int (nI m)), (7, .int (nI 1)), (6, .int V6), (5, .int V5), (4, .int V4), (3, .int (nI (kpn (qr q)))), (2, .int (nI (mot (td (qr q))))), (0, .ref me), (1, .int (nI x))]) hx hb dL_holds_124 hl (by decide) rfl (fun ls hl => ?_)
    refine lv_iload hx hb dL_holds_126 (lv_at hl 3 rfl) ?_
    refine lv_iload hx hb dL_holds_128 (lv_at hl 1 rfl) ?_
    refine z0_le hx hb (tgt := 140) ((ons (qr q (255 + 16 * m + s)) : Nat) : Int) dL_holds_130 (by decide) (toI (by omega)) (fun c_130 => ?_) (fun c_130 => ?_)
    · skip
      refine lv_iconst (v := nI 0) hx hb dL_holds_140 (by decide) ?_
      refine lv_ior hx hb dL_holds_141 ?_
      refine lv_istore (lv' := [(14, .int ((subk (qr q) m s) ||| (nI 0))), (13, .int (nI (mIk (qr q) m s + ons (qr q (255 + 16 * m + s))))), (16, .int (nI (ons (qr q (255 + 16 * m + s))))), (15, .int (nI s)), (12, .int V12), (11, .int V11), (10, .int V10), (9, .int V9), (8, .int (nI m)), (7, .int (nI 1)), (6, .int V6), (5, .int V5), (4, .int V4), (3, .int (nI (kpn (qr q)))), (2, .int (nI (mot (td (qr q))))), (0, .ref me), (1, .int (nI x))]) hx hb dL_holds_142 hl (by decide) rfl (fun ls hl => ?_)
      refine lv_iinc (v := nI (s + 1)) (lv' := [(15, .int (nI (s + 1))), (14, .int ((subk (qr q) m s) ||| (nI 0))), (13, .int (nI (mIk (qr q) m s + ons (qr q (255 + 16 * m + s))))), (16, .int (nI (ons (qr q (255 + 16 * m + s))))), (12, .int V12), (11, .int V11), (10, .int V10), (9, .int V9), (8, .int (nI m)), (7, .int (nI 1)), (6, .int V6), (5, .int V5), (4, .int V4), (3, .int (nI (kpn (qr q)))), (2, .int (nI (mot (td (qr q))))), (0, .ref me), (1, .int (nI x))]) hx hb dL_holds_144 hl (k := 3) rfl (nI_add _ _) (by decide) rfl (fun ls hl => ?_)
      refine lv_goto (tgt := 102) hx hb dL_holds_147 (by decide) ?_
      have e1 : subk (qr q) m s ||| nI 0 = subk (qr q) m (s + 1) := subk_f ((ons_0 hbd).mp (by omega))
      have e2 : nI (mIk (qr q) m s + ons (qr q (255 + 16 * m + s))) = nI (mIk (qr q) m (s + 1)) := rfl
      rw [e1, e2] at hl
      exact ih (s + 1) _ _ ls (by omega) ⟨by omega, (lv_sub hl [0, 1, 2, 4, 5, 6, 7, 8, 9, 10, 11, 12, 13, 14, 15, 16] rfl), _, hCx1, hP, hD, hS⟩
    · skip
      refine lv_iconst (v := nI 1) hx hb dL_holds_133 (by decide) ?_
      refine lv_iload hx hb dL_holds_134 (lv_at hl 2 rfl) ?_
      refine lv_ishl hx hb dL_holds_136 ?_
      refine lv_goto (tgt := 141) hx hb dL_holds_137 (by decide) ?_
      refine lv_ior hx hb dL_holds_141 ?_
      refine lv_istore (lv' := [(14, .int ((subk (qr q) m s) ||| ((nI 1) <<< ((nI s) &&& 31)))), (13, .int (nI (mIk (qr q) m s + ons (qr q (255 + 16 * m + s))))), (16, .int (nI (ons (qr q (255 + 16 * m + s))))), (15, .int (nI s)), (12, .int V12), (11, .int V11), (10, .int V10), (9, .int V9), (8, .int (nI m)), (7, .int (nI 1)), (6, .int V6), (5, .int V5), (4, .int V4), (3, .int (nI (kpn (qr q)))), (2, .int (nI (mot (td (qr q))))), (0, .ref me), (1, .int (nI x))]) hx hb dL_holds_142 hl (by decide) rfl (fun ls hl => ?_)
      refine lv_iinc (v := nI (s + 1)) (lv' := [(15, .int (nI (s + 1))), (14, .int ((subk (qr q) m s) ||| ((nI 1) <<< ((nI s) &&& 31)))), (13, .int (nI (mIk (qr q) m s + ons (qr q (255 + 16 * m + s))))), (16, .int (nI (ons (qr q (255 + 16 * m + s))))), (12, .int V12), (11, .int V11), (10, .int V10), (9, .int V9), (8, .int (nI m)), (7, .int (nI 1)), (6, .int V6), (5, .int V5), (4, .int V4), (3, .int (nI (kpn (qr q)))), (2, .int (nI (mot (td (qr q))))), (0, .ref me), (1, .int (nI x))]) hx hb dL_holds_144 hl (k := 3) rfl (nI_add _ _) (by decide) rfl (fun ls hl => ?_)
      refine lv_goto (tgt := 102) hx hb dL_holds_147 (by decide) ?_
      have e1 : subk (qr q) m s ||| (nI 1 <<< (nI s &&& 31)) = subk (qr q) m (s + 1) := subk_t (fun z => by have := (ons_0 hbd).mpr z; omega)
      have e2 : nI (mIk (qr q) m s + ons (qr q (255 + 16 * m + s))) = nI (mIk (qr q) m (s + 1)) := rfl
      rw [e1, e2] at hl
      exact ih (s + 1) _ _ ls (by omega) ⟨by omega, (lv_sub hl [0, 1, 2, 4, 5, 6, 7, 8, 9, 10, 11, 12, 13, 14, 15, 16] rfl), _, hCx1, hP, hD, hS⟩
set_option maxHeartbeats 4000000 in
set_option maxRecDepth 100000 in
theorem holds_mA (hok : OkD q) (hF : CallFix pq mq cq cL_holds 18 sq args GW RL) (hKx : Kx G sq) (hZ : Zs A sq) (hA : ∀ q, sq.heap.size ≤ q → A q) (hC : CS G me q w) (hP : va_P G.1 vwCl ([] ++ w) H) (hD : va_D A ([] ++ w)) (hS : va_S A sq.heap H locs) {m : Nat} (hm : m ≤ mot (td (qr q))) (hO : m + kpn (qr q) ≤ mot (td (qr q))) (hI : Inr (qr q) m) (hf0 : qr q (15 + m) = nI 0) {j : Nat} (hj : j < ny (qr q)) (hpj : plo (qr q) m = nI j) (hl : lv_has ls 18 [(8, .int (nI m)), (7, .int (nI 1)), (6, .int (nI (cz (fun m9 => Inr (qr q) m9) m))), (5, .int (ask (qr q) m)), (4, .int (nI (amk (qr q) m))), (3, .int (nI (kpn (qr q)))), (2, .int (nI (mot (td (qr q))))), (0, .ref me), (1, .int (nI x))])
    (kk : ∀ (w : va_W) (H : Heap) (locs : List Loc) (ls : Array Slot), CS G me q w → va_P G.1 vwCl ([] ++ w) H → va_D A ([] ++ w) → va_S A sq.heap H locs → lv_has ls 18 [(8, .int (nI (m + 1))), (7, .int (nI 1)), (6, .int (nI (cz (fun m9 => Inr (qr q) m9) (m + 1)))), (5, .int (ask (qr q) (m + 1))), (4, .int (nI (amk (qr q) (m + 1)))), (3, .int (nI (kpn (qr q)))), (2, .int (nI (mot (td (qr q))))), (0, .ref me), (1, .int (nI x))] → W pq l eq (rmL 10) sq mq args bq tq cq H locs 0 0 Q (F0 mq 28 ls [])) : W pq l eq (rmL 10) sq mq args bq tq cq H locs 0 0 Q (F0 mq 39 ls []) := by
  have hx := hF.1
  have hb := hF.2.1
  have hml := hF.2.2.1
  have hown : sq.vm.findClass "FoldedMonthsLaw" = some mq.cls := hF.2.2.2.1
  have hts : ∀ w ∈ GW, w.before _ sq = true := hF.2.2.2.2
  have hf : 0 ≤ (rmL 10).cells ∧ 0 ≤ (rmL 10).slots := ⟨Nat.zero_le _, Nat.zero_le _⟩
  have htd : td (qr q) < 3650 := hok.1.1.1.1.2.1
  have hmt := (mot_row htd).1
  have hk12 : kpn (qr q) ≤ 12 := hok.1.1.1.1.2.2.2.1
  have hk1 : 1 ≤ kpn (qr q) := hok.1.1.2.1
  have hny : ny (qr q) ≤ 6 := hok.1.1.1.1.2.2.2.2.2.2.2.1
  have hno : ny (qr q) ≤ opn (qr q) := hok.1.1.1.2
  have hop : opn (qr q) ≤ 6 := hok.1.1.1.1.2.2.2.2.2.1
  have hamk := amk_le (qr q) m
  have hmi := mIk_le (qr q) m 16
  have hcz := cz_n (fun m9 => Inr (qr q) m9) m
  have h2 : (pI (m + kpn (qr q) ≤ mot (td (qr q)))).toInt = 1 := by rw [pI_t hO]; decide
  have hp : ¬ plo (qr q) m = -6 := by rw [hpj]; exact nI_ne6 (by omega)
  have h3 : (pI (¬ plo (qr q) m = -6)).toInt = 1 := by rw [pI_t hp]; decide
  have h4 : (omv (qr q) m 4).toInt = 4 := by rw [om_4 (f := 0) hf0 (by omega)]; rfl
  have h5 : (szo (qr q) m).toInt = 16 := by rw [sz_0 hf0]; decide
  have h9 : (plo (qr q) m).toInt = ((j : Nat) : Int) := by rw [hpj]; exact toI (by omega)
  have h6 : (if (qr q (15 + m)).toInt = 2 then qr q (135 + m) else -6 : Int32).toInt = -6 := by rw [if_neg (by rw [hf0, toI (by omega)]; omega)]; decide
  refine lv_aload_n hx hb dL_holds_39 rfl (lv_at hl 7 rfl) ?_
  refine lv_iload hx hb dL_holds_40 (lv_at hl 0 rfl) ?_
  refine lv_iconst (v := nI 4) hx hb dL_holds_42 (by decide) ?_
  refine kA (As := [.int (nI m), .int (nI 4)]) (rest := []) (wr := []) (wc := w) (b := me) hF (act_res (a_ofMonth l hok m (nI 4) (by omega) (X := 4) rfl) rfl) hC rfl mw_2_175 mw_2_176 mw_2_177 mw_1_1 mw_2_178 hd_X3_ofMonth ⟨Nat.le_of_ble_eq_true rfl, Nat.le_of_ble_eq_true rfl⟩ hKx hZ hS hP hD hA rfl hl.1 rfl (Nat.le_of_ble_eq_true rfl) dL_holds_43 hf (fun wx2 H locs hCx1 hP hD hS => ?_)
  refine lv_istore (lv' := [(9, .int (omv (qr q) m 4)), (8, .int (nI m)), (7, .int (nI 1)), (6, .int (nI (cz (fun m9 => Inr (qr q) m9) m))), (5, .int (ask (qr q) m)), (4, .int (nI (amk (qr q) m))), (3, .int (nI (kpn (qr q)))), (2, .int (nI (mot (td (qr q))))), (0, .ref me), (1, .int (nI x))]) hx hb dL_holds_46 hl (by decide) rfl (fun ls hl => ?_)
  refine lv_aload_n hx hb dL_holds_48 rfl (lv_at hl 8 rfl) ?_
  refine lv_iload hx hb dL_holds_49 (lv_at hl 1 rfl) ?_
  refine lv_iconst (v := nI 5) hx hb dL_holds_51 (by decide) ?_
  refine kA (As := [.int (nI m), .int (nI 5)]) (rest := []) (wr := []) (wc := wx2) (b := me) hF (act_res (a_ofMonth l hok m (nI 5) (by omega) (X := 5) rfl) om_5) hCx1 rfl mw_2_175 mw_2_176 mw_2_177 mw_1_1 mw_2_178 hd_X3_ofMonth ⟨Nat.le_of_ble_eq_true rfl, Nat.le_of_ble_eq_true rfl⟩ hKx hZ hS hP hD hA rfl hl.1 rfl (Nat.le_of_ble_eq_true rfl) dL_holds_52 hf (fun wx4 H locs hCx3 hP hD hS => ?_)
  refine lv_istore (lv' := [(10, .int (szo (qr q) m)), (9, .int (omv (qr q) m 4)), (8, .int (nI m)), (7, .int (nI 1)), (6, .int (nI (cz (fun m9 => Inr (qr q) m9) m))), (5, .int (ask (qr q) m)), (4, .int (nI (amk (qr q) m))), (3, .int (nI (kpn (qr q)))), (2, .int (nI (mot (td (qr q))))), (0, .ref me), (1, .int (nI x))]) hx hb dL_holds_55 hl (by decide) rfl (fun ls hl => ?_)
  refine lv_aload_n hx hb dL_holds_57 rfl (lv_at hl 9 rfl) ?_
  refine lv_iload hx hb dL_holds_58 (lv_at hl 2 rfl) ?_
  refine lv_iconst (v := nI 2) hx hb dL_holds_60 (by decide) ?_
  refine kA (As := [.int (nI m), .int (nI 2)]) (rest := []) (wr := []) (wc := wx4) (b := me) hF (act_res (a_ofMonth l hok m (nI 2) (by omega) (X := 2) rfl) om_2) hCx3 rfl mw_2_175 mw_2_176 mw_2_177 mw_1_1 mw_2_178 hd_X3_ofMonth ⟨Nat.le_of_ble_eq_true rfl, Nat.le_of_ble_eq_true rfl⟩ hKx hZ hS hP hD hA rfl hl.1 rfl (Nat.le_of_ble_eq_true rfl) dL_holds_61 hf (fun wx6 H locs hCx5 hP hD hS => ?_)
  refine lv_iconst (v := nI 1) hx hb dL_holds_64 (by decide) ?_
  refine z_ne hx hb (tgt := 72) 1 1 dL_holds_65 (by decide) h2 (by decide) (fun c_65 => absurd c_65 (by omega)) (fun c_65 => ?_)
  refine lv_iconst (v := nI 1) hx hb dL_holds_68 (by decide) ?_
  refine lv_goto (tgt := 73) hx hb dL_holds_69 (by decide) ?_
  refine lv_istore (lv' := [(11, .int (nI 1)), (10, .int (szo (qr q) m)), (9, .int (omv (qr q) m 4)), (8, .int (nI m)), (7, .int (nI 1)), (6, .int (nI (cz (fun m9 => Inr (qr q) m9) m))), (5, .int (ask (qr q) m)), (4, .int (nI (amk (qr q) m))), (3, .int (nI (kpn (qr q)))), (2, .int (nI (mot (td (qr q))))), (0, .ref me), (1, .int (nI x))]) hx hb dL_holds_73 hl (by decide) rfl (fun ls hl => ?_)
  refine lv_aload_n hx hb dL_holds_75 rfl (lv_at hl 10 rfl) ?_
  refine lv_iload hx hb dL_holds_76 (lv_at hl 3 rfl) ?_
  refine lv_iconst (v := nI 3) hx hb dL_holds_78 (by decide) ?_
  refine kA (As := [.int (nI m), .int (nI 3)]) (rest := []) (wr := []) (wc := wx6) (b := me) hF (act_res (a_ofMonth l hok m (nI 3) (by omega) (X := 3) rfl) om_3) hCx5 rfl mw_2_175 mw_2_176 mw_2_177 mw_1_1 mw_2_178 hd_X3_ofMonth ⟨Nat.le_of_ble_eq_true rfl, Nat.le_of_ble_eq_true rfl⟩ hKx hZ hS hP hD hA rfl hl.1 rfl (Nat.le_of_ble_eq_true rfl) dL_holds_79 hf (fun wx8 H locs hCx7 hP hD hS => ?_)
  refine lv_iconst (v := nI 1) hx hb dL_holds_82 (by decide) ?_
  refine z_ne hx hb (tgt := 90) 1 1 dL_holds_83 (by decide) h3 (by decide) (fun c_83 => absurd c_83 (by omega)) (fun c_83 => ?_)
  refine lv_iconst (v := nI 1) hx hb dL_holds_86 (by decide) ?_
  refine lv_goto (tgt := 91) hx hb dL_holds_87 (by decide) ?_
  refine lv_istore (lv' := [(12, .int (nI 1)), (11, .int (nI 1)), (10, .int (szo (qr q) m)), (9, .int (omv (qr q) m 4)), (8, .int (nI m)), (7, .int (nI 1)), (6, .int (nI (cz (fun m9 => Inr (qr q) m9) m))), (5, .int (ask (qr q) m)), (4, .int (nI (amk (qr q) m))), (3, .int (nI (kpn (qr q)))), (2, .int (nI (mot (td (qr q))))), (0, .ref me), (1, .int (nI x))]) hx hb dL_holds_91 hl (by decide) rfl (fun ls hl => ?_)
  refine holds_in hok hF hKx hZ hA hCx7 hP hD hS (m := m) (by omega) hl ?_
  intro w H locs ls hC hP hD hS hl
  refine lv_iload hx hb dL_holds_150 (lv_at hl 10 rfl) ?_
  refine lv_iload hx hb dL_holds_152 (lv_at hl 1 rfl) ?_
  refine n_iadd hx hb dL_holds_154 ?_
  refine lv_istore (lv' := [(4, .int (nI (amk (qr q) m + mIn (qr q) m))), (14, .int (subk (qr q) m 16)), (13, .int (nI (mIn (qr q) m))), (12, .int (nI 1)), (11, .int (nI 1)), (10, .int (szo (qr q) m)), (9, .int (omv (qr q) m 4)), (8, .int (nI m)), (7, .int (nI 1)), (6, .int (nI (cz (fun m9 => Inr (qr q) m9) m))), (5, .int (ask (qr q) m)), (3, .int (nI (kpn (qr q)))), (2, .int (nI (mot (td (qr q))))), (0, .ref me), (1, .int (nI x))]) hx hb dL_holds_155 hl (by decide) rfl (fun ls hl => ?_)
  refine lv_iload hx hb dL_holds_157 (lv_at hl 10 rfl) ?_
  refine lv_iload hx hb dL_holds_159 (lv_at hl 5 rfl) ?_
  refine lv_iadd hx hb dL_holds_161 ?_
  refine lv_istore (lv' := [(5, .int ((ask (qr q) m) + (szo (qr q) m))), (4, .int (nI (amk (qr q) m + mIn (qr q) m))), (14, .int (subk (qr q) m 16)), (13, .int (nI (mIn (qr q) m))), (12, .int (nI 1)), (11, .int (nI 1)), (10, .int (szo (qr q) m)), (9, .int (omv (qr q) m 4)), (8, .int (nI m)), (7, .int (nI 1)), (6, .int (nI (cz (fun m9 => Inr (qr q) m9) m))), (3, .int (nI (kpn (qr q)))), (2, .int (nI (mot (td (qr q))))), (0, .ref me), (1, .int (nI x))]) hx hb dL_holds_162 hl (by decide) rfl (fun ls hl => ?_)
  refine lv_iload hx hb dL_holds_164 (lv_at hl 10 rfl) ?_
  refine lv_iload hx hb dL_holds_166 (lv_at hl 4 rfl) ?_
  refine z0_eq hx hb (tgt := 175) 1 dL_holds_168 (by decide) (by decide) (fun c_168 => absurd c_168 (by decide)) (fun c_168 => ?_)
  refine lv_iconst (v := nI 1) hx hb dL_holds_171 (by decide) ?_
  refine lv_goto (tgt := 176) hx hb dL_holds_172 (by decide) ?_
  refine n_iadd hx hb dL_holds_176 ?_
  refine lv_istore (lv' := [(6, .int (nI (cz (fun m9 => Inr (qr q) m9) m + 1))), (5, .int ((ask (qr q) m) + (szo (qr q) m))), (4, .int (nI (amk (qr q) m + mIn (qr q) m))), (14, .int (subk (qr q) m 16)), (13, .int (nI (mIn (qr q) m))), (12, .int (nI 1)), (11, .int (nI 1)), (10, .int (szo (qr q) m)), (9, .int (omv (qr q) m 4)), (8, .int (nI m)), (7, .int (nI 1)), (3, .int (nI (kpn (qr q)))), (2, .int (nI (mot (td (qr q))))), (0, .ref me), (1, .int (nI x))]) hx hb dL_holds_177 hl (by decide) rfl (fun ls hl => ?_)
  refine lv_iload hx hb dL_holds_179 (lv_at hl 6 rfl) ?_
  refine lv_iload hx hb dL_holds_181 (lv_at hl 9 rfl) ?_
  refine lv_iload_n hx hb dL_holds_183 rfl (lv_at hl 11 rfl) ?_
  refine n_iadd hx hb dL_holds_184 ?_
  refine lv_iload_n hx hb dL_holds_185 rfl (lv_at hl 12 rfl) ?_
  refine z_gt hx hb (tgt := 193) ((m + kpn (qr q) : Nat) : Int) ((mot (td (qr q)) : Nat) : Int) dL_holds_186 (by decide) (toI (by omega)) (toI (by omega)) (fun c_186 => absurd c_186 (by omega)) (fun c_186 => ?_)
  refine lv_iconst (v := nI 1) hx hb dL_holds_189 (by decide) ?_
  refine lv_goto (tgt := 194) hx hb dL_holds_190 (by decide) ?_
  refine z_ne hx hb (tgt := 376) ((nI 1 : Int32).toInt) ((nI 1 : Int32).toInt) dL_holds_194 (by decide) rfl rfl (fun c_194 => absurd rfl c_194) (fun c_194 => ?_)
  refine lv_iload hx hb dL_holds_197 (lv_at hl 5 rfl) ?_
  refine z0_eq hx hb (tgt := 247) 1 dL_holds_199 (by decide) (by decide) (fun c_199 => absurd c_199 (by decide)) (fun c_199 => ?_)
  refine lv_iload hx hb dL_holds_202 (lv_at hl 6 rfl) ?_
  refine z0_eq hx hb (tgt := 376) 1 dL_holds_204 (by decide) (by decide) (fun c_204 => absurd c_204 (by decide)) (fun c_204 => ?_)
  refine lv_iload hx hb dL_holds_207 (lv_at hl 8 rfl) ?_
  refine lv_iconst (v := nI 4) hx hb dL_holds_209 (by decide) ?_
  refine z_ne hx hb (tgt := 376) 4 4 dL_holds_210 (by decide) h4 (by decide) (fun c_210 => absurd c_210 (by omega)) (fun c_210 => ?_)
  refine lv_iload hx hb dL_holds_213 (lv_at hl 7 rfl) ?_
  refine lv_bipush (v := nI 16) hx hb dL_holds_215 (by decide) ?_
  refine z_ne hx hb (tgt := 376) 16 16 dL_holds_217 (by decide) h5 (by decide) (fun c_217 => absurd c_217 (by omega)) (fun c_217 => ?_)
  refine lv_aload_n hx hb dL_holds_220 rfl (lv_at hl 13 rfl) ?_
  refine lv_iload hx hb dL_holds_221 (lv_at hl 9 rfl) ?_
  refine lv_bipush (v := nI 9) hx hb dL_holds_223 (by decide) ?_
  refine kA (As := [.int (nI m), .int (nI 9)]) (rest := []) (wr := []) (wc := w) (b := me) hF (act_res (a_ofMonth l hok m (nI 9) (by omega) (X := 9) rfl) om_9) hC rfl mw_2_175 mw_2_176 mw_2_177 mw_1_1 mw_2_178 hd_X3_ofMonth ⟨Nat.le_of_ble_eq_true rfl, Nat.le_of_ble_eq_true rfl⟩ hKx hZ hS hP hD hA rfl hl.1 rfl (Nat.le_of_ble_eq_true rfl) dL_holds_225 hf (fun wx10 H locs hCx9 hP hD hS => ?_)
  refine z0_lt hx hb (tgt := 376) ((j : Nat) : Int) dL_holds_228 (by decide) h9 (fun c_228 => absurd c_228 (by omega)) (fun c_228 => ?_)
  refine lv_aload_n hx hb dL_holds_231 rfl (lv_at hl 13 rfl) ?_
  refine lv_iload hx hb dL_holds_232 (lv_at hl 9 rfl) ?_
  refine lv_bipush (v := nI 9) hx hb dL_holds_234 (by decide) ?_
  refine kA (As := [.int (nI m), .int (nI 9)]) (rest := []) (wr := []) (wc := wx10) (b := me) hF (act_res (a_ofMonth l hok m (nI 9) (by omega) (X := 9) rfl) om_9) hCx9 rfl mw_2_175 mw_2_176 mw_2_177 mw_1_1 mw_2_178 hd_X3_ofMonth ⟨Nat.le_of_ble_eq_true rfl, Nat.le_of_ble_eq_true rfl⟩ hKx hZ hS hP hD hA rfl hl.1 rfl (Nat.le_of_ble_eq_true rfl) dL_holds_236 hf (fun wx12 H locs hCx11 hP hD hS => ?_)
  refine lv_aload_n hx hb dL_holds_239 rfl (lv_at hl 13 rfl) ?_
  refine lv_iconst (v := nI 3) hx hb dL_holds_240 (by decide) ?_
  refine kA (As := [.int (nI 3)]) (rest := [.int (plo (qr q) m)]) (wr := []) (wc := wx12) (b := me) hF (n_row l hok) hCx11 rfl mw_1_156 mw_1_157 mw_1_158 mw_1_1 mw_1_159 hd_X3_count ⟨Nat.le_of_ble_eq_true rfl, Nat.le_of_ble_eq_true rfl⟩ hKx hZ hS hP hD hA rfl hl.1 rfl (Nat.le_of_ble_eq_true rfl) dL_holds_241 hf (fun wx14 H locs hCx13 hP hD hS => ?_)
  refine z_ge hx hb (tgt := 376) ((j : Nat) : Int) ((ny (qr q) : Nat) : Int) dL_holds_244 (by decide) h9 (toI (by omega)) (fun c_244 => absurd c_244 (by omega)) (fun c_244 => ?_)
  refine lv_iload hx hb dL_holds_247 (lv_at hl 5 rfl) ?_
  refine z0_ne hx hb (tgt := 265) 1 dL_holds_249 (by decide) (by decide) (fun c_249 => ?_) (fun c_249 => absurd c_249 (by decide))
  refine lv_iload hx hb dL_holds_265 (lv_at hl 4 rfl) ?_
  refine lv_aload_n hx hb dL_holds_267 rfl (lv_at hl 13 rfl) ?_
  refine lv_iload hx hb dL_holds_268 (lv_at hl 9 rfl) ?_
  refine lv_bipush (v := nI 7) hx hb dL_holds_270 (by decide) ?_
  refine kA (As := [.int (nI m), .int (nI 7)]) (rest := [.int (nI (mIn (qr q) m))]) (wr := []) (wc := wx14) (b := me) hF (act_res (a_ofMonth l hok m (nI 7) (by omega) (X := 7) rfl) om_7) hCx13 rfl mw_2_175 mw_2_176 mw_2_177 mw_1_1 mw_2_178 hd_X3_ofMonth ⟨Nat.le_of_ble_eq_true rfl, Nat.le_of_ble_eq_true rfl⟩ hKx hZ hS hP hD hA rfl hl.1 rfl (Nat.le_of_ble_eq_true rfl) dL_holds_272 hf (fun wx16 H locs hCx15 hP hD hS => ?_)
  refine z_ne hx hb (tgt := 376) ((nI (mIn (qr q) m) : Int32).toInt) ((nI (mIn (qr q) m) : Int32).toInt) dL_holds_275 (by decide) rfl rfl (fun c_275 => absurd rfl c_275) (fun c_275 => ?_)
  refine lv_iload hx hb dL_holds_278 (lv_at hl 3 rfl) ?_
  refine lv_aload_n hx hb dL_holds_280 rfl (lv_at hl 13 rfl) ?_
  refine lv_iload hx hb dL_holds_281 (lv_at hl 9 rfl) ?_
  refine lv_bipush (v := nI 8) hx hb dL_holds_283 (by decide) ?_
  refine kA (As := [.int (nI m), .int (nI 8)]) (rest := [.int (subk (qr q) m 16)]) (wr := []) (wc := wx16) (b := me) hF (act_res (a_ofMonth l hok m (nI 8) (by omega) (X := 8) rfl) om_8) hCx15 rfl mw_2_175 mw_2_176 mw_2_177 mw_1_1 mw_2_178 hd_X3_ofMonth ⟨Nat.le_of_ble_eq_true rfl, Nat.le_of_ble_eq_true rfl⟩ hKx hZ hS hP hD hA rfl hl.1 rfl (Nat.le_of_ble_eq_true rfl) dL_holds_285 hf (fun wx18 H locs hCx17 hP hD hS => ?_)
  refine z_ne hx hb (tgt := 376) ((subk (qr q) m 16 : Int32).toInt) ((subk (qr q) m 16 : Int32).toInt) dL_holds_288 (by decide) rfl rfl (fun c_288 => absurd rfl c_288) (fun c_288 => ?_)
  refine lv_iload hx hb dL_holds_291 (lv_at hl 6 rfl) ?_
  refine z0_ne hx hb (tgt := 302) 1 dL_holds_293 (by decide) (by decide) (fun c_293 => ?_) (fun c_293 => absurd c_293 (by decide))
  refine lv_iload hx hb dL_holds_302 (lv_at hl 8 rfl) ?_
  refine z0_ne hx hb (tgt := 317) 4 dL_holds_304 (by decide) h4 (fun c_304 => ?_) (fun c_304 => absurd c_304 (by omega))
  refine lv_iload hx hb dL_holds_317 (lv_at hl 8 rfl) ?_
  refine lv_iconst (v := nI 1) hx hb dL_holds_319 (by decide) ?_
  refine z_ne hx hb (tgt := 353) 4 1 dL_holds_320 (by decide) h4 (by decide) (fun c_320 => ?_) (fun c_320 => absurd c_320 (by omega))
  refine lv_iload hx hb dL_holds_353 (lv_at hl 8 rfl) ?_
  refine lv_iconst (v := nI 1) hx hb dL_holds_355 (by decide) ?_
  refine z_eq hx hb (tgt := 372) 4 1 dL_holds_356 (by decide) h4 (by decide) (fun c_356 => absurd c_356 (by omega)) (fun c_356 => ?_)
  refine lv_aload_n hx hb dL_holds_359 rfl (lv_at hl 13 rfl) ?_
  refine lv_iload hx hb dL_holds_360 (lv_at hl 9 rfl) ?_
  refine lv_bipush (v := nI 6) hx hb dL_holds_362 (by decide) ?_
  refine kA (As := [.int (nI m), .int (nI 6)]) (rest := []) (wr := []) (wc := wx18) (b := me) hF (act_res (a_ofMonth l hok m (nI 6) (by omega) (X := 6) rfl) om_6) hCx17 rfl mw_2_175 mw_2_176 mw_2_177 mw_1_1 mw_2_178 hd_X3_ofMonth ⟨Nat.le_of_ble_eq_true rfl, Nat.le_of_ble_eq_true rfl⟩ hKx hZ hS hP hD hA rfl hl.1 rfl (Nat.le_of_ble_eq_true rfl) dL_holds_364 hf (fun wx20 H locs hCx19 hP hD hS => ?_)
  refine lv_bipush (v := (-6)) hx hb dL_holds_367 (by decide) ?_
  refine z_ne hx hb (tgt := 376) (-6) (-6) dL_holds_369 (by decide) h6 (by decide) (fun c_369 => absurd c_369 (by omega)) (fun c_369 => ?_)
  refine lv_iconst (v := nI 1) hx hb dL_holds_372 (by decide) ?_
  refine lv_goto (tgt := 377) hx hb dL_holds_373 (by decide) ?_
  refine lv_istore (lv' := [(7, .int (nI 1)), (6, .int (nI (cz (fun m9 => Inr (qr q) m9) m + 1))), (5, .int ((ask (qr q) m) + (szo (qr q) m))), (4, .int (nI (amk (qr q) m + mIn (qr q) m))), (14, .int (subk (qr q) m 16)), (13, .int (nI (mIn (qr q) m))), (12, .int (nI 1)), (11, .int (nI 1)), (10, .int (szo (qr q) m)), (9, .int (omv (qr q) m 4)), (8, .int (nI m)), (3, .int (nI (kpn (qr q)))), (2, .int (nI (mot (td (qr q))))), (0, .ref me), (1, .int (nI x))]) hx hb dL_holds_377 hl (by decide) rfl (fun ls hl => ?_)
  refine lv_iinc (v := nI (m + 1)) (lv' := [(8, .int (nI (m + 1))), (7, .int (nI 1)), (6, .int (nI (cz (fun m9 => Inr (qr q) m9) m + 1))), (5, .int ((ask (qr q) m) + (szo (qr q) m))), (4, .int (nI (amk (qr q) m + mIn (qr q) m))), (14, .int (subk (qr q) m 16)), (13, .int (nI (mIn (qr q) m))), (12, .int (nI 1)), (11, .int (nI 1)), (10, .int (szo (qr q) m)), (9, .int (omv (qr q) m 4)), (3, .int (nI (kpn (qr q)))), (2, .int (nI (mot (td (qr q))))), (0, .ref me), (1, .int (nI x))]) hx hb dL_holds_379 hl (k := 10) rfl (nI_add _ _) (by decide) rfl (fun ls hl => ?_)
  refine lv_goto (tgt := 28) hx hb dL_holds_382 (by decide) ?_
  have e4 : nI (amk (qr q) m + mIn (qr q) m) = nI (amk (qr q) (m + 1)) := rfl
  have e5 : ask (qr q) m + szo (qr q) m = ask (qr q) (m + 1) := rfl
  have e6 : nI (cz (fun m9 => Inr (qr q) m9) m + 1) = nI (cz (fun m9 => Inr (qr q) m9) (m + 1)) := by rw [cz_t hI]
  rw [e4, e5, e6] at hl
  exact kk _ _ _ ls hCx19 hP hD hS (lv_sub hl [0, 1, 2, 3, 4, 11, 12, 13, 14] rfl)
set_option maxHeartbeats 4000000 in
set_option maxRecDepth 100000 in
theorem holds_mB (hok : OkD q) (hF : CallFix pq mq cq cL_holds 18 sq args GW RL) (hKx : Kx G sq) (hZ : Zs A sq) (hA : ∀ q, sq.heap.size ≤ q → A q) (hC : CS G me q w) (hP : va_P G.1 vwCl ([] ++ w) H) (hD : va_D A ([] ++ w)) (hS : va_S A sq.heap H locs) {m : Nat} (hm : m ≤ mot (td (qr q))) (hO : m + kpn (qr q) ≤ mot (td (qr q))) (hI : ¬ Inr (qr q) m) (hf0 : qr q (15 + m) = nI 1) (hz : mIn (qr q) m = 0) (hp : plo (qr q) m = -6) (hl : lv_has ls 18 [(8, .int (nI m)), (7, .int (nI 1)), (6, .int (nI (cz (fun m9 => Inr (qr q) m9) m))), (5, .int (ask (qr q) m)), (4, .int (nI (amk (qr q) m))), (3, .int (nI (kpn (qr q)))), (2, .int (nI (mot (td (qr q))))), (0, .ref me), (1, .int (nI x))])
    (kk : ∀ (w : va_W) (H : Heap) (locs : List Loc) (ls : Array Slot), CS G me q w → va_P G.1 vwCl ([] ++ w) H → va_D A ([] ++ w) → va_S A sq.heap H locs → lv_has ls 18 [(8, .int (nI (m + 1))), (7, .int (nI 1)), (6, .int (nI (cz (fun m9 => Inr (qr q) m9) (m + 1)))), (5, .int (ask (qr q) (m + 1))), (4, .int (nI (amk (qr q) (m + 1)))), (3, .int (nI (kpn (qr q)))), (2, .int (nI (mot (td (qr q))))), (0, .ref me), (1, .int (nI x))] → W pq l eq (rmL 10) sq mq args bq tq cq H locs 0 0 Q (F0 mq 28 ls [])) : W pq l eq (rmL 10) sq mq args bq tq cq H locs 0 0 Q (F0 mq 39 ls []) := by
  have hx := hF.1
  have hb := hF.2.1
  have hml := hF.2.2.1
  have hown : sq.vm.findClass "FoldedMonthsLaw" = some mq.cls := hF.2.2.2.1
  have hts : ∀ w ∈ GW, w.before _ sq = true := hF.2.2.2.2
  have hf : 0 ≤ (rmL 10).cells ∧ 0 ≤ (rmL 10).slots := ⟨Nat.zero_le _, Nat.zero_le _⟩
  have htd : td (qr q) < 3650 := hok.1.1.1.1.2.1
  have hmt := (mot_row htd).1
  have hk12 : kpn (qr q) ≤ 12 := hok.1.1.1.1.2.2.2.1
  have hk1 : 1 ≤ kpn (qr q) := hok.1.1.2.1
  have hny : ny (qr q) ≤ 6 := hok.1.1.1.1.2.2.2.2.2.2.2.1
  have hno : ny (qr q) ≤ opn (qr q) := hok.1.1.1.2
  have hop : opn (qr q) ≤ 6 := hok.1.1.1.1.2.2.2.2.2.1
  have hamk := amk_le (qr q) m
  have hmi := mIk_le (qr q) m 16
  have hcz := cz_n (fun m9 => Inr (qr q) m9) m
  have h2 : (pI (m + kpn (qr q) ≤ mot (td (qr q)))).toInt = 1 := by rw [pI_t hO]; decide
  have h3 : (pI (¬ plo (qr q) m = -6)).toInt = 0 := by rw [pI_f (fun z => z hp)]; decide
  have h4 : (omv (qr q) m 4).toInt = 0 := by rw [om_4 (f := 1) hf0 (by omega)]; rfl
  have h5 : (szo (qr q) m).toInt = 0 := by rw [sz_1 hf0 hz]; decide
  have h9 : (plo (qr q) m).toInt = -6 := by rw [hp]; decide
  have h6 : (if (qr q (15 + m)).toInt = 2 then qr q (135 + m) else -6 : Int32).toInt = -6 := by rw [if_neg (by rw [hf0, toI (by omega)]; omega)]; decide
  refine lv_aload_n hx hb dL_holds_39 rfl (lv_at hl 7 rfl) ?_
  refine lv_iload hx hb dL_holds_40 (lv_at hl 0 rfl) ?_
  refine lv_iconst (v := nI 4) hx hb dL_holds_42 (by decide) ?_
  refine kA (As := [.int (nI m), .int (nI 4)]) (rest := []) (wr := []) (wc := w) (b := me) hF (act_res (a_ofMonth l hok m (nI 4) (by omega) (X := 4) rfl) rfl) hC rfl mw_2_175 mw_2_176 mw_2_177 mw_1_1 mw_2_178 hd_X3_ofMonth ⟨Nat.le_of_ble_eq_true rfl, Nat.le_of_ble_eq_true rfl⟩ hKx hZ hS hP hD hA rfl hl.1 rfl (Nat.le_of_ble_eq_true rfl) dL_holds_43 hf (fun wx2 H locs hCx1 hP hD hS => ?_)
  refine lv_istore (lv' := [(9, .int (omv (qr q) m 4)), (8, .int (nI m)), (7, .int (nI 1)), (6, .int (nI (cz (fun m9 => Inr (qr q) m9) m))), (5, .int (ask (qr q) m)), (4, .int (nI (amk (qr q) m))), (3, .int (nI (kpn (qr q)))), (2, .int (nI (mot (td (qr q))))), (0, .ref me), (1, .int (nI x))]) hx hb dL_holds_46 hl (by decide) rfl (fun ls hl => ?_)
  refine lv_aload_n hx hb dL_holds_48 rfl (lv_at hl 8 rfl) ?_
  refine lv_iload hx hb dL_holds_49 (lv_at hl 1 rfl) ?_
  refine lv_iconst (v := nI 5) hx hb dL_holds_51 (by decide) ?_
  refine kA (As := [.int (nI m), .int (nI 5)]) (rest := []) (wr := []) (wc := wx2) (b := me) hF (act_res (a_ofMonth l hok m (nI 5) (by omega) (X := 5) rfl) om_5) hCx1 rfl mw_2_175 mw_2_176 mw_2_177 mw_1_1 mw_2_178 hd_X3_ofMonth ⟨Nat.le_of_ble_eq_true rfl, Nat.le_of_ble_eq_true rfl⟩ hKx hZ hS hP hD hA rfl hl.1 rfl (Nat.le_of_ble_eq_true rfl) dL_holds_52 hf (fun wx4 H locs hCx3 hP hD hS => ?_)
  refine lv_istore (lv' := [(10, .int (szo (qr q) m)), (9, .int (omv (qr q) m 4)), (8, .int (nI m)), (7, .int (nI 1)), (6, .int (nI (cz (fun m9 => Inr (qr q) m9) m))), (5, .int (ask (qr q) m)), (4, .int (nI (amk (qr q) m))), (3, .int (nI (kpn (qr q)))), (2, .int (nI (mot (td (qr q))))), (0, .ref me), (1, .int (nI x))]) hx hb dL_holds_55 hl (by decide) rfl (fun ls hl => ?_)
  refine lv_aload_n hx hb dL_holds_57 rfl (lv_at hl 9 rfl) ?_
  refine lv_iload hx hb dL_holds_58 (lv_at hl 2 rfl) ?_
  refine lv_iconst (v := nI 2) hx hb dL_holds_60 (by decide) ?_
  refine kA (As := [.int (nI m), .int (nI 2)]) (rest := []) (wr := []) (wc := wx4) (b := me) hF (act_res (a_ofMonth l hok m (nI 2) (by omega) (X := 2) rfl) om_2) hCx3 rfl mw_2_175 mw_2_176 mw_2_177 mw_1_1 mw_2_178 hd_X3_ofMonth ⟨Nat.le_of_ble_eq_true rfl, Nat.le_of_ble_eq_true rfl⟩ hKx hZ hS hP hD hA rfl hl.1 rfl (Nat.le_of_ble_eq_true rfl) dL_holds_61 hf (fun wx6 H locs hCx5 hP hD hS => ?_)
  refine lv_iconst (v := nI 1) hx hb dL_holds_64 (by decide) ?_
  refine z_ne hx hb (tgt := 72) 1 1 dL_holds_65 (by decide) h2 (by decide) (fun c_65 => absurd c_65 (by omega)) (fun c_65 => ?_)
  refine lv_iconst (v := nI 1) hx hb dL_holds_68 (by decide) ?_
  refine lv_goto (tgt := 73) hx hb dL_holds_69 (by decide) ?_
  refine lv_istore (lv' := [(11, .int (nI 1)), (10, .int (szo (qr q) m)), (9, .int (omv (qr q) m 4)), (8, .int (nI m)), (7, .int (nI 1)), (6, .int (nI (cz (fun m9 => Inr (qr q) m9) m))), (5, .int (ask (qr q) m)), (4, .int (nI (amk (qr q) m))), (3, .int (nI (kpn (qr q)))), (2, .int (nI (mot (td (qr q))))), (0, .ref me), (1, .int (nI x))]) hx hb dL_holds_73 hl (by decide) rfl (fun ls hl => ?_)
  refine lv_aload_n hx hb dL_holds_75 rfl (lv_at hl 10 rfl) ?_
  refine lv_iload hx hb dL_holds_76 (lv_at hl 3 rfl) ?_
  refine lv_iconst (v := nI 3) hx hb dL_holds_78 (by decide) ?_
  refine kA (As := [.int (nI m), .int (nI 3)]) (rest := []) (wr := []) (wc := wx6) (b := me) hF (act_res (a_ofMonth l hok m (nI 3) (by omega) (X := 3) rfl) om_3) hCx5 rfl mw_2_175 mw_2_176 mw_2_177 mw_1_1 mw_2_178 hd_X3_ofMonth ⟨Nat.le_of_ble_eq_true rfl, Nat.le_of_ble_eq_true rfl⟩ hKx hZ hS hP hD hA rfl hl.1 rfl (Nat.le_of_ble_eq_true rfl) dL_holds_79 hf (fun wx8 H locs hCx7 hP hD hS => ?_)
  refine lv_iconst (v := nI 1) hx hb dL_holds_82 (by decide) ?_
  refine z_ne hx hb (tgt := 90) 0 1 dL_holds_83 (by decide) h3 (by decide) (fun c_83 => ?_) (fun c_83 => absurd c_83 (by omega))
  refine lv_iconst (v := nI 0) hx hb dL_holds_90 (by decide) ?_
  refine lv_istore (lv' := [(12, .int (nI 0)), (11, .int (nI 1)), (10, .int (szo (qr q) m)), (9, .int (omv (qr q) m 4)), (8, .int (nI m)), (7, .int (nI 1)), (6, .int (nI (cz (fun m9 => Inr (qr q) m9) m))), (5, .int (ask (qr q) m)), (4, .int (nI (amk (qr q) m))), (3, .int (nI (kpn (qr q)))), (2, .int (nI (mot (td (qr q))))), (0, .ref me), (1, .int (nI x))]) hx hb dL_holds_91 hl (by decide) rfl (fun ls hl => ?_)
  refine holds_in hok hF hKx hZ hA hCx7 hP hD hS (m := m) (by omega) hl ?_
  intro w H locs ls hC hP hD hS hl
  refine lv_iload hx hb dL_holds_150 (lv_at hl 10 rfl) ?_
  refine lv_iload hx hb dL_holds_152 (lv_at hl 1 rfl) ?_
  refine n_iadd hx hb dL_holds_154 ?_
  refine lv_istore (lv' := [(4, .int (nI (amk (qr q) m + mIn (qr q) m))), (14, .int (subk (qr q) m 16)), (13, .int (nI (mIn (qr q) m))), (12, .int (nI 0)), (11, .int (nI 1)), (10, .int (szo (qr q) m)), (9, .int (omv (qr q) m 4)), (8, .int (nI m)), (7, .int (nI 1)), (6, .int (nI (cz (fun m9 => Inr (qr q) m9) m))), (5, .int (ask (qr q) m)), (3, .int (nI (kpn (qr q)))), (2, .int (nI (mot (td (qr q))))), (0, .ref me), (1, .int (nI x))]) hx hb dL_holds_155 hl (by decide) rfl (fun ls hl => ?_)
  refine lv_iload hx hb dL_holds_157 (lv_at hl 10 rfl) ?_
  refine lv_iload hx hb dL_holds_159 (lv_at hl 5 rfl) ?_
  refine lv_iadd hx hb dL_holds_161 ?_
  refine lv_istore (lv' := [(5, .int ((ask (qr q) m) + (szo (qr q) m))), (4, .int (nI (amk (qr q) m + mIn (qr q) m))), (14, .int (subk (qr q) m 16)), (13, .int (nI (mIn (qr q) m))), (12, .int (nI 0)), (11, .int (nI 1)), (10, .int (szo (qr q) m)), (9, .int (omv (qr q) m 4)), (8, .int (nI m)), (7, .int (nI 1)), (6, .int (nI (cz (fun m9 => Inr (qr q) m9) m))), (3, .int (nI (kpn (qr q)))), (2, .int (nI (mot (td (qr q))))), (0, .ref me), (1, .int (nI x))]) hx hb dL_holds_162 hl (by decide) rfl (fun ls hl => ?_)
  refine lv_iload hx hb dL_holds_164 (lv_at hl 10 rfl) ?_
  refine lv_iload hx hb dL_holds_166 (lv_at hl 4 rfl) ?_
  refine z0_eq hx hb (tgt := 175) 0 dL_holds_168 (by decide) (by decide) (fun c_168 => ?_) (fun c_168 => absurd c_168 (by decide))
  refine lv_iconst (v := nI 0) hx hb dL_holds_175 (by decide) ?_
  refine n_iadd hx hb dL_holds_176 ?_
  refine lv_istore (lv' := [(6, .int (nI (cz (fun m9 => Inr (qr q) m9) m + 0))), (5, .int ((ask (qr q) m) + (szo (qr q) m))), (4, .int (nI (amk (qr q) m + mIn (qr q) m))), (14, .int (subk (qr q) m 16)), (13, .int (nI (mIn (qr q) m))), (12, .int (nI 0)), (11, .int (nI 1)), (10, .int (szo (qr q) m)), (9, .int (omv (qr q) m 4)), (8, .int (nI m)), (7, .int (nI 1)), (3, .int (nI (kpn (qr q)))), (2, .int (nI (mot (td (qr q))))), (0, .ref me), (1, .int (nI x))]) hx hb dL_holds_177 hl (by decide) rfl (fun ls hl => ?_)
  refine lv_iload hx hb dL_holds_179 (lv_at hl 6 rfl) ?_
  refine lv_iload hx hb dL_holds_181 (lv_at hl 9 rfl) ?_
  refine lv_iload_n hx hb dL_holds_183 rfl (lv_at hl 11 rfl) ?_
  refine n_iadd hx hb dL_holds_184 ?_
  refine lv_iload_n hx hb dL_holds_185 rfl (lv_at hl 12 rfl) ?_
  refine z_gt hx hb (tgt := 193) ((m + kpn (qr q) : Nat) : Int) ((mot (td (qr q)) : Nat) : Int) dL_holds_186 (by decide) (toI (by omega)) (toI (by omega)) (fun c_186 => absurd c_186 (by omega)) (fun c_186 => ?_)
  refine lv_iconst (v := nI 1) hx hb dL_holds_189 (by decide) ?_
  refine lv_goto (tgt := 194) hx hb dL_holds_190 (by decide) ?_
  refine z_ne hx hb (tgt := 376) ((nI 1 : Int32).toInt) ((nI 1 : Int32).toInt) dL_holds_194 (by decide) rfl rfl (fun c_194 => absurd rfl c_194) (fun c_194 => ?_)
  refine lv_iload hx hb dL_holds_197 (lv_at hl 5 rfl) ?_
  refine z0_eq hx hb (tgt := 247) 0 dL_holds_199 (by decide) (by decide) (fun c_199 => ?_) (fun c_199 => absurd c_199 (by decide))
  refine lv_iload hx hb dL_holds_247 (lv_at hl 5 rfl) ?_
  refine z0_ne hx hb (tgt := 265) 0 dL_holds_249 (by decide) (by decide) (fun c_249 => absurd c_249 (by decide)) (fun c_249 => ?_)
  refine lv_aload_n hx hb dL_holds_252 rfl (lv_at hl 13 rfl) ?_
  refine lv_iload hx hb dL_holds_253 (lv_at hl 9 rfl) ?_
  refine lv_bipush (v := nI 9) hx hb dL_holds_255 (by decide) ?_
  refine kA (As := [.int (nI m), .int (nI 9)]) (rest := []) (wr := []) (wc := w) (b := me) hF (act_res (a_ofMonth l hok m (nI 9) (by omega) (X := 9) rfl) om_9) hC rfl mw_2_175 mw_2_176 mw_2_177 mw_1_1 mw_2_178 hd_X3_ofMonth ⟨Nat.le_of_ble_eq_true rfl, Nat.le_of_ble_eq_true rfl⟩ hKx hZ hS hP hD hA rfl hl.1 rfl (Nat.le_of_ble_eq_true rfl) dL_holds_257 hf (fun wx10 H locs hCx9 hP hD hS => ?_)
  refine lv_bipush (v := (-6)) hx hb dL_holds_260 (by decide) ?_
  refine z_ne hx hb (tgt := 376) (-6) (-6) dL_holds_262 (by decide) h9 (by decide) (fun c_262 => absurd c_262 (by omega)) (fun c_262 => ?_)
  refine lv_iload hx hb dL_holds_265 (lv_at hl 4 rfl) ?_
  refine lv_aload_n hx hb dL_holds_267 rfl (lv_at hl 13 rfl) ?_
  refine lv_iload hx hb dL_holds_268 (lv_at hl 9 rfl) ?_
  refine lv_bipush (v := nI 7) hx hb dL_holds_270 (by decide) ?_
  refine kA (As := [.int (nI m), .int (nI 7)]) (rest := [.int (nI (mIn (qr q) m))]) (wr := []) (wc := wx10) (b := me) hF (act_res (a_ofMonth l hok m (nI 7) (by omega) (X := 7) rfl) om_7) hCx9 rfl mw_2_175 mw_2_176 mw_2_177 mw_1_1 mw_2_178 hd_X3_ofMonth ⟨Nat.le_of_ble_eq_true rfl, Nat.le_of_ble_eq_true rfl⟩ hKx hZ hS hP hD hA rfl hl.1 rfl (Nat.le_of_ble_eq_true rfl) dL_holds_272 hf (fun wx12 H locs hCx11 hP hD hS => ?_)
  refine z_ne hx hb (tgt := 376) ((nI (mIn (qr q) m) : Int32).toInt) ((nI (mIn (qr q) m) : Int32).toInt) dL_holds_275 (by decide) rfl rfl (fun c_275 => absurd rfl c_275) (fun c_275 => ?_)
  refine lv_iload hx hb dL_holds_278 (lv_at hl 3 rfl) ?_
  refine lv_aload_n hx hb dL_holds_280 rfl (lv_at hl 13 rfl) ?_
  refine lv_iload hx hb dL_holds_281 (lv_at hl 9 rfl) ?_
  refine lv_bipush (v := nI 8) hx hb dL_holds_283 (by decide) ?_
  refine kA (As := [.int (nI m), .int (nI 8)]) (rest := [.int (subk (qr q) m 16)]) (wr := []) (wc := wx12) (b := me) hF (act_res (a_ofMonth l hok m (nI 8) (by omega) (X := 8) rfl) om_8) hCx11 rfl mw_2_175 mw_2_176 mw_2_177 mw_1_1 mw_2_178 hd_X3_ofMonth ⟨Nat.le_of_ble_eq_true rfl, Nat.le_of_ble_eq_true rfl⟩ hKx hZ hS hP hD hA rfl hl.1 rfl (Nat.le_of_ble_eq_true rfl) dL_holds_285 hf (fun wx14 H locs hCx13 hP hD hS => ?_)
  refine z_ne hx hb (tgt := 376) ((subk (qr q) m 16 : Int32).toInt) ((subk (qr q) m 16 : Int32).toInt) dL_holds_288 (by decide) rfl rfl (fun c_288 => absurd rfl c_288) (fun c_288 => ?_)
  refine lv_iload hx hb dL_holds_291 (lv_at hl 6 rfl) ?_
  refine z0_ne hx hb (tgt := 302) 1 dL_holds_293 (by decide) (by decide) (fun c_293 => ?_) (fun c_293 => absurd c_293 (by decide))
  refine lv_iload hx hb dL_holds_302 (lv_at hl 8 rfl) ?_
  refine z0_ne hx hb (tgt := 317) 0 dL_holds_304 (by decide) h4 (fun c_304 => absurd c_304 (by omega)) (fun c_304 => ?_)
  refine lv_iload hx hb dL_holds_307 (lv_at hl 4 rfl) ?_
  refine z0_ne hx hb (tgt := 376) ((mIn (qr q) m : Nat) : Int) dL_holds_309 (by decide) (toI (by omega)) (fun c_309 => absurd c_309 (by omega)) (fun c_309 => ?_)
  refine lv_iload hx hb dL_holds_312 (lv_at hl 7 rfl) ?_
  refine z0_ne hx hb (tgt := 376) 0 dL_holds_314 (by decide) h5 (fun c_314 => absurd c_314 (by omega)) (fun c_314 => ?_)
  refine lv_iload hx hb dL_holds_317 (lv_at hl 8 rfl) ?_
  refine lv_iconst (v := nI 1) hx hb dL_holds_319 (by decide) ?_
  refine z_ne hx hb (tgt := 353) 0 1 dL_holds_320 (by decide) h4 (by decide) (fun c_320 => ?_) (fun c_320 => absurd c_320 (by omega))
  refine lv_iload hx hb dL_holds_353 (lv_at hl 8 rfl) ?_
  refine lv_iconst (v := nI 1) hx hb dL_holds_355 (by decide) ?_
  refine z_eq hx hb (tgt := 372) 0 1 dL_holds_356 (by decide) h4 (by decide) (fun c_356 => absurd c_356 (by omega)) (fun c_356 => ?_)
  refine lv_aload_n hx hb dL_holds_359 rfl (lv_at hl 13 rfl) ?_
  refine lv_iload hx hb dL_holds_360 (lv_at hl 9 rfl) ?_
  refine lv_bipush (v := nI 6) hx hb dL_holds_362 (by decide) ?_
  refine kA (As := [.int (nI m), .int (nI 6)]) (rest := []) (wr := []) (wc := wx14) (b := me) hF (act_res (a_ofMonth l hok m (nI 6) (by omega) (X := 6) rfl) om_6) hCx13 rfl mw_2_175 mw_2_176 mw_2_177 mw_1_1 mw_2_178 hd_X3_ofMonth ⟨Nat.le_of_ble_eq_true rfl, Nat.le_of_ble_eq_true rfl⟩ hKx hZ hS hP hD hA rfl hl.1 rfl (Nat.le_of_ble_eq_true rfl) dL_holds_364 hf (fun wx16 H locs hCx15 hP hD hS => ?_)
  refine lv_bipush (v := (-6)) hx hb dL_holds_367 (by decide) ?_
  refine z_ne hx hb (tgt := 376) (-6) (-6) dL_holds_369 (by decide) h6 (by decide) (fun c_369 => absurd c_369 (by omega)) (fun c_369 => ?_)
  refine lv_iconst (v := nI 1) hx hb dL_holds_372 (by decide) ?_
  refine lv_goto (tgt := 377) hx hb dL_holds_373 (by decide) ?_
  refine lv_istore (lv' := [(7, .int (nI 1)), (6, .int (nI (cz (fun m9 => Inr (qr q) m9) m + 0))), (5, .int ((ask (qr q) m) + (szo (qr q) m))), (4, .int (nI (amk (qr q) m + mIn (qr q) m))), (14, .int (subk (qr q) m 16)), (13, .int (nI (mIn (qr q) m))), (12, .int (nI 0)), (11, .int (nI 1)), (10, .int (szo (qr q) m)), (9, .int (omv (qr q) m 4)), (8, .int (nI m)), (3, .int (nI (kpn (qr q)))), (2, .int (nI (mot (td (qr q))))), (0, .ref me), (1, .int (nI x))]) hx hb dL_holds_377 hl (by decide) rfl (fun ls hl => ?_)
  refine lv_iinc (v := nI (m + 1)) (lv' := [(8, .int (nI (m + 1))), (7, .int (nI 1)), (6, .int (nI (cz (fun m9 => Inr (qr q) m9) m + 0))), (5, .int ((ask (qr q) m) + (szo (qr q) m))), (4, .int (nI (amk (qr q) m + mIn (qr q) m))), (14, .int (subk (qr q) m 16)), (13, .int (nI (mIn (qr q) m))), (12, .int (nI 0)), (11, .int (nI 1)), (10, .int (szo (qr q) m)), (9, .int (omv (qr q) m 4)), (3, .int (nI (kpn (qr q)))), (2, .int (nI (mot (td (qr q))))), (0, .ref me), (1, .int (nI x))]) hx hb dL_holds_379 hl (k := 10) rfl (nI_add _ _) (by decide) rfl (fun ls hl => ?_)
  refine lv_goto (tgt := 28) hx hb dL_holds_382 (by decide) ?_
  have e4 : nI (amk (qr q) m + mIn (qr q) m) = nI (amk (qr q) (m + 1)) := rfl
  have e5 : ask (qr q) m + szo (qr q) m = ask (qr q) (m + 1) := rfl
  have e6 : nI (cz (fun m9 => Inr (qr q) m9) m + 0) = nI (cz (fun m9 => Inr (qr q) m9) (m + 1)) := by rw [cz_f hI, Nat.add_zero]
  rw [e4, e5, e6] at hl
  exact kk _ _ _ ls hCx15 hP hD hS (lv_sub hl [0, 1, 2, 3, 4, 11, 12, 13, 14] rfl)
set_option maxHeartbeats 4000000 in
set_option maxRecDepth 100000 in
theorem holds_mC (hok : OkD q) (hF : CallFix pq mq cq cL_holds 18 sq args GW RL) (hKx : Kx G sq) (hZ : Zs A sq) (hA : ∀ q, sq.heap.size ≤ q → A q) (hC : CS G me q w) (hP : va_P G.1 vwCl ([] ++ w) H) (hD : va_D A ([] ++ w)) (hS : va_S A sq.heap H locs) {m : Nat} (hm : m ≤ mot (td (qr q))) (hO : m + kpn (qr q) ≤ mot (td (qr q))) (hI : ¬ Inr (qr q) m) (hf0 : qr q (15 + m) = nI 2) {j : Nat} (hj : j < m) (hnj : qr q (135 + m) = nI j) (hp : plo (qr q) m = -6) (hl : lv_has ls 18 [(8, .int (nI m)), (7, .int (nI 1)), (6, .int (nI (cz (fun m9 => Inr (qr q) m9) m))), (5, .int (ask (qr q) m)), (4, .int (nI (amk (qr q) m))), (3, .int (nI (kpn (qr q)))), (2, .int (nI (mot (td (qr q))))), (0, .ref me), (1, .int (nI x))])
    (kk : ∀ (w : va_W) (H : Heap) (locs : List Loc) (ls : Array Slot), CS G me q w → va_P G.1 vwCl ([] ++ w) H → va_D A ([] ++ w) → va_S A sq.heap H locs → lv_has ls 18 [(8, .int (nI (m + 1))), (7, .int (nI 1)), (6, .int (nI (cz (fun m9 => Inr (qr q) m9) (m + 1)))), (5, .int (ask (qr q) (m + 1))), (4, .int (nI (amk (qr q) (m + 1)))), (3, .int (nI (kpn (qr q)))), (2, .int (nI (mot (td (qr q))))), (0, .ref me), (1, .int (nI x))] → W pq l eq (rmL 10) sq mq args bq tq cq H locs 0 0 Q (F0 mq 28 ls [])) : W pq l eq (rmL 10) sq mq args bq tq cq H locs 0 0 Q (F0 mq 39 ls []) := by
  have hx := hF.1
  have hb := hF.2.1
  have hml := hF.2.2.1
  have hown : sq.vm.findClass "FoldedMonthsLaw" = some mq.cls := hF.2.2.2.1
  have hts : ∀ w ∈ GW, w.before _ sq = true := hF.2.2.2.2
  have hf : 0 ≤ (rmL 10).cells ∧ 0 ≤ (rmL 10).slots := ⟨Nat.zero_le _, Nat.zero_le _⟩
  have htd : td (qr q) < 3650 := hok.1.1.1.1.2.1
  have hmt := (mot_row htd).1
  have hk12 : kpn (qr q) ≤ 12 := hok.1.1.1.1.2.2.2.1
  have hk1 : 1 ≤ kpn (qr q) := hok.1.1.2.1
  have hny : ny (qr q) ≤ 6 := hok.1.1.1.1.2.2.2.2.2.2.2.1
  have hno : ny (qr q) ≤ opn (qr q) := hok.1.1.1.2
  have hop : opn (qr q) ≤ 6 := hok.1.1.1.1.2.2.2.2.2.1
  have hamk := amk_le (qr q) m
  have hmi := mIk_le (qr q) m 16
  have hcz := cz_n (fun m9 => Inr (qr q) m9) m
  have h2 : (pI (m + kpn (qr q) ≤ mot (td (qr q)))).toInt = 1 := by rw [pI_t hO]; decide
  have h3 : (pI (¬ plo (qr q) m = -6)).toInt = 0 := by rw [pI_f (fun z => z hp)]; decide
  have h4 : (omv (qr q) m 4).toInt = 1 := by rw [om_4 (f := 2) hf0 (by omega)]; rfl
  have h5 : (szo (qr q) m).toInt = 1 := by rw [sz_2 hf0]; decide
  have h9 : (plo (qr q) m).toInt = -6 := by rw [hp]; decide
  have h6 : (if (qr q (15 + m)).toInt = 2 then qr q (135 + m) else -6 : Int32).toInt = ((j : Nat) : Int) := by rw [if_pos (by rw [hf0]; decide), hnj]; exact toI (by omega)
  refine lv_aload_n hx hb dL_holds_39 rfl (lv_at hl 7 rfl) ?_
  refine lv_iload hx hb dL_holds_40 (lv_at hl 0 rfl) ?_
  refine lv_iconst (v := nI 4) hx hb dL_holds_42 (by decide) ?_
  refine kA (As := [.int (nI m), .int (nI 4)]) (rest := []) (wr := []) (wc := w) (b := me) hF (act_res (a_ofMonth l hok m (nI 4) (by omega) (X := 4) rfl) rfl) hC rfl mw_2_175 mw_2_176 mw_2_177 mw_1_1 mw_2_178 hd_X3_ofMonth ⟨Nat.le_of_ble_eq_true rfl, Nat.le_of_ble_eq_true rfl⟩ hKx hZ hS hP hD hA rfl hl.1 rfl (Nat.le_of_ble_eq_true rfl) dL_holds_43 hf (fun wx2 H locs hCx1 hP hD hS => ?_)
  refine lv_istore (lv' := [(9, .int (omv (qr q) m 4)), (8, .int (nI m)), (7, .int (nI 1)), (6, .int (nI (cz (fun m9 => Inr (qr q) m9) m))), (5, .int (ask (qr q) m)), (4, .int (nI (amk (qr q) m))), (3, .int (nI (kpn (qr q)))), (2, .int (nI (mot (td (qr q))))), (0, .ref me), (1, .int (nI x))]) hx hb dL_holds_46 hl (by decide) rfl (fun ls hl => ?_)
  refine lv_aload_n hx hb dL_holds_48 rfl (lv_at hl 8 rfl) ?_
  refine lv_iload hx hb dL_holds_49 (lv_at hl 1 rfl) ?_
  refine lv_iconst (v := nI 5) hx hb dL_holds_51 (by decide) ?_
  refine kA (As := [.int (nI m), .int (nI 5)]) (rest := []) (wr := []) (wc := wx2) (b := me) hF (act_res (a_ofMonth l hok m (nI 5) (by omega) (X := 5) rfl) om_5) hCx1 rfl mw_2_175 mw_2_176 mw_2_177 mw_1_1 mw_2_178 hd_X3_ofMonth ⟨Nat.le_of_ble_eq_true rfl, Nat.le_of_ble_eq_true rfl⟩ hKx hZ hS hP hD hA rfl hl.1 rfl (Nat.le_of_ble_eq_true rfl) dL_holds_52 hf (fun wx4 H locs hCx3 hP hD hS => ?_)
  refine lv_istore (lv' := [(10, .int (szo (qr q) m)), (9, .int (omv (qr q) m 4)), (8, .int (nI m)), (7, .int (nI 1)), (6, .int (nI (cz (fun m9 => Inr (qr q) m9) m))), (5, .int (ask (qr q) m)), (4, .int (nI (amk (qr q) m))), (3, .int (nI (kpn (qr q)))), (2, .int (nI (mot (td (qr q))))), (0, .ref me), (1, .int (nI x))]) hx hb dL_holds_55 hl (by decide) rfl (fun ls hl => ?_)
  refine lv_aload_n hx hb dL_holds_57 rfl (lv_at hl 9 rfl) ?_
  refine lv_iload hx hb dL_holds_58 (lv_at hl 2 rfl) ?_
  refine lv_iconst (v := nI 2) hx hb dL_holds_60 (by decide) ?_
  refine kA (As := [.int (nI m), .int (nI 2)]) (rest := []) (wr := []) (wc := wx4) (b := me) hF (act_res (a_ofMonth l hok m (nI 2) (by omega) (X := 2) rfl) om_2) hCx3 rfl mw_2_175 mw_2_176 mw_2_177 mw_1_1 mw_2_178 hd_X3_ofMonth ⟨Nat.le_of_ble_eq_true rfl, Nat.le_of_ble_eq_true rfl⟩ hKx hZ hS hP hD hA rfl hl.1 rfl (Nat.le_of_ble_eq_true rfl) dL_holds_61 hf (fun wx6 H locs hCx5 hP hD hS => ?_)
  refine lv_iconst (v := nI 1) hx hb dL_holds_64 (by decide) ?_
  refine z_ne hx hb (tgt := 72) 1 1 dL_holds_65 (by decide) h2 (by decide) (fun c_65 => absurd c_65 (by omega)) (fun c_65 => ?_)
  refine lv_iconst (v := nI 1) hx hb dL_holds_68 (by decide) ?_
  refine lv_goto (tgt := 73) hx hb dL_holds_69 (by decide) ?_
  refine lv_istore (lv' := [(11, .int (nI 1)), (10, .int (szo (qr q) m)), (9, .int (omv (qr q) m 4)), (8, .int (nI m)), (7, .int (nI 1)), (6, .int (nI (cz (fun m9 => Inr (qr q) m9) m))), (5, .int (ask (qr q) m)), (4, .int (nI (amk (qr q) m))), (3, .int (nI (kpn (qr q)))), (2, .int (nI (mot (td (qr q))))), (0, .ref me), (1, .int (nI x))]) hx hb dL_holds_73 hl (by decide) rfl (fun ls hl => ?_)
  refine lv_aload_n hx hb dL_holds_75 rfl (lv_at hl 10 rfl) ?_
  refine lv_iload hx hb dL_holds_76 (lv_at hl 3 rfl) ?_
  refine lv_iconst (v := nI 3) hx hb dL_holds_78 (by decide) ?_
  refine kA (As := [.int (nI m), .int (nI 3)]) (rest := []) (wr := []) (wc := wx6) (b := me) hF (act_res (a_ofMonth l hok m (nI 3) (by omega) (X := 3) rfl) om_3) hCx5 rfl mw_2_175 mw_2_176 mw_2_177 mw_1_1 mw_2_178 hd_X3_ofMonth ⟨Nat.le_of_ble_eq_true rfl, Nat.le_of_ble_eq_true rfl⟩ hKx hZ hS hP hD hA rfl hl.1 rfl (Nat.le_of_ble_eq_true rfl) dL_holds_79 hf (fun wx8 H locs hCx7 hP hD hS => ?_)
  refine lv_iconst (v := nI 1) hx hb dL_holds_82 (by decide) ?_
  refine z_ne hx hb (tgt := 90) 0 1 dL_holds_83 (by decide) h3 (by decide) (fun c_83 => ?_) (fun c_83 => absurd c_83 (by omega))
  refine lv_iconst (v := nI 0) hx hb dL_holds_90 (by decide) ?_
  refine lv_istore (lv' := [(12, .int (nI 0)), (11, .int (nI 1)), (10, .int (szo (qr q) m)), (9, .int (omv (qr q) m 4)), (8, .int (nI m)), (7, .int (nI 1)), (6, .int (nI (cz (fun m9 => Inr (qr q) m9) m))), (5, .int (ask (qr q) m)), (4, .int (nI (amk (qr q) m))), (3, .int (nI (kpn (qr q)))), (2, .int (nI (mot (td (qr q))))), (0, .ref me), (1, .int (nI x))]) hx hb dL_holds_91 hl (by decide) rfl (fun ls hl => ?_)
  refine holds_in hok hF hKx hZ hA hCx7 hP hD hS (m := m) (by omega) hl ?_
  intro w H locs ls hC hP hD hS hl
  refine lv_iload hx hb dL_holds_150 (lv_at hl 10 rfl) ?_
  refine lv_iload hx hb dL_holds_152 (lv_at hl 1 rfl) ?_
  refine n_iadd hx hb dL_holds_154 ?_
  refine lv_istore (lv' := [(4, .int (nI (amk (qr q) m + mIn (qr q) m))), (14, .int (subk (qr q) m 16)), (13, .int (nI (mIn (qr q) m))), (12, .int (nI 0)), (11, .int (nI 1)), (10, .int (szo (qr q) m)), (9, .int (omv (qr q) m 4)), (8, .int (nI m)), (7, .int (nI 1)), (6, .int (nI (cz (fun m9 => Inr (qr q) m9) m))), (5, .int (ask (qr q) m)), (3, .int (nI (kpn (qr q)))), (2, .int (nI (mot (td (qr q))))), (0, .ref me), (1, .int (nI x))]) hx hb dL_holds_155 hl (by decide) rfl (fun ls hl => ?_)
  refine lv_iload hx hb dL_holds_157 (lv_at hl 10 rfl) ?_
  refine lv_iload hx hb dL_holds_159 (lv_at hl 5 rfl) ?_
  refine lv_iadd hx hb dL_holds_161 ?_
  refine lv_istore (lv' := [(5, .int ((ask (qr q) m) + (szo (qr q) m))), (4, .int (nI (amk (qr q) m + mIn (qr q) m))), (14, .int (subk (qr q) m 16)), (13, .int (nI (mIn (qr q) m))), (12, .int (nI 0)), (11, .int (nI 1)), (10, .int (szo (qr q) m)), (9, .int (omv (qr q) m 4)), (8, .int (nI m)), (7, .int (nI 1)), (6, .int (nI (cz (fun m9 => Inr (qr q) m9) m))), (3, .int (nI (kpn (qr q)))), (2, .int (nI (mot (td (qr q))))), (0, .ref me), (1, .int (nI x))]) hx hb dL_holds_162 hl (by decide) rfl (fun ls hl => ?_)
  refine lv_iload hx hb dL_holds_164 (lv_at hl 10 rfl) ?_
  refine lv_iload hx hb dL_holds_166 (lv_at hl 4 rfl) ?_
  refine z0_eq hx hb (tgt := 175) 0 dL_holds_168 (by decide) (by decide) (fun c_168 => ?_) (fun c_168 => absurd c_168 (by decide))
  refine lv_iconst (v := nI 0) hx hb dL_holds_175 (by decide) ?_
  refine n_iadd hx hb dL_holds_176 ?_
  refine lv_istore (lv' := [(6, .int (nI (cz (fun m9 => Inr (qr q) m9) m + 0))), (5, .int ((ask (qr q) m) + (szo (qr q) m))), (4, .int (nI (amk (qr q) m + mIn (qr q) m))), (14, .int (subk (qr q) m 16)), (13, .int (nI (mIn (qr q) m))), (12, .int (nI 0)), (11, .int (nI 1)), (10, .int (szo (qr q) m)), (9, .int (omv (qr q) m 4)), (8, .int (nI m)), (7, .int (nI 1)), (3, .int (nI (kpn (qr q)))), (2, .int (nI (mot (td (qr q))))), (0, .ref me), (1, .int (nI x))]) hx hb dL_holds_177 hl (by decide) rfl (fun ls hl => ?_)
  refine lv_iload hx hb dL_holds_179 (lv_at hl 6 rfl) ?_
  refine lv_iload hx hb dL_holds_181 (lv_at hl 9 rfl) ?_
  refine lv_iload_n hx hb dL_holds_183 rfl (lv_at hl 11 rfl) ?_
  refine n_iadd hx hb dL_holds_184 ?_
  refine lv_iload_n hx hb dL_holds_185 rfl (lv_at hl 12 rfl) ?_
  refine z_gt hx hb (tgt := 193) ((m + kpn (qr q) : Nat) : Int) ((mot (td (qr q)) : Nat) : Int) dL_holds_186 (by decide) (toI (by omega)) (toI (by omega)) (fun c_186 => absurd c_186 (by omega)) (fun c_186 => ?_)
  refine lv_iconst (v := nI 1) hx hb dL_holds_189 (by decide) ?_
  refine lv_goto (tgt := 194) hx hb dL_holds_190 (by decide) ?_
  refine z_ne hx hb (tgt := 376) ((nI 1 : Int32).toInt) ((nI 1 : Int32).toInt) dL_holds_194 (by decide) rfl rfl (fun c_194 => absurd rfl c_194) (fun c_194 => ?_)
  refine lv_iload hx hb dL_holds_197 (lv_at hl 5 rfl) ?_
  refine z0_eq hx hb (tgt := 247) 0 dL_holds_199 (by decide) (by decide) (fun c_199 => ?_) (fun c_199 => absurd c_199 (by decide))
  refine lv_iload hx hb dL_holds_247 (lv_at hl 5 rfl) ?_
  refine z0_ne hx hb (tgt := 265) 0 dL_holds_249 (by decide) (by decide) (fun c_249 => absurd c_249 (by decide)) (fun c_249 => ?_)
  refine lv_aload_n hx hb dL_holds_252 rfl (lv_at hl 13 rfl) ?_
  refine lv_iload hx hb dL_holds_253 (lv_at hl 9 rfl) ?_
  refine lv_bipush (v := nI 9) hx hb dL_holds_255 (by decide) ?_
  refine kA (As := [.int (nI m), .int (nI 9)]) (rest := []) (wr := []) (wc := w) (b := me) hF (act_res (a_ofMonth l hok m (nI 9) (by omega) (X := 9) rfl) om_9) hC rfl mw_2_175 mw_2_176 mw_2_177 mw_1_1 mw_2_178 hd_X3_ofMonth ⟨Nat.le_of_ble_eq_true rfl, Nat.le_of_ble_eq_true rfl⟩ hKx hZ hS hP hD hA rfl hl.1 rfl (Nat.le_of_ble_eq_true rfl) dL_holds_257 hf (fun wx10 H locs hCx9 hP hD hS => ?_)
  refine lv_bipush (v := (-6)) hx hb dL_holds_260 (by decide) ?_
  refine z_ne hx hb (tgt := 376) (-6) (-6) dL_holds_262 (by decide) h9 (by decide) (fun c_262 => absurd c_262 (by omega)) (fun c_262 => ?_)
  refine lv_iload hx hb dL_holds_265 (lv_at hl 4 rfl) ?_
  refine lv_aload_n hx hb dL_holds_267 rfl (lv_at hl 13 rfl) ?_
  refine lv_iload hx hb dL_holds_268 (lv_at hl 9 rfl) ?_
  refine lv_bipush (v := nI 7) hx hb dL_holds_270 (by decide) ?_
  refine kA (As := [.int (nI m), .int (nI 7)]) (rest := [.int (nI (mIn (qr q) m))]) (wr := []) (wc := wx10) (b := me) hF (act_res (a_ofMonth l hok m (nI 7) (by omega) (X := 7) rfl) om_7) hCx9 rfl mw_2_175 mw_2_176 mw_2_177 mw_1_1 mw_2_178 hd_X3_ofMonth ⟨Nat.le_of_ble_eq_true rfl, Nat.le_of_ble_eq_true rfl⟩ hKx hZ hS hP hD hA rfl hl.1 rfl (Nat.le_of_ble_eq_true rfl) dL_holds_272 hf (fun wx12 H locs hCx11 hP hD hS => ?_)
  refine z_ne hx hb (tgt := 376) ((nI (mIn (qr q) m) : Int32).toInt) ((nI (mIn (qr q) m) : Int32).toInt) dL_holds_275 (by decide) rfl rfl (fun c_275 => absurd rfl c_275) (fun c_275 => ?_)
  refine lv_iload hx hb dL_holds_278 (lv_at hl 3 rfl) ?_
  refine lv_aload_n hx hb dL_holds_280 rfl (lv_at hl 13 rfl) ?_
  refine lv_iload hx hb dL_holds_281 (lv_at hl 9 rfl) ?_
  refine lv_bipush (v := nI 8) hx hb dL_holds_283 (by decide) ?_
  refine kA (As := [.int (nI m), .int (nI 8)]) (rest := [.int (subk (qr q) m 16)]) (wr := []) (wc := wx12) (b := me) hF (act_res (a_ofMonth l hok m (nI 8) (by omega) (X := 8) rfl) om_8) hCx11 rfl mw_2_175 mw_2_176 mw_2_177 mw_1_1 mw_2_178 hd_X3_ofMonth ⟨Nat.le_of_ble_eq_true rfl, Nat.le_of_ble_eq_true rfl⟩ hKx hZ hS hP hD hA rfl hl.1 rfl (Nat.le_of_ble_eq_true rfl) dL_holds_285 hf (fun wx14 H locs hCx13 hP hD hS => ?_)
  refine z_ne hx hb (tgt := 376) ((subk (qr q) m 16 : Int32).toInt) ((subk (qr q) m 16 : Int32).toInt) dL_holds_288 (by decide) rfl rfl (fun c_288 => absurd rfl c_288) (fun c_288 => ?_)
  refine lv_iload hx hb dL_holds_291 (lv_at hl 6 rfl) ?_
  refine z0_ne hx hb (tgt := 302) 1 dL_holds_293 (by decide) (by decide) (fun c_293 => ?_) (fun c_293 => absurd c_293 (by decide))
  refine lv_iload hx hb dL_holds_302 (lv_at hl 8 rfl) ?_
  refine z0_ne hx hb (tgt := 317) 1 dL_holds_304 (by decide) h4 (fun c_304 => ?_) (fun c_304 => absurd c_304 (by omega))
  refine lv_iload hx hb dL_holds_317 (lv_at hl 8 rfl) ?_
  refine lv_iconst (v := nI 1) hx hb dL_holds_319 (by decide) ?_
  refine z_ne hx hb (tgt := 353) 1 1 dL_holds_320 (by decide) h4 (by decide) (fun c_320 => absurd c_320 (by omega)) (fun c_320 => ?_)
  refine lv_iload hx hb dL_holds_323 (lv_at hl 7 rfl) ?_
  refine lv_iconst (v := nI 1) hx hb dL_holds_325 (by decide) ?_
  refine z_ne hx hb (tgt := 376) 1 1 dL_holds_326 (by decide) h5 (by decide) (fun c_326 => absurd c_326 (by omega)) (fun c_326 => ?_)
  refine lv_aload_n hx hb dL_holds_329 rfl (lv_at hl 13 rfl) ?_
  refine lv_iload hx hb dL_holds_330 (lv_at hl 9 rfl) ?_
  refine lv_bipush (v := nI 6) hx hb dL_holds_332 (by decide) ?_
  refine kA (As := [.int (nI m), .int (nI 6)]) (rest := []) (wr := []) (wc := wx14) (b := me) hF (act_res (a_ofMonth l hok m (nI 6) (by omega) (X := 6) rfl) om_6) hCx13 rfl mw_2_175 mw_2_176 mw_2_177 mw_1_1 mw_2_178 hd_X3_ofMonth ⟨Nat.le_of_ble_eq_true rfl, Nat.le_of_ble_eq_true rfl⟩ hKx hZ hS hP hD hA rfl hl.1 rfl (Nat.le_of_ble_eq_true rfl) dL_holds_334 hf (fun wx16 H locs hCx15 hP hD hS => ?_)
  refine z0_lt hx hb (tgt := 376) ((j : Nat) : Int) dL_holds_337 (by decide) h6 (fun c_337 => absurd c_337 (by omega)) (fun c_337 => ?_)
  refine lv_aload_n hx hb dL_holds_340 rfl (lv_at hl 13 rfl) ?_
  refine lv_iload hx hb dL_holds_341 (lv_at hl 9 rfl) ?_
  refine lv_bipush (v := nI 6) hx hb dL_holds_343 (by decide) ?_
  refine kA (As := [.int (nI m), .int (nI 6)]) (rest := []) (wr := []) (wc := wx16) (b := me) hF (act_res (a_ofMonth l hok m (nI 6) (by omega) (X := 6) rfl) om_6) hCx15 rfl mw_2_175 mw_2_176 mw_2_177 mw_1_1 mw_2_178 hd_X3_ofMonth ⟨Nat.le_of_ble_eq_true rfl, Nat.le_of_ble_eq_true rfl⟩ hKx hZ hS hP hD hA rfl hl.1 rfl (Nat.le_of_ble_eq_true rfl) dL_holds_345 hf (fun wx18 H locs hCx17 hP hD hS => ?_)
  refine lv_iload hx hb dL_holds_348 (lv_at hl 9 rfl) ?_
  refine z_ge hx hb (tgt := 376) ((j : Nat) : Int) ((m : Nat) : Int) dL_holds_350 (by decide) h6 (toI (by omega)) (fun c_350 => absurd c_350 (by omega)) (fun c_350 => ?_)
  refine lv_iload hx hb dL_holds_353 (lv_at hl 8 rfl) ?_
  refine lv_iconst (v := nI 1) hx hb dL_holds_355 (by decide) ?_
  refine z_eq hx hb (tgt := 372) 1 1 dL_holds_356 (by decide) h4 (by decide) (fun c_356 => ?_) (fun c_356 => absurd c_356 (by omega))
  refine lv_iconst (v := nI 1) hx hb dL_holds_372 (by decide) ?_
  refine lv_goto (tgt := 377) hx hb dL_holds_373 (by decide) ?_
  refine lv_istore (lv' := [(7, .int (nI 1)), (6, .int (nI (cz (fun m9 => Inr (qr q) m9) m + 0))), (5, .int ((ask (qr q) m) + (szo (qr q) m))), (4, .int (nI (amk (qr q) m + mIn (qr q) m))), (14, .int (subk (qr q) m 16)), (13, .int (nI (mIn (qr q) m))), (12, .int (nI 0)), (11, .int (nI 1)), (10, .int (szo (qr q) m)), (9, .int (omv (qr q) m 4)), (8, .int (nI m)), (3, .int (nI (kpn (qr q)))), (2, .int (nI (mot (td (qr q))))), (0, .ref me), (1, .int (nI x))]) hx hb dL_holds_377 hl (by decide) rfl (fun ls hl => ?_)
  refine lv_iinc (v := nI (m + 1)) (lv' := [(8, .int (nI (m + 1))), (7, .int (nI 1)), (6, .int (nI (cz (fun m9 => Inr (qr q) m9) m + 0))), (5, .int ((ask (qr q) m) + (szo (qr q) m))), (4, .int (nI (amk (qr q) m + mIn (qr q) m))), (14, .int (subk (qr q) m 16)), (13, .int (nI (mIn (qr q) m))), (12, .int (nI 0)), (11, .int (nI 1)), (10, .int (szo (qr q) m)), (9, .int (omv (qr q) m 4)), (3, .int (nI (kpn (qr q)))), (2, .int (nI (mot (td (qr q))))), (0, .ref me), (1, .int (nI x))]) hx hb dL_holds_379 hl (k := 10) rfl (nI_add _ _) (by decide) rfl (fun ls hl => ?_)
  refine lv_goto (tgt := 28) hx hb dL_holds_382 (by decide) ?_
  have e4 : nI (amk (qr q) m + mIn (qr q) m) = nI (amk (qr q) (m + 1)) := rfl
  have e5 : ask (qr q) m + szo (qr q) m = ask (qr q) (m + 1) := rfl
  have e6 : nI (cz (fun m9 => Inr (qr q) m9) m + 0) = nI (cz (fun m9 => Inr (qr q) m9) (m + 1)) := by rw [cz_f hI, Nat.add_zero]
  rw [e4, e5, e6] at hl
  exact kk _ _ _ ls hCx17 hP hD hS (lv_sub hl [0, 1, 2, 3, 4, 11, 12, 13, 14] rfl)
set_option maxHeartbeats 4000000 in
set_option maxRecDepth 100000 in
theorem holds_mD (hok : OkD q) (hF : CallFix pq mq cq cL_holds 18 sq args GW RL) (hKx : Kx G sq) (hZ : Zs A sq) (hA : ∀ q, sq.heap.size ≤ q → A q) (hC : CS G me q w) (hP : va_P G.1 vwCl ([] ++ w) H) (hD : va_D A ([] ++ w)) (hS : va_S A sq.heap H locs) {m : Nat} (hm : m ≤ mot (td (qr q))) (hO : m + kpn (qr q) ≤ mot (td (qr q))) (hI : ¬ Inr (qr q) m) {f : Nat} (hf3 : 3 ≤ f ∧ f ≤ 5) (hf0 : qr q (15 + m) = nI f) (hp : plo (qr q) m = -6) (hl : lv_has ls 18 [(8, .int (nI m)), (7, .int (nI 1)), (6, .int (nI (cz (fun m9 => Inr (qr q) m9) m))), (5, .int (ask (qr q) m)), (4, .int (nI (amk (qr q) m))), (3, .int (nI (kpn (qr q)))), (2, .int (nI (mot (td (qr q))))), (0, .ref me), (1, .int (nI x))])
    (kk : ∀ (w : va_W) (H : Heap) (locs : List Loc) (ls : Array Slot), CS G me q w → va_P G.1 vwCl ([] ++ w) H → va_D A ([] ++ w) → va_S A sq.heap H locs → lv_has ls 18 [(8, .int (nI (m + 1))), (7, .int (nI 1)), (6, .int (nI (cz (fun m9 => Inr (qr q) m9) (m + 1)))), (5, .int (ask (qr q) (m + 1))), (4, .int (nI (amk (qr q) (m + 1)))), (3, .int (nI (kpn (qr q)))), (2, .int (nI (mot (td (qr q))))), (0, .ref me), (1, .int (nI x))] → W pq l eq (rmL 10) sq mq args bq tq cq H locs 0 0 Q (F0 mq 28 ls [])) : W pq l eq (rmL 10) sq mq args bq tq cq H locs 0 0 Q (F0 mq 39 ls []) := by
  have hx := hF.1
  have hb := hF.2.1
  have hml := hF.2.2.1
  have hown : sq.vm.findClass "FoldedMonthsLaw" = some mq.cls := hF.2.2.2.1
  have hts : ∀ w ∈ GW, w.before _ sq = true := hF.2.2.2.2
  have hf : 0 ≤ (rmL 10).cells ∧ 0 ≤ (rmL 10).slots := ⟨Nat.zero_le _, Nat.zero_le _⟩
  have htd : td (qr q) < 3650 := hok.1.1.1.1.2.1
  have hmt := (mot_row htd).1
  have hk12 : kpn (qr q) ≤ 12 := hok.1.1.1.1.2.2.2.1
  have hk1 : 1 ≤ kpn (qr q) := hok.1.1.2.1
  have hny : ny (qr q) ≤ 6 := hok.1.1.1.1.2.2.2.2.2.2.2.1
  have hno : ny (qr q) ≤ opn (qr q) := hok.1.1.1.2
  have hop : opn (qr q) ≤ 6 := hok.1.1.1.1.2.2.2.2.2.1
  have hamk := amk_le (qr q) m
  have hmi := mIk_le (qr q) m 16
  have hcz := cz_n (fun m9 => Inr (qr q) m9) m
  have h2 : (pI (m + kpn (qr q) ≤ mot (td (qr q)))).toInt = 1 := by rw [pI_t hO]; decide
  have h3 : (pI (¬ plo (qr q) m = -6)).toInt = 0 := by rw [pI_f (fun z => z hp)]; decide
  have h4 : (omv (qr q) m 4).toInt = ((f - 1 : Nat) : Int) := by rw [om_4 (f := f) hf0 (by omega)]; rw [if_neg (by omega), toI (by omega)]
  have h9 : (plo (qr q) m).toInt = -6 := by rw [hp]; decide
  have h6 : (if (qr q (15 + m)).toInt = 2 then qr q (135 + m) else -6 : Int32).toInt = -6 := by rw [if_neg (by rw [hf0, toI (by omega)]; omega)]; decide
  refine lv_aload_n hx hb dL_holds_39 rfl (lv_at hl 7 rfl) ?_
  refine lv_iload hx hb dL_holds_40 (lv_at hl 0 rfl) ?_
  refine lv_iconst (v := nI 4) hx hb dL_holds_42 (by decide) ?_
  refine kA (As := [.int (nI m), .int (nI 4)]) (rest := []) (wr := []) (wc := w) (b := me) hF (act_res (a_ofMonth l hok m (nI 4) (by omega) (X := 4) rfl) rfl) hC rfl mw_2_175 mw_2_176 mw_2_177 mw_1_1 mw_2_178 hd_X3_ofMonth ⟨Nat.le_of_ble_eq_true rfl, Nat.le_of_ble_eq_true rfl⟩ hKx hZ hS hP hD hA rfl hl.1 rfl (Nat.le_of_ble_eq_true rfl) dL_holds_43 hf (fun wx2 H locs hCx1 hP hD hS => ?_)
  refine lv_istore (lv' := [(9, .int (omv (qr q) m 4)), (8, .int (nI m)), (7, .int (nI 1)), (6, .int (nI (cz (fun m9 => Inr (qr q) m9) m))), (5, .int (ask (qr q) m)), (4, .int (nI (amk (qr q) m))), (3, .int (nI (kpn (qr q)))), (2, .int (nI (mot (td (qr q))))), (0, .ref me), (1, .int (nI x))]) hx hb dL_holds_46 hl (by decide) rfl (fun ls hl => ?_)
  refine lv_aload_n hx hb dL_holds_48 rfl (lv_at hl 8 rfl) ?_
  refine lv_iload hx hb dL_holds_49 (lv_at hl 1 rfl) ?_
  refine lv_iconst (v := nI 5) hx hb dL_holds_51 (by decide) ?_
  refine kA (As := [.int (nI m), .int (nI 5)]) (rest := []) (wr := []) (wc := wx2) (b := me) hF (act_res (a_ofMonth l hok m (nI 5) (by omega) (X := 5) rfl) om_5) hCx1 rfl mw_2_175 mw_2_176 mw_2_177 mw_1_1 mw_2_178 hd_X3_ofMonth ⟨Nat.le_of_ble_eq_true rfl, Nat.le_of_ble_eq_true rfl⟩ hKx hZ hS hP hD hA rfl hl.1 rfl (Nat.le_of_ble_eq_true rfl) dL_holds_52 hf (fun wx4 H locs hCx3 hP hD hS => ?_)
  refine lv_istore (lv' := [(10, .int (szo (qr q) m)), (9, .int (omv (qr q) m 4)), (8, .int (nI m)), (7, .int (nI 1)), (6, .int (nI (cz (fun m9 => Inr (qr q) m9) m))), (5, .int (ask (qr q) m)), (4, .int (nI (amk (qr q) m))), (3, .int (nI (kpn (qr q)))), (2, .int (nI (mot (td (qr q))))), (0, .ref me), (1, .int (nI x))]) hx hb dL_holds_55 hl (by decide) rfl (fun ls hl => ?_)
  refine lv_aload_n hx hb dL_holds_57 rfl (lv_at hl 9 rfl) ?_
  refine lv_iload hx hb dL_holds_58 (lv_at hl 2 rfl) ?_
  refine lv_iconst (v := nI 2) hx hb dL_holds_60 (by decide) ?_
  refine kA (As := [.int (nI m), .int (nI 2)]) (rest := []) (wr := []) (wc := wx4) (b := me) hF (act_res (a_ofMonth l hok m (nI 2) (by omega) (X := 2) rfl) om_2) hCx3 rfl mw_2_175 mw_2_176 mw_2_177 mw_1_1 mw_2_178 hd_X3_ofMonth ⟨Nat.le_of_ble_eq_true rfl, Nat.le_of_ble_eq_true rfl⟩ hKx hZ hS hP hD hA rfl hl.1 rfl (Nat.le_of_ble_eq_true rfl) dL_holds_61 hf (fun wx6 H locs hCx5 hP hD hS => ?_)
  refine lv_iconst (v := nI 1) hx hb dL_holds_64 (by decide) ?_
  refine z_ne hx hb (tgt := 72) 1 1 dL_holds_65 (by decide) h2 (by decide) (fun c_65 => absurd c_65 (by omega)) (fun c_65 => ?_)
  refine lv_iconst (v := nI 1) hx hb dL_holds_68 (by decide) ?_
  refine lv_goto (tgt := 73) hx hb dL_holds_69 (by decide) ?_
  refine lv_istore (lv' := [(11, .int (nI 1)), (10, .int (szo (qr q) m)), (9, .int (omv (qr q) m 4)), (8, .int (nI m)), (7, .int (nI 1)), (6, .int (nI (cz (fun m9 => Inr (qr q) m9) m))), (5, .int (ask (qr q) m)), (4, .int (nI (amk (qr q) m))), (3, .int (nI (kpn (qr q)))), (2, .int (nI (mot (td (qr q))))), (0, .ref me), (1, .int (nI x))]) hx hb dL_holds_73 hl (by decide) rfl (fun ls hl => ?_)
  refine lv_aload_n hx hb dL_holds_75 rfl (lv_at hl 10 rfl) ?_
  refine lv_iload hx hb dL_holds_76 (lv_at hl 3 rfl) ?_
  refine lv_iconst (v := nI 3) hx hb dL_holds_78 (by decide) ?_
  refine kA (As := [.int (nI m), .int (nI 3)]) (rest := []) (wr := []) (wc := wx6) (b := me) hF (act_res (a_ofMonth l hok m (nI 3) (by omega) (X := 3) rfl) om_3) hCx5 rfl mw_2_175 mw_2_176 mw_2_177 mw_1_1 mw_2_178 hd_X3_ofMonth ⟨Nat.le_of_ble_eq_true rfl, Nat.le_of_ble_eq_true rfl⟩ hKx hZ hS hP hD hA rfl hl.1 rfl (Nat.le_of_ble_eq_true rfl) dL_holds_79 hf (fun wx8 H locs hCx7 hP hD hS => ?_)
  refine lv_iconst (v := nI 1) hx hb dL_holds_82 (by decide) ?_
  refine z_ne hx hb (tgt := 90) 0 1 dL_holds_83 (by decide) h3 (by decide) (fun c_83 => ?_) (fun c_83 => absurd c_83 (by omega))
  refine lv_iconst (v := nI 0) hx hb dL_holds_90 (by decide) ?_
  refine lv_istore (lv' := [(12, .int (nI 0)), (11, .int (nI 1)), (10, .int (szo (qr q) m)), (9, .int (omv (qr q) m 4)), (8, .int (nI m)), (7, .int (nI 1)), (6, .int (nI (cz (fun m9 => Inr (qr q) m9) m))), (5, .int (ask (qr q) m)), (4, .int (nI (amk (qr q) m))), (3, .int (nI (kpn (qr q)))), (2, .int (nI (mot (td (qr q))))), (0, .ref me), (1, .int (nI x))]) hx hb dL_holds_91 hl (by decide) rfl (fun ls hl => ?_)
  refine holds_in hok hF hKx hZ hA hCx7 hP hD hS (m := m) (by omega) hl ?_
  intro w H locs ls hC hP hD hS hl
  refine lv_iload hx hb dL_holds_150 (lv_at hl 10 rfl) ?_
  refine lv_iload hx hb dL_holds_152 (lv_at hl 1 rfl) ?_
  refine n_iadd hx hb dL_holds_154 ?_
  refine lv_istore (lv' := [(4, .int (nI (amk (qr q) m + mIn (qr q) m))), (14, .int (subk (qr q) m 16)), (13, .int (nI (mIn (qr q) m))), (12, .int (nI 0)), (11, .int (nI 1)), (10, .int (szo (qr q) m)), (9, .int (omv (qr q) m 4)), (8, .int (nI m)), (7, .int (nI 1)), (6, .int (nI (cz (fun m9 => Inr (qr q) m9) m))), (5, .int (ask (qr q) m)), (3, .int (nI (kpn (qr q)))), (2, .int (nI (mot (td (qr q))))), (0, .ref me), (1, .int (nI x))]) hx hb dL_holds_155 hl (by decide) rfl (fun ls hl => ?_)
  refine lv_iload hx hb dL_holds_157 (lv_at hl 10 rfl) ?_
  refine lv_iload hx hb dL_holds_159 (lv_at hl 5 rfl) ?_
  refine lv_iadd hx hb dL_holds_161 ?_
  refine lv_istore (lv' := [(5, .int ((ask (qr q) m) + (szo (qr q) m))), (4, .int (nI (amk (qr q) m + mIn (qr q) m))), (14, .int (subk (qr q) m 16)), (13, .int (nI (mIn (qr q) m))), (12, .int (nI 0)), (11, .int (nI 1)), (10, .int (szo (qr q) m)), (9, .int (omv (qr q) m 4)), (8, .int (nI m)), (7, .int (nI 1)), (6, .int (nI (cz (fun m9 => Inr (qr q) m9) m))), (3, .int (nI (kpn (qr q)))), (2, .int (nI (mot (td (qr q))))), (0, .ref me), (1, .int (nI x))]) hx hb dL_holds_162 hl (by decide) rfl (fun ls hl => ?_)
  refine lv_iload hx hb dL_holds_164 (lv_at hl 10 rfl) ?_
  refine lv_iload hx hb dL_holds_166 (lv_at hl 4 rfl) ?_
  refine z0_eq hx hb (tgt := 175) 0 dL_holds_168 (by decide) (by decide) (fun c_168 => ?_) (fun c_168 => absurd c_168 (by decide))
  refine lv_iconst (v := nI 0) hx hb dL_holds_175 (by decide) ?_
  refine n_iadd hx hb dL_holds_176 ?_
  refine lv_istore (lv' := [(6, .int (nI (cz (fun m9 => Inr (qr q) m9) m + 0))), (5, .int ((ask (qr q) m) + (szo (qr q) m))), (4, .int (nI (amk (qr q) m + mIn (qr q) m))), (14, .int (subk (qr q) m 16)), (13, .int (nI (mIn (qr q) m))), (12, .int (nI 0)), (11, .int (nI 1)), (10, .int (szo (qr q) m)), (9, .int (omv (qr q) m 4)), (8, .int (nI m)), (7, .int (nI 1)), (3, .int (nI (kpn (qr q)))), (2, .int (nI (mot (td (qr q))))), (0, .ref me), (1, .int (nI x))]) hx hb dL_holds_177 hl (by decide) rfl (fun ls hl => ?_)
  refine lv_iload hx hb dL_holds_179 (lv_at hl 6 rfl) ?_
  refine lv_iload hx hb dL_holds_181 (lv_at hl 9 rfl) ?_
  refine lv_iload_n hx hb dL_holds_183 rfl (lv_at hl 11 rfl) ?_
  refine n_iadd hx hb dL_holds_184 ?_
  refine lv_iload_n hx hb dL_holds_185 rfl (lv_at hl 12 rfl) ?_
  refine z_gt hx hb (tgt := 193) ((m + kpn (qr q) : Nat) : Int) ((mot (td (qr q)) : Nat) : Int) dL_holds_186 (by decide) (toI (by omega)) (toI (by omega)) (fun c_186 => absurd c_186 (by omega)) (fun c_186 => ?_)
  refine lv_iconst (v := nI 1) hx hb dL_holds_189 (by decide) ?_
  refine lv_goto (tgt := 194) hx hb dL_holds_190 (by decide) ?_
  refine z_ne hx hb (tgt := 376) ((nI 1 : Int32).toInt) ((nI 1 : Int32).toInt) dL_holds_194 (by decide) rfl rfl (fun c_194 => absurd rfl c_194) (fun c_194 => ?_)
  refine lv_iload hx hb dL_holds_197 (lv_at hl 5 rfl) ?_
  refine z0_eq hx hb (tgt := 247) 0 dL_holds_199 (by decide) (by decide) (fun c_199 => ?_) (fun c_199 => absurd c_199 (by decide))
  refine lv_iload hx hb dL_holds_247 (lv_at hl 5 rfl) ?_
  refine z0_ne hx hb (tgt := 265) 0 dL_holds_249 (by decide) (by decide) (fun c_249 => absurd c_249 (by decide)) (fun c_249 => ?_)
  refine lv_aload_n hx hb dL_holds_252 rfl (lv_at hl 13 rfl) ?_
  refine lv_iload hx hb dL_holds_253 (lv_at hl 9 rfl) ?_
  refine lv_bipush (v := nI 9) hx hb dL_holds_255 (by decide) ?_
  refine kA (As := [.int (nI m), .int (nI 9)]) (rest := []) (wr := []) (wc := w) (b := me) hF (act_res (a_ofMonth l hok m (nI 9) (by omega) (X := 9) rfl) om_9) hC rfl mw_2_175 mw_2_176 mw_2_177 mw_1_1 mw_2_178 hd_X3_ofMonth ⟨Nat.le_of_ble_eq_true rfl, Nat.le_of_ble_eq_true rfl⟩ hKx hZ hS hP hD hA rfl hl.1 rfl (Nat.le_of_ble_eq_true rfl) dL_holds_257 hf (fun wx10 H locs hCx9 hP hD hS => ?_)
  refine lv_bipush (v := (-6)) hx hb dL_holds_260 (by decide) ?_
  refine z_ne hx hb (tgt := 376) (-6) (-6) dL_holds_262 (by decide) h9 (by decide) (fun c_262 => absurd c_262 (by omega)) (fun c_262 => ?_)
  refine lv_iload hx hb dL_holds_265 (lv_at hl 4 rfl) ?_
  refine lv_aload_n hx hb dL_holds_267 rfl (lv_at hl 13 rfl) ?_
  refine lv_iload hx hb dL_holds_268 (lv_at hl 9 rfl) ?_
  refine lv_bipush (v := nI 7) hx hb dL_holds_270 (by decide) ?_
  refine kA (As := [.int (nI m), .int (nI 7)]) (rest := [.int (nI (mIn (qr q) m))]) (wr := []) (wc := wx10) (b := me) hF (act_res (a_ofMonth l hok m (nI 7) (by omega) (X := 7) rfl) om_7) hCx9 rfl mw_2_175 mw_2_176 mw_2_177 mw_1_1 mw_2_178 hd_X3_ofMonth ⟨Nat.le_of_ble_eq_true rfl, Nat.le_of_ble_eq_true rfl⟩ hKx hZ hS hP hD hA rfl hl.1 rfl (Nat.le_of_ble_eq_true rfl) dL_holds_272 hf (fun wx12 H locs hCx11 hP hD hS => ?_)
  refine z_ne hx hb (tgt := 376) ((nI (mIn (qr q) m) : Int32).toInt) ((nI (mIn (qr q) m) : Int32).toInt) dL_holds_275 (by decide) rfl rfl (fun c_275 => absurd rfl c_275) (fun c_275 => ?_)
  refine lv_iload hx hb dL_holds_278 (lv_at hl 3 rfl) ?_
  refine lv_aload_n hx hb dL_holds_280 rfl (lv_at hl 13 rfl) ?_
  refine lv_iload hx hb dL_holds_281 (lv_at hl 9 rfl) ?_
  refine lv_bipush (v := nI 8) hx hb dL_holds_283 (by decide) ?_
  refine kA (As := [.int (nI m), .int (nI 8)]) (rest := [.int (subk (qr q) m 16)]) (wr := []) (wc := wx12) (b := me) hF (act_res (a_ofMonth l hok m (nI 8) (by omega) (X := 8) rfl) om_8) hCx11 rfl mw_2_175 mw_2_176 mw_2_177 mw_1_1 mw_2_178 hd_X3_ofMonth ⟨Nat.le_of_ble_eq_true rfl, Nat.le_of_ble_eq_true rfl⟩ hKx hZ hS hP hD hA rfl hl.1 rfl (Nat.le_of_ble_eq_true rfl) dL_holds_285 hf (fun wx14 H locs hCx13 hP hD hS => ?_)
  refine z_ne hx hb (tgt := 376) ((subk (qr q) m 16 : Int32).toInt) ((subk (qr q) m 16 : Int32).toInt) dL_holds_288 (by decide) rfl rfl (fun c_288 => absurd rfl c_288) (fun c_288 => ?_)
  refine lv_iload hx hb dL_holds_291 (lv_at hl 6 rfl) ?_
  refine z0_ne hx hb (tgt := 302) 1 dL_holds_293 (by decide) (by decide) (fun c_293 => ?_) (fun c_293 => absurd c_293 (by decide))
  refine lv_iload hx hb dL_holds_302 (lv_at hl 8 rfl) ?_
  refine z0_ne hx hb (tgt := 317) ((f - 1 : Nat) : Int) dL_holds_304 (by decide) h4 (fun c_304 => ?_) (fun c_304 => absurd c_304 (by omega))
  refine lv_iload hx hb dL_holds_317 (lv_at hl 8 rfl) ?_
  refine lv_iconst (v := nI 1) hx hb dL_holds_319 (by decide) ?_
  refine z_ne hx hb (tgt := 353) ((f - 1 : Nat) : Int) 1 dL_holds_320 (by decide) h4 (by decide) (fun c_320 => ?_) (fun c_320 => absurd c_320 (by omega))
  refine lv_iload hx hb dL_holds_353 (lv_at hl 8 rfl) ?_
  refine lv_iconst (v := nI 1) hx hb dL_holds_355 (by decide) ?_
  refine z_eq hx hb (tgt := 372) ((f - 1 : Nat) : Int) 1 dL_holds_356 (by decide) h4 (by decide) (fun c_356 => absurd c_356 (by omega)) (fun c_356 => ?_)
  refine lv_aload_n hx hb dL_holds_359 rfl (lv_at hl 13 rfl) ?_
  refine lv_iload hx hb dL_holds_360 (lv_at hl 9 rfl) ?_
  refine lv_bipush (v := nI 6) hx hb dL_holds_362 (by decide) ?_
  refine kA (As := [.int (nI m), .int (nI 6)]) (rest := []) (wr := []) (wc := wx14) (b := me) hF (act_res (a_ofMonth l hok m (nI 6) (by omega) (X := 6) rfl) om_6) hCx13 rfl mw_2_175 mw_2_176 mw_2_177 mw_1_1 mw_2_178 hd_X3_ofMonth ⟨Nat.le_of_ble_eq_true rfl, Nat.le_of_ble_eq_true rfl⟩ hKx hZ hS hP hD hA rfl hl.1 rfl (Nat.le_of_ble_eq_true rfl) dL_holds_364 hf (fun wx16 H locs hCx15 hP hD hS => ?_)
  refine lv_bipush (v := (-6)) hx hb dL_holds_367 (by decide) ?_
  refine z_ne hx hb (tgt := 376) (-6) (-6) dL_holds_369 (by decide) h6 (by decide) (fun c_369 => absurd c_369 (by omega)) (fun c_369 => ?_)
  refine lv_iconst (v := nI 1) hx hb dL_holds_372 (by decide) ?_
  refine lv_goto (tgt := 377) hx hb dL_holds_373 (by decide) ?_
  refine lv_istore (lv' := [(7, .int (nI 1)), (6, .int (nI (cz (fun m9 => Inr (qr q) m9) m + 0))), (5, .int ((ask (qr q) m) + (szo (qr q) m))), (4, .int (nI (amk (qr q) m + mIn (qr q) m))), (14, .int (subk (qr q) m 16)), (13, .int (nI (mIn (qr q) m))), (12, .int (nI 0)), (11, .int (nI 1)), (10, .int (szo (qr q) m)), (9, .int (omv (qr q) m 4)), (8, .int (nI m)), (3, .int (nI (kpn (qr q)))), (2, .int (nI (mot (td (qr q))))), (0, .ref me), (1, .int (nI x))]) hx hb dL_holds_377 hl (by decide) rfl (fun ls hl => ?_)
  refine lv_iinc (v := nI (m + 1)) (lv' := [(8, .int (nI (m + 1))), (7, .int (nI 1)), (6, .int (nI (cz (fun m9 => Inr (qr q) m9) m + 0))), (5, .int ((ask (qr q) m) + (szo (qr q) m))), (4, .int (nI (amk (qr q) m + mIn (qr q) m))), (14, .int (subk (qr q) m 16)), (13, .int (nI (mIn (qr q) m))), (12, .int (nI 0)), (11, .int (nI 1)), (10, .int (szo (qr q) m)), (9, .int (omv (qr q) m 4)), (3, .int (nI (kpn (qr q)))), (2, .int (nI (mot (td (qr q))))), (0, .ref me), (1, .int (nI x))]) hx hb dL_holds_379 hl (k := 10) rfl (nI_add _ _) (by decide) rfl (fun ls hl => ?_)
  refine lv_goto (tgt := 28) hx hb dL_holds_382 (by decide) ?_
  have e4 : nI (amk (qr q) m + mIn (qr q) m) = nI (amk (qr q) (m + 1)) := rfl
  have e5 : ask (qr q) m + szo (qr q) m = ask (qr q) (m + 1) := rfl
  have e6 : nI (cz (fun m9 => Inr (qr q) m9) m + 0) = nI (cz (fun m9 => Inr (qr q) m9) (m + 1)) := by rw [cz_f hI, Nat.add_zero]
  rw [e4, e5, e6] at hl
  exact kk _ _ _ ls hCx15 hP hD hS (lv_sub hl [0, 1, 2, 3, 4, 11, 12, 13, 14] rfl)
set_option maxHeartbeats 4000000 in
set_option maxRecDepth 100000 in
theorem holds_mE (hok : OkD q) (hF : CallFix pq mq cq cL_holds 18 sq args GW RL) (hKx : Kx G sq) (hZ : Zs A sq) (hA : ∀ q, sq.heap.size ≤ q → A q) (hC : CS G me q w) (hP : va_P G.1 vwCl ([] ++ w) H) (hD : va_D A ([] ++ w)) (hS : va_S A sq.heap H locs) {m : Nat} (hm : m ≤ mot (td (qr q))) (hO : ¬ m + kpn (qr q) ≤ mot (td (qr q))) (hI : ¬ Inr (qr q) m) (hf0 : qr q (15 + m) = nI 0) (hp : plo (qr q) m = -6) (hl : lv_has ls 18 [(8, .int (nI m)), (7, .int (nI 1)), (6, .int (nI (cz (fun m9 => Inr (qr q) m9) m))), (5, .int (ask (qr q) m)), (4, .int (nI (amk (qr q) m))), (3, .int (nI (kpn (qr q)))), (2, .int (nI (mot (td (qr q))))), (0, .ref me), (1, .int (nI x))])
    (kk : ∀ (w : va_W) (H : Heap) (locs : List Loc) (ls : Array Slot), CS G me q w → va_P G.1 vwCl ([] ++ w) H → va_D A ([] ++ w) → va_S A sq.heap H locs → lv_has ls 18 [(8, .int (nI (m + 1))), (7, .int (nI 1)), (6, .int (nI (cz (fun m9 => Inr (qr q) m9) (m + 1)))), (5, .int (ask (qr q) (m + 1))), (4, .int (nI (amk (qr q) (m + 1)))), (3, .int (nI (kpn (qr q)))), (2, .int (nI (mot (td (qr q))))), (0, .ref me), (1, .int (nI x))] → W pq l eq (rmL 10) sq mq args bq tq cq H locs 0 0 Q (F0 mq 28 ls [])) : W pq l eq (rmL 10) sq mq args bq tq cq H locs 0 0 Q (F0 mq 39 ls []) := by
  have hx := hF.1
  have hb := hF.2.1
  have hml := hF.2.2.1
  have hown : sq.vm.findClass "FoldedMonthsLaw" = some mq.cls := hF.2.2.2.1
  have hts : ∀ w ∈ GW, w.before _ sq = true := hF.2.2.2.2
  have hf : 0 ≤ (rmL 10).cells ∧ 0 ≤ (rmL 10).slots := ⟨Nat.zero_le _, Nat.zero_le _⟩
  have htd : td (qr q) < 3650 := hok.1.1.1.1.2.1
  have hmt := (mot_row htd).1
  have hk12 : kpn (qr q) ≤ 12 := hok.1.1.1.1.2.2.2.1
  have hk1 : 1 ≤ kpn (qr q) := hok.1.1.2.1
  have hny : ny (qr q) ≤ 6 := hok.1.1.1.1.2.2.2.2.2.2.2.1
  have hno : ny (qr q) ≤ opn (qr q) := hok.1.1.1.2
  have hop : opn (qr q) ≤ 6 := hok.1.1.1.1.2.2.2.2.2.1
  have hamk := amk_le (qr q) m
  have hmi := mIk_le (qr q) m 16
  have hcz := cz_n (fun m9 => Inr (qr q) m9) m
  have h2 : (pI (m + kpn (qr q) ≤ mot (td (qr q)))).toInt = 0 := by rw [pI_f hO]; decide
  have h3 : (pI (¬ plo (qr q) m = -6)).toInt = 0 := by rw [pI_f (fun z => z hp)]; decide
  have h4 : (omv (qr q) m 4).toInt = 4 := by rw [om_4 (f := 0) hf0 (by omega)]; rfl
  have h9 : (plo (qr q) m).toInt = -6 := by rw [hp]; decide
  have h6 : (if (qr q (15 + m)).toInt = 2 then qr q (135 + m) else -6 : Int32).toInt = -6 := by rw [if_neg (by rw [hf0, toI (by omega)]; omega)]; decide
  refine lv_aload_n hx hb dL_holds_39 rfl (lv_at hl 7 rfl) ?_
  refine lv_iload hx hb dL_holds_40 (lv_at hl 0 rfl) ?_
  refine lv_iconst (v := nI 4) hx hb dL_holds_42 (by decide) ?_
  refine kA (As := [.int (nI m), .int (nI 4)]) (rest := []) (wr := []) (wc := w) (b := me) hF (act_res (a_ofMonth l hok m (nI 4) (by omega) (X := 4) rfl) rfl) hC rfl mw_2_175 mw_2_176 mw_2_177 mw_1_1 mw_2_178 hd_X3_ofMonth ⟨Nat.le_of_ble_eq_true rfl, Nat.le_of_ble_eq_true rfl⟩ hKx hZ hS hP hD hA rfl hl.1 rfl (Nat.le_of_ble_eq_true rfl) dL_holds_43 hf (fun wx2 H locs hCx1 hP hD hS => ?_)
  refine lv_istore (lv' := [(9, .int (omv (qr q) m 4)), (8, .int (nI m)), (7, .int (nI 1)), (6, .int (nI (cz (fun m9 => Inr (qr q) m9) m))), (5, .int (ask (qr q) m)), (4, .int (nI (amk (qr q) m))), (3, .int (nI (kpn (qr q)))), (2, .int (nI (mot (td (qr q))))), (0, .ref me), (1, .int (nI x))]) hx hb dL_holds_46 hl (by decide) rfl (fun ls hl => ?_)
  refine lv_aload_n hx hb dL_holds_48 rfl (lv_at hl 8 rfl) ?_
  refine lv_iload hx hb dL_holds_49 (lv_at hl 1 rfl) ?_
  refine lv_iconst (v := nI 5) hx hb dL_holds_51 (by decide) ?_
  refine kA (As := [.int (nI m), .int (nI 5)]) (rest := []) (wr := []) (wc := wx2) (b := me) hF (act_res (a_ofMonth l hok m (nI 5) (by omega) (X := 5) rfl) om_5) hCx1 rfl mw_2_175 mw_2_176 mw_2_177 mw_1_1 mw_2_178 hd_X3_ofMonth ⟨Nat.le_of_ble_eq_true rfl, Nat.le_of_ble_eq_true rfl⟩ hKx hZ hS hP hD hA rfl hl.1 rfl (Nat.le_of_ble_eq_true rfl) dL_holds_52 hf (fun wx4 H locs hCx3 hP hD hS => ?_)
  refine lv_istore (lv' := [(10, .int (szo (qr q) m)), (9, .int (omv (qr q) m 4)), (8, .int (nI m)), (7, .int (nI 1)), (6, .int (nI (cz (fun m9 => Inr (qr q) m9) m))), (5, .int (ask (qr q) m)), (4, .int (nI (amk (qr q) m))), (3, .int (nI (kpn (qr q)))), (2, .int (nI (mot (td (qr q))))), (0, .ref me), (1, .int (nI x))]) hx hb dL_holds_55 hl (by decide) rfl (fun ls hl => ?_)
  refine lv_aload_n hx hb dL_holds_57 rfl (lv_at hl 9 rfl) ?_
  refine lv_iload hx hb dL_holds_58 (lv_at hl 2 rfl) ?_
  refine lv_iconst (v := nI 2) hx hb dL_holds_60 (by decide) ?_
  refine kA (As := [.int (nI m), .int (nI 2)]) (rest := []) (wr := []) (wc := wx4) (b := me) hF (act_res (a_ofMonth l hok m (nI 2) (by omega) (X := 2) rfl) om_2) hCx3 rfl mw_2_175 mw_2_176 mw_2_177 mw_1_1 mw_2_178 hd_X3_ofMonth ⟨Nat.le_of_ble_eq_true rfl, Nat.le_of_ble_eq_true rfl⟩ hKx hZ hS hP hD hA rfl hl.1 rfl (Nat.le_of_ble_eq_true rfl) dL_holds_61 hf (fun wx6 H locs hCx5 hP hD hS => ?_)
  refine lv_iconst (v := nI 1) hx hb dL_holds_64 (by decide) ?_
  refine z_ne hx hb (tgt := 72) 0 1 dL_holds_65 (by decide) h2 (by decide) (fun c_65 => ?_) (fun c_65 => absurd c_65 (by omega))
  refine lv_iconst (v := nI 0) hx hb dL_holds_72 (by decide) ?_
  refine lv_istore (lv' := [(11, .int (nI 0)), (10, .int (szo (qr q) m)), (9, .int (omv (qr q) m 4)), (8, .int (nI m)), (7, .int (nI 1)), (6, .int (nI (cz (fun m9 => Inr (qr q) m9) m))), (5, .int (ask (qr q) m)), (4, .int (nI (amk (qr q) m))), (3, .int (nI (kpn (qr q)))), (2, .int (nI (mot (td (qr q))))), (0, .ref me), (1, .int (nI x))]) hx hb dL_holds_73 hl (by decide) rfl (fun ls hl => ?_)
  refine lv_aload_n hx hb dL_holds_75 rfl (lv_at hl 10 rfl) ?_
  refine lv_iload hx hb dL_holds_76 (lv_at hl 3 rfl) ?_
  refine lv_iconst (v := nI 3) hx hb dL_holds_78 (by decide) ?_
  refine kA (As := [.int (nI m), .int (nI 3)]) (rest := []) (wr := []) (wc := wx6) (b := me) hF (act_res (a_ofMonth l hok m (nI 3) (by omega) (X := 3) rfl) om_3) hCx5 rfl mw_2_175 mw_2_176 mw_2_177 mw_1_1 mw_2_178 hd_X3_ofMonth ⟨Nat.le_of_ble_eq_true rfl, Nat.le_of_ble_eq_true rfl⟩ hKx hZ hS hP hD hA rfl hl.1 rfl (Nat.le_of_ble_eq_true rfl) dL_holds_79 hf (fun wx8 H locs hCx7 hP hD hS => ?_)
  refine lv_iconst (v := nI 1) hx hb dL_holds_82 (by decide) ?_
  refine z_ne hx hb (tgt := 90) 0 1 dL_holds_83 (by decide) h3 (by decide) (fun c_83 => ?_) (fun c_83 => absurd c_83 (by omega))
  refine lv_iconst (v := nI 0) hx hb dL_holds_90 (by decide) ?_
  refine lv_istore (lv' := [(12, .int (nI 0)), (11, .int (nI 0)), (10, .int (szo (qr q) m)), (9, .int (omv (qr q) m 4)), (8, .int (nI m)), (7, .int (nI 1)), (6, .int (nI (cz (fun m9 => Inr (qr q) m9) m))), (5, .int (ask (qr q) m)), (4, .int (nI (amk (qr q) m))), (3, .int (nI (kpn (qr q)))), (2, .int (nI (mot (td (qr q))))), (0, .ref me), (1, .int (nI x))]) hx hb dL_holds_91 hl (by decide) rfl (fun ls hl => ?_)
  refine holds_in hok hF hKx hZ hA hCx7 hP hD hS (m := m) (by omega) hl ?_
  intro w H locs ls hC hP hD hS hl
  refine lv_iload hx hb dL_holds_150 (lv_at hl 10 rfl) ?_
  refine lv_iload hx hb dL_holds_152 (lv_at hl 1 rfl) ?_
  refine n_iadd hx hb dL_holds_154 ?_
  refine lv_istore (lv' := [(4, .int (nI (amk (qr q) m + mIn (qr q) m))), (14, .int (subk (qr q) m 16)), (13, .int (nI (mIn (qr q) m))), (12, .int (nI 0)), (11, .int (nI 0)), (10, .int (szo (qr q) m)), (9, .int (omv (qr q) m 4)), (8, .int (nI m)), (7, .int (nI 1)), (6, .int (nI (cz (fun m9 => Inr (qr q) m9) m))), (5, .int (ask (qr q) m)), (3, .int (nI (kpn (qr q)))), (2, .int (nI (mot (td (qr q))))), (0, .ref me), (1, .int (nI x))]) hx hb dL_holds_155 hl (by decide) rfl (fun ls hl => ?_)
  refine lv_iload hx hb dL_holds_157 (lv_at hl 10 rfl) ?_
  refine lv_iload hx hb dL_holds_159 (lv_at hl 5 rfl) ?_
  refine lv_iadd hx hb dL_holds_161 ?_
  refine lv_istore (lv' := [(5, .int ((ask (qr q) m) + (szo (qr q) m))), (4, .int (nI (amk (qr q) m + mIn (qr q) m))), (14, .int (subk (qr q) m 16)), (13, .int (nI (mIn (qr q) m))), (12, .int (nI 0)), (11, .int (nI 0)), (10, .int (szo (qr q) m)), (9, .int (omv (qr q) m 4)), (8, .int (nI m)), (7, .int (nI 1)), (6, .int (nI (cz (fun m9 => Inr (qr q) m9) m))), (3, .int (nI (kpn (qr q)))), (2, .int (nI (mot (td (qr q))))), (0, .ref me), (1, .int (nI x))]) hx hb dL_holds_162 hl (by decide) rfl (fun ls hl => ?_)
  refine lv_iload hx hb dL_holds_164 (lv_at hl 10 rfl) ?_
  refine lv_iload hx hb dL_holds_166 (lv_at hl 4 rfl) ?_
  refine z0_eq hx hb (tgt := 175) 0 dL_holds_168 (by decide) (by decide) (fun c_168 => ?_) (fun c_168 => absurd c_168 (by decide))
  refine lv_iconst (v := nI 0) hx hb dL_holds_175 (by decide) ?_
  refine n_iadd hx hb dL_holds_176 ?_
  refine lv_istore (lv' := [(6, .int (nI (cz (fun m9 => Inr (qr q) m9) m + 0))), (5, .int ((ask (qr q) m) + (szo (qr q) m))), (4, .int (nI (amk (qr q) m + mIn (qr q) m))), (14, .int (subk (qr q) m 16)), (13, .int (nI (mIn (qr q) m))), (12, .int (nI 0)), (11, .int (nI 0)), (10, .int (szo (qr q) m)), (9, .int (omv (qr q) m 4)), (8, .int (nI m)), (7, .int (nI 1)), (3, .int (nI (kpn (qr q)))), (2, .int (nI (mot (td (qr q))))), (0, .ref me), (1, .int (nI x))]) hx hb dL_holds_177 hl (by decide) rfl (fun ls hl => ?_)
  refine lv_iload hx hb dL_holds_179 (lv_at hl 6 rfl) ?_
  refine lv_iload hx hb dL_holds_181 (lv_at hl 9 rfl) ?_
  refine lv_iload_n hx hb dL_holds_183 rfl (lv_at hl 11 rfl) ?_
  refine n_iadd hx hb dL_holds_184 ?_
  refine lv_iload_n hx hb dL_holds_185 rfl (lv_at hl 12 rfl) ?_
  refine z_gt hx hb (tgt := 193) ((m + kpn (qr q) : Nat) : Int) ((mot (td (qr q)) : Nat) : Int) dL_holds_186 (by decide) (toI (by omega)) (toI (by omega)) (fun c_186 => ?_) (fun c_186 => absurd c_186 (by omega))
  refine lv_iconst (v := nI 0) hx hb dL_holds_193 (by decide) ?_
  refine z_ne hx hb (tgt := 376) ((nI 0 : Int32).toInt) ((nI 0 : Int32).toInt) dL_holds_194 (by decide) rfl rfl (fun c_194 => absurd rfl c_194) (fun c_194 => ?_)
  refine lv_iload hx hb dL_holds_197 (lv_at hl 5 rfl) ?_
  refine z0_eq hx hb (tgt := 247) 0 dL_holds_199 (by decide) (by decide) (fun c_199 => ?_) (fun c_199 => absurd c_199 (by decide))
  refine lv_iload hx hb dL_holds_247 (lv_at hl 5 rfl) ?_
  refine z0_ne hx hb (tgt := 265) 0 dL_holds_249 (by decide) (by decide) (fun c_249 => absurd c_249 (by decide)) (fun c_249 => ?_)
  refine lv_aload_n hx hb dL_holds_252 rfl (lv_at hl 13 rfl) ?_
  refine lv_iload hx hb dL_holds_253 (lv_at hl 9 rfl) ?_
  refine lv_bipush (v := nI 9) hx hb dL_holds_255 (by decide) ?_
  refine kA (As := [.int (nI m), .int (nI 9)]) (rest := []) (wr := []) (wc := w) (b := me) hF (act_res (a_ofMonth l hok m (nI 9) (by omega) (X := 9) rfl) om_9) hC rfl mw_2_175 mw_2_176 mw_2_177 mw_1_1 mw_2_178 hd_X3_ofMonth ⟨Nat.le_of_ble_eq_true rfl, Nat.le_of_ble_eq_true rfl⟩ hKx hZ hS hP hD hA rfl hl.1 rfl (Nat.le_of_ble_eq_true rfl) dL_holds_257 hf (fun wx10 H locs hCx9 hP hD hS => ?_)
  refine lv_bipush (v := (-6)) hx hb dL_holds_260 (by decide) ?_
  refine z_ne hx hb (tgt := 376) (-6) (-6) dL_holds_262 (by decide) h9 (by decide) (fun c_262 => absurd c_262 (by omega)) (fun c_262 => ?_)
  refine lv_iload hx hb dL_holds_265 (lv_at hl 4 rfl) ?_
  refine lv_aload_n hx hb dL_holds_267 rfl (lv_at hl 13 rfl) ?_
  refine lv_iload hx hb dL_holds_268 (lv_at hl 9 rfl) ?_
  refine lv_bipush (v := nI 7) hx hb dL_holds_270 (by decide) ?_
  refine kA (As := [.int (nI m), .int (nI 7)]) (rest := [.int (nI (mIn (qr q) m))]) (wr := []) (wc := wx10) (b := me) hF (act_res (a_ofMonth l hok m (nI 7) (by omega) (X := 7) rfl) om_7) hCx9 rfl mw_2_175 mw_2_176 mw_2_177 mw_1_1 mw_2_178 hd_X3_ofMonth ⟨Nat.le_of_ble_eq_true rfl, Nat.le_of_ble_eq_true rfl⟩ hKx hZ hS hP hD hA rfl hl.1 rfl (Nat.le_of_ble_eq_true rfl) dL_holds_272 hf (fun wx12 H locs hCx11 hP hD hS => ?_)
  refine z_ne hx hb (tgt := 376) ((nI (mIn (qr q) m) : Int32).toInt) ((nI (mIn (qr q) m) : Int32).toInt) dL_holds_275 (by decide) rfl rfl (fun c_275 => absurd rfl c_275) (fun c_275 => ?_)
  refine lv_iload hx hb dL_holds_278 (lv_at hl 3 rfl) ?_
  refine lv_aload_n hx hb dL_holds_280 rfl (lv_at hl 13 rfl) ?_
  refine lv_iload hx hb dL_holds_281 (lv_at hl 9 rfl) ?_
  refine lv_bipush (v := nI 8) hx hb dL_holds_283 (by decide) ?_
  refine kA (As := [.int (nI m), .int (nI 8)]) (rest := [.int (subk (qr q) m 16)]) (wr := []) (wc := wx12) (b := me) hF (act_res (a_ofMonth l hok m (nI 8) (by omega) (X := 8) rfl) om_8) hCx11 rfl mw_2_175 mw_2_176 mw_2_177 mw_1_1 mw_2_178 hd_X3_ofMonth ⟨Nat.le_of_ble_eq_true rfl, Nat.le_of_ble_eq_true rfl⟩ hKx hZ hS hP hD hA rfl hl.1 rfl (Nat.le_of_ble_eq_true rfl) dL_holds_285 hf (fun wx14 H locs hCx13 hP hD hS => ?_)
  refine z_ne hx hb (tgt := 376) ((subk (qr q) m 16 : Int32).toInt) ((subk (qr q) m 16 : Int32).toInt) dL_holds_288 (by decide) rfl rfl (fun c_288 => absurd rfl c_288) (fun c_288 => ?_)
  refine lv_iload hx hb dL_holds_291 (lv_at hl 6 rfl) ?_
  refine z0_ne hx hb (tgt := 302) 0 dL_holds_293 (by decide) (by decide) (fun c_293 => absurd c_293 (by decide)) (fun c_293 => ?_)
  refine lv_iload hx hb dL_holds_296 (lv_at hl 8 rfl) ?_
  refine lv_iconst (v := nI 4) hx hb dL_holds_298 (by decide) ?_
  refine z_ne hx hb (tgt := 376) 4 4 dL_holds_299 (by decide) h4 (by decide) (fun c_299 => absurd c_299 (by omega)) (fun c_299 => ?_)
  refine lv_iload hx hb dL_holds_302 (lv_at hl 8 rfl) ?_
  refine z0_ne hx hb (tgt := 317) 4 dL_holds_304 (by decide) h4 (fun c_304 => ?_) (fun c_304 => absurd c_304 (by omega))
  refine lv_iload hx hb dL_holds_317 (lv_at hl 8 rfl) ?_
  refine lv_iconst (v := nI 1) hx hb dL_holds_319 (by decide) ?_
  refine z_ne hx hb (tgt := 353) 4 1 dL_holds_320 (by decide) h4 (by decide) (fun c_320 => ?_) (fun c_320 => absurd c_320 (by omega))
  refine lv_iload hx hb dL_holds_353 (lv_at hl 8 rfl) ?_
  refine lv_iconst (v := nI 1) hx hb dL_holds_355 (by decide) ?_
  refine z_eq hx hb (tgt := 372) 4 1 dL_holds_356 (by decide) h4 (by decide) (fun c_356 => absurd c_356 (by omega)) (fun c_356 => ?_)
  refine lv_aload_n hx hb dL_holds_359 rfl (lv_at hl 13 rfl) ?_
  refine lv_iload hx hb dL_holds_360 (lv_at hl 9 rfl) ?_
  refine lv_bipush (v := nI 6) hx hb dL_holds_362 (by decide) ?_
  refine kA (As := [.int (nI m), .int (nI 6)]) (rest := []) (wr := []) (wc := wx14) (b := me) hF (act_res (a_ofMonth l hok m (nI 6) (by omega) (X := 6) rfl) om_6) hCx13 rfl mw_2_175 mw_2_176 mw_2_177 mw_1_1 mw_2_178 hd_X3_ofMonth ⟨Nat.le_of_ble_eq_true rfl, Nat.le_of_ble_eq_true rfl⟩ hKx hZ hS hP hD hA rfl hl.1 rfl (Nat.le_of_ble_eq_true rfl) dL_holds_364 hf (fun wx16 H locs hCx15 hP hD hS => ?_)
  refine lv_bipush (v := (-6)) hx hb dL_holds_367 (by decide) ?_
  refine z_ne hx hb (tgt := 376) (-6) (-6) dL_holds_369 (by decide) h6 (by decide) (fun c_369 => absurd c_369 (by omega)) (fun c_369 => ?_)
  refine lv_iconst (v := nI 1) hx hb dL_holds_372 (by decide) ?_
  refine lv_goto (tgt := 377) hx hb dL_holds_373 (by decide) ?_
  refine lv_istore (lv' := [(7, .int (nI 1)), (6, .int (nI (cz (fun m9 => Inr (qr q) m9) m + 0))), (5, .int ((ask (qr q) m) + (szo (qr q) m))), (4, .int (nI (amk (qr q) m + mIn (qr q) m))), (14, .int (subk (qr q) m 16)), (13, .int (nI (mIn (qr q) m))), (12, .int (nI 0)), (11, .int (nI 0)), (10, .int (szo (qr q) m)), (9, .int (omv (qr q) m 4)), (8, .int (nI m)), (3, .int (nI (kpn (qr q)))), (2, .int (nI (mot (td (qr q))))), (0, .ref me), (1, .int (nI x))]) hx hb dL_holds_377 hl (by decide) rfl (fun ls hl => ?_)
  refine lv_iinc (v := nI (m + 1)) (lv' := [(8, .int (nI (m + 1))), (7, .int (nI 1)), (6, .int (nI (cz (fun m9 => Inr (qr q) m9) m + 0))), (5, .int ((ask (qr q) m) + (szo (qr q) m))), (4, .int (nI (amk (qr q) m + mIn (qr q) m))), (14, .int (subk (qr q) m 16)), (13, .int (nI (mIn (qr q) m))), (12, .int (nI 0)), (11, .int (nI 0)), (10, .int (szo (qr q) m)), (9, .int (omv (qr q) m 4)), (3, .int (nI (kpn (qr q)))), (2, .int (nI (mot (td (qr q))))), (0, .ref me), (1, .int (nI x))]) hx hb dL_holds_379 hl (k := 10) rfl (nI_add _ _) (by decide) rfl (fun ls hl => ?_)
  refine lv_goto (tgt := 28) hx hb dL_holds_382 (by decide) ?_
  have e4 : nI (amk (qr q) m + mIn (qr q) m) = nI (amk (qr q) (m + 1)) := rfl
  have e5 : ask (qr q) m + szo (qr q) m = ask (qr q) (m + 1) := rfl
  have e6 : nI (cz (fun m9 => Inr (qr q) m9) m + 0) = nI (cz (fun m9 => Inr (qr q) m9) (m + 1)) := by rw [cz_f hI, Nat.add_zero]
  rw [e4, e5, e6] at hl
  exact kk _ _ _ ls hCx15 hP hD hS (lv_sub hl [0, 1, 2, 3, 4, 11, 12, 13, 14] rfl)
end HLD
