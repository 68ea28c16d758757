section HLD
variable {pq : Program} {l : Launch} {eq : Env} {sq : State} {mq : MethodId} {bq : List Frame} {tq : Method} {cq : Code} {H : Heap} {locs : List Loc} {ls : Array Slot} {args : Array Value} {Q : State → Prop} {A : Nat → Prop} {G : gT} {me x : Nat} {q : Sx} {w : va_W}

set_option maxHeartbeats 4000000 in
set_option maxRecDepth 100000 in
theorem holds_a (hok : OkD q) (hF : CallFix pq mq cq cL_holds 18 sq args GW RL) (hKx : Kx G sq) (hZ : Zs A sq) (hA : ∀ q, sq.heap.size ≤ q → A q) (hC : CS G me q w) (hP : va_P G.1 vwCl ([] ++ w) H) (hD : va_D A ([] ++ w)) (hS : va_S A sq.heap H locs) (hl : lv_has ls 18 [(0, .ref me), (1, .int (nI x))])
    (kk : ∀ (w : va_W) (H : Heap) (locs : List Loc) (ls : Array Slot), CS G me q w → va_P G.1 vwCl ([] ++ w) H → va_D A ([] ++ w) → va_S A sq.heap H locs → lv_has ls 18 [(7, .int (nI 1)), (0, .ref me), (1, .int (nI x))] → W pq l eq (rmL 10) sq mq args bq tq cq H locs 0 0 Q (F0 mq 463 ls [])) : W pq l eq (rmL 10) sq mq args bq tq cq H locs 0 0 Q (F0 mq 0 ls []) := by
  have hx := hF.1
  have hb := hF.2.1
  have hml := hF.2.2.1
  have hown : sq.vm.findClass "FoldedMonthsLaw" = some mq.cls := hF.2.2.2.1
  have hts : ∀ w ∈ GW, w.before _ sq = true := hF.2.2.2.2
  have hf : 0 ≤ (rmL 10).cells ∧ 0 ≤ (rmL 10).slots := ⟨Nat.zero_le _, Nat.zero_le _⟩
  have htd : td (qr q) < 3650 := hok.1.1.1.1.2.1
  have hmt := (mot_row htd).1
  have hk12 : kpn (qr q) ≤ 12 := hok.1.1.1.1.2.2.2.1
  have hk1 : 1 ≤ kpn (qr q) := hok.1.1.2.1
  have hny : ny (qr q) ≤ 6 := hok.1.1.1.1.2.2.2.2.2.2.2.1
  have hno : ny (qr q) ≤ opn (qr q) := hok.1.1.1.2
  have hop : opn (qr q) ≤ 6 := hok.1.1.1.1.2.2.2.2.2.1
  refine lv_aload_n hx hb dL_holds_0 rfl (lv_at hl 0 rfl) ?_
  refine lv_iconst (v := nI 1) hx hb dL_holds_1 (by decide) ?_
  refine kA (As := [.int (nI 1)]) (rest := []) (wr := []) (wc := w) (b := me) hF (a_months hok) hC rfl mw_1_156 mw_1_157 mw_1_158 mw_1_1 mw_1_159 hd_X3_count ⟨Nat.le_of_ble_eq_true rfl, Nat.le_of_ble_eq_true rfl⟩ hKx hZ hS hP hD hA rfl hl.1 rfl (Nat.le_of_ble_eq_true rfl) dL_holds_2 hf (fun wx2 H locs hCx1 hP hD hS => ?_)
  refine lv_istore_n (lv' := [(2, .int (nI (mot (td (qr q))))), (0, .ref me), (1, .int (nI x))]) hx hb dL_holds_5 rfl hl (by decide) rfl (fun ls hl => ?_)
  refine lv_aload_n hx hb dL_holds_6 rfl (lv_at hl 1 rfl) ?_
  refine lv_bipush (v := nI 9) hx hb dL_holds_7 (by decide) ?_
  refine kA (As := [.int (nI 9)]) (rest := []) (wr := []) (wc := wx2) (b := me) hF (n_keep l hok) hCx1 rfl mw_1_156 mw_1_157 mw_1_158 mw_1_1 mw_1_159 hd_X3_count ⟨Nat.le_of_ble_eq_true rfl, Nat.le_of_ble_eq_true rfl⟩ hKx hZ hS hP hD hA rfl hl.1 rfl (Nat.le_of_ble_eq_true rfl) dL_holds_9 hf (fun wx4 H locs hCx3 hP hD hS => ?_)
  refine lv_istore_n (lv' := [(3, .int (nI (kpn (qr q)))), (2, .int (nI (mot (td (qr q))))), (0, .ref me), (1, .int (nI x))]) hx hb dL_holds_12 rfl hl (by decide) rfl (fun ls hl => ?_)
  refine lv_iconst (v := nI 0) hx hb dL_holds_13 (by decide) ?_
  refine lv_istore (lv' := [(4, .int (nI 0)), (3, .int (nI (kpn (qr q)))), (2, .int (nI (mot (td (qr q))))), (0, .ref me), (1, .int (nI x))]) hx hb dL_holds_14 hl (by decide) rfl (fun ls hl => ?_)
  refine lv_iconst (v := nI 0) hx hb dL_holds_16 (by decide) ?_
  refine lv_istore (lv' := [(5, .int (nI 0)), (4, .int (nI 0)), (3, .int (nI (kpn (qr q)))), (2, .int (nI (mot (td (qr q))))), (0, .ref me), (1, .int (nI x))]) hx hb dL_holds_17 hl (by decide) rfl (fun ls hl => ?_)
  refine lv_iconst (v := nI 0) hx hb dL_holds_19 (by decide) ?_
  refine lv_istore (lv' := [(6, .int (nI 0)), (5, .int (nI 0)), (4, .int (nI 0)), (3, .int (nI (kpn (qr q)))), (2, .int (nI (mot (td (qr q))))), (0, .ref me), (1, .int (nI x))]) hx hb dL_holds_20 hl (by decide) rfl (fun ls hl => ?_)
  refine lv_iconst (v := nI 1) hx hb dL_holds_22 (by decide) ?_
  refine lv_istore (lv' := [(7, .int (nI 1)), (6, .int (nI 0)), (5, .int (nI 0)), (4, .int (nI 0)), (3, .int (nI (kpn (qr q)))), (2, .int (nI (mot (td (qr q))))), (0, .ref me), (1, .int (nI x))]) hx hb dL_holds_23 hl (by decide) rfl (fun ls hl => ?_)
  refine lv_iconst (v := nI 0) hx hb dL_holds_25 (by decide) ?_
  refine lv_istore (lv' := [(8, .int (nI 0)), (7, .int (nI 1)), (6, .int (nI 0)), (5, .int (nI 0)), (4, .int (nI 0)), (3, .int (nI (kpn (qr q)))), (2, .int (nI (mot (td (qr q))))), (0, .ref me), (1, .int (nI x))]) hx hb dL_holds_26 hl (by decide) rfl (fun ls hl => ?_)
  have hl : lv_has ls 18 [(8, .int (nI 0)), (7, .int (nI 1)), (6, .int (nI (cz (fun m9 => Inr (qr q) m9) 0))), (5, .int (ask (qr q) 0)), (4, .int (nI (amk (qr q) 0))), (3, .int (nI (kpn (qr q)))), (2, .int (nI (mot (td (qr q))))), (0, .ref me), (1, .int (nI x))] := hl
  refine wloopH [] (fun (m : Nat) (H : Heap) (locs : List Loc) (ls : Array Slot) => m ≤ mot (td (qr q)) + 1 ∧ lv_has ls 18 [(8, .int (nI m)), (7, .int (nI 1)), (6, .int (nI (cz (fun m9 => Inr (qr q) m9) m))), (5, .int (ask (qr q) m)), (4, .int (nI (amk (qr q) m))), (3, .int (nI (kpn (qr q)))), (2, .int (nI (mot (td (qr q))))), (0, .ref me), (1, .int (nI x))] ∧ ∃ w : va_W, CS G me q w ∧ va_P G.1 vwCl ([] ++ w) H ∧ va_D A ([] ++ w) ∧ va_S A sq.heap H locs) (fun m => mot (td (qr q)) + 1 - m) ?_ 0 ⟨Nat.zero_le _, hl, _, hCx3, hP, hD, hS⟩
  intro m ih H locs ls ⟨hm1, hl, w, hC, hP, hD, hS⟩
  refine lv_iload hx hb dL_holds_28 (lv_at hl 0 rfl) ?_
  refine lv_iload_n hx hb dL_holds_30 rfl (lv_at hl 6 rfl) ?_
  refine z_gt hx hb (tgt := 385) ((m : Nat) : Int) ((mot (td (qr q)) : Nat) : Int) dL_holds_31 (by decide) (toI (by omega)) (toI (by omega)) (fun c_31 => ?_) (fun c_31 => ?_)
  · skip
    have em : m = mot (td (qr q)) + 1 := by omega
    subst em
    rw [cz_Inr hok.1.1] at hl
    refine lv_iload hx hb dL_holds_385 (lv_at hl 1 rfl) ?_
    refine z0_eq hx hb (tgt := 460) 1 dL_holds_387 (by decide) (by decide) (fun c_387 => absurd c_387 (by decide)) (fun c_387 => ?_)
    refine lv_iload hx hb dL_holds_390 (lv_at hl 4 rfl) ?_
    refine lv_aload_n hx hb dL_holds_392 rfl (lv_at hl 7 rfl) ?_
    refine lv_bipush (v := nI 8) hx hb dL_holds_393 (by decide) ?_
    refine kA (As := [.int (nI 8)]) (rest := [.int (nI (amk (qr q) (mot (td (qr q)) + 1)))]) (wr := []) (wc := w) (b := me) hF (n_marks l hok) hC rfl mw_1_156 mw_1_157 mw_1_158 mw_1_1 mw_1_159 hd_X3_count ⟨Nat.le_of_ble_eq_true rfl, Nat.le_of_ble_eq_true rfl⟩ hKx hZ hS hP hD hA rfl hl.1 rfl (Nat.le_of_ble_eq_true rfl) dL_holds_395 hf (fun wx6 H locs hCx5 hP hD hS => ?_)
    refine z_ne hx hb (tgt := 460) ((nI (amk (qr q) (mot (td (qr q)) + 1)) : Int32).toInt) ((nI (amk (qr q) (mot (td (qr q)) + 1)) : Int32).toInt) dL_holds_398 (by decide) rfl rfl (fun c_398 => absurd rfl c_398) (fun c_398 => ?_)
    refine lv_iload hx hb dL_holds_401 (lv_at hl 3 rfl) ?_
    refine lv_aload_n hx hb dL_holds_403 rfl (lv_at hl 7 rfl) ?_
    refine lv_iconst (v := nI 4) hx hb dL_holds_404 (by decide) ?_
    refine kA (As := [.int (nI 4)]) (rest := [.int (ask (qr q) (mot (td (qr q)) + 1))]) (wr := []) (wc := wx6) (b := me) hF (n_sizes l hok) hCx5 rfl mw_1_156 mw_1_157 mw_1_158 mw_1_1 mw_1_159 hd_X3_count ⟨Nat.le_of_ble_eq_true rfl, Nat.le_of_ble_eq_true rfl⟩ hKx hZ hS hP hD hA rfl hl.1 rfl (Nat.le_of_ble_eq_true rfl) dL_holds_405 hf (fun wx8 H locs hCx7 hP hD hS => ?_)
    refine z_ne hx hb (tgt := 460) ((ask (qr q) (mot (td (qr q)) + 1) : Int32).toInt) ((ask (qr q) (mot (td (qr q)) + 1) : Int32).toInt) dL_holds_408 (by decide) rfl rfl (fun c_408 => absurd rfl c_408) (fun c_408 => ?_)
    refine lv_iload hx hb dL_holds_411 (lv_at hl 2 rfl) ?_
    refine lv_aload_n hx hb dL_holds_413 rfl (lv_at hl 7 rfl) ?_
    refine lv_iconst (v := nI 3) hx hb dL_holds_414 (by decide) ?_
    refine kA (As := [.int (nI 3)]) (rest := [.int (nI (ny (qr q)))]) (wr := []) (wc := wx8) (b := me) hF (n_row l hok) hCx7 rfl mw_1_156 mw_1_157 mw_1_158 mw_1_1 mw_1_159 hd_X3_count ⟨Nat.le_of_ble_eq_true rfl, Nat.le_of_ble_eq_true rfl⟩ hKx hZ hS hP hD hA rfl hl.1 rfl (Nat.le_of_ble_eq_true rfl) dL_holds_415 hf (fun wx10 H locs hCx9 hP hD hS => ?_)
    refine z_ne hx hb (tgt := 460) ((nI (ny (qr q)) : Int32).toInt) ((nI (ny (qr q)) : Int32).toInt) dL_holds_418 (by decide) rfl rfl (fun c_418 => absurd rfl c_418) (fun c_418 => ?_)
    refine lv_iload hx hb dL_holds_421 (lv_at hl 2 rfl) ?_
    refine lv_aload_n hx hb dL_holds_423 rfl (lv_at hl 7 rfl) ?_
    refine lv_bipush (v := nI 10) hx hb dL_holds_424 (by decide) ?_
    refine kA (As := [.int (nI 10)]) (rest := [.int (nI (ny (qr q)))]) (wr := []) (wc := wx10) (b := me) hF (n_open l hok) hCx9 rfl mw_1_156 mw_1_157 mw_1_158 mw_1_1 mw_1_159 hd_X3_count ⟨Nat.le_of_ble_eq_true rfl, Nat.le_of_ble_eq_true rfl⟩ hKx hZ hS hP hD hA rfl hl.1 rfl (Nat.le_of_ble_eq_true rfl) dL_holds_426 hf (fun wx12 H locs hCx11 hP hD hS => ?_)
    refine z_gt hx hb (tgt := 460) ((ny (qr q) : Nat) : Int) ((opn (qr q) : Nat) : Int) dL_holds_429 (by decide) (toI (by omega)) (toI (by omega)) (fun c_429 => absurd c_429 (by omega)) (fun c_429 => ?_)
    refine lv_aload_n hx hb dL_holds_432 rfl (lv_at hl 7 rfl) ?_
    refine lv_iconst (v := nI 2) hx hb dL_holds_433 (by decide) ?_
    refine kA (As := [.int (nI 2)]) (rest := []) (wr := []) (wc := wx12) (b := me) hF (n_old l hok) hCx11 rfl mw_1_156 mw_1_157 mw_1_158 mw_1_1 mw_1_159 hd_X3_count ⟨Nat.le_of_ble_eq_true rfl, Nat.le_of_ble_eq_true rfl⟩ hKx hZ hS hP hD hA rfl hl.1 rfl (Nat.le_of_ble_eq_true rfl) dL_holds_434 hf (fun wx14 H locs hCx13 hP hD hS => ?_)
    refine lv_iload_n hx hb dL_holds_437 rfl (lv_at hl 6 rfl) ?_
    refine lv_iconst (v := nI 1) hx hb dL_holds_438 (by decide) ?_
    refine n_iadd hx hb dL_holds_439 ?_
    refine lv_iload_n hx hb dL_holds_440 rfl (lv_at hl 5 rfl) ?_
    refine z_le hx hb (tgt := 452) ((mot (td (qr q)) + 1 : Nat) : Int) ((kpn (qr q) : Nat) : Int) dL_holds_441 (by decide) (toI (by omega)) (toI (by omega)) (fun c_441 => ?_) (fun c_441 => ?_)
    · skip
      refine lv_iconst (v := nI 0) hx hb dL_holds_452 (by decide) ?_
      refine z_ne hx hb (tgt := 460) ((mot (td (qr q)) + 1 - kpn (qr q) : Nat) : Int) 0 dL_holds_453 (by decide) (toI (by omega)) (by decide) (fun c_453 => absurd c_453 (by omega)) (fun c_453 => ?_)
      refine lv_iconst (v := nI 1) hx hb dL_holds_456 (by decide) ?_
      refine lv_goto (tgt := 461) hx hb dL_holds_457 (by decide) ?_
      refine lv_istore (lv' := [(7, .int (nI 1)), (8, .int (nI (mot (td (qr q)) + 1))), (6, .int (nI (ny (qr q)))), (5, .int (ask (qr q) (mot (td (qr q)) + 1))), (4, .int (nI (amk (qr q) (mot (td (qr q)) + 1)))), (3, .int (nI (kpn (qr q)))), (2, .int (nI (mot (td (qr q))))), (0, .ref me), (1, .int (nI x))]) hx hb dL_holds_461 hl (by decide) rfl (fun ls hl => ?_)
      exact kk _ _ _ ls hCx13 hP hD hS (lv_sub hl [0, 7, 8] rfl)
    · skip
      refine lv_iload_n hx hb dL_holds_444 rfl (lv_at hl 6 rfl) ?_
      refine lv_iconst (v := nI 1) hx hb dL_holds_445 (by decide) ?_
      refine n_iadd hx hb dL_holds_446 ?_
      refine lv_iload_n hx hb dL_holds_447 rfl (lv_at hl 5 rfl) ?_
      refine n_isub hx hb (by omega) dL_holds_448 ?_
      refine lv_goto (tgt := 453) hx hb dL_holds_449 (by decide) ?_
      refine z_ne hx hb (tgt := 460) ((mot (td (qr q)) + 1 - kpn (qr q) : Nat) : Int) (((mot (td (qr q)) + 1) - (kpn (qr q)) : Nat) : Int) dL_holds_453 (by decide) (toI (by omega)) (toI (by omega)) (fun c_453 => absurd c_453 (by omega)) (fun c_453 => ?_)
      refine lv_iconst (v := nI 1) hx hb dL_holds_456 (by decide) ?_
      refine lv_goto (tgt := 461) hx hb dL_holds_457 (by decide) ?_
      refine lv_istore (lv' := [(7, .int (nI 1)), (8, .int (nI (mot (td (qr q)) + 1))), (6, .int (nI (ny (qr q)))), (5, .int (ask (qr q) (mot (td (qr q)) + 1))), (4, .int (nI (amk (qr q) (mot (td (qr q)) + 1)))), (3, .int (nI (kpn (qr q)))), (2, .int (nI (mot (td (qr q))))), (0, .ref me), (1, .int (nI x))]) hx hb dL_holds_461 hl (by decide) rfl (fun ls hl => ?_)
      exact kk _ _ _ ls hCx13 hP hD hS (lv_sub hl [0, 7, 8] rfl)
  · skip
    refine lv_iload hx hb dL_holds_34 (lv_at hl 1 rfl) ?_
    refine z0_eq hx hb (tgt := 385) 1 dL_holds_36 (by decide) (by decide) (fun c_36 => absurd c_36 (by decide)) (fun c_36 => ?_)
    have hm : m ≤ mot (td (qr q)) := by omega
    rcases mon_5 hok.1 (m := m) (by omega) with ⟨hO, hI, hf0, j, hj, hpj⟩ | ⟨hO, hI, hf0, hz, hp⟩ | ⟨hO, hI, hf0, ⟨j, hj, hnj⟩, hp⟩ | ⟨hO, hI, ⟨f, hf3, hf5, hf0⟩, hp⟩ | ⟨hO, hI, hf0, hp⟩
    · exact holds_mA hok hF hKx hZ hA hC hP hD hS hm hO hI hf0 hj hpj hl (fun w H locs ls hC hP hD hS hl => ih (m + 1) H locs ls (by omega) ⟨by omega, hl, w, hC, hP, hD, hS⟩)
    · exact holds_mB hok hF hKx hZ hA hC hP hD hS hm hO hI hf0 hz hp hl (fun w H locs ls hC hP hD hS hl => ih (m + 1) H locs ls (by omega) ⟨by omega, hl, w, hC, hP, hD, hS⟩)
    · exact holds_mC hok hF hKx hZ hA hC hP hD hS hm hO hI hf0 hj hnj hp hl (fun w H locs ls hC hP hD hS hl => ih (m + 1) H locs ls (by omega) ⟨by omega, hl, w, hC, hP, hD, hS⟩)
    · exact holds_mD hok hF hKx hZ hA hC hP hD hS hm hO hI ⟨hf3, hf5⟩ hf0 hp hl (fun w H locs ls hC hP hD hS hl => ih (m + 1) H locs ls (by omega) ⟨by omega, hl, w, hC, hP, hD, hS⟩)
    · exact holds_mE hok hF hKx hZ hA hC hP hD hS hm hO hI hf0 hp hl (fun w H locs ls hC hP hD hS hl => ih (m + 1) H locs ls (by omega) ⟨by omega, hl, w, hC, hP, hD, hS⟩)
end HLD
