theorem hd_X1_stepAt : hdY yX1_stepAt 1 := ⟨by decide +kernel, by decide +kernel, by decide +kernel⟩
set_option maxHeartbeats 4000000 in
set_option maxRecDepth 100000 in
theorem c_X1_stepAt (l : Launch) (G : gT) (op : Nat) (pa : Nat) (pt : Nat) (n : Nat) (i : Nat) (k3 : Int32) (k4 : Int32) (f : Nat → Option Nat) (j : Nat) (hj : j < 40) : Rq l G yX1_stepAt cX1_stepAt 2 (some (.object "FoldedMonths$Step")) 1 [(op, .inr (1, [.ref pa, .ref pt, .int (nI n), .int (nI i), .int k3, .int k4])), (pt, .inl (gS G, 40, .inr (.inr (.inr (.inr f)))))] [.ref op, .int (nI j)] (f j) := by
  refine Rq.mk (by decide) (Nat.le_of_ble_eq_true rfl) (fun pq eq sq mq bq tq cq ls hr hlk hF hKx hZ hP hl => ?_)
  have hx := hF.1
  have hb := hF.2.1
  have hml := hF.2.2.1
  have hown : sq.vm.findClass RX1 = some mq.cls := hF.2.2.2.1
  have hts : ∀ w ∈ GW, w.before _ sq = true := hF.2.2.2.2
  have hK := hKx.1
  have hl : lv_has ls 2 [(0, .ref op), (1, .int (nI j))] := hl
  have hS : va_S (fun _ => False) sq.heap sq.heap [] := va_S.rf
  have hP : va_P G.1 vwCl [(op, .inr (1, [.ref pa, .ref pt, .int (nI n), .int (nI i), .int k3, .int k4])), (pt, .inl (gS G, 40, .inr (.inr (.inr (.inr f)))))] sq.heap := hP
  refine lv_iload_n hx hb dX1_stepAt_0 rfl (lv_at hl 1 rfl) ?_
  refine z0_lt hx hb (tgt := 22) ((j : Nat) : Int) dX1_stepAt_1 (by decide) (toI (by omega)) (fun c_1 => ?_) (fun c_1 => ?_)
  · skip
    exact absurd c_1 (by omega)
  · skip
    refine lv_iload_n hx hb dX1_stepAt_4 rfl (lv_at hl 1 rfl) ?_
    refine lv_aload_n hx hb dX1_stepAt_5 rfl (lv_at hl 0 rfl) ?_
    refine va_get (ci := 1) (v := .ref pt) (C := RX1) (T := TX1) (N := 6) hx hb hts inGX1 hown hK hP 0 rfl rfl 1 (by decide) (hts _ mw_1_105) (fun _ h9 => h9) rfl dX1_stepAt_6 ?_
    refine va_alen (v := nI 40) hx hb hK hP 1 4 rfl rfl rfl dX1_stepAt_9 ?_
    refine z_ge hx hb (tgt := 22) ((j : Nat) : Int) 40 dX1_stepAt_10 (by decide) (toI (by omega)) (by decide) (fun c_10 => ?_) (fun c_10 => ?_)
    · skip
      exact absurd c_10 (by omega)
    · skip
      refine lv_aload_n hx hb dX1_stepAt_13 rfl (lv_at hl 0 rfl) ?_
      refine va_get (ci := 1) (v := .ref pt) (C := RX1) (T := TX1) (N := 6) hx hb hts inGX1 hown hK hP 0 rfl rfl 1 (by decide) (hts _ mw_1_105) (fun _ h9 => h9) rfl dX1_stepAt_14 ?_
      refine lv_iload_n hx hb dX1_stepAt_17 rfl (lv_at hl 1 rfl) ?_
      refine n_aald hx hb hK hP 1 4 rfl rfl (by omega) (by omega) dX1_stepAt_18 ?_
      refine lv_goto (tgt := 23) hx hb dX1_stepAt_19 (by decide) ?_
      exact e_rq (rv := f j) hx hb hr hlk rfl (rfl) dX1_stepAt_23
