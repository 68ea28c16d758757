section LLP
variable {pq : Program} {l : Launch} {eq : Env} {sq : State} {mq : MethodId} {bq : List Frame} {tq : Method} {cq : Code} {H : Heap} {locs : List Loc} {cells slots : Nat} {ls : Array Slot} {G : gT} {o p b L : Nat} {xs : Nat → Int32} {A : Nat → Prop}

set_option maxHeartbeats 4000000 in
set_option maxRecDepth 100000 in
theorem law_lp (hF : CallFix pq mq cq code 9 sq #[Value.ref b] GW R_law) (hr : tq.sig.returnType = ret) (hlk : tq.locks = false) (hKx : Kx G sq) (hZ : Zs A sq) (hA : ∀ q : Nat, sq.heap.size ≤ q → A q) (hA2 : ∀ q : Nat, A q → sq.heap.size ≤ q) (hX : va_X b L xs sq sq.heap) (hbl : b < sq.heap.size) (hbA : ¬ A b) (hL : L ≤ 260) (hf : cells ≤ room_1.cells ∧ slots ≤ room_1.slots) (hcs : cells ≤ 600000 ∧ slots ≤ 7302250) (hl : lv_has ls 9 [(4, .int (nI 0)), (3, .int (nI 1)), (2, .ref p), (1, .ref o), (0, .ref b)]) (hI : ∃ (q : Sx) (wa wb : va_W), OkD q ∧ CS G o q wa ∧ CS G p q wb ∧ va_P G.1 vwCl (wa ++ wb) H ∧ va_D A (wa ++ wb) ∧ va_S A sq.heap H locs) : W pq l eq room_1 sq mq #[Value.ref b] bq tq cq H locs cells slots (lw_Z bq #[Value.ref b] sq) (F0 mq 21 ls []) := by
  have hx := hF.1
  have hb := hF.2.1
  have hown : sq.vm.findClass "FoldedMonthsLaw" = some mq.cls := hF.2.2.2.1
  have hts := hF.2.2.2.2
  refine wloopH [] (fun (k : Nat) (H : Heap) (locs : List Loc) (ls : Array Slot) => k ≤ 30 ∧ lv_has ls 9 [(4, .int (nI k)), (3, .int (nI 1)), (2, .ref p), (1, .ref o), (0, .ref b)] ∧ ∃ (q : Sx) (wa wb : va_W), OkD q ∧ CS G o q wa ∧ CS G p q wb ∧ va_P G.1 vwCl (wa ++ wb) H ∧ va_D A (wa ++ wb) ∧ va_S A sq.heap H locs) (fun k => 30 - k) ?_ 0 ⟨Nat.zero_le _, hl, hI⟩
  intro k ih H locs ls ⟨hk30, hl, q, wa, wb, hok, hCa, hCb, hP, hD, hS⟩
  refine lv_iload hx hb dL_law_21 (lv_at hl 0 rfl) ?_
  refine lv_bipush (v := nI 30) hx hb dL_law_23 (by decide) ?_
  refine z_ge hx hb (tgt := 167) ((k : Nat) : Int) 30 dL_law_25 (by decide) (toI (by omega)) (by decide) (fun c_25 => ?_) (fun c_25 => ?_)
  · skip
    refine lv_iload_n hx hb dL_law_167 rfl (lv_at hl 1 rfl) ?_
    refine lv_cv (y := 1) rfl ?_
    refine va_forget (fun q hq => hA2 _ (hS.2.2 q hq)) ?_
    refine W.widen (k := 600000) (n := 7302250) hcs.1 hcs.2 ?_
    exact lw_ret hx hb hr hlk dL_law_168
  · skip
    refine lv_iload_n hx hb dL_law_28 rfl (lv_at hl 1 rfl) ?_
    refine z0_eq hx hb (tgt := 167) 1 dL_law_29 (by decide) (by decide) (fun c_29 => absurd c_29 (by decide)) (fun c_29 => ?_)
    refine lv_aload_n hx hb dL_law_32 rfl (lv_at hl 4 rfl) ?_
    refine lv_iconst (v := nI 2) hx hb dL_law_33 (by decide) ?_
    refine lv_iload hx hb dL_law_34 (lv_at hl 0 rfl) ?_
    refine n_imul hx hb dL_law_36 ?_
    obtain ⟨vx, hvx, hcx⟩ := c_cell l (b := b) (L := L) (k := 2 * k) (xs := xs) hL (by omega)
    obtain ⟨vy, hvy, hcy⟩ := c_cell l (b := b) (L := L) (k := 2 * k + 1) (xs := xs) hL (by omega)
    obtain ⟨r1, q1, ok1, hact⟩ := c_act l hok vx vy hvx hvy
    obtain ⟨q2, ok2, hhold⟩ := c_holds l ok1 vy hvy
    refine k_cell (As := [.ref b, .int (nI (2 * k))]) (rest := []) hF hcx mw_1_148 mw_1_149 mw_1_0 mw_1_150 hd_L_cell ⟨Nat.le_of_ble_eq_true rfl, Nat.le_of_ble_eq_true rfl⟩ hS hX hbl hbA rfl hl.1 rfl (Nat.le_of_ble_eq_true rfl) dL_law_37 hf ?_
    refine lv_istore (lv' := [(5, .int (nI vx)), (4, .int (nI k)), (3, .int (nI 1)), (2, .ref p), (1, .ref o), (0, .ref b)]) hx hb dL_law_40 hl (by decide) rfl (fun ls hl => ?_)
    refine lv_aload_n hx hb dL_law_42 rfl (lv_at hl 5 rfl) ?_
    refine lv_iconst (v := nI 2) hx hb dL_law_43 (by decide) ?_
    refine lv_iload hx hb dL_law_44 (lv_at hl 1 rfl) ?_
    refine n_imul hx hb dL_law_46 ?_
    refine lv_iconst (v := nI 1) hx hb dL_law_47 (by decide) ?_
    refine n_iadd hx hb dL_law_48 ?_
    refine k_cell (As := [.ref b, .int (nI (2 * k + 1))]) (rest := []) hF hcy mw_1_148 mw_1_149 mw_1_0 mw_1_150 hd_L_cell ⟨Nat.le_of_ble_eq_true rfl, Nat.le_of_ble_eq_true rfl⟩ hS hX hbl hbA rfl hl.1 rfl (Nat.le_of_ble_eq_true rfl) dL_law_49 hf ?_
    refine lv_istore (lv' := [(6, .int (nI vy)), (5, .int (nI vx)), (4, .int (nI k)), (3, .int (nI 1)), (2, .ref p), (1, .ref o), (0, .ref b)]) hx hb dL_law_52 hl (by decide) rfl (fun ls hl => ?_)
    refine lv_aload_n hx hb dL_law_54 rfl (lv_at hl 5 rfl) ?_
    refine lv_iload hx hb dL_law_55 (lv_at hl 1 rfl) ?_
    refine lv_iload hx hb dL_law_57 (lv_at hl 0 rfl) ?_
    have hP := hP.pm List.perm_append_comm
    have hD := hD.pm List.perm_append_comm
    refine k_rxS (As := [.ref o, .int (nI vx), .int (nI vy)]) (rest := []) (wr := wb) (wc := wa) hF (hact G o _ _ hCa) mw_3_54 mw_3_55 mw_1_0 mw_3_56 hd_L_act ⟨Nat.le_of_ble_eq_true rfl, Nat.le_of_ble_eq_true rfl⟩ hKx hZ hS hP hD hA rfl hl.1 rfl (Nat.le_of_ble_eq_true rfl) dL_law_59 hf (fun wx2 H locs hCx1 hP hD hS => ?_)
    refine lv_istore (lv' := [(7, .int r1), (6, .int (nI vy)), (5, .int (nI vx)), (4, .int (nI k)), (3, .int (nI 1)), (2, .ref p), (1, .ref o), (0, .ref b)]) hx hb dL_law_62 hl (by decide) rfl (fun ls hl => ?_)
    refine lv_aload_n hx hb dL_law_64 rfl (lv_at hl 5 rfl) ?_
    refine lv_iload hx hb dL_law_65 (lv_at hl 2 rfl) ?_
    refine lv_iload hx hb dL_law_67 (lv_at hl 1 rfl) ?_
    have hP := hP.pm List.perm_append_comm
    have hD := hD.pm List.perm_append_comm
    refine k_rxS (As := [.ref p, .int (nI vx), .int (nI vy)]) (rest := []) (wr := wx2) (wc := wb) hF (hact G p _ _ hCb) mw_3_54 mw_3_55 mw_1_0 mw_3_56 hd_L_act ⟨Nat.le_of_ble_eq_true rfl, Nat.le_of_ble_eq_true rfl⟩ hKx hZ hS hP hD hA rfl hl.1 rfl (Nat.le_of_ble_eq_true rfl) dL_law_69 hf (fun wx4 H locs hCx3 hP hD hS => ?_)
    refine lv_istore (lv' := [(8, .int r1), (7, .int r1), (6, .int (nI vy)), (5, .int (nI vx)), (4, .int (nI k)), (3, .int (nI 1)), (2, .ref p), (1, .ref o), (0, .ref b)]) hx hb dL_law_72 hl (by decide) rfl (fun ls hl => ?_)
    refine lv_iload hx hb dL_law_74 (lv_at hl 1 rfl) ?_
    refine lv_iload hx hb dL_law_76 (lv_at hl 0 rfl) ?_
    refine z_ne hx hb (tgt := 104) ((r1 : Int32).toInt) ((r1 : Int32).toInt) dL_law_78 (by decide) rfl rfl (fun c_78 => absurd rfl c_78) (fun c_78 => ?_)
    refine lv_aload_n hx hb dL_law_81 rfl (lv_at hl 7 rfl) ?_
    refine lv_iload hx hb dL_law_82 (lv_at hl 3 rfl) ?_
    have hP := hP.pm List.perm_append_comm
    have hD := hD.pm List.perm_append_comm
    refine k_rxS (As := [.ref o, .int (nI vx)]) (rest := []) (wr := wx4) (wc := wx2) hF (c_refuses l ok1 vx hvx G o _ _ hCx1) mw_1_153 mw_1_154 mw_1_0 mw_1_155 hd_L_refuses ⟨Nat.le_of_ble_eq_true rfl, Nat.le_of_ble_eq_true rfl⟩ hKx hZ hS hP hD hA rfl hl.1 rfl (Nat.le_of_ble_eq_true rfl) dL_law_84 hf (fun wx6 H locs hCx5 hP hD hS => ?_)
    refine z0_eq hx hb (tgt := 104) 1 dL_law_87 (by decide) (by decide) (fun c_87 => absurd c_87 (by omega)) (fun c_87 => ?_)
    refine lv_aload_n hx hb dL_law_90 rfl (lv_at hl 7 rfl) ?_
    refine lv_aload_n hx hb dL_law_91 rfl (lv_at hl 6 rfl) ?_
    refine lv_iload hx hb dL_law_92 (lv_at hl 3 rfl) ?_
    have hP := hP.pm List.perm_append_comm
    have hD := hD.pm List.perm_append_comm
    refine k_rxS (As := [.ref o, .ref p, .int (nI vx)]) (rest := []) (wr := []) (wc := wx6 ++ wx4) hF (c_alike l ok1 vx hvx G o p _ _ _ hCx5 hCx3) mw_3_48 mw_3_49 mw_1_0 mw_3_50 hd_L_alike ⟨Nat.le_of_ble_eq_true rfl, Nat.le_of_ble_eq_true rfl⟩ hKx hZ hS hP hD hA rfl hl.1 rfl (Nat.le_of_ble_eq_true rfl) dL_law_94 hf (fun wx7 H locs hh12 hP hD hS => ?_)
    obtain ⟨wx8, wx9, rfl, hCx10, hCx11⟩ := hh12
    have hP : va_P G.1 vwCl (wx8 ++ wx9) H := hP
    have hD : va_D A (wx8 ++ wx9) := hD
    refine z0_eq hx hb (tgt := 104) 1 dL_law_97 (by decide) (by decide) (fun c_97 => absurd c_97 (by omega)) (fun c_97 => ?_)
    refine lv_iconst (v := nI 1) hx hb dL_law_100 (by decide) ?_
    refine lv_goto (tgt := 105) hx hb dL_law_101 (by decide) ?_
    refine lv_istore_n (lv' := [(3, .int (nI 1)), (8, .int r1), (7, .int r1), (6, .int (nI vy)), (5, .int (nI vx)), (4, .int (nI k)), (2, .ref p), (1, .ref o), (0, .ref b)]) hx hb dL_law_105 rfl hl (by decide) rfl (fun ls hl => ?_)
    refine lv_iload hx hb dL_law_106 (lv_at hl 5 rfl) ?_
    refine lv_iconst (v := nI 3) hx hb dL_law_108 (by decide) ?_
    refine n_irem hx hb (by omega) (by omega) (by omega) dL_law_109 ?_
    refine lv_iconst (v := nI 2) hx hb dL_law_110 (by decide) ?_
    refine z_ne hx hb (tgt := 161) ((k % 3 : Nat) : Int) 2 dL_law_111 (by decide) (toI (by omega)) (by decide) (fun c_111 => ?_) (fun c_111 => ?_)
    · skip
      refine lv_iinc (v := nI (k + 1)) (lv' := [(4, .int (nI (k + 1))), (3, .int (nI 1)), (8, .int r1), (7, .int r1), (6, .int (nI vy)), (5, .int (nI vx)), (2, .ref p), (1, .ref o), (0, .ref b)]) hx hb dL_law_161 hl (k := 5) rfl (nI_add _ _) (by decide) rfl (fun ls hl => ?_)
      refine lv_goto (tgt := 21) hx hb dL_law_164 (by decide) ?_
      exact ih (k + 1) _ _ ls (by omega) ⟨by omega, (lv_sub hl [0, 1, 6, 7, 8] rfl), q1, _, _, ok1, hCx10, hCx11, hP, hD, hS⟩
    · skip
      refine lv_iload_n hx hb dL_law_114 rfl (lv_at hl 0 rfl) ?_
      refine z0_eq hx hb (tgt := 161) 1 dL_law_115 (by decide) (by decide) (fun c_115 => absurd c_115 (by decide)) (fun c_115 => ?_)
      refine lv_aload_n hx hb dL_law_118 rfl (lv_at hl 7 rfl) ?_
      refine lv_iload hx hb dL_law_119 (lv_at hl 3 rfl) ?_
      have hP := hP.pm List.perm_append_comm
      have hD := hD.pm List.perm_append_comm
      refine k_rxS (As := [.ref o, .int (nI vy)]) (rest := []) (wr := wx9) (wc := wx8) hF (hhold G o _ _ hCx10) mw_3_51 mw_3_52 mw_1_0 mw_3_53 hd_L_holds ⟨Nat.le_of_ble_eq_true rfl, Nat.le_of_ble_eq_true rfl⟩ hKx hZ hS hP hD hA rfl hl.1 rfl (Nat.le_of_ble_eq_true rfl) dL_law_121 hf (fun wx14 H locs hCx13 hP hD hS => ?_)
      refine z0_eq hx hb (tgt := 159) 1 dL_law_124 (by decide) (by decide) (fun c_124 => absurd c_124 (by omega)) (fun c_124 => ?_)
      refine lv_aload_n hx hb dL_law_127 rfl (lv_at hl 6 rfl) ?_
      refine lv_iload hx hb dL_law_128 (lv_at hl 3 rfl) ?_
      have hP := hP.pm List.perm_append_comm
      have hD := hD.pm List.perm_append_comm
      refine k_rxS (As := [.ref p, .int (nI vy)]) (rest := []) (wr := wx14) (wc := wx9) hF (hhold G p _ _ hCx11) mw_3_51 mw_3_52 mw_1_0 mw_3_53 hd_L_holds ⟨Nat.le_of_ble_eq_true rfl, Nat.le_of_ble_eq_true rfl⟩ hKx hZ hS hP hD hA rfl hl.1 rfl (Nat.le_of_ble_eq_true rfl) dL_law_130 hf (fun wx16 H locs hCx15 hP hD hS => ?_)
      refine z0_eq hx hb (tgt := 159) 1 dL_law_133 (by decide) (by decide) (fun c_133 => absurd c_133 (by omega)) (fun c_133 => ?_)
      refine lv_aload_n hx hb dL_law_136 rfl (lv_at hl 7 rfl) ?_
      refine lv_iload hx hb dL_law_137 (lv_at hl 3 rfl) ?_
      have hP := hP.pm List.perm_append_comm
      have hD := hD.pm List.perm_append_comm
      refine k_rxS (As := [.ref o, .int (nI vy)]) (rest := []) (wr := wx16) (wc := wx14) hF (c_refuses l ok2 vy hvy G o _ _ hCx13) mw_1_153 mw_1_154 mw_1_0 mw_1_155 hd_L_refuses ⟨Nat.le_of_ble_eq_true rfl, Nat.le_of_ble_eq_true rfl⟩ hKx hZ hS hP hD hA rfl hl.1 rfl (Nat.le_of_ble_eq_true rfl) dL_law_139 hf (fun wx18 H locs hCx17 hP hD hS => ?_)
      refine z0_eq hx hb (tgt := 159) 1 dL_law_142 (by decide) (by decide) (fun c_142 => absurd c_142 (by omega)) (fun c_142 => ?_)
      refine lv_aload_n hx hb dL_law_145 rfl (lv_at hl 7 rfl) ?_
      refine lv_aload_n hx hb dL_law_146 rfl (lv_at hl 6 rfl) ?_
      refine lv_iload hx hb dL_law_147 (lv_at hl 3 rfl) ?_
      have hP := hP.pm List.perm_append_comm
      have hD := hD.pm List.perm_append_comm
      refine k_rxS (As := [.ref o, .ref p, .int (nI vy)]) (rest := []) (wr := []) (wc := wx18 ++ wx16) hF (c_alike l ok2 vy hvy G o p _ _ _ hCx17 hCx15) mw_3_48 mw_3_49 mw_1_0 mw_3_50 hd_L_alike ⟨Nat.le_of_ble_eq_true rfl, Nat.le_of_ble_eq_true rfl⟩ hKx hZ hS hP hD hA rfl hl.1 rfl (Nat.le_of_ble_eq_true rfl) dL_law_149 hf (fun wx19 H locs hh24 hP hD hS => ?_)
      obtain ⟨wx20, wx21, rfl, hCx22, hCx23⟩ := hh24
      have hP : va_P G.1 vwCl (wx20 ++ wx21) H := hP
      have hD : va_D A (wx20 ++ wx21) := hD
      refine z0_eq hx hb (tgt := 159) 1 dL_law_152 (by decide) (by decide) (fun c_152 => absurd c_152 (by omega)) (fun c_152 => ?_)
      refine lv_iconst (v := nI 1) hx hb dL_law_155 (by decide) ?_
      refine lv_goto (tgt := 160) hx hb dL_law_156 (by decide) ?_
      refine lv_istore_n (lv' := [(3, .int (nI 1)), (8, .int r1), (7, .int r1), (6, .int (nI vy)), (5, .int (nI vx)), (4, .int (nI k)), (2, .ref p), (1, .ref o), (0, .ref b)]) hx hb dL_law_160 rfl hl (by decide) rfl (fun ls hl => ?_)
      refine lv_iinc (v := nI (k + 1)) (lv' := [(4, .int (nI (k + 1))), (3, .int (nI 1)), (8, .int r1), (7, .int r1), (6, .int (nI vy)), (5, .int (nI vx)), (2, .ref p), (1, .ref o), (0, .ref b)]) hx hb dL_law_161 hl (k := 5) rfl (nI_add _ _) (by decide) rfl (fun ls hl => ?_)
      refine lv_goto (tgt := 21) hx hb dL_law_164 (by decide) ?_
      exact ih (k + 1) _ _ ls (by omega) ⟨by omega, (lv_sub hl [0, 1, 6, 7, 8] rfl), q2, _, _, ok2, hCx22, hCx23, hP, hD, hS⟩
end LLP
/-! a new diary is in order -/
theorem Cv_ini : Cv ini := by
  have e0 : td ini = 0 := by decide +kernel
  have e1 : kpn ini = 2 := by decide +kernel
  have e2 : opn ini = 2 := by decide +kernel
  have e6 : ny ini = 0 := by decide +kernel
  have m0 : mot 0 = 0 := by decide +kernel
  refine ⟨⟨⟨by decide +kernel, by omega, by decide +kernel, by omega, by decide +kernel, by omega, by decide +kernel, by omega, fun i hi => absurd hi (by omega)⟩, by omega⟩, by omega, ⟨fun q hq => ⟨0, by omega, ini_o (by omega) (by omega)⟩, fun k hk => by rw [ini_o (by omega) (by omega)]; exact b_0 31, fun q hq h => ?_⟩, fun q hq => ⟨fun h => ?_, fun h => ?_⟩, fun q hq _ => by rw [ini_o (by omega) (by omega)]; rfl, fun i j hij hj => absurd hj (by omega)⟩
  · rw [ini_o (by omega) (by omega)] at h
    exact absurd h (by decide)
  · obtain ⟨i, hi, -⟩ := h
    exact absurd hi (by omega)
  · have h1 := h.1
    rw [e0, e1, m0] at h1
    exact absurd h1 (by omega)
theorem Dv_ini : Dv ini := by
  refine ⟨Cv_ini, fun m hm h => ?_, fun m hm h s hs => ini_o (by omega) (by omega)⟩
  rw [ini_o (by omega) (by omega)] at h
  exact absurd h (by decide)
theorem Ok_ini : OkD (ini, 0, (fun _ => ini), 0, (fun _ => ini), (fun _ => 0), 0) := ⟨Dv_ini, Nat.zero_le _, Nat.zero_le _, fun i hi => absurd hi (Nat.not_lt_zero i), fun k hk => absurd hk (Nat.not_lt_zero k), fun v _ _ => Dv_ini⟩
set_option maxHeartbeats 4000000 in
set_option maxRecDepth 100000 in
theorem CP_ini {G : gT} {me : Nat} {ws9 : va_W} (hq : ∃ (o : Nat) (ab : Nat) (af : Nat) (an : Nat) (aw : Nat) (ou : Nat) (ub : Nat) (uf : Nat) (un : Nat) (uw : Nat) (oh : Nat) (h0 : Nat) (hb0 : Nat) (hf0 : Nat) (hn0 : Nat) (hw0 : Nat) (h1 : Nat) (hb1 : Nat) (hf1 : Nat) (hn1 : Nat) (hw1 : Nat) (h2 : Nat) (hb2 : Nat) (hf2 : Nat) (hn2 : Nat) (hw2 : Nat) (h3 : Nat) (hb3 : Nat) (hf3 : Nat) (hn3 : Nat) (hw3 : Nat) (h4 : Nat) (hb4 : Nat) (hf4 : Nat) (hn4 : Nat) (hw4 : Nat) (h5 : Nat) (hb5 : Nat) (hf5 : Nat) (hn5 : Nat) (hw5 : Nat) (os : Nat) (t0 : Nat) (tb0 : Nat) (tf0 : Nat) (tn0 : Nat) (tw0 : Nat) (t1 : Nat) (tb1 : Nat) (tf1 : Nat) (tn1 : Nat) (tw1 : Nat) (op : Nat) (hs : Nat → Nat) (pa : Nat) (pt : Nat) (f : Nat → Option Nat), (∀ k, k < 40 → f k = some (hs k)) ∧ ws9 = (sW hs zT ++ [(me, .inr (3, [.ref o, .ref ou, .ref oh, .ref os, .ref op, .int 0, .int 0])), (o, dO ini ab af an aw), (ab, .inl (gI G, 1920, .inl (dB ini))), (af, .inl (gI G, 120, .inl (dF ini))), (an, .inl (gI G, 120, .inl (dN ini))), (aw, .inl (gI G, 7, .inl (dW ini))), (ou, dO ini ub uf un uw), (ub, .inl (gI G, 1920, .inl (dB ini))), (uf, .inl (gI G, 120, .inl (dF ini))), (un, .inl (gI G, 120, .inl (dN ini))), (uw, .inl (gI G, 7, .inl (dW ini))), (oh, .inl (gD G, 6, .inr (.inr (.inr (.inr (lis6 h0 h1 h2 h3 h4 h5)))))), (h0, dO ini hb0 hf0 hn0 hw0), (hb0, .inl (gI G, 1920, .inl (dB ini))), (hf0, .inl (gI G, 120, .inl (dF ini))), (hn0, .inl (gI G, 120, .inl (dN ini))), (hw0, .inl (gI G, 7, .inl (dW ini))), (h1, dO ini hb1 hf1 hn1 hw1), (hb1, .inl (gI G, 1920, .inl (dB ini))), (hf1, .inl (gI G, 120, .inl (dF ini))), (hn1, .inl (gI G, 120, .inl (dN ini))), (hw1, .inl (gI G, 7, .inl (dW ini))), (h2, dO ini hb2 hf2 hn2 hw2), (hb2, .inl (gI G, 1920, .inl (dB ini))), (hf2, .inl (gI G, 120, .inl (dF ini))), (hn2, .inl (gI G, 120, .inl (dN ini))), (hw2, .inl (gI G, 7, .inl (dW ini))), (h3, dO ini hb3 hf3 hn3 hw3), (hb3, .inl (gI G, 1920, .inl (dB ini))), (hf3, .inl (gI G, 120, .inl (dF ini))), (hn3, .inl (gI G, 120, .inl (dN ini))), (hw3, .inl (gI G, 7, .inl (dW ini))), (h4, dO ini hb4 hf4 hn4 hw4), (hb4, .inl (gI G, 1920, .inl (dB ini))), (hf4, .inl (gI G, 120, .inl (dF ini))), (hn4, .inl (gI G, 120, .inl (dN ini))), (hw4, .inl (gI G, 7, .inl (dW ini))), (h5, dO ini hb5 hf5 hn5 hw5), (hb5, .inl (gI G, 1920, .inl (dB ini))), (hf5, .inl (gI G, 120, .inl (dF ini))), (hn5, .inl (gI G, 120, .inl (dN ini))), (hw5, .inl (gI G, 7, .inl (dW ini))), (os, .inl (gD G, 2, .inr (.inr (.inr (.inr (lis2 t0 t1)))))), (t0, dO ini tb0 tf0 tn0 tw0), (tb0, .inl (gI G, 1920, .inl (dB ini))), (tf0, .inl (gI G, 120, .inl (dF ini))), (tn0, .inl (gI G, 120, .inl (dN ini))), (tw0, .inl (gI G, 7, .inl (dW ini))), (t1, dO ini tb1 tf1 tn1 tw1), (tb1, .inl (gI G, 1920, .inl (dB ini))), (tf1, .inl (gI G, 120, .inl (dF ini))), (tn1, .inl (gI G, 120, .inl (dN ini))), (tw1, .inl (gI G, 7, .inl (dW ini))), (op, .inr (1, [.ref pa, .ref pt, .int 0, .int 0, .int 0, .int 0])), (pa, .inl (gC G, 80, .inl (fun _ => 0))), (pt, .inl (gS G, 40, .inr (.inr (.inr (.inr f)))))])) : ∃ w, ws9.Perm w ∧ CP G me ini 0 (fun _ => ini) 0 (fun _ => ini) (fun _ => 0) 0 w := by
  obtain ⟨o, ab, af, an, aw, ou, ub, uf, un, uw, oh, h0, hb0, hf0, hn0, hw0, h1, hb1, hf1, hn1, hw1, h2, hb2, hf2, hn2, hw2, h3, hb3, hf3, hn3, hw3, h4, hb4, hf4, hn4, hw4, h5, hb5, hf5, hn5, hw5, os, t0, tb0, tf0, tn0, tw0, t1, tb1, tf1, tn1, tw1, op, hs, pa, pt, f, hq8, rfl⟩ := hq
  refine ⟨_, ?_, (o, ab, af, an, aw), (ou, ub, uf, un, uw), oh, (fun k => match k with | 0 => (h0, hb0, hf0, hn0, hw0) | 1 => (h1, hb1, hf1, hn1, hw1) | 2 => (h2, hb2, hf2, hn2, hw2) | 3 => (h3, hb3, hf3, hn3, hw3) | 4 => (h4, hb4, hf4, hn4, hw4) | _ => (h5, hb5, hf5, hn5, hw5)), os, (fun k => match k with | 0 => (t0, tb0, tf0, tn0, tw0) | _ => (t1, tb1, tf1, tn1, tw1)), op, pa, pt, hs, f, ini, 0, 0, 0, zT, hq8, rfl⟩
  exact pmB2 [sW hs zT, cM me o ou oh os op (nI 0) 0, dia G ini (o, ab, af, an, aw), dia G ini (ou, ub, uf, un, uw), cR G oh (rowH (fun k => match k with | 0 => (h0, hb0, hf0, hn0, hw0) | 1 => (h1, hb1, hf1, hn1, hw1) | 2 => (h2, hb2, hf2, hn2, hw2) | 3 => (h3, hb3, hf3, hn3, hw3) | 4 => (h4, hb4, hf4, hn4, hw4) | _ => (h5, hb5, hf5, hn5, hw5))), hW G (fun k => match k with | 0 => (h0, hb0, hf0, hn0, hw0) | 1 => (h1, hb1, hf1, hn1, hw1) | 2 => (h2, hb2, hf2, hn2, hw2) | 3 => (h3, hb3, hf3, hn3, hw3) | 4 => (h4, hb4, hf4, hn4, hw4) | _ => (h5, hb5, hf5, hn5, hw5)) (fun _ => ini), cS2 G os (rowS (fun k => match k with | 0 => (t0, tb0, tf0, tn0, tw0) | _ => (t1, tb1, tf1, tn1, tw1))), tW G (fun k => match k with | 0 => (t0, tb0, tf0, tn0, tw0) | _ => (t1, tb1, tf1, tn1, tw1)) (fun _ => ini), cP0 op pa pt 0 (nI 0) 0 0, cP1 G pa (fun _ => 0), cP2 G pt f] [0, 1, 4, 2, 3, 5, 6, 7, 8, 9, 10] (by decide) rfl rfl cB_e

set_option maxHeartbeats 4000000 in
set_option maxRecDepth 100000 in
theorem whole_start {p : Program} {e : Env} {s : State} {m : MethodId} {below : List Frame} {meth : Method} {c : Code} (l : Launch) (hflags : l.flags = flags0) {b L : Nat} {xs : Nat → Int32} (hL : L ≤ 260) (C0 : lw_At p s m meth c b L xs) : W p l e room_1 s m #[Value.ref b] below meth c s.heap [] 0 0 (lw_Z below #[Value.ref b] s) (entryFrame m ([Value.ref b] : List Value).toArray 9) := by
  obtain ⟨hx, hb, hr, hml, hown, hts0, hX, hbl, hlocks, hgv⟩ := C0
  obtain ⟨A, hAe⟩ : ∃ A : Nat → Prop, A = fun q => s.heap.size ≤ q := ⟨_, rfl⟩
  have hA : ∀ q : Nat, s.heap.size ≤ q → A q := fun q h => by rw [hAe]; exact h
  have hA2 : ∀ q : Nat, A q → s.heap.size ≤ q := fun q h => by rw [hAe] at h; exact h
  have hbA : ¬ A b := fun h => absurd (hA2 b h) (Nat.not_le.mpr hbl)
  obtain ⟨G, hKy⟩ := law_K hts0
  have hKx := hKy.1
  have hK := hKx.1
  have hZ : Zs A s := law_Z hts0 hgv (fun a ha h => absurd (hA2 a h) (Nat.not_le.mpr ha))
  have hts : ∀ w ∈ GW, w.before #[Value.ref b] s = true := fun w h => hts0 w (gw_tbl w h)
  have hF : CallFix p m c code 9 s #[Value.ref b] GW R_law := ⟨hx, hb, hml, hown, hts⟩
  have hl := lv_entry ([.ref b]) (n := 9) (Nat.le_of_ble_eq_true rfl)
  rw [lg_entry_eq]
  generalize (lg_sl ([.ref b]) ++ List.replicate (9 - (lg_sl ([.ref b])).length) Slot.unset).toArray = ls at hl ⊢
  have hl : lv_has ls 9 [(0, .ref b)] := hl
  have hS : va_S A s.heap s.heap [] := va_S.rf
  have hP : va_P G.1 vwCl [] s.heap := fun k q hk => (by cases hk)
  have hD : va_D A [] := ⟨fun i j x y hi _ _ => (by cases hi), fun k q hk => (by cases hk)⟩
  refine va_new (ci := 3) (fs := [.null, .null, .null, .null, .null, .int 0, .int 0]) (C := RX3) (T := TX3) (N := 7) hx hb hts inGX3 tyX3 tyX3_ok hown (hts _ mw_1_8) (hts _ mw_1_9) (hts _ mw_1_1) hK hP hD hS hA rfl (fun j hj => by rcases (show j = 0 ∨ j = 1 ∨ j = 2 ∨ j = 3 ∨ j = 4 ∨ j = 5 ∨ j = 6 by omega) with rfl | rfl | rfl | rfl | rfl | rfl | rfl <;> rfl) (Nat.le_of_ble_eq_true rfl) (Nat.le_of_ble_eq_true rfl) dL_law_0 (fun o H hP hD hS => ?_)
  have hP : va_P G.1 vwCl ([] ++ [(o, .inr (3, [.null, .null, .null, .null, .null, .int 0, .int 0]))]) H := hP
  have hD : va_D A ([] ++ [(o, .inr (3, [.null, .null, .null, .null, .null, .int 0, .int 0]))]) := hD
  refine lv_dup hx hb dL_law_3 rfl ?_
  refine k_rnI (As := []) (rest := [.ref o]) (wr := []) hF (c_X3_init l G _ o) rfl mw_1_10 mw_1_11 mw_1_1 mw_1_12 hd_X3_init ⟨Nat.le_of_ble_eq_true rfl, Nat.le_of_ble_eq_true rfl⟩ hKy hZ hS hP hD hA (List.Perm.refl _) rfl hl.1 rfl (Nat.le_of_ble_eq_true rfl) dL_law_4 ⟨Nat.le_of_ble_eq_true rfl, Nat.le_of_ble_eq_true rfl⟩ (fun w0 H locs hq1 hP hD hS => ?_)
  obtain ⟨w1, hpm1, hC1⟩ := CP_ini hq1
  have hP : va_P G.1 vwCl ([] ++ w1) H := va_P.pm hP (List.Perm.append_left _ hpm1)
  have hD : va_D A ([] ++ w1) := va_D.pm hD (List.Perm.append_left _ hpm1)
  refine lv_astore_n (lv' := [(1, .ref o), (0, .ref b)]) hx hb dL_law_7 rfl hl (by decide) rfl (fun ls hl => ?_)
  have hP : va_P G.1 vwCl w1 H := hP
  have hD : va_D A w1 := hD
  refine va_new (ci := 3) (fs := [.null, .null, .null, .null, .null, .int 0, .int 0]) (C := RX3) (T := TX3) (N := 7) hx hb hts inGX3 tyX3 tyX3_ok hown (hts _ mw_1_8) (hts _ mw_1_9) (hts _ mw_1_1) hK hP hD hS hA rfl (fun j hj => by rcases (show j = 0 ∨ j = 1 ∨ j = 2 ∨ j = 3 ∨ j = 4 ∨ j = 5 ∨ j = 6 by omega) with rfl | rfl | rfl | rfl | rfl | rfl | rfl <;> rfl) (Nat.le_of_ble_eq_true rfl) (Nat.le_of_ble_eq_true rfl) dL_law_8 (fun pp H hP hD hS => ?_)
  have hP : va_P G.1 vwCl (w1 ++ [(pp, .inr (3, [.null, .null, .null, .null, .null, .int 0, .int 0]))]) H := hP
  have hD : va_D A (w1 ++ [(pp, .inr (3, [.null, .null, .null, .null, .null, .int 0, .int 0]))]) := hD
  refine lv_dup hx hb dL_law_11 rfl ?_
  refine k_rnI (As := []) (rest := [.ref pp]) (wr := w1) hF (c_X3_init l G _ pp) rfl mw_1_10 mw_1_11 mw_1_1 mw_1_12 hd_X3_init ⟨Nat.le_of_ble_eq_true rfl, Nat.le_of_ble_eq_true rfl⟩ hKy hZ hS hP hD hA (List.Perm.refl _) rfl hl.1 rfl (Nat.le_of_ble_eq_true rfl) dL_law_12 ⟨Nat.le_of_ble_eq_true rfl, Nat.le_of_ble_eq_true rfl⟩ (fun w0 H locs hq2 hP hD hS => ?_)
  obtain ⟨w2, hpm2, hC2⟩ := CP_ini hq2
  have hP : va_P G.1 vwCl (w1 ++ w2) H := va_P.pm hP (List.Perm.append_left _ hpm2)
  have hD : va_D A (w1 ++ w2) := va_D.pm hD (List.Perm.append_left _ hpm2)
  refine lv_astore_n (lv' := [(2, .ref pp), (1, .ref o), (0, .ref b)]) hx hb dL_law_15 rfl hl (by decide) rfl (fun ls hl => ?_)
  refine lv_iconst (v := nI 1) hx hb dL_law_16 (by decide) ?_
  refine lv_istore_n (lv' := [(3, .int (nI 1)), (2, .ref pp), (1, .ref o), (0, .ref b)]) hx hb dL_law_17 rfl hl (by decide) rfl (fun ls hl => ?_)
  refine lv_iconst (v := nI 0) hx hb dL_law_18 (by decide) ?_
  refine lv_istore (lv' := [(4, .int (nI 0)), (3, .int (nI 1)), (2, .ref pp), (1, .ref o), (0, .ref b)]) hx hb dL_law_19 hl (by decide) rfl (fun ls hl => ?_)
  exact law_lp hF hr hlocks hKx hZ hA hA2 hX hbl hbA hL ⟨Nat.le_of_ble_eq_true rfl, Nat.le_of_ble_eq_true rfl⟩ ⟨Nat.le_of_ble_eq_true rfl, Nat.le_of_ble_eq_true rfl⟩ hl ⟨_, w1, w2, Ok_ini, hC1, hC2, hP, hD, hS⟩
