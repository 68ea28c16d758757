theorem a_months {l : Launch} {q : Sx} (hok : OkD q) : Act l yX3_count cX3_count 2 [.int (nI 1)] q (nI (mot (td (qr q)))) q := by
  have h := a_count l hok (nI 1) (X := 1) rfl
  have e : cov (qr q) (nI (qc q)) (nI (qn q)) 1 = nI (mot (td (qr q))) := by
    unfold cov
    rw [if_neg (by decide), if_pos rfl]
  rw [e] at h
  exact h
set_option maxHeartbeats 4000000 in
set_option maxRecDepth 100000 in
theorem c_alike (l : Launch) {q : Sx} (hok : OkD q) (x : Nat) (hx0 : x < 2147483648) (G : gT) (o p sz : Nat) (w1 w2 : va_W) (hC1 : CS G o q w1) (hC2 : CS G p q w2) : Ru l G yL_alike cL_alike 7 (some .boolean) 10 sz (w1 ++ w2) [Value.ref o, Value.ref p, Value.int (nI x)] 1 (fun ws => ∃ a b : va_W, ws = a ++ b ∧ CS G o q a ∧ CS G p q b) := by
  have htd : td (qr q) < 3650 := hok.1.1.1.1.2.1
  have hmt := (mot_row htd).1
  have hf : 0 ≤ (rmL 10).cells ∧ 0 ≤ (rmL 10).slots := ⟨Nat.zero_le _, Nat.zero_le _⟩
  refine Ru.mk (by decide) (Nat.le_of_ble_eq_true rfl) (fun pq eq sq mq bq tq cq ls A hr hlk hF hKx hZ hA hP hD hS hl => ?_)
  have hx := hF.1
  have hb := hF.2.1
  have hml := hF.2.2.1
  have hown : sq.vm.findClass "FoldedMonthsLaw" = some mq.cls := hF.2.2.2.1
  have hts : ∀ w ∈ GW, w.before _ sq = true := hF.2.2.2.2
  have hl : lv_has ls 7 [(0, .ref o), (1, .ref p), (2, .int (nI x))] := hl
  refine lv_aload_n hx hb dL_alike_0 rfl (lv_at hl 0 rfl) ?_
  have hP := hP.pm List.perm_append_comm
  have hD := hD.pm List.perm_append_comm
  refine kA (As := []) (rest := []) (wr := w2) (wc := w1) (b := o) hF (a_fault l hok) hC1 rfl mw_2_238 mw_2_239 mw_3_0 mw_1_1 mw_3_1 hd_X3_fault ⟨Nat.le_of_ble_eq_true rfl, Nat.le_of_ble_eq_true rfl⟩ hKx hZ hS hP hD hA rfl hl.1 rfl (Nat.le_of_ble_eq_true rfl) dL_alike_1 hf (fun wx2 H locs hCx1 hP hD hS => ?_)
  refine lv_aload_n hx hb dL_alike_4 rfl (lv_at hl 1 rfl) ?_
  have hP := hP.pm List.perm_append_comm
  have hD := hD.pm List.perm_append_comm
  refine kA (As := []) (rest := [.int (fV (qp q) (qn q) 0)]) (wr := wx2) (wc := w2) (b := p) hF (a_fault l hok) hC2 rfl mw_2_238 mw_2_239 mw_3_0 mw_1_1 mw_3_1 hd_X3_fault ⟨Nat.le_of_ble_eq_true rfl, Nat.le_of_ble_eq_true rfl⟩ hKx hZ hS hP hD hA rfl hl.1 rfl (Nat.le_of_ble_eq_true rfl) dL_alike_5 hf (fun wx4 H locs hCx3 hP hD hS => ?_)
  refine z_ne hx hb (tgt := 15) ((fV (qp q) (qn q) 0).toInt) ((fV (qp q) (qn q) 0).toInt) dL_alike_8 (by decide) rfl rfl (fun c_8 => absurd rfl c_8) (fun c_8 => ?_)
  refine lv_iconst (v := nI 1) hx hb dL_alike_11 (by decide) ?_
  refine lv_goto (tgt := 16) hx hb dL_alike_12 (by decide) ?_
  refine lv_istore_n (lv' := [(3, .int (nI 1)), (0, .ref o), (1, .ref p), (2, .int (nI x))]) hx hb dL_alike_16 rfl hl (by decide) rfl (fun ls hl => ?_)
  refine lv_iconst (v := nI 0) hx hb dL_alike_17 (by decide) ?_
  refine lv_istore (lv' := [(4, .int (nI 0)), (3, .int (nI 1)), (0, .ref o), (1, .ref p), (2, .int (nI x))]) hx hb dL_alike_18 hl (by decide) rfl (fun ls hl => ?_)
  have j58 : ∀ (k : Nat) (wa wb : va_W) (H : Heap) (locs : List Loc) (ls : Array Slot), CS G o q wa → CS G p q wb → va_P G.1 vwCl (wa ++ wb) H → va_D A (wa ++ wb) → va_S A sq.heap H locs → lv_has ls 7 [(4, .int (nI k)), (3, .int (nI 1)), (0, .ref o), (1, .ref p), (2, .int (nI x))] → W pq l eq (rmL 10) sq mq [Value.ref o, Value.ref p, Value.int (nI x)].toArray bq tq cq H locs 0 0 (MQ bq (Qu G A 1 (fun ws => ∃ a b : va_W, ws = a ++ b ∧ CS G o q a ∧ CS G p q b)) [Value.ref o, Value.ref p, Value.int (nI x)].toArray sq 0 0 A) (F0 mq 58 ls []) := by
    intro k wa wb H locs ls hCa hCb hP hD hS hl
    refine lv_aload_n hx hb dL_alike_58 rfl (lv_at hl 2 rfl) ?_
    refine lv_iconst (v := nI 1) hx hb dL_alike_59 (by decide) ?_
    have hP := hP.pm List.perm_append_comm
    have hD := hD.pm List.perm_append_comm
    refine kA (As := [.int (nI 1)]) (rest := []) (wr := wb) (wc := wa) (b := o) hF (a_months hok) hCa rfl mw_1_156 mw_1_157 mw_1_158 mw_1_1 mw_1_159 hd_X3_count ⟨Nat.le_of_ble_eq_true rfl, Nat.le_of_ble_eq_true rfl⟩ hKx hZ hS hP hD hA rfl hl.1 rfl (Nat.le_of_ble_eq_true rfl) dL_alike_60 hf (fun wx6 H locs hCx5 hP hD hS => ?_)
    refine lv_istore (lv' := [(4, .int (nI (mot (td (qr q))))), (3, .int (nI 1)), (0, .ref o), (1, .ref p), (2, .int (nI x))]) hx hb dL_alike_63 hl (by decide) rfl (fun ls hl => ?_)
    refine lv_iconst (v := nI 0) hx hb dL_alike_65 (by decide) ?_
    refine lv_istore (lv' := [(5, .int (nI 0)), (4, .int (nI (mot (td (qr q))))), (3, .int (nI 1)), (0, .ref o), (1, .ref p), (2, .int (nI x))]) hx hb dL_alike_66 hl (by decide) rfl (fun ls hl => ?_)
    have j181 : ∀ (m : Nat) (wa wb : va_W) (H : Heap) (locs : List Loc) (ls : Array Slot), CS G o q wa → CS G p q wb → va_P G.1 vwCl (wa ++ wb) H → va_D A (wa ++ wb) → va_S A sq.heap H locs → lv_has ls 7 [(5, .int (nI m)), (4, .int (nI (mot (td (qr q))))), (3, .int (nI 1)), (0, .ref o), (1, .ref p), (2, .int (nI x))] → W pq l eq (rmL 10) sq mq [Value.ref o, Value.ref p, Value.int (nI x)].toArray bq tq cq H locs 0 0 (MQ bq (Qu G A 1 (fun ws => ∃ a b : va_W, ws = a ++ b ∧ CS G o q a ∧ CS G p q b)) [Value.ref o, Value.ref p, Value.int (nI x)].toArray sq 0 0 A) (F0 mq 181 ls []) := by
      intro m wa wb H locs ls hCa hCb hP hD hS hl
      refine lv_iload_n hx hb dL_alike_181 rfl (lv_at hl 5 rfl) ?_
      refine lv_sipush (v := nI 400) hx hb dL_alike_182 (by decide) ?_
      refine n_irem hx hb (by omega) (by omega) (by omega) dL_alike_185 ?_
      refine lv_istore (lv' := [(5, .int (nI (x % 400))), (4, .int (nI (mot (td (qr q))))), (3, .int (nI 1)), (0, .ref o), (1, .ref p), (2, .int (nI x))]) hx hb dL_alike_186 hl (by decide) rfl (fun ls hl => ?_)
      refine lv_iload hx hb dL_alike_188 (lv_at hl 0 rfl) ?_
      refine lv_iload_n hx hb dL_alike_190 rfl (lv_at hl 5 rfl) ?_
      refine lv_sipush (v := nI 512) hx hb dL_alike_191 (by decide) ?_
      refine n_idiv hx hb (by omega) (by omega) (by omega) dL_alike_194 ?_
      refine lv_sipush (v := nI 200) hx hb dL_alike_195 (by decide) ?_
      refine n_irem hx hb (by omega) (by omega) (by omega) dL_alike_198 ?_
      refine n_iadd hx hb dL_alike_199 ?_
      refine lv_istore (lv' := [(6, .int (nI (x % 400 + (x / 512) % 200))), (5, .int (nI (x % 400))), (4, .int (nI (mot (td (qr q))))), (3, .int (nI 1)), (0, .ref o), (1, .ref p), (2, .int (nI x))]) hx hb dL_alike_200 hl (by decide) rfl (fun ls hl => ?_)
      refine lv_iload_n hx hb dL_alike_202 rfl (lv_at hl 3 rfl) ?_
      refine z0_eq hx hb (tgt := 248) 1 dL_alike_203 (by decide) (by decide) (fun c_203 => absurd c_203 (by decide)) (fun c_203 => ?_)
      refine lv_aload_n hx hb dL_alike_206 rfl (lv_at hl 4 rfl) ?_
      refine lv_iload hx hb dL_alike_207 (lv_at hl 1 rfl) ?_
      refine lv_iload hx hb dL_alike_209 (lv_at hl 0 rfl) ?_
      have hP := hP.pm List.perm_append_comm
      have hD := hD.pm List.perm_append_comm
      refine kA (As := [.int (nI (x % 400)), .int (nI (x % 400 + (x / 512) % 200))]) (rest := []) (wr := wb) (wc := wa) (b := o) hF (a_workOf l hok (x % 400) (x % 400 + (x / 512) % 200) (by omega) (by omega)) hCa rfl mw_2_208 mw_2_209 mw_2_210 mw_1_1 mw_2_211 hd_X3_workOf ⟨Nat.le_of_ble_eq_true rfl, Nat.le_of_ble_eq_true rfl⟩ hKx hZ hS hP hD hA rfl hl.1 rfl (Nat.le_of_ble_eq_true rfl) dL_alike_211 hf (fun wx8 H locs hCx7 hP hD hS => ?_)
      refine lv_aload_n hx hb dL_alike_214 rfl (lv_at hl 5 rfl) ?_
      refine lv_iload hx hb dL_alike_215 (lv_at hl 1 rfl) ?_
      refine lv_iload hx hb dL_alike_217 (lv_at hl 0 rfl) ?_
      have hP := hP.pm List.perm_append_comm
      have hD := hD.pm List.perm_append_comm
      refine kA (As := [.int (nI (x % 400)), .int (nI (x % 400 + (x / 512) % 200))]) (rest := [.int (lkk (qr q) (mot (x % 400)) (mot (x % 400 + (x / 512) % 200) + 1 - mot (x % 400)) 3 - qr q 3)]) (wr := wx8) (wc := wb) (b := p) hF (a_workOf l hok (x % 400) (x % 400 + (x / 512) % 200) (by omega) (by omega)) hCb rfl mw_2_208 mw_2_209 mw_2_210 mw_1_1 mw_2_211 hd_X3_workOf ⟨Nat.le_of_ble_eq_true rfl, Nat.le_of_ble_eq_true rfl⟩ hKx hZ hS hP hD hA rfl hl.1 rfl (Nat.le_of_ble_eq_true rfl) dL_alike_219 hf (fun wx10 H locs hCx9 hP hD hS => ?_)
      refine z_ne hx hb (tgt := 248) ((lkk (qr q) (mot (x % 400)) (mot (x % 400 + (x / 512) % 200) + 1 - mot (x % 400)) 3 - qr q 3).toInt) ((lkk (qr q) (mot (x % 400)) (mot (x % 400 + (x / 512) % 200) + 1 - mot (x % 400)) 3 - qr q 3).toInt) dL_alike_222 (by decide) rfl rfl (fun c_222 => absurd rfl c_222) (fun c_222 => ?_)
      refine lv_aload_n hx hb dL_alike_225 rfl (lv_at hl 4 rfl) ?_
      refine lv_iload hx hb dL_alike_226 (lv_at hl 1 rfl) ?_
      refine lv_iload hx hb dL_alike_228 (lv_at hl 0 rfl) ?_
      have hP := hP.pm List.perm_append_comm
      have hD := hD.pm List.perm_append_comm
      refine kA (As := [.int (nI (x % 400)), .int (nI (x % 400 + (x / 512) % 200))]) (rest := []) (wr := wx10) (wc := wx8) (b := o) hF (a_bestOpen l hok (x % 400) (x % 400 + (x / 512) % 200) (by omega) (by omega)) hCx7 rfl mw_2_212 mw_2_213 mw_2_214 mw_1_1 mw_2_215 hd_X3_bestOpen ⟨Nat.le_of_ble_eq_true rfl, Nat.le_of_ble_eq_true rfl⟩ hKx hZ hS hP hD hA rfl hl.1 rfl (Nat.le_of_ble_eq_true rfl) dL_alike_230 hf (fun wx12 H locs hCx11 hP hD hS => ?_)
      refine lv_aload_n hx hb dL_alike_233 rfl (lv_at hl 5 rfl) ?_
      refine lv_iload hx hb dL_alike_234 (lv_at hl 1 rfl) ?_
      refine lv_iload hx hb dL_alike_236 (lv_at hl 0 rfl) ?_
      have hP := hP.pm List.perm_append_comm
      have hD := hD.pm List.perm_append_comm
      refine kA (As := [.int (nI (x % 400)), .int (nI (x % 400 + (x / 512) % 200))]) (rest := [.int (nI (bob (qr q) (x % 400) (x % 400 + (x / 512) % 200) 6))]) (wr := wx12) (wc := wx10) (b := p) hF (a_bestOpen l hok (x % 400) (x % 400 + (x / 512) % 200) (by omega) (by omega)) hCx9 rfl mw_2_212 mw_2_213 mw_2_214 mw_1_1 mw_2_215 hd_X3_bestOpen ⟨Nat.le_of_ble_eq_true rfl, Nat.le_of_ble_eq_true rfl⟩ hKx hZ hS hP hD hA rfl hl.1 rfl (Nat.le_of_ble_eq_true rfl) dL_alike_238 hf (fun wx14 H locs hCx13 hP hD hS => ?_)
      refine z_ne hx hb (tgt := 248) ((nI (bob (qr q) (x % 400) (x % 400 + (x / 512) % 200) 6)).toInt) ((nI (bob (qr q) (x % 400) (x % 400 + (x / 512) % 200) 6)).toInt) dL_alike_241 (by decide) rfl rfl (fun c_241 => absurd rfl c_241) (fun c_241 => ?_)
      refine lv_iconst (v := nI 1) hx hb dL_alike_244 (by decide) ?_
      refine lv_goto (tgt := 249) hx hb dL_alike_245 (by decide) ?_
      exact e_uz hx hb hr hlk nz_1 hP hD hS ⟨_, _, rfl, hCx11, hCx13⟩ rfl dL_alike_249
    have hP := hP.pm List.perm_append_comm
    have hD := hD.pm List.perm_append_comm
    refine wloopH [] (fun (m : Nat) (H : Heap) (locs : List Loc) (ls : Array Slot) => m ≤ mot (td (qr q)) + 1 ∧ lv_has ls 7 [(5, .int (nI m)), (4, .int (nI (mot (td (qr q))))), (3, .int (nI 1)), (0, .ref o), (1, .ref p), (2, .int (nI x))] ∧ ∃ wa wb : va_W, CS G o q wa ∧ CS G p q wb ∧ va_P G.1 vwCl (wa ++ wb) H ∧ va_D A (wa ++ wb) ∧ va_S A sq.heap H locs) (fun m => mot (td (qr q)) + 1 - m) ?_ 0 ⟨Nat.zero_le _, hl, _, _, hCx5, hCb, hP, hD, hS⟩
    intro m ih H locs ls ⟨hk, hl, wa, wb, hCa, hCb, hP, hD, hS⟩
    refine lv_iload hx hb dL_alike_68 (lv_at hl 0 rfl) ?_
    refine lv_iload hx hb dL_alike_70 (lv_at hl 1 rfl) ?_
    refine z_gt hx hb (tgt := 181) ((m : Nat) : Int) ((mot (td (qr q)) : Nat) : Int) dL_alike_72 (by decide) (toI (by omega)) (toI (by omega)) (fun c_72 => ?_) (fun c_72 => ?_)
    · skip
      exact j181 _ _ _ _ _ ls hCa hCb hP hD hS hl
    · skip
      refine lv_iload_n hx hb dL_alike_75 rfl (lv_at hl 2 rfl) ?_
      refine z0_eq hx hb (tgt := 181) 1 dL_alike_76 (by decide) (by decide) (fun c_76 => absurd c_76 (by decide)) (fun c_76 => ?_)
      refine lv_aload_n hx hb dL_alike_79 rfl (lv_at hl 3 rfl) ?_
      refine lv_iload hx hb dL_alike_80 (lv_at hl 0 rfl) ?_
      refine lv_iload_n hx hb dL_alike_82 rfl (lv_at hl 5 rfl) ?_
      refine lv_bipush (v := nI 10) hx hb dL_alike_83 (by decide) ?_
      refine n_irem hx hb (by omega) (by omega) (by omega) dL_alike_85 ?_
      have hP := hP.pm List.perm_append_comm
      have hD := hD.pm List.perm_append_comm
      refine kA (As := [.int (nI m), .int (nI (x % 10))]) (rest := []) (wr := wb) (wc := wa) (b := o) hF (a_ofMonth l hok m (nI (x % 10)) (by omega) (toI (by omega))) hCa rfl mw_2_175 mw_2_176 mw_2_177 mw_1_1 mw_2_178 hd_X3_ofMonth ⟨Nat.le_of_ble_eq_true rfl, Nat.le_of_ble_eq_true rfl⟩ hKx hZ hS hP hD hA rfl hl.1 rfl (Nat.le_of_ble_eq_true rfl) dL_alike_86 hf (fun wx16 H locs hCx15 hP hD hS => ?_)
      refine lv_aload_n hx hb dL_alike_89 rfl (lv_at hl 4 rfl) ?_
      refine lv_iload hx hb dL_alike_90 (lv_at hl 0 rfl) ?_
      refine lv_iload_n hx hb dL_alike_92 rfl (lv_at hl 5 rfl) ?_
      refine lv_bipush (v := nI 10) hx hb dL_alike_93 (by decide) ?_
      refine n_irem hx hb (by omega) (by omega) (by omega) dL_alike_95 ?_
      have hP := hP.pm List.perm_append_comm
      have hD := hD.pm List.perm_append_comm
      refine kA (As := [.int (nI m), .int (nI (x % 10))]) (rest := [.int (omv (qr q) m ((x % 10 : Nat) : Int))]) (wr := wx16) (wc := wb) (b := p) hF (a_ofMonth l hok m (nI (x % 10)) (by omega) (toI (by omega))) hCb rfl mw_2_175 mw_2_176 mw_2_177 mw_1_1 mw_2_178 hd_X3_ofMonth ⟨Nat.le_of_ble_eq_true rfl, Nat.le_of_ble_eq_true rfl⟩ hKx hZ hS hP hD hA rfl hl.1 rfl (Nat.le_of_ble_eq_true rfl) dL_alike_96 hf (fun wx18 H locs hCx17 hP hD hS => ?_)
      refine z_ne hx hb (tgt := 173) ((omv (qr q) m ((x % 10 : Nat) : Int)).toInt) ((omv (qr q) m ((x % 10 : Nat) : Int)).toInt) dL_alike_99 (by decide) rfl rfl (fun c_99 => absurd rfl c_99) (fun c_99 => ?_)
      refine lv_aload_n hx hb dL_alike_102 rfl (lv_at hl 3 rfl) ?_
      refine lv_iload hx hb dL_alike_103 (lv_at hl 0 rfl) ?_
      refine lv_iconst (v := nI 5) hx hb dL_alike_105 (by decide) ?_
      have hP := hP.pm List.perm_append_comm
      have hD := hD.pm List.perm_append_comm
      refine kA (As := [.int (nI m), .int (nI 5)]) (rest := []) (wr := wx18) (wc := wx16) (b := o) hF (a_ofMonth l hok m (nI 5) (by omega) (toI (by omega))) hCx15 rfl mw_2_175 mw_2_176 mw_2_177 mw_1_1 mw_2_178 hd_X3_ofMonth ⟨Nat.le_of_ble_eq_true rfl, Nat.le_of_ble_eq_true rfl⟩ hKx hZ hS hP hD hA rfl hl.1 rfl (Nat.le_of_ble_eq_true rfl) dL_alike_106 hf (fun wx20 H locs hCx19 hP hD hS => ?_)
      refine lv_aload_n hx hb dL_alike_109 rfl (lv_at hl 4 rfl) ?_
      refine lv_iload hx hb dL_alike_110 (lv_at hl 0 rfl) ?_
      refine lv_iconst (v := nI 5) hx hb dL_alike_112 (by decide) ?_
      have hP := hP.pm List.perm_append_comm
      have hD := hD.pm List.perm_append_comm
      refine kA (As := [.int (nI m), .int (nI 5)]) (rest := [.int (omv (qr q) m ((5 : Nat) : Int))]) (wr := wx20) (wc := wx18) (b := p) hF (a_ofMonth l hok m (nI 5) (by omega) (toI (by omega))) hCx17 rfl mw_2_175 mw_2_176 mw_2_177 mw_1_1 mw_2_178 hd_X3_ofMonth ⟨Nat.le_of_ble_eq_true rfl, Nat.le_of_ble_eq_true rfl⟩ hKx hZ hS hP hD hA rfl hl.1 rfl (Nat.le_of_ble_eq_true rfl) dL_alike_113 hf (fun wx22 H locs hCx21 hP hD hS => ?_)
      refine z_ne hx hb (tgt := 173) ((omv (qr q) m ((5 : Nat) : Int)).toInt) ((omv (qr q) m ((5 : Nat) : Int)).toInt) dL_alike_116 (by decide) rfl rfl (fun c_116 => absurd rfl c_116) (fun c_116 => ?_)
      refine lv_aload_n hx hb dL_alike_119 rfl (lv_at hl 3 rfl) ?_
      refine lv_iload_n hx hb dL_alike_120 rfl (lv_at hl 5 rfl) ?_
      refine lv_bipush (v := nI 16) hx hb dL_alike_121 (by decide) ?_
      refine n_idiv hx hb (by omega) (by omega) (by omega) dL_alike_123 ?_
      refine lv_bipush (v := nI 16) hx hb dL_alike_124 (by decide) ?_
      refine n_irem hx hb (by omega) (by omega) (by omega) dL_alike_126 ?_
      refine lv_iload hx hb dL_alike_127 (lv_at hl 0 rfl) ?_
      have hP := hP.pm List.perm_append_comm
      have hD := hD.pm List.perm_append_comm
      refine kA (As := [.int (nI ((x / 16) % 16)), .int (nI m)]) (rest := []) (wr := wx22) (wc := wx20) (b := o) hF (a_inMonth l hok ((x / 16) % 16) m (by omega) (by omega)) hCx19 rfl mw_2_190 mw_2_191 mw_2_192 mw_1_1 mw_2_193 hd_X3_inMonth ⟨Nat.le_of_ble_eq_true rfl, Nat.le_of_ble_eq_true rfl⟩ hKx hZ hS hP hD hA rfl hl.1 rfl (Nat.le_of_ble_eq_true rfl) dL_alike_129 hf (fun wx24 H locs hCx23 hP hD hS => ?_)
      refine lv_aload_n hx hb dL_alike_132 rfl (lv_at hl 4 rfl) ?_
      refine lv_iload_n hx hb dL_alike_133 rfl (lv_at hl 5 rfl) ?_
      refine lv_bipush (v := nI 16) hx hb dL_alike_134 (by decide) ?_
      refine n_idiv hx hb (by omega) (by omega) (by omega) dL_alike_136 ?_
      refine lv_bipush (v := nI 16) hx hb dL_alike_137 (by decide) ?_
      refine n_irem hx hb (by omega) (by omega) (by omega) dL_alike_139 ?_
      refine lv_iload hx hb dL_alike_140 (lv_at hl 0 rfl) ?_
      have hP := hP.pm List.perm_append_comm
      have hD := hD.pm List.perm_append_comm
      refine kA (As := [.int (nI ((x / 16) % 16)), .int (nI m)]) (rest := [.int (nI (ons (qr q (255 + 16 * m + ((x / 16) % 16)))))]) (wr := wx24) (wc := wx22) (b := p) hF (a_inMonth l hok ((x / 16) % 16) m (by omega) (by omega)) hCx21 rfl mw_2_190 mw_2_191 mw_2_192 mw_1_1 mw_2_193 hd_X3_inMonth ⟨Nat.le_of_ble_eq_true rfl, Nat.le_of_ble_eq_true rfl⟩ hKx hZ hS hP hD hA rfl hl.1 rfl (Nat.le_of_ble_eq_true rfl) dL_alike_142 hf (fun wx26 H locs hCx25 hP hD hS => ?_)
      refine z_ne hx hb (tgt := 173) ((nI (ons (qr q (255 + 16 * m + ((x / 16) % 16))))).toInt) ((nI (ons (qr q (255 + 16 * m + ((x / 16) % 16))))).toInt) dL_alike_145 (by decide) rfl rfl (fun c_145 => absurd rfl c_145) (fun c_145 => ?_)
      refine lv_aload_n hx hb dL_alike_148 rfl (lv_at hl 3 rfl) ?_
      refine lv_iload hx hb dL_alike_149 (lv_at hl 0 rfl) ?_
      refine lv_iload_n hx hb dL_alike_151 rfl (lv_at hl 5 rfl) ?_
      refine lv_iconst (v := nI 5) hx hb dL_alike_152 (by decide) ?_
      refine n_irem hx hb (by omega) (by omega) (by omega) dL_alike_153 ?_
      have hP := hP.pm List.perm_append_comm
      have hD := hD.pm List.perm_append_comm
      refine kA (As := [.int (nI m), .int (nI (x % 5))]) (rest := []) (wr := wx26) (wc := wx24) (b := o) hF (a_sizeAs l hok m (x % 5) (by omega) (by omega)) hCx23 rfl mw_2_202 mw_2_203 mw_2_204 mw_1_1 mw_2_205 hd_X3_sizeAs ⟨Nat.le_of_ble_eq_true rfl, Nat.le_of_ble_eq_true rfl⟩ hKx hZ hS hP hD hA rfl hl.1 rfl (Nat.le_of_ble_eq_true rfl) dL_alike_154 hf (fun wx28 H locs hCx27 hP hD hS => ?_)
      refine lv_aload_n hx hb dL_alike_157 rfl (lv_at hl 4 rfl) ?_
      refine lv_iload hx hb dL_alike_158 (lv_at hl 0 rfl) ?_
      refine lv_iload_n hx hb dL_alike_160 rfl (lv_at hl 5 rfl) ?_
      refine lv_iconst (v := nI 5) hx hb dL_alike_161 (by decide) ?_
      refine n_irem hx hb (by omega) (by omega) (by omega) dL_alike_162 ?_
      have hP := hP.pm List.perm_append_comm
      have hD := hD.pm List.perm_append_comm
      refine kA (As := [.int (nI m), .int (nI (x % 5))]) (rest := [.int (siz (qr q) m (-6) ((x % 5 : Nat) : Int))]) (wr := wx28) (wc := wx26) (b := p) hF (a_sizeAs l hok m (x % 5) (by omega) (by omega)) hCx25 rfl mw_2_202 mw_2_203 mw_2_204 mw_1_1 mw_2_205 hd_X3_sizeAs ⟨Nat.le_of_ble_eq_true rfl, Nat.le_of_ble_eq_true rfl⟩ hKx hZ hS hP hD hA rfl hl.1 rfl (Nat.le_of_ble_eq_true rfl) dL_alike_163 hf (fun wx30 H locs hCx29 hP hD hS => ?_)
      refine z_ne hx hb (tgt := 173) ((siz (qr q) m (-6) ((x % 5 : Nat) : Int)).toInt) ((siz (qr q) m (-6) ((x % 5 : Nat) : Int)).toInt) dL_alike_166 (by decide) rfl rfl (fun c_166 => absurd rfl c_166) (fun c_166 => ?_)
      refine lv_iconst (v := nI 1) hx hb dL_alike_169 (by decide) ?_
      refine lv_goto (tgt := 174) hx hb dL_alike_170 (by decide) ?_
      refine lv_istore_n (lv' := [(3, .int (nI 1)), (5, .int (nI m)), (4, .int (nI (mot (td (qr q))))), (0, .ref o), (1, .ref p), (2, .int (nI x))]) hx hb dL_alike_174 rfl hl (by decide) rfl (fun ls hl => ?_)
      refine lv_iinc (v := nI (m + 1)) (lv' := [(5, .int (nI (m + 1))), (3, .int (nI 1)), (4, .int (nI (mot (td (qr q))))), (0, .ref o), (1, .ref p), (2, .int (nI x))]) hx hb dL_alike_175 hl (k := 1) rfl (nI_add _ _) (by decide) rfl (fun ls hl => ?_)
      refine lv_goto (tgt := 68) hx hb dL_alike_178 (by decide) ?_
      exact ih (m + 1) _ _ ls (by omega) ⟨by omega, (lv_sub hl [0, 2, 1, 3, 4, 5] rfl), _, _, hCx27, hCx29, hP, hD, hS⟩
  refine wloopH [] (fun (k : Nat) (H : Heap) (locs : List Loc) (ls : Array Slot) => k ≤ 13 ∧ lv_has ls 7 [(4, .int (nI k)), (3, .int (nI 1)), (0, .ref o), (1, .ref p), (2, .int (nI x))] ∧ ∃ wa wb : va_W, CS G o q wa ∧ CS G p q wb ∧ va_P G.1 vwCl (wa ++ wb) H ∧ va_D A (wa ++ wb) ∧ va_S A sq.heap H locs) (fun k => 13 - k) ?_ 0 ⟨Nat.zero_le _, hl, _, _, hCx1, hCx3, hP, hD, hS⟩
  intro k ih H locs ls ⟨hk, hl, wa, wb, hCa, hCb, hP, hD, hS⟩
  refine lv_iload hx hb dL_alike_20 (lv_at hl 0 rfl) ?_
  refine lv_bipush (v := nI 13) hx hb dL_alike_22 (by decide) ?_
  refine z_ge hx hb (tgt := 58) ((k : Nat) : Int) 13 dL_alike_24 (by decide) (toI (by omega)) (by decide) (fun c_24 => ?_) (fun c_24 => ?_)
  · skip
    exact j58 _ _ _ _ _ ls hCa hCb hP hD hS hl
  · skip
    refine lv_iload_n hx hb dL_alike_27 rfl (lv_at hl 1 rfl) ?_
    refine z0_eq hx hb (tgt := 58) 1 dL_alike_28 (by decide) (by decide) (fun c_28 => absurd c_28 (by decide)) (fun c_28 => ?_)
    refine lv_aload_n hx hb dL_alike_31 rfl (lv_at hl 2 rfl) ?_
    refine lv_iload hx hb dL_alike_32 (lv_at hl 0 rfl) ?_
    have hP := hP.pm List.perm_append_comm
    have hD := hD.pm List.perm_append_comm
    refine kA (As := [.int (nI k)]) (rest := []) (wr := wb) (wc := wa) (b := o) hF (a_count l hok (nI k) (toI (by omega))) hCa rfl mw_1_156 mw_1_157 mw_1_158 mw_1_1 mw_1_159 hd_X3_count ⟨Nat.le_of_ble_eq_true rfl, Nat.le_of_ble_eq_true rfl⟩ hKx hZ hS hP hD hA rfl hl.1 rfl (Nat.le_of_ble_eq_true rfl) dL_alike_34 hf (fun wx32 H locs hCx31 hP hD hS => ?_)
    refine lv_aload_n hx hb dL_alike_37 rfl (lv_at hl 3 rfl) ?_
    refine lv_iload hx hb dL_alike_38 (lv_at hl 0 rfl) ?_
    have hP := hP.pm List.perm_append_comm
    have hD := hD.pm List.perm_append_comm
    refine kA (As := [.int (nI k)]) (rest := [.int (cov (qr q) (nI (qc q)) (nI (qn q)) ((k : Nat) : Int))]) (wr := wx32) (wc := wb) (b := p) hF (a_count l hok (nI k) (toI (by omega))) hCb rfl mw_1_156 mw_1_157 mw_1_158 mw_1_1 mw_1_159 hd_X3_count ⟨Nat.le_of_ble_eq_true rfl, Nat.le_of_ble_eq_true rfl⟩ hKx hZ hS hP hD hA rfl hl.1 rfl (Nat.le_of_ble_eq_true rfl) dL_alike_40 hf (fun wx34 H locs hCx33 hP hD hS => ?_)
    refine z_ne hx hb (tgt := 50) ((cov (qr q) (nI (qc q)) (nI (qn q)) ((k : Nat) : Int)).toInt) ((cov (qr q) (nI (qc q)) (nI (qn q)) ((k : Nat) : Int)).toInt) dL_alike_43 (by decide) rfl rfl (fun c_43 => absurd rfl c_43) (fun c_43 => ?_)
    refine lv_iconst (v := nI 1) hx hb dL_alike_46 (by decide) ?_
    refine lv_goto (tgt := 51) hx hb dL_alike_47 (by decide) ?_
    refine lv_istore_n (lv' := [(3, .int (nI 1)), (4, .int (nI k)), (0, .ref o), (1, .ref p), (2, .int (nI x))]) hx hb dL_alike_51 rfl hl (by decide) rfl (fun ls hl => ?_)
    refine lv_iinc (v := nI (k + 1)) (lv' := [(4, .int (nI (k + 1))), (3, .int (nI 1)), (0, .ref o), (1, .ref p), (2, .int (nI x))]) hx hb dL_alike_52 hl (k := 1) rfl (nI_add _ _) (by decide) rfl (fun ls hl => ?_)
    refine lv_goto (tgt := 20) hx hb dL_alike_55 (by decide) ?_
    exact ih (k + 1) _ _ ls (by omega) ⟨by omega, hl, _, _, hCx31, hCx33, hP, hD, hS⟩
