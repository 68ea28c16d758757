/-- the first day that act means -/
def fro (T x y : Nat) : Nat := if 40 < T ∧ x / 16 % 2 = 0 then T - y % 40 else y % (T + 1)
theorem fro_le (T x y : Nat) : fro T x y ≤ T := by
  unfold fro
  by_cases h : 40 < T ∧ x / 16 % 2 = 0
  · rw [if_pos h]; omega
  · rw [if_neg h]; have := Nat.mod_lt y (show 0 < T + 1 by omega); omega
theorem fro_1 {T x y : Nat} (h : 40 < T ∧ x / 16 % 2 = 0) : nI (T - y % 40) = nI (fro T x y) := by unfold fro; rw [if_pos h]
theorem fro_2 {T x y : Nat} (h : ¬ (40 < T ∧ x / 16 % 2 = 0)) : nI (y % (T + 1)) = nI (fro T x y) := by unfold fro; rw [if_neg h]
theorem a_pad {l : Launch} {q : Sx} (hok : OkD q) : Act l yX3_count cX3_count 2 [.int (nI 11)] q (nI (qn q)) q := by
  have h := a_count l hok (nI 11) (X := 11) rfl
  have e : cov (qr q) (nI (qc q)) (nI (qn q)) 11 = nI (qn q) := by
    unfold cov
    rw [if_neg (by decide), if_neg (by decide), if_neg (by decide), if_neg (by decide), if_neg (by decide), if_neg (by decide), if_neg (by decide), if_neg (by decide), if_neg (by decide), if_neg (by decide), if_neg (by decide), if_pos rfl]
  rw [e] at h
  exact h
set_option maxHeartbeats 4000000 in
set_option maxRecDepth 100000 in
theorem act_sw (l : Launch) {q : Sx} (hok : OkD q) (x y : Nat) (hx0 : x < 2147483648) (hy0 : y < 2147483648) (G : gT) (me sz : Nat) (w0 : va_W) (hC : CS G me q w0) {res : Int32} {Φ : va_W → Prop} (tgt : Nat) (hs : ∀ z : Int32, z.toInt = ((x % 16 : Nat) : Int) → ((z.toInt < 0 ∨ 10 < z.toInt) ∧ tgt = 279) ∨ (¬ z.toInt < 0 ∧ ¬ 10 < z.toInt ∧ ∃ off : Int, (#[58, 58, 58, 80, 90, 95, 103, 111, 111, 136, 183] : Array Int)[(z.toInt - 0).toNat]? = some off ∧ ((54 : Nat) : Int) + off = (tgt : Int)))
    (kk : ∀ (pq : Program) (eq : Env) (sq : State) (mq : MethodId) (bq : List Frame) (tq : Method) (cq : Code) (ls : Array Slot) (A : Nat → Prop) (w : va_W) (H : Heap) (locs : List Loc), tq.sig.returnType = some .int → tq.locks = false → CallFix pq mq cq cL_act 6 sq [Value.ref me, Value.int (nI x), Value.int (nI y)].toArray GW RL → Kx G sq → Zs A sq → (∀ q, sq.heap.size ≤ q → A q) → CS G me q w → va_P G.1 vwCl ([] ++ w) H → va_D A ([] ++ w) → va_S A sq.heap H locs → lv_has ls 6 [(5, .int (nI (fro (td (qr q)) x y + y / 4096 % 9))), (4, .int (nI (fro (td (qr q)) x y))), (3, .int (nI (td (qr q)))), (0, .ref me), (1, .int (nI x)), (2, .int (nI y))] → W pq l eq (rmL 10) sq mq [Value.ref me, Value.int (nI x), Value.int (nI y)].toArray bq tq cq H locs 0 0 (MQ bq (Qu G A res Φ) [Value.ref me, Value.int (nI x), Value.int (nI y)].toArray sq 0 0 A) (F0 mq tgt ls [])) : Ru l G yL_act cL_act 6 (some .int) 10 sz w0 [Value.ref me, Value.int (nI x), Value.int (nI y)] res Φ := by
  have htd : td (qr q) < 3650 := hok.1.1.1.1.2.1
  have hfl := fro_le (td (qr q)) x y
  have hf : 0 ≤ (rmL 10).cells ∧ 0 ≤ (rmL 10).slots := ⟨Nat.zero_le _, Nat.zero_le _⟩
  refine Ru.mk (by decide) (Nat.le_of_ble_eq_true rfl) (fun pq eq sq mq bq tq cq ls A hr hlk hF hKx hZ hA hP hD hS hl => ?_)
  have hx := hF.1
  have hb := hF.2.1
  have hml := hF.2.2.1
  have hown : sq.vm.findClass "FoldedMonthsLaw" = some mq.cls := hF.2.2.2.1
  have hts : ∀ w ∈ GW, w.before _ sq = true := hF.2.2.2.2
  have hl : lv_has ls 6 [(0, .ref me), (1, .int (nI x)), (2, .int (nI y))] := hl
  refine lv_aload_n hx hb dL_act_0 rfl (lv_at hl 0 rfl) ?_
  refine lv_iconst (v := nI 0) hx hb dL_act_1 (by decide) ?_
  refine kA (As := [.int (nI 0)]) (rest := []) (wr := []) (wc := w0) (b := me) hF (a_today hok) hC rfl mw_1_156 mw_1_157 mw_1_158 mw_1_1 mw_1_159 hd_X3_count ⟨Nat.le_of_ble_eq_true rfl, Nat.le_of_ble_eq_true rfl⟩ hKx hZ hS hP hD hA rfl hl.1 rfl (Nat.le_of_ble_eq_true rfl) dL_act_2 hf (fun wx2 H locs hCx1 hP hD hS => ?_)
  refine lv_istore_n (lv' := [(3, .int (nI (td (qr q)))), (0, .ref me), (1, .int (nI x)), (2, .int (nI y))]) hx hb dL_act_5 rfl hl (by decide) rfl (fun ls hl => ?_)
  have j35 : ∀ (w : va_W) (H : Heap) (locs : List Loc) (ls : Array Slot), CS G me q w → va_P G.1 vwCl ([] ++ w) H → va_D A ([] ++ w) → va_S A sq.heap H locs → lv_has ls 6 [(3, .int (nI (td (qr q)))), (0, .ref me), (1, .int (nI x)), (2, .int (nI y))] → W pq l eq (rmL 10) sq mq [Value.ref me, Value.int (nI x), Value.int (nI y)].toArray bq tq cq H locs 0 0 (MQ bq (Qu G A res Φ) [Value.ref me, Value.int (nI x), Value.int (nI y)].toArray sq 0 0 A) (F0 mq 35 ls [.int (nI (fro (td (qr q)) x y))]) := by
    intro w H locs ls hC hP hD hS hl
    refine lv_istore (lv' := [(4, .int (nI (fro (td (qr q)) x y))), (3, .int (nI (td (qr q)))), (0, .ref me), (1, .int (nI x)), (2, .int (nI y))]) hx hb dL_act_35 hl (by decide) rfl (fun ls hl => ?_)
    refine lv_iload hx hb dL_act_37 (lv_at hl 0 rfl) ?_
    refine lv_iload_n hx hb dL_act_39 rfl (lv_at hl 4 rfl) ?_
    refine lv_sipush (v := nI 4096) hx hb dL_act_40 (by decide) ?_
    refine n_idiv hx hb (by omega) (by omega) (by omega) dL_act_43 ?_
    refine lv_bipush (v := nI 9) hx hb dL_act_44 (by decide) ?_
    refine n_irem hx hb (by omega) (by omega) (by omega) dL_act_46 ?_
    refine n_iadd hx hb dL_act_47 ?_
    refine lv_istore (lv' := [(5, .int (nI (fro (td (qr q)) x y + (y / 4096) % 9))), (4, .int (nI (fro (td (qr q)) x y))), (3, .int (nI (td (qr q)))), (0, .ref me), (1, .int (nI x)), (2, .int (nI y))]) hx hb dL_act_48 hl (by decide) rfl (fun ls hl => ?_)
    refine lv_iload_n hx hb dL_act_50 rfl (lv_at hl 4 rfl) ?_
    refine lv_bipush (v := nI 16) hx hb dL_act_51 (by decide) ?_
    refine n_irem hx hb (by omega) (by omega) (by omega) dL_act_53 ?_
    rcases hs _ (toI (by omega)) with ⟨h1, rfl⟩ | ⟨h1, h2, off, h3, h4⟩
    · refine lv_tableOut (tgt := 279) hx hb dL_act_54 h1 (by decide) ?_
      exact kk pq eq sq mq bq tq cq ls A _ H locs hr hlk hF hKx hZ hA hC hP hD hS hl
    · refine lv_tableIn (tgt := tgt) hx hb dL_act_54 h1 h2 h3 h4 ?_
      exact kk pq eq sq mq bq tq cq ls A _ H locs hr hlk hF hKx hZ hA hC hP hD hS hl
  refine lv_iload_n hx hb dL_act_6 rfl (lv_at hl 0 rfl) ?_
  refine lv_bipush (v := nI 40) hx hb dL_act_7 (by decide) ?_
  refine z_le hx hb (tgt := 30) ((td (qr q) : Nat) : Int) 40 dL_act_9 (by decide) (toI (by omega)) (by decide) (fun c_9 => ?_) (fun c_9 => ?_)
  · skip
    refine lv_iload_n hx hb dL_act_30 rfl (lv_at hl 3 rfl) ?_
    refine lv_iload_n hx hb dL_act_31 rfl (lv_at hl 0 rfl) ?_
    refine lv_iconst (v := nI 1) hx hb dL_act_32 (by decide) ?_
    refine n_iadd hx hb dL_act_33 ?_
    refine n_irem hx hb (by omega) (by omega) (by omega) dL_act_34 ?_
    refine lv_cv (y := nI (fro (td (qr q)) x y)) (fro_2 (by omega)) ?_
    exact j35 _ _ _ ls hCx1 hP hD hS hl
  · skip
    refine lv_iload_n hx hb dL_act_12 rfl (lv_at hl 2 rfl) ?_
    refine lv_bipush (v := nI 16) hx hb dL_act_13 (by decide) ?_
    refine n_idiv hx hb (by omega) (by omega) (by omega) dL_act_15 ?_
    refine lv_iconst (v := nI 2) hx hb dL_act_16 (by decide) ?_
    refine n_irem hx hb (by omega) (by omega) (by omega) dL_act_17 ?_
    refine z0_ne hx hb (tgt := 30) (((x / 16) % 2 : Nat) : Int) dL_act_18 (by decide) (toI (by omega)) (fun c_18 => ?_) (fun c_18 => ?_)
    · skip
      refine lv_iload_n hx hb dL_act_30 rfl (lv_at hl 3 rfl) ?_
      refine lv_iload_n hx hb dL_act_31 rfl (lv_at hl 0 rfl) ?_
      refine lv_iconst (v := nI 1) hx hb dL_act_32 (by decide) ?_
      refine n_iadd hx hb dL_act_33 ?_
      refine n_irem hx hb (by omega) (by omega) (by omega) dL_act_34 ?_
      refine lv_cv (y := nI (fro (td (qr q)) x y)) (fro_2 (by omega)) ?_
      exact j35 _ _ _ ls hCx1 hP hD hS hl
    · skip
      refine lv_iload_n hx hb dL_act_21 rfl (lv_at hl 0 rfl) ?_
      refine lv_iload_n hx hb dL_act_22 rfl (lv_at hl 3 rfl) ?_
      refine lv_bipush (v := nI 40) hx hb dL_act_23 (by decide) ?_
      refine n_irem hx hb (by omega) (by omega) (by omega) dL_act_25 ?_
      refine n_isub hx hb (by omega) dL_act_26 ?_
      refine lv_goto (tgt := 35) hx hb dL_act_27 (by decide) ?_
      refine lv_cv (y := nI (fro (td (qr q)) x y)) (fro_1 (by omega)) ?_
      exact j35 _ _ _ ls hCx1 hP hD hS hl
set_option maxHeartbeats 4000000 in
set_option maxRecDepth 100000 in
theorem act_p0 (l : Launch) {q : Sx} (hok : OkD q) (x y : Nat) (hx0 : x < 2147483648) (hy0 : y < 2147483648) (k : Nat) (hk : x % 16 = k) (hk3 : k = 0 ∨ k = 1 ∨ k = 2) (h8 : 800 < td (qr q)) : ∃ (res : Int32) (q2 : Sx), OkD q2 ∧ ∀ (G : gT) (me sz : Nat) (w0 : va_W), CS G me q w0 → Ru l G yL_act cL_act 6 (some .int) 10 sz w0 [Value.ref me, Value.int (nI x), Value.int (nI y)] res (CS G me q2) := by
  have htd : td (qr q) < 3650 := hok.1.1.1.1.2.1
  have hn80 : qn q ≤ 80 := hok.2.2.1
  have hfl := fro_le (td (qr q)) x y
  have hf : 0 ≤ (rmL 10).cells ∧ 0 ≤ (rmL 10).slots := ⟨Nat.zero_le _, Nat.zero_le _⟩
  refine ⟨(nI 0), q, hok, fun G me sz w0 hC => act_sw l hok x y hx0 hy0 G me sz w0 hC 112 (fun z hz => Or.inr (by rcases hk3 with rfl | rfl | rfl <;> (rw [hz, hk]; exact ⟨by decide, by decide, 58, rfl, by decide⟩))) (fun pq eq sq mq bq tq cq ls A w H locs hr hlk hF hKx hZ hA hC hP hD hS hl => ?_)⟩
  have hx := hF.1
  have hb := hF.2.1
  have hml := hF.2.2.1
  have hown : sq.vm.findClass "FoldedMonthsLaw" = some mq.cls := hF.2.2.2.1
  have hts : ∀ w ∈ GW, w.before _ sq = true := hF.2.2.2.2
  refine lv_iload_n hx hb dL_act_112 rfl (lv_at hl 2 rfl) ?_
  refine lv_sipush (v := nI 800) hx hb dL_act_113 (by decide) ?_
  refine z_le hx hb (tgt := 123) ((td (qr q) : Nat) : Int) 800 dL_act_116 (by decide) (toI (by omega)) (by decide) (fun c_116 => absurd c_116 (by omega)) (fun c_116 => ?_)
  refine lv_iconst (v := nI 0) hx hb dL_act_119 (by decide) ?_
  refine lv_goto (tgt := 133) hx hb dL_act_120 (by decide) ?_
  exact e_ui (ws := w) hx hb hr hlk hP hD hS hC rfl dL_act_133
set_option maxHeartbeats 4000000 in
set_option maxRecDepth 100000 in
theorem act_p1 (l : Launch) {q : Sx} (hok : OkD q) (x y : Nat) (hx0 : x < 2147483648) (hy0 : y < 2147483648) (k : Nat) (hk : x % 16 = k) (hk3 : k = 0 ∨ k = 1 ∨ k = 2) (h8 : td (qr q) ≤ 800) : ∃ (res : Int32) (q2 : Sx), OkD q2 ∧ ∀ (G : gT) (me sz : Nat) (w0 : va_W), CS G me q w0 → Ru l G yL_act cL_act 6 (some .int) 10 sz w0 [Value.ref me, Value.int (nI x), Value.int (nI y)] res (CS G me q2) := by
  have htd : td (qr q) < 3650 := hok.1.1.1.1.2.1
  have hn80 : qn q ≤ 80 := hok.2.2.1
  have hfl := fro_le (td (qr q)) x y
  have hf : 0 ≤ (rmL 10).cells ∧ 0 ≤ (rmL 10).slots := ⟨Nat.zero_le _, Nat.zero_le _⟩
  obtain ⟨r1, q1, hok1, hA1⟩ := x_pass l hok (1 + y % 45) (by omega) (by omega)
  refine ⟨r1, q1, hok1, fun G me sz w0 hC => act_sw l hok x y hx0 hy0 G me sz w0 hC 112 (fun z hz => Or.inr (by rcases hk3 with rfl | rfl | rfl <;> (rw [hz, hk]; exact ⟨by decide, by decide, 58, rfl, by decide⟩))) (fun pq eq sq mq bq tq cq ls A w H locs hr hlk hF hKx hZ hA hC hP hD hS hl => ?_)⟩
  have hx := hF.1
  have hb := hF.2.1
  have hml := hF.2.2.1
  have hown : sq.vm.findClass "FoldedMonthsLaw" = some mq.cls := hF.2.2.2.1
  have hts : ∀ w ∈ GW, w.before _ sq = true := hF.2.2.2.2
  refine lv_iload_n hx hb dL_act_112 rfl (lv_at hl 2 rfl) ?_
  refine lv_sipush (v := nI 800) hx hb dL_act_113 (by decide) ?_
  refine z_le hx hb (tgt := 123) ((td (qr q) : Nat) : Int) 800 dL_act_116 (by decide) (toI (by omega)) (by decide) (fun c_116 => ?_) (fun c_116 => absurd c_116 (by omega))
  refine lv_aload_n hx hb dL_act_123 rfl (lv_at hl 3 rfl) ?_
  refine lv_iconst (v := nI 1) hx hb dL_act_124 (by decide) ?_
  refine lv_iload_n hx hb dL_act_125 rfl (lv_at hl 5 rfl) ?_
  refine lv_bipush (v := nI 45) hx hb dL_act_126 (by decide) ?_
  refine n_irem hx hb (by omega) (by omega) (by omega) dL_act_128 ?_
  refine n_iadd hx hb dL_act_129 ?_
  refine kA (As := [.int (nI (1 + y % 45))]) (rest := []) (wr := []) (wc := w) (b := me) hF hA1 hC rfl mw_2_36 mw_2_37 mw_2_38 mw_1_1 mw_2_39 hd_X3_pass ⟨Nat.le_of_ble_eq_true rfl, Nat.le_of_ble_eq_true rfl⟩ hKx hZ hS hP hD hA rfl hl.1 rfl (Nat.le_of_ble_eq_true rfl) dL_act_130 hf (fun wx2 H locs hCx1 hP hD hS => ?_)
  exact e_ui (ws := wx2) hx hb hr hlk hP hD hS hCx1 rfl dL_act_133
set_option maxHeartbeats 4000000 in
set_option maxRecDepth 100000 in
theorem act_set (l : Launch) {q : Sx} (hok : OkD q) (x y : Nat) (hx0 : x < 2147483648) (hy0 : y < 2147483648) (hk : x % 16 = 3) : ∃ (res : Int32) (q2 : Sx), OkD q2 ∧ ∀ (G : gT) (me sz : Nat) (w0 : va_W), CS G me q w0 → Ru l G yL_act cL_act 6 (some .int) 10 sz w0 [Value.ref me, Value.int (nI x), Value.int (nI y)] res (CS G me q2) := by
  have htd : td (qr q) < 3650 := hok.1.1.1.1.2.1
  have hn80 : qn q ≤ 80 := hok.2.2.1
  have hfl := fro_le (td (qr q)) x y
  have hf : 0 ≤ (rmL 10).cells ∧ 0 ≤ (rmL 10).slots := ⟨Nat.zero_le _, Nat.zero_le _⟩
  obtain ⟨r1, q1, hok1, hA1⟩ := x_open l hok (y % 7) (by omega)
  refine ⟨r1, q1, hok1, fun G me sz w0 hC => act_sw l hok x y hx0 hy0 G me sz w0 hC 134 (fun z hz => Or.inr (by rw [hz, hk]; exact ⟨by decide, by decide, 80, rfl, by decide⟩)) (fun pq eq sq mq bq tq cq ls A w H locs hr hlk hF hKx hZ hA hC hP hD hS hl => ?_)⟩
  have hx := hF.1
  have hb := hF.2.1
  have hml := hF.2.2.1
  have hown : sq.vm.findClass "FoldedMonthsLaw" = some mq.cls := hF.2.2.2.1
  have hts : ∀ w ∈ GW, w.before _ sq = true := hF.2.2.2.2
  refine lv_aload_n hx hb dL_act_134 rfl (lv_at hl 3 rfl) ?_
  refine lv_iconst (v := nI 1) hx hb dL_act_135 (by decide) ?_
  refine lv_iload_n hx hb dL_act_136 rfl (lv_at hl 5 rfl) ?_
  refine lv_bipush (v := nI 7) hx hb dL_act_137 (by decide) ?_
  refine n_irem hx hb (by omega) (by omega) (by omega) dL_act_139 ?_
  refine kA (As := [.int (nI 1), .int (nI (y % 7))]) (rest := []) (wr := []) (wc := w) (b := me) hF hA1 hC rfl mw_1_221 mw_1_222 mw_1_223 mw_1_1 mw_1_224 hd_X3_set ⟨Nat.le_of_ble_eq_true rfl, Nat.le_of_ble_eq_true rfl⟩ hKx hZ hS hP hD hA rfl hl.1 rfl (Nat.le_of_ble_eq_true rfl) dL_act_140 hf (fun wx2 H locs hCx1 hP hD hS => ?_)
  exact e_ui (ws := wx2) hx hb hr hlk hP hD hS hCx1 rfl dL_act_143
set_option maxHeartbeats 4000000 in
set_option maxRecDepth 100000 in
theorem act_undo (l : Launch) {q : Sx} (hok : OkD q) (x y : Nat) (hx0 : x < 2147483648) (hy0 : y < 2147483648) (hk : x % 16 = 4) : ∃ (res : Int32) (q2 : Sx), OkD q2 ∧ ∀ (G : gT) (me sz : Nat) (w0 : va_W), CS G me q w0 → Ru l G yL_act cL_act 6 (some .int) 10 sz w0 [Value.ref me, Value.int (nI x), Value.int (nI y)] res (CS G me q2) := by
  have htd : td (qr q) < 3650 := hok.1.1.1.1.2.1
  have hn80 : qn q ≤ 80 := hok.2.2.1
  have hfl := fro_le (td (qr q)) x y
  have hf : 0 ≤ (rmL 10).cells ∧ 0 ≤ (rmL 10).slots := ⟨Nat.zero_le _, Nat.zero_le _⟩
  obtain ⟨r1, q1, hok1, hA1⟩ := x_undo l hok
  refine ⟨r1, q1, hok1, fun G me sz w0 hC => act_sw l hok x y hx0 hy0 G me sz w0 hC 144 (fun z hz => Or.inr (by rw [hz, hk]; exact ⟨by decide, by decide, 90, rfl, by decide⟩)) (fun pq eq sq mq bq tq cq ls A w H locs hr hlk hF hKx hZ hA hC hP hD hS hl => ?_)⟩
  have hx := hF.1
  have hb := hF.2.1
  have hml := hF.2.2.1
  have hown : sq.vm.findClass "FoldedMonthsLaw" = some mq.cls := hF.2.2.2.1
  have hts : ∀ w ∈ GW, w.before _ sq = true := hF.2.2.2.2
  refine lv_aload_n hx hb dL_act_144 rfl (lv_at hl 3 rfl) ?_
  refine kA (As := []) (rest := []) (wr := []) (wc := w) (b := me) hF hA1 hC rfl mw_3_57 mw_3_58 mw_3_59 mw_1_1 mw_3_60 hd_X3_undo ⟨Nat.le_of_ble_eq_true rfl, Nat.le_of_ble_eq_true rfl⟩ hKx hZ hS hP hD hA rfl hl.1 rfl (Nat.le_of_ble_eq_true rfl) dL_act_145 hf (fun wx2 H locs hCx1 hP hD hS => ?_)
  exact e_ui (ws := wx2) hx hb hr hlk hP hD hS hCx1 rfl dL_act_148
set_option maxHeartbeats 4000000 in
set_option maxRecDepth 100000 in
theorem act_save (l : Launch) {q : Sx} (hok : OkD q) (x y : Nat) (hx0 : x < 2147483648) (hy0 : y < 2147483648) (hk : x % 16 = 5) : ∃ (res : Int32) (q2 : Sx), OkD q2 ∧ ∀ (G : gT) (me sz : Nat) (w0 : va_W), CS G me q w0 → Ru l G yL_act cL_act 6 (some .int) 10 sz w0 [Value.ref me, Value.int (nI x), Value.int (nI y)] res (CS G me q2) := by
  have htd : td (qr q) < 3650 := hok.1.1.1.1.2.1
  have hn80 : qn q ≤ 80 := hok.2.2.1
  have hfl := fro_le (td (qr q)) x y
  have hf : 0 ≤ (rmL 10).cells ∧ 0 ≤ (rmL 10).slots := ⟨Nat.zero_le _, Nat.zero_le _⟩
  obtain ⟨r1, q1, hok1, hA1⟩ := x_save l hok (y % 2) (by omega)
  refine ⟨r1, q1, hok1, fun G me sz w0 hC => act_sw l hok x y hx0 hy0 G me sz w0 hC 149 (fun z hz => Or.inr (by rw [hz, hk]; exact ⟨by decide, by decide, 95, rfl, by decide⟩)) (fun pq eq sq mq bq tq cq ls A w H locs hr hlk hF hKx hZ hA hC hP hD hS hl => ?_)⟩
  have hx := hF.1
  have hb := hF.2.1
  have hml := hF.2.2.1
  have hown : sq.vm.findClass "FoldedMonthsLaw" = some mq.cls := hF.2.2.2.1
  have hts : ∀ w ∈ GW, w.before _ sq = true := hF.2.2.2.2
  refine lv_aload_n hx hb dL_act_149 rfl (lv_at hl 3 rfl) ?_
  refine lv_iload_n hx hb dL_act_150 rfl (lv_at hl 5 rfl) ?_
  refine lv_iconst (v := nI 2) hx hb dL_act_151 (by decide) ?_
  refine n_irem hx hb (by omega) (by omega) (by omega) dL_act_152 ?_
  refine kA (As := [.int (nI (y % 2))]) (rest := []) (wr := []) (wc := w) (b := me) hF hA1 hC rfl mw_2_230 mw_2_231 mw_2_232 mw_1_1 mw_2_233 hd_X3_save ⟨Nat.le_of_ble_eq_true rfl, Nat.le_of_ble_eq_true rfl⟩ hKx hZ hS hP hD hA rfl hl.1 rfl (Nat.le_of_ble_eq_true rfl) dL_act_153 hf (fun wx2 H locs hCx1 hP hD hS => ?_)
  exact e_ui (ws := wx2) hx hb hr hlk hP hD hS hCx1 rfl dL_act_156
set_option maxHeartbeats 4000000 in
set_option maxRecDepth 100000 in
theorem act_restore (l : Launch) {q : Sx} (hok : OkD q) (x y : Nat) (hx0 : x < 2147483648) (hy0 : y < 2147483648) (hk : x % 16 = 6) : ∃ (res : Int32) (q2 : Sx), OkD q2 ∧ ∀ (G : gT) (me sz : Nat) (w0 : va_W), CS G me q w0 → Ru l G yL_act cL_act 6 (some .int) 10 sz w0 [Value.ref me, Value.int (nI x), Value.int (nI y)] res (CS G me q2) := by
  have htd : td (qr q) < 3650 := hok.1.1.1.1.2.1
  have hn80 : qn q ≤ 80 := hok.2.2.1
  have hfl := fro_le (td (qr q)) x y
  have hf : 0 ≤ (rmL 10).cells ∧ 0 ≤ (rmL 10).slots := ⟨Nat.zero_le _, Nat.zero_le _⟩
  obtain ⟨r1, q1, hok1, hA1⟩ := x_restore l hok (y % 2) (by omega)
  refine ⟨r1, q1, hok1, fun G me sz w0 hC => act_sw l hok x y hx0 hy0 G me sz w0 hC 157 (fun z hz => Or.inr (by rw [hz, hk]; exact ⟨by decide, by decide, 103, rfl, by decide⟩)) (fun pq eq sq mq bq tq cq ls A w H locs hr hlk hF hKx hZ hA hC hP hD hS hl => ?_)⟩
  have hx := hF.1
  have hb := hF.2.1
  have hml := hF.2.2.1
  have hown : sq.vm.findClass "FoldedMonthsLaw" = some mq.cls := hF.2.2.2.1
  have hts : ∀ w ∈ GW, w.before _ sq = true := hF.2.2.2.2
  refine lv_aload_n hx hb dL_act_157 rfl (lv_at hl 3 rfl) ?_
  refine lv_iload_n hx hb dL_act_158 rfl (lv_at hl 5 rfl) ?_
  refine lv_iconst (v := nI 2) hx hb dL_act_159 (by decide) ?_
  refine n_irem hx hb (by omega) (by omega) (by omega) dL_act_160 ?_
  refine kA (As := [.int (nI (y % 2))]) (rest := []) (wr := []) (wc := w) (b := me) hF hA1 hC rfl mw_2_234 mw_2_235 mw_2_236 mw_1_1 mw_2_237 hd_X3_restore ⟨Nat.le_of_ble_eq_true rfl, Nat.le_of_ble_eq_true rfl⟩ hKx hZ hS hP hD hA rfl hl.1 rfl (Nat.le_of_ble_eq_true rfl) dL_act_161 hf (fun wx2 H locs hCx1 hP hD hS => ?_)
  exact e_ui (ws := wx2) hx hb hr hlk hP hD hS hCx1 rfl dL_act_164
set_option maxHeartbeats 4000000 in
set_option maxRecDepth 100000 in
theorem act_cleart (l : Launch) {q : Sx} (hok : OkD q) (x y : Nat) (hx0 : x < 2147483648) (hy0 : y < 2147483648) (k : Nat) (hk : x % 16 = k) (hk3 : k = 7 ∨ k = 8) (h8 : fro (td (qr q)) x y + y / 4096 % 9 ≤ td (qr q)) : ∃ (res : Int32) (q2 : Sx), OkD q2 ∧ ∀ (G : gT) (me sz : Nat) (w0 : va_W), CS G me q w0 → Ru l G yL_act cL_act 6 (some .int) 10 sz w0 [Value.ref me, Value.int (nI x), Value.int (nI y)] res (CS G me q2) := by
  have htd : td (qr q) < 3650 := hok.1.1.1.1.2.1
  have hn80 : qn q ≤ 80 := hok.2.2.1
  have hfl := fro_le (td (qr q)) x y
  have hf : 0 ≤ (rmL 10).cells ∧ 0 ≤ (rmL 10).slots := ⟨Nat.zero_le _, Nat.zero_le _⟩
  obtain ⟨r1, q1, hok1, hA1⟩ := x_clear l hok (y / 64 % 4) (fro (td (qr q)) x y) (fro (td (qr q)) x y + y / 4096 % 9) (by omega) (by omega) (by omega)
  refine ⟨r1, q1, hok1, fun G me sz w0 hC => act_sw l hok x y hx0 hy0 G me sz w0 hC 165 (fun z hz => Or.inr (by rcases hk3 with rfl | rfl <;> (rw [hz, hk]; exact ⟨by decide, by decide, 111, rfl, by decide⟩))) (fun pq eq sq mq bq tq cq ls A w H locs hr hlk hF hKx hZ hA hC hP hD hS hl => ?_)⟩
  have hx := hF.1
  have hb := hF.2.1
  have hml := hF.2.2.1
  have hown : sq.vm.findClass "FoldedMonthsLaw" = some mq.cls := hF.2.2.2.1
  have hts : ∀ w ∈ GW, w.before _ sq = true := hF.2.2.2.2
  refine lv_aload_n hx hb dL_act_165 rfl (lv_at hl 3 rfl) ?_
  refine lv_iload_n hx hb dL_act_166 rfl (lv_at hl 5 rfl) ?_
  refine lv_bipush (v := nI 64) hx hb dL_act_167 (by decide) ?_
  refine n_idiv hx hb (by omega) (by omega) (by omega) dL_act_169 ?_
  refine lv_iconst (v := nI 4) hx hb dL_act_170 (by decide) ?_
  refine n_irem hx hb (by omega) (by omega) (by omega) dL_act_171 ?_
  refine lv_iload hx hb dL_act_172 (lv_at hl 1 rfl) ?_
  refine lv_iload hx hb dL_act_174 (lv_at hl 0 rfl) ?_
  refine lv_iload_n hx hb dL_act_176 rfl (lv_at hl 2 rfl) ?_
  refine z_le hx hb (tgt := 184) ((fro (td (qr q)) x y + y / 4096 % 9 : Nat) : Int) ((td (qr q) : Nat) : Int) dL_act_177 (by decide) (toI (by omega)) (toI (by omega)) (fun c_177 => ?_) (fun c_177 => absurd c_177 (by omega))
  refine lv_iload hx hb dL_act_184 (lv_at hl 0 rfl) ?_
  refine kA (As := [.int (nI ((y / 64) % 4)), .int (nI (fro (td (qr q)) x y)), .int (nI (fro (td (qr q)) x y + y / 4096 % 9))]) (rest := []) (wr := []) (wc := w) (b := me) hF hA1 hC rfl mw_2_111 mw_2_112 mw_2_113 mw_1_1 mw_2_114 hd_X3_clear ⟨Nat.le_of_ble_eq_true rfl, Nat.le_of_ble_eq_true rfl⟩ hKx hZ hS hP hD hA rfl hl.1 rfl (Nat.le_of_ble_eq_true rfl) dL_act_186 hf (fun wx2 H locs hCx1 hP hD hS => ?_)
  exact e_ui (ws := wx2) hx hb hr hlk hP hD hS hCx1 rfl dL_act_189
set_option maxHeartbeats 4000000 in
set_option maxRecDepth 100000 in
theorem act_clearf (l : Launch) {q : Sx} (hok : OkD q) (x y : Nat) (hx0 : x < 2147483648) (hy0 : y < 2147483648) (k : Nat) (hk : x % 16 = k) (hk3 : k = 7 ∨ k = 8) (h8 : td (qr q) < fro (td (qr q)) x y + y / 4096 % 9) : ∃ (res : Int32) (q2 : Sx), OkD q2 ∧ ∀ (G : gT) (me sz : Nat) (w0 : va_W), CS G me q w0 → Ru l G yL_act cL_act 6 (some .int) 10 sz w0 [Value.ref me, Value.int (nI x), Value.int (nI y)] res (CS G me q2) := by
  have htd : td (qr q) < 3650 := hok.1.1.1.1.2.1
  have hn80 : qn q ≤ 80 := hok.2.2.1
  have hfl := fro_le (td (qr q)) x y
  have hf : 0 ≤ (rmL 10).cells ∧ 0 ≤ (rmL 10).slots := ⟨Nat.zero_le _, Nat.zero_le _⟩
  obtain ⟨r1, q1, hok1, hA1⟩ := x_clear l hok (y / 64 % 4) (fro (td (qr q)) x y) (td (qr q)) (by omega) (by omega) (by omega)
  refine ⟨r1, q1, hok1, fun G me sz w0 hC => act_sw l hok x y hx0 hy0 G me sz w0 hC 165 (fun z hz => Or.inr (by rcases hk3 with rfl | rfl <;> (rw [hz, hk]; exact ⟨by decide, by decide, 111, rfl, by decide⟩))) (fun pq eq sq mq bq tq cq ls A w H locs hr hlk hF hKx hZ hA hC hP hD hS hl => ?_)⟩
  have hx := hF.1
  have hb := hF.2.1
  have hml := hF.2.2.1
  have hown : sq.vm.findClass "FoldedMonthsLaw" = some mq.cls := hF.2.2.2.1
  have hts : ∀ w ∈ GW, w.before _ sq = true := hF.2.2.2.2
  refine lv_aload_n hx hb dL_act_165 rfl (lv_at hl 3 rfl) ?_
  refine lv_iload_n hx hb dL_act_166 rfl (lv_at hl 5 rfl) ?_
  refine lv_bipush (v := nI 64) hx hb dL_act_167 (by decide) ?_
  refine n_idiv hx hb (by omega) (by omega) (by omega) dL_act_169 ?_
  refine lv_iconst (v := nI 4) hx hb dL_act_170 (by decide) ?_
  refine n_irem hx hb (by omega) (by omega) (by omega) dL_act_171 ?_
  refine lv_iload hx hb dL_act_172 (lv_at hl 1 rfl) ?_
  refine lv_iload hx hb dL_act_174 (lv_at hl 0 rfl) ?_
  refine lv_iload_n hx hb dL_act_176 rfl (lv_at hl 2 rfl) ?_
  refine z_le hx hb (tgt := 184) ((fro (td (qr q)) x y + y / 4096 % 9 : Nat) : Int) ((td (qr q) : Nat) : Int) dL_act_177 (by decide) (toI (by omega)) (toI (by omega)) (fun c_177 => absurd c_177 (by omega)) (fun c_177 => ?_)
  refine lv_iload_n hx hb dL_act_180 rfl (lv_at hl 2 rfl) ?_
  refine lv_goto (tgt := 186) hx hb dL_act_181 (by decide) ?_
  refine kA (As := [.int (nI ((y / 64) % 4)), .int (nI (fro (td (qr q)) x y)), .int (nI (td (qr q)))]) (rest := []) (wr := []) (wc := w) (b := me) hF hA1 hC rfl mw_2_111 mw_2_112 mw_2_113 mw_1_1 mw_2_114 hd_X3_clear ⟨Nat.le_of_ble_eq_true rfl, Nat.le_of_ble_eq_true rfl⟩ hKx hZ hS hP hD hA rfl hl.1 rfl (Nat.le_of_ble_eq_true rfl) dL_act_186 hf (fun wx2 H locs hCx1 hP hD hS => ?_)
  exact e_ui (ws := wx2) hx hb hr hlk hP hD hS hCx1 rfl dL_act_189
set_option maxHeartbeats 4000000 in
set_option maxRecDepth 100000 in
theorem act_markt (l : Launch) {q : Sx} (hok : OkD q) (x y : Nat) (hx0 : x < 2147483648) (hy0 : y < 2147483648) (hk : 11 ≤ x % 16) (h8 : fro (td (qr q)) x y + y / 4096 % 9 ≤ td (qr q)) : ∃ (res : Int32) (q2 : Sx), OkD q2 ∧ ∀ (G : gT) (me sz : Nat) (w0 : va_W), CS G me q w0 → Ru l G yL_act cL_act 6 (some .int) 10 sz w0 [Value.ref me, Value.int (nI x), Value.int (nI y)] res (CS G me q2) := by
  have htd : td (qr q) < 3650 := hok.1.1.1.1.2.1
  have hn80 : qn q ≤ 80 := hok.2.2.1
  have hfl := fro_le (td (qr q)) x y
  have hf : 0 ≤ (rmL 10).cells ∧ 0 ≤ (rmL 10).slots := ⟨Nat.zero_le _, Nat.zero_le _⟩
  obtain ⟨r1, q1, hok1, hA1⟩ := x_mark l hok (y / 64 % 4) (fro (td (qr q)) x y) (fro (td (qr q)) x y + y / 4096 % 9) (by omega) (by omega) (by omega)
  refine ⟨r1, q1, hok1, fun G me sz w0 hC => act_sw l hok x y hx0 hy0 G me sz w0 hC 279 (fun z hz => Or.inl ⟨by omega, rfl⟩) (fun pq eq sq mq bq tq cq ls A w H locs hr hlk hF hKx hZ hA hC hP hD hS hl => ?_)⟩
  have hx := hF.1
  have hb := hF.2.1
  have hml := hF.2.2.1
  have hown : sq.vm.findClass "FoldedMonthsLaw" = some mq.cls := hF.2.2.2.1
  have hts : ∀ w ∈ GW, w.before _ sq = true := hF.2.2.2.2
  refine lv_aload_n hx hb dL_act_279 rfl (lv_at hl 3 rfl) ?_
  refine lv_iload_n hx hb dL_act_280 rfl (lv_at hl 5 rfl) ?_
  refine lv_bipush (v := nI 64) hx hb dL_act_281 (by decide) ?_
  refine n_idiv hx hb (by omega) (by omega) (by omega) dL_act_283 ?_
  refine lv_iconst (v := nI 4) hx hb dL_act_284 (by decide) ?_
  refine n_irem hx hb (by omega) (by omega) (by omega) dL_act_285 ?_
  refine lv_iload hx hb dL_act_286 (lv_at hl 1 rfl) ?_
  refine lv_iload hx hb dL_act_288 (lv_at hl 0 rfl) ?_
  refine lv_iload_n hx hb dL_act_290 rfl (lv_at hl 2 rfl) ?_
  refine z_le hx hb (tgt := 298) ((fro (td (qr q)) x y + y / 4096 % 9 : Nat) : Int) ((td (qr q) : Nat) : Int) dL_act_291 (by decide) (toI (by omega)) (toI (by omega)) (fun c_291 => ?_) (fun c_291 => absurd c_291 (by omega))
  refine lv_iload hx hb dL_act_298 (lv_at hl 0 rfl) ?_
  refine kA (As := [.int (nI ((y / 64) % 4)), .int (nI (fro (td (qr q)) x y)), .int (nI (fro (td (qr q)) x y + y / 4096 % 9))]) (rest := []) (wr := []) (wc := w) (b := me) hF hA1 hC rfl mw_2_49 mw_2_50 mw_2_51 mw_1_1 mw_2_52 hd_X3_mark ⟨Nat.le_of_ble_eq_true rfl, Nat.le_of_ble_eq_true rfl⟩ hKx hZ hS hP hD hA rfl hl.1 rfl (Nat.le_of_ble_eq_true rfl) dL_act_300 hf (fun wx2 H locs hCx1 hP hD hS => ?_)
  exact e_ui (ws := wx2) hx hb hr hlk hP hD hS hCx1 rfl dL_act_303
set_option maxHeartbeats 4000000 in
set_option maxRecDepth 100000 in
theorem act_markf (l : Launch) {q : Sx} (hok : OkD q) (x y : Nat) (hx0 : x < 2147483648) (hy0 : y < 2147483648) (hk : 11 ≤ x % 16) (h8 : td (qr q) < fro (td (qr q)) x y + y / 4096 % 9) : ∃ (res : Int32) (q2 : Sx), OkD q2 ∧ ∀ (G : gT) (me sz : Nat) (w0 : va_W), CS G me q w0 → Ru l G yL_act cL_act 6 (some .int) 10 sz w0 [Value.ref me, Value.int (nI x), Value.int (nI y)] res (CS G me q2) := by
  have htd : td (qr q) < 3650 := hok.1.1.1.1.2.1
  have hn80 : qn q ≤ 80 := hok.2.2.1
  have hfl := fro_le (td (qr q)) x y
  have hf : 0 ≤ (rmL 10).cells ∧ 0 ≤ (rmL 10).slots := ⟨Nat.zero_le _, Nat.zero_le _⟩
  obtain ⟨r1, q1, hok1, hA1⟩ := x_mark l hok (y / 64 % 4) (fro (td (qr q)) x y) (td (qr q)) (by omega) (by omega) (by omega)
  refine ⟨r1, q1, hok1, fun G me sz w0 hC => act_sw l hok x y hx0 hy0 G me sz w0 hC 279 (fun z hz => Or.inl ⟨by omega, rfl⟩) (fun pq eq sq mq bq tq cq ls A w H locs hr hlk hF hKx hZ hA hC hP hD hS hl => ?_)⟩
  have hx := hF.1
  have hb := hF.2.1
  have hml := hF.2.2.1
  have hown : sq.vm.findClass "FoldedMonthsLaw" = some mq.cls := hF.2.2.2.1
  have hts : ∀ w ∈ GW, w.before _ sq = true := hF.2.2.2.2
  refine lv_aload_n hx hb dL_act_279 rfl (lv_at hl 3 rfl) ?_
  refine lv_iload_n hx hb dL_act_280 rfl (lv_at hl 5 rfl) ?_
  refine lv_bipush (v := nI 64) hx hb dL_act_281 (by decide) ?_
  refine n_idiv hx hb (by omega) (by omega) (by omega) dL_act_283 ?_
  refine lv_iconst (v := nI 4) hx hb dL_act_284 (by decide) ?_
  refine n_irem hx hb (by omega) (by omega) (by omega) dL_act_285 ?_
  refine lv_iload hx hb dL_act_286 (lv_at hl 1 rfl) ?_
  refine lv_iload hx hb dL_act_288 (lv_at hl 0 rfl) ?_
  refine lv_iload_n hx hb dL_act_290 rfl (lv_at hl 2 rfl) ?_
  refine z_le hx hb (tgt := 298) ((fro (td (qr q)) x y + y / 4096 % 9 : Nat) : Int) ((td (qr q) : Nat) : Int) dL_act_291 (by decide) (toI (by omega)) (toI (by omega)) (fun c_291 => absurd c_291 (by omega)) (fun c_291 => ?_)
  refine lv_iload_n hx hb dL_act_294 rfl (lv_at hl 2 rfl) ?_
  refine lv_goto (tgt := 300) hx hb dL_act_295 (by decide) ?_
  refine kA (As := [.int (nI ((y / 64) % 4)), .int (nI (fro (td (qr q)) x y)), .int (nI (td (qr q)))]) (rest := []) (wr := []) (wc := w) (b := me) hF hA1 hC rfl mw_2_49 mw_2_50 mw_2_51 mw_1_1 mw_2_52 hd_X3_mark ⟨Nat.le_of_ble_eq_true rfl, Nat.le_of_ble_eq_true rfl⟩ hKx hZ hS hP hD hA rfl hl.1 rfl (Nat.le_of_ble_eq_true rfl) dL_act_300 hf (fun wx2 H locs hCx1 hP hD hS => ?_)
  exact e_ui (ws := wx2) hx hb hr hlk hP hD hS hCx1 rfl dL_act_303
set_option maxHeartbeats 4000000 in
set_option maxRecDepth 100000 in
theorem act_wipe (l : Launch) {q : Sx} (hok : OkD q) (x y : Nat) (hx0 : x < 2147483648) (hy0 : y < 2147483648) (hk : x % 16 = 9) (h8 : 70 < qn q) : ∃ (res : Int32) (q2 : Sx), OkD q2 ∧ ∀ (G : gT) (me sz : Nat) (w0 : va_W), CS G me q w0 → Ru l G yL_act cL_act 6 (some .int) 10 sz w0 [Value.ref me, Value.int (nI x), Value.int (nI y)] res (CS G me q2) := by
  have htd : td (qr q) < 3650 := hok.1.1.1.1.2.1
  have hn80 : qn q ≤ 80 := hok.2.2.1
  have hfl := fro_le (td (qr q)) x y
  have hf : 0 ≤ (rmL 10).cells ∧ 0 ≤ (rmL 10).slots := ⟨Nat.zero_le _, Nat.zero_le _⟩
  obtain ⟨r1, q1, hok1, hA1⟩ := x_wipe l hok
  refine ⟨r1, q1, hok1, fun G me sz w0 hC => act_sw l hok x y hx0 hy0 G me sz w0 hC 190 (fun z hz => Or.inr (by rw [hz, hk]; exact ⟨by decide, by decide, 136, rfl, by decide⟩)) (fun pq eq sq mq bq tq cq ls A w H locs hr hlk hF hKx hZ hA hC hP hD hS hl => ?_)⟩
  have hx := hF.1
  have hb := hF.2.1
  have hml := hF.2.2.1
  have hown : sq.vm.findClass "FoldedMonthsLaw" = some mq.cls := hF.2.2.2.1
  have hts : ∀ w ∈ GW, w.before _ sq = true := hF.2.2.2.2
  refine lv_aload_n hx hb dL_act_190 rfl (lv_at hl 3 rfl) ?_
  refine lv_bipush (v := nI 11) hx hb dL_act_191 (by decide) ?_
  refine kA (As := [.int (nI 11)]) (rest := []) (wr := []) (wc := w) (b := me) hF (a_pad hok) hC rfl mw_1_156 mw_1_157 mw_1_158 mw_1_1 mw_1_159 hd_X3_count ⟨Nat.le_of_ble_eq_true rfl, Nat.le_of_ble_eq_true rfl⟩ hKx hZ hS hP hD hA rfl hl.1 rfl (Nat.le_of_ble_eq_true rfl) dL_act_193 hf (fun wx2 H locs hCx1 hP hD hS => ?_)
  refine lv_bipush (v := nI 70) hx hb dL_act_196 (by decide) ?_
  refine z_le hx hb (tgt := 208) ((qn q : Nat) : Int) 70 dL_act_198 (by decide) (toI (by omega)) (by decide) (fun c_198 => absurd c_198 (by omega)) (fun c_198 => ?_)
  refine lv_aload_n hx hb dL_act_201 rfl (lv_at hl 3 rfl) ?_
  refine kA (As := []) (rest := []) (wr := []) (wc := wx2) (b := me) hF hA1 hCx1 rfl mw_3_61 mw_3_62 mw_3_63 mw_1_1 mw_3_64 hd_X3_wipe ⟨Nat.le_of_ble_eq_true rfl, Nat.le_of_ble_eq_true rfl⟩ hKx hZ hS hP hD hA rfl hl.1 rfl (Nat.le_of_ble_eq_true rfl) dL_act_202 hf (fun wx4 H locs hCx3 hP hD hS => ?_)
  refine lv_goto (tgt := 236) hx hb dL_act_205 (by decide) ?_
  exact e_ui (ws := wx4) hx hb hr hlk hP hD hS hCx3 rfl dL_act_236
set_option maxHeartbeats 4000000 in
set_option maxRecDepth 100000 in
theorem act_put3 (l : Launch) {q : Sx} (hok : OkD q) (x y : Nat) (hx0 : x < 2147483648) (hy0 : y < 2147483648) (hk : x % 16 = 9) (h8 : qn q ≤ 70) : ∃ (res : Int32) (q2 : Sx), OkD q2 ∧ ∀ (G : gT) (me sz : Nat) (w0 : va_W), CS G me q w0 → Ru l G yL_act cL_act 6 (some .int) 10 sz w0 [Value.ref me, Value.int (nI x), Value.int (nI y)] res (CS G me q2) := by
  have htd : td (qr q) < 3650 := hok.1.1.1.1.2.1
  have hn80 : qn q ≤ 80 := hok.2.2.1
  have hfl := fro_le (td (qr q)) x y
  have hf : 0 ≤ (rmL 10).cells ∧ 0 ≤ (rmL 10).slots := ⟨Nat.zero_le _, Nat.zero_le _⟩
  obtain ⟨r1, q1, hok1, hA1⟩ := x_put l hok 112
  obtain ⟨r2, q2, hok2, hA2⟩ := x_put l hok1 (nI (49 + y % 9)).toInt64
  obtain ⟨r3, q3, hok3, hA3⟩ := x_put l hok2 59
  refine ⟨(r1 + r2 + r3), q3, hok3, fun G me sz w0 hC => act_sw l hok x y hx0 hy0 G me sz w0 hC 190 (fun z hz => Or.inr (by rw [hz, hk]; exact ⟨by decide, by decide, 136, rfl, by decide⟩)) (fun pq eq sq mq bq tq cq ls A w H locs hr hlk hF hKx hZ hA hC hP hD hS hl => ?_)⟩
  have hx := hF.1
  have hb := hF.2.1
  have hml := hF.2.2.1
  have hown : sq.vm.findClass "FoldedMonthsLaw" = some mq.cls := hF.2.2.2.1
  have hts : ∀ w ∈ GW, w.before _ sq = true := hF.2.2.2.2
  refine lv_aload_n hx hb dL_act_190 rfl (lv_at hl 3 rfl) ?_
  refine lv_bipush (v := nI 11) hx hb dL_act_191 (by decide) ?_
  refine kA (As := [.int (nI 11)]) (rest := []) (wr := []) (wc := w) (b := me) hF (a_pad hok) hC rfl mw_1_156 mw_1_157 mw_1_158 mw_1_1 mw_1_159 hd_X3_count ⟨Nat.le_of_ble_eq_true rfl, Nat.le_of_ble_eq_true rfl⟩ hKx hZ hS hP hD hA rfl hl.1 rfl (Nat.le_of_ble_eq_true rfl) dL_act_193 hf (fun wx2 H locs hCx1 hP hD hS => ?_)
  refine lv_bipush (v := nI 70) hx hb dL_act_196 (by decide) ?_
  refine z_le hx hb (tgt := 208) ((qn q : Nat) : Int) 70 dL_act_198 (by decide) (toI (by omega)) (by decide) (fun c_198 => ?_) (fun c_198 => absurd c_198 (by omega))
  refine lv_aload_n hx hb dL_act_208 rfl (lv_at hl 3 rfl) ?_
  refine lv_ldc2 (v := 112) hx hb hown (hts _ mw_3_65) dL_act_209 ?_
  refine kA (As := [.long 112]) (rest := []) (wr := []) (wc := wx2) (b := me) hF hA1 hCx1 rfl mw_2_216 mw_2_217 mw_2_218 mw_1_1 mw_2_219 hd_X3_put ⟨Nat.le_of_ble_eq_true rfl, Nat.le_of_ble_eq_true rfl⟩ hKx hZ hS hP hD hA rfl hl.1 rfl (Nat.le_of_ble_eq_true rfl) dL_act_212 hf (fun wx4 H locs hCx3 hP hD hS => ?_)
  refine lv_aload_n hx hb dL_act_215 rfl (lv_at hl 3 rfl) ?_
  refine lv_bipush (v := nI 49) hx hb dL_act_216 (by decide) ?_
  refine lv_iload_n hx hb dL_act_218 rfl (lv_at hl 5 rfl) ?_
  refine lv_bipush (v := nI 9) hx hb dL_act_219 (by decide) ?_
  refine n_irem hx hb (by omega) (by omega) (by omega) dL_act_221 ?_
  refine n_iadd hx hb dL_act_222 ?_
  refine lv_i2l (v := (nI (49 + y % 9)).toInt64) hx hb dL_act_223 rfl ?_
  refine kA (As := [.long ((nI (49 + y % 9)).toInt64)]) (rest := [.int r1]) (wr := []) (wc := wx4) (b := me) hF hA2 hCx3 rfl mw_2_216 mw_2_217 mw_2_218 mw_1_1 mw_2_219 hd_X3_put ⟨Nat.le_of_ble_eq_true rfl, Nat.le_of_ble_eq_true rfl⟩ hKx hZ hS hP hD hA rfl hl.1 rfl (Nat.le_of_ble_eq_true rfl) dL_act_224 hf (fun wx6 H locs hCx5 hP hD hS => ?_)
  refine lv_iadd hx hb dL_act_227 ?_
  refine lv_aload_n hx hb dL_act_228 rfl (lv_at hl 3 rfl) ?_
  refine lv_ldc2 (v := 59) hx hb hown (hts _ mw_3_66) dL_act_229 ?_
  refine kA (As := [.long 59]) (rest := [.int (r1 + r2)]) (wr := []) (wc := wx6) (b := me) hF hA3 hCx5 rfl mw_2_216 mw_2_217 mw_2_218 mw_1_1 mw_2_219 hd_X3_put ⟨Nat.le_of_ble_eq_true rfl, Nat.le_of_ble_eq_true rfl⟩ hKx hZ hS hP hD hA rfl hl.1 rfl (Nat.le_of_ble_eq_true rfl) dL_act_232 hf (fun wx8 H locs hCx7 hP hD hS => ?_)
  refine lv_iadd hx hb dL_act_235 ?_
  exact e_ui (ws := wx8) hx hb hr hlk hP hD hS hCx7 rfl dL_act_236
set_option maxHeartbeats 4000000 in
set_option maxRecDepth 100000 in
theorem act_carry (l : Launch) {q : Sx} (hok : OkD q) (x y : Nat) (hx0 : x < 2147483648) (hy0 : y < 2147483648) (hk : x % 16 = 10) : ∃ (res : Int32) (q2 : Sx), OkD q2 ∧ ∀ (G : gT) (me sz : Nat) (w0 : va_W), CS G me q w0 → Ru l G yL_act cL_act 6 (some .int) 10 sz w0 [Value.ref me, Value.int (nI x), Value.int (nI y)] res (CS G me q2) := by
  have htd : td (qr q) < 3650 := hok.1.1.1.1.2.1
  have hn80 : qn q ≤ 80 := hok.2.2.1
  have hfl := fro_le (td (qr q)) x y
  have hf : 0 ≤ (rmL 10).cells ∧ 0 ≤ (rmL 10).slots := ⟨Nat.zero_le _, Nat.zero_le _⟩
  obtain ⟨r1, q1, hok1, hA1⟩ := x_put l hok 109
  obtain ⟨r2, q2, hok2, hA2⟩ := x_put l hok1 98
  obtain ⟨r3, q3, hok3, hA3⟩ := x_put l hok2 58
  obtain ⟨r4, q4, hok4, hA4⟩ := x_put l hok3 (nI (48 + y % 9)).toInt64
  obtain ⟨r5, q5, hok5, hA5⟩ := x_carryOut l hok4
  refine ⟨(r1 + r2 + r3 + r4 + r5), q5, hok5, fun G me sz w0 hC => act_sw l hok x y hx0 hy0 G me sz w0 hC 237 (fun z hz => Or.inr (by rw [hz, hk]; exact ⟨by decide, by decide, 183, rfl, by decide⟩)) (fun pq eq sq mq bq tq cq ls A w H locs hr hlk hF hKx hZ hA hC hP hD hS hl => ?_)⟩
  have hx := hF.1
  have hb := hF.2.1
  have hml := hF.2.2.1
  have hown : sq.vm.findClass "FoldedMonthsLaw" = some mq.cls := hF.2.2.2.1
  have hts : ∀ w ∈ GW, w.before _ sq = true := hF.2.2.2.2
  refine lv_aload_n hx hb dL_act_237 rfl (lv_at hl 3 rfl) ?_
  refine lv_ldc2 (v := 109) hx hb hown (hts _ mw_3_67) dL_act_238 ?_
  refine kA (As := [.long 109]) (rest := []) (wr := []) (wc := w) (b := me) hF hA1 hC rfl mw_2_216 mw_2_217 mw_2_218 mw_1_1 mw_2_219 hd_X3_put ⟨Nat.le_of_ble_eq_true rfl, Nat.le_of_ble_eq_true rfl⟩ hKx hZ hS hP hD hA rfl hl.1 rfl (Nat.le_of_ble_eq_true rfl) dL_act_241 hf (fun wx2 H locs hCx1 hP hD hS => ?_)
  refine lv_aload_n hx hb dL_act_244 rfl (lv_at hl 3 rfl) ?_
  refine lv_ldc2 (v := 98) hx hb hown (hts _ mw_3_68) dL_act_245 ?_
  refine kA (As := [.long 98]) (rest := [.int r1]) (wr := []) (wc := wx2) (b := me) hF hA2 hCx1 rfl mw_2_216 mw_2_217 mw_2_218 mw_1_1 mw_2_219 hd_X3_put ⟨Nat.le_of_ble_eq_true rfl, Nat.le_of_ble_eq_true rfl⟩ hKx hZ hS hP hD hA rfl hl.1 rfl (Nat.le_of_ble_eq_true rfl) dL_act_248 hf (fun wx4 H locs hCx3 hP hD hS => ?_)
  refine lv_iadd hx hb dL_act_251 ?_
  refine lv_aload_n hx hb dL_act_252 rfl (lv_at hl 3 rfl) ?_
  refine lv_ldc2 (v := 58) hx hb hown (hts _ mw_3_69) dL_act_253 ?_
  refine kA (As := [.long 58]) (rest := [.int (r1 + r2)]) (wr := []) (wc := wx4) (b := me) hF hA3 hCx3 rfl mw_2_216 mw_2_217 mw_2_218 mw_1_1 mw_2_219 hd_X3_put ⟨Nat.le_of_ble_eq_true rfl, Nat.le_of_ble_eq_true rfl⟩ hKx hZ hS hP hD hA rfl hl.1 rfl (Nat.le_of_ble_eq_true rfl) dL_act_256 hf (fun wx6 H locs hCx5 hP hD hS => ?_)
  refine lv_iadd hx hb dL_act_259 ?_
  refine lv_aload_n hx hb dL_act_260 rfl (lv_at hl 3 rfl) ?_
  refine lv_bipush (v := nI 48) hx hb dL_act_261 (by decide) ?_
  refine lv_iload_n hx hb dL_act_263 rfl (lv_at hl 5 rfl) ?_
  refine lv_bipush (v := nI 9) hx hb dL_act_264 (by decide) ?_
  refine n_irem hx hb (by omega) (by omega) (by omega) dL_act_266 ?_
  refine n_iadd hx hb dL_act_267 ?_
  refine lv_i2l (v := (nI (48 + y % 9)).toInt64) hx hb dL_act_268 rfl ?_
  refine kA (As := [.long ((nI (48 + y % 9)).toInt64)]) (rest := [.int ((r1 + r2) + r3)]) (wr := []) (wc := wx6) (b := me) hF hA4 hCx5 rfl mw_2_216 mw_2_217 mw_2_218 mw_1_1 mw_2_219 hd_X3_put ⟨Nat.le_of_ble_eq_true rfl, Nat.le_of_ble_eq_true rfl⟩ hKx hZ hS hP hD hA rfl hl.1 rfl (Nat.le_of_ble_eq_true rfl) dL_act_269 hf (fun wx8 H locs hCx7 hP hD hS => ?_)
  refine lv_iadd hx hb dL_act_272 ?_
  refine lv_aload_n hx hb dL_act_273 rfl (lv_at hl 3 rfl) ?_
  refine kA (As := []) (rest := [.int (((r1 + r2) + r3) + r4)]) (wr := []) (wc := wx8) (b := me) hF hA5 hCx7 rfl mw_3_39 mw_3_40 mw_3_41 mw_1_1 mw_3_42 hd_X3_carryOut ⟨Nat.le_of_ble_eq_true rfl, Nat.le_of_ble_eq_true rfl⟩ hKx hZ hS hP hD hA rfl hl.1 rfl (Nat.le_of_ble_eq_true rfl) dL_act_274 hf (fun wx10 H locs hCx9 hP hD hS => ?_)
  refine lv_iadd hx hb dL_act_277 ?_
  exact e_ui (ws := wx10) hx hb hr hlk hP hD hS hCx9 rfl dL_act_278
theorem c_act (l : Launch) {q : Sx} (hok : OkD q) (x y : Nat) (hx0 : x < 2147483648) (hy0 : y < 2147483648) : ∃ (res : Int32) (q2 : Sx), OkD q2 ∧ ∀ (G : gT) (me sz : Nat) (w0 : va_W), CS G me q w0 → Ru l G yL_act cL_act 6 (some .int) 10 sz w0 [Value.ref me, Value.int (nI x), Value.int (nI y)] res (CS G me q2) := by
  rcases (show (x % 16 = 0 ∨ x % 16 = 1 ∨ x % 16 = 2) ∨ x % 16 = 3 ∨ x % 16 = 4 ∨ x % 16 = 5 ∨ x % 16 = 6 ∨ (x % 16 = 7 ∨ x % 16 = 8) ∨ x % 16 = 9 ∨ x % 16 = 10 ∨ 11 ≤ x % 16 by omega) with h | h | h | h | h | h | h | h | h
  · by_cases h8 : 800 < td (qr q)
    · exact act_p0 l hok x y hx0 hy0 _ rfl h h8
    · exact act_p1 l hok x y hx0 hy0 _ rfl h (by omega)
  · exact act_set l hok x y hx0 hy0 h
  · exact act_undo l hok x y hx0 hy0 h
  · exact act_save l hok x y hx0 hy0 h
  · exact act_restore l hok x y hx0 hy0 h
  · by_cases h8 : fro (td (qr q)) x y + y / 4096 % 9 ≤ td (qr q)
    · exact act_cleart l hok x y hx0 hy0 _ rfl h h8
    · exact act_clearf l hok x y hx0 hy0 _ rfl h (by omega)
  · by_cases h8 : 70 < qn q
    · exact act_wipe l hok x y hx0 hy0 h h8
    · exact act_put3 l hok x y hx0 hy0 h (by omega)
  · exact act_carry l hok x y hx0 hy0 h
  · by_cases h8 : fro (td (qr q)) x y + y / 4096 % 9 ≤ td (qr q)
    · exact act_markt l hok x y hx0 hy0 h h8
    · exact act_markf l hok x y hx0 hy0 h (by omega)
