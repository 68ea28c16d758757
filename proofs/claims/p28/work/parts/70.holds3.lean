set_option maxHeartbeats 4000000 in
set_option maxRecDepth 100000 in
theorem holds_s (l : Launch) {q : Sx} (hok : OkD q) {a b s t : Nat} (ha : a < 300) (hab : a ≤ b) (hb36 : b < 3650) (hs : s < 16) (ht : t < 16) : ∃ q2 : Sx, OkD q2 ∧ ∀ (pq : Program) (eq : Env) (sq : State) (mq : MethodId) (bq : List Frame) (tq : Method) (cq : Code) (H : Heap) (locs : List Loc) (ls : Array Slot) (args : Array Value) (Q : State → Prop) (A : Nat → Prop) (G : gT) (me x : Nat) (w : va_W), CallFix pq mq cq cL_holds 18 sq args GW RL → Kx G sq → Zs A sq → (∀ q, sq.heap.size ≤ q → A q) → CS G me q w → va_P G.1 vwCl ([] ++ w) H → va_D A ([] ++ w) → va_S A sq.heap H locs → lv_has ls 18 [(11, .int (nI t)), (10, .int (nI s)), (9, .int (nI b)), (8, .int (nI a)), (7, .int (nI 1)), (0, .ref me), (1, .int (nI x))] → (∀ (w : va_W) (H : Heap) (locs : List Loc) (ls : Array Slot), CS G me q2 w → va_P G.1 vwCl ([] ++ w) H → va_D A ([] ++ w) → va_S A sq.heap H locs → W pq l eq (rmL 10) sq mq args bq tq cq H locs 0 0 Q (F0 mq 889 ls [.int (nI 1)])) → W pq l eq (rmL 10) sq mq args bq tq cq H locs 0 0 Q (F0 mq 502 ls []) := by
  obtain ⟨r, hr⟩ : ∃ r, r = qr q := ⟨_, rfl⟩
  obtain ⟨c1, ok1, m1⟩ := h_both l hok (r := r) (by rw [hr]; exact Mk.rf) s t a b hs ht hab hb36
  obtain ⟨q1, e1⟩ : ∃ q1 : Sx, q1 = (lkk (qr q) (mot a) (mot b + 1 - mot a), q.2) := ⟨_, rfl⟩
  rw [← e1] at c1 ok1
  have m1 : Mk r (qr q1) := by rw [e1]; exact m1
  have hw1 : qr q1 3 = lkk (qr q) (mot a) (mot b + 1 - mot a) 3 := by rw [e1]
  obtain ⟨c2, ok2, m2⟩ := h_both l ok1 m1 t s a b ht hs hab hb36
  obtain ⟨q2, e2⟩ : ∃ q2 : Sx, q2 = (lkk (qr q1) (mot a) (mot b + 1 - mot a), q1.2) := ⟨_, rfl⟩
  rw [← e2] at c2 ok2
  have m2 : Mk r (qr q2) := by rw [e2]; exact m2
  have c2 := act_res c2 (show nI (bc r t s a b) = nI (bc r s t a b) by rw [bc_sym])
  obtain ⟨q3, ok3, m3, c3⟩ := h_marks l ok2 m2 s a b hs hab hb36
  obtain ⟨u, hu1, hu2, huL, huk⟩ : ∃ u : Nat, (s = t → u = 1) ∧ (¬ s = t → u = 2) ∧ (1 ≤ u ∧ u ≤ 16) ∧ bc r s t a b ≤ kc r ((u : Nat) : Int) a b := by
    by_cases g : s = t
    · exact ⟨1, fun _ => rfl, fun z => absurd g z, by omega, by rw [← g]; exact bc_kc1 hs⟩
    · exact ⟨2, fun z => absurd z g, fun _ => rfl, by omega, bc_kc hs ht g⟩
  obtain ⟨q4, ok4, m4, c4⟩ := h_crowded l ok3 m3 u a b huL hab hb36
  obtain ⟨q5, ok5, m5, c5⟩ := h_crowded l ok4 m4 1 a b (by omega) hab hb36
  obtain ⟨q6, ok6, m6, c6⟩ := h_marks l ok5 m5 t a b ht hab hb36
  obtain ⟨q7, ok7, m7, c7⟩ := h_longest0 l ok6 m6 s a b hs hab hb36
  obtain ⟨q8, ok8, m8, c8⟩ := h_longest1 l ok7 m7 s a b hs hab hb36
  obtain ⟨q9, ok9, m9, c9⟩ := h_marks l ok8 m8 s a b hs hab hb36
  obtain ⟨-, lg0, lg1⟩ := lg_run (r := r) (s := s) (f := a) (t := b) (b + 1 - a) (by omega)
  obtain ⟨q10, ok10, m10, h10⟩ : ∃ q10 : Sx, OkD q10 ∧ Mk r (qr q10) ∧ ((lgb r s a b (b + 1 - a) = 0 ∧ lgf r s a b (b + 1 - a) = -6 ∧ mc r s a b = 0 ∧ q9 = q10) ∨ (¬ lgb r s a b (b + 1 - a) = 0 ∧ ¬ mc r s a b = 0 ∧ ∃ bg, lgf r s a b (b + 1 - a) = nI bg ∧ bg + lgb r s a b (b + 1 - a) ≤ 3650 ∧ Act l yX3_marks cX3_marks 9 [.int (nI s), .int (nI bg), .int (nI (bg + lgb r s a b (b + 1 - a) - 1))] q9 (nI (lgb r s a b (b + 1 - a))) q10)) := by
    by_cases g : lgb r s a b (b + 1 - a) = 0
    · obtain ⟨g1, g2⟩ := lg0 g
      exact ⟨q9, ok9, m9, Or.inl ⟨g, g1, (mc_0 hb36).mpr (fun d h1 h2 => g2 d h1 (by omega)), rfl⟩⟩
    · obtain ⟨bg, g1, g2, g3, g4⟩ := lg1 g
      obtain ⟨q10, ok10, m10, c10⟩ := h_marks l ok9 m9 s bg (bg + lgb r s a b (b + 1 - a) - 1) hs (by omega) (by omega)
      exact ⟨q10, ok10, m10, Or.inr ⟨g, fun z => (mc_0 hb36).mp z bg g2 (by omega) (g4 bg (Nat.le_refl _) (by omega)), bg, g1, by omega, act_res c10 (by rw [mc_all (by omega) (by omega) g4])⟩⟩
  obtain ⟨q11, ok11, m11, c11⟩ := h_nextMark l ok10 m10 s a hs (by omega)
  obtain ⟨nx0, nx1⟩ := nx_r (r := r) (s := s) (d := a) (by omega)
  obtain ⟨q12, ok12, m12, h12⟩ : ∃ q12 : Sx, OkD q12 ∧ Mk r (qr q12) ∧ ((nxr r s a = -6 ∧ Act l yX3_marks cX3_marks 9 [.int (nI s), .int (nI a), .int (nI 3649)] q11 (nI 0) q12) ∨ (∃ (e : Nat) (qm : Sx), nxr r s a = nI e ∧ a ≤ e ∧ e < 3650 ∧ Act l yX3_isMarked cX3_isMarked 4 [.int (nI s), .int (nI e)] q11 (nI 1) qm ∧ ((e = a ∧ qm = q12) ∨ (a < e ∧ Act l yX3_marks cX3_marks 9 [.int (nI s), .int (nI a), .int (nI (e - 1))] qm (nI 0) q12)))) := by
    by_cases g : nxr r s a = -6
    · obtain ⟨q12, ok12, m12, c12⟩ := h_marks l ok11 m11 s a 3649 hs (by omega) (by omega)
      exact ⟨q12, ok12, m12, Or.inl ⟨g, act_res c12 (by rw [(mc_0 (by omega)).mpr (fun d h1 h2 => nx0 g d h1 (by omega))])⟩⟩
    · obtain ⟨e, g1, g2, g3, g4, g5⟩ := nx1 g
      obtain ⟨qm, okm, mm, cm⟩ := h_isMarked l ok11 m11 s e hs g3 g4
      rcases Nat.eq_or_lt_of_le g2 with z | z
      · exact ⟨qm, okm, mm, Or.inr ⟨e, qm, g1, g2, g3, cm, Or.inl ⟨z.symm, rfl⟩⟩⟩
      · obtain ⟨q12, ok12, m12, c12⟩ := h_marks l okm mm s a (e - 1) hs (by omega) (by omega)
        exact ⟨q12, ok12, m12, Or.inr ⟨e, qm, g1, g2, g3, cm, Or.inr ⟨z, act_res c12 (by rw [(mc_0 (by omega)).mpr (fun d h1 h2 => g5 d h1 (by omega))])⟩⟩⟩
  obtain ⟨q13, ok13, m13, c13⟩ := h_marks l ok12 m12 s 0 a hs (by omega) (by omega)
  obtain ⟨q14, ok14, m14, c14⟩ := h_marks l ok13 m13 s (a + 1) 3649 hs (by omega) (by omega)
  obtain ⟨q15, ok15, m15, c15⟩ := h_marks l ok14 m14 s 0 3649 hs (by omega) (by omega)
  have f1 : bc r s t a b ≤ mc r s a b := bc_mc
  have f2 : mc r t a b ≤ kc r ((1 : Nat) : Int) a b := mc_kc ht
  have f3 : mc r s 0 a + mc r s (a + 1) 3649 = mc r s 0 3649 := mc_split (by omega)
  have g1 : bc r s t a b ≤ 3650 := cz_n _ _
  have g2 : mc r s a b ≤ 3650 := cz_n _ _
  have g3 : mc r t a b ≤ 3650 := cz_n _ _
  have g4 : kc r ((u : Nat) : Int) a b ≤ 3650 := cz_n _ _
  have g5 : kc r ((1 : Nat) : Int) a b ≤ 3650 := cz_n _ _
  have g6 : mc r s 0 a ≤ 3650 := cz_n _ _
  have g7 : mc r s (a + 1) 3649 ≤ 3650 := cz_n _ _
  have g8 : mc r s 0 3649 ≤ 3650 := cz_n _ _
  have g9 := lgb_le r s a b (b + 1 - a)
  refine ⟨q15, ok15, ?_⟩
  intro pq eq sq mq bq tq cq H locs ls args Q A G me x w hF hKx hZ hA hC hP hD hS hl kk
  have hx := hF.1
  have hb := hF.2.1
  have hml := hF.2.2.1
  have hown : sq.vm.findClass "FoldedMonthsLaw" = some mq.cls := hF.2.2.2.1
  have hts : ∀ w ∈ GW, w.before _ sq = true := hF.2.2.2.2
  have hf : 0 ≤ (rmL 10).cells ∧ 0 ≤ (rmL 10).slots := ⟨Nat.zero_le _, Nat.zero_le _⟩
  have j836 : ∀ (w : va_W) (H : Heap) (locs : List Loc) (ls : Array Slot), CS G me q12 w → va_P G.1 vwCl ([] ++ w) H → va_D A ([] ++ w) → va_S A sq.heap H locs → lv_has ls 18 [(10, .int (nI s)), (8, .int (nI a)), (0, .ref me)] → W pq l eq (rmL 10) sq mq args bq tq cq H locs 0 0 Q (F0 mq 836 ls []) := by
    intro w H locs ls hC hP hD hS hl
    refine lv_aload_n hx hb dL_holds_836 rfl (lv_at hl 2 rfl) ?_
    refine lv_iload hx hb dL_holds_837 (lv_at hl 0 rfl) ?_
    refine lv_iconst (v := nI 0) hx hb dL_holds_839 (by decide) ?_
    refine lv_iload hx hb dL_holds_840 (lv_at hl 1 rfl) ?_
    refine kA (As := [.int (nI s), .int (nI 0), .int (nI a)]) (rest := []) (wr := []) (wc := w) (b := me) hF c13 hC rfl mw_2_115 mw_2_116 mw_2_117 mw_1_1 mw_2_118 hd_X3_marks ⟨Nat.le_of_ble_eq_true rfl, Nat.le_of_ble_eq_true rfl⟩ hKx hZ hS hP hD hA rfl hl.1 rfl (Nat.le_of_ble_eq_true rfl) dL_holds_842 hf (fun wx2 H locs hCx1 hP hD hS => ?_)
    refine lv_iload hx hb dL_holds_845 (lv_at hl 1 rfl) ?_
    refine lv_sipush (v := nI 3649) hx hb dL_holds_847 (by decide) ?_
    refine z_ne hx hb (tgt := 857) ((a : Nat) : Int) 3649 dL_holds_850 (by decide) (toI (by omega)) (by decide) (fun c_850 => ?_) (fun c_850 => absurd c_850 (by omega))
    refine lv_aload_n hx hb dL_holds_857 rfl (lv_at hl 2 rfl) ?_
    refine lv_iload hx hb dL_holds_858 (lv_at hl 0 rfl) ?_
    refine lv_iload hx hb dL_holds_860 (lv_at hl 1 rfl) ?_
    refine lv_iconst (v := nI 1) hx hb dL_holds_862 (by decide) ?_
    refine n_iadd hx hb dL_holds_863 ?_
    refine lv_sipush (v := nI 3649) hx hb dL_holds_864 (by decide) ?_
    refine kA (As := [.int (nI s), .int (nI (a + 1)), .int (nI 3649)]) (rest := [.int (nI (mc r s 0 a))]) (wr := []) (wc := wx2) (b := me) hF c14 hCx1 rfl mw_2_115 mw_2_116 mw_2_117 mw_1_1 mw_2_118 hd_X3_marks ⟨Nat.le_of_ble_eq_true rfl, Nat.le_of_ble_eq_true rfl⟩ hKx hZ hS hP hD hA rfl hl.1 rfl (Nat.le_of_ble_eq_true rfl) dL_holds_867 hf (fun wx4 H locs hCx3 hP hD hS => ?_)
    refine n_iadd hx hb dL_holds_870 ?_
    refine lv_aload_n hx hb dL_holds_871 rfl (lv_at hl 2 rfl) ?_
    refine lv_iload hx hb dL_holds_872 (lv_at hl 0 rfl) ?_
    refine lv_iconst (v := nI 0) hx hb dL_holds_874 (by decide) ?_
    refine lv_sipush (v := nI 3649) hx hb dL_holds_875 (by decide) ?_
    refine kA (As := [.int (nI s), .int (nI 0), .int (nI 3649)]) (rest := [.int (nI (mc r s 0 a + mc r s (a + 1) 3649))]) (wr := []) (wc := wx4) (b := me) hF c15 hCx3 rfl mw_2_115 mw_2_116 mw_2_117 mw_1_1 mw_2_118 hd_X3_marks ⟨Nat.le_of_ble_eq_true rfl, Nat.le_of_ble_eq_true rfl⟩ hKx hZ hS hP hD hA rfl hl.1 rfl (Nat.le_of_ble_eq_true rfl) dL_holds_878 hf (fun wx6 H locs hCx5 hP hD hS => ?_)
    refine z_ne hx hb (tgt := 888) ((mc r s 0 a + mc r s (a + 1) 3649 : Nat) : Int) ((mc r s 0 3649 : Nat) : Int) dL_holds_881 (by decide) (toI (by omega)) (toI (by omega)) (fun c_881 => absurd c_881 (by omega)) (fun c_881 => ?_)
    refine lv_iconst (v := nI 1) hx hb dL_holds_884 (by decide) ?_
    refine lv_goto (tgt := 889) hx hb dL_holds_885 (by decide) ?_
    exact kk _ _ _ ls hCx5 hP hD hS
  have j749 : ∀ (w : va_W) (H : Heap) (locs : List Loc) (ls : Array Slot), CS G me q10 w → va_P G.1 vwCl ([] ++ w) H → va_D A ([] ++ w) → va_S A sq.heap H locs → lv_has ls 18 [(10, .int (nI s)), (8, .int (nI a)), (0, .ref me)] → W pq l eq (rmL 10) sq mq args bq tq cq H locs 0 0 Q (F0 mq 749 ls []) := by
    intro w H locs ls hC hP hD hS hl
    refine lv_iconst (v := nI 1) hx hb dL_holds_749 (by decide) ?_
    refine lv_goto (tgt := 754) hx hb dL_holds_750 (by decide) ?_
    refine lv_istore (lv' := [(7, .int (nI 1)), (10, .int (nI s)), (8, .int (nI a)), (0, .ref me)]) hx hb dL_holds_754 hl (by decide) rfl (fun ls hl => ?_)
    refine lv_aload_n hx hb dL_holds_756 rfl (lv_at hl 3 rfl) ?_
    refine lv_iload hx hb dL_holds_757 (lv_at hl 1 rfl) ?_
    refine lv_iload hx hb dL_holds_759 (lv_at hl 2 rfl) ?_
    refine kA (As := [.int (nI s), .int (nI a)]) (rest := []) (wr := []) (wc := w) (b := me) hF c11 hC rfl mw_2_171 mw_2_172 mw_2_173 mw_1_1 mw_2_174 hd_X3_nextMark ⟨Nat.le_of_ble_eq_true rfl, Nat.le_of_ble_eq_true rfl⟩ hKx hZ hS hP hD hA rfl hl.1 rfl (Nat.le_of_ble_eq_true rfl) dL_holds_761 hf (fun wx8 H locs hCx7 hP hD hS => ?_)
    refine lv_istore (lv' := [(17, .int (nxr r s a)), (7, .int (nI 1)), (10, .int (nI s)), (8, .int (nI a)), (0, .ref me)]) hx hb dL_holds_764 hl (by decide) rfl (fun ls hl => ?_)
    refine lv_iload hx hb dL_holds_766 (lv_at hl 1 rfl) ?_
    refine z0_eq hx hb (tgt := 888) 1 dL_holds_768 (by decide) (by decide) (fun c_768 => absurd c_768 (by decide)) (fun c_768 => ?_)
    rcases h12 with ⟨hn, c12⟩ | ⟨e, qm, hn, he1, he2, cm, h12⟩
    · skip
      have hn6 : (nxr r s a).toInt = -6 := by rw [hn]; decide
      refine lv_iload hx hb dL_holds_771 (lv_at hl 0 rfl) ?_
      refine lv_bipush (v := (-6)) hx hb dL_holds_773 (by decide) ?_
      refine z_ne hx hb (tgt := 795) (-6) (-6) dL_holds_775 (by decide) hn6 (by decide) (fun c_775 => absurd c_775 (by omega)) (fun c_775 => ?_)
      refine lv_aload_n hx hb dL_holds_778 rfl (lv_at hl 4 rfl) ?_
      refine lv_iload hx hb dL_holds_779 (lv_at hl 2 rfl) ?_
      refine lv_iload hx hb dL_holds_781 (lv_at hl 3 rfl) ?_
      refine lv_sipush (v := nI 3649) hx hb dL_holds_783 (by decide) ?_
      refine kA (As := [.int (nI s), .int (nI a), .int (nI 3649)]) (rest := []) (wr := []) (wc := wx8) (b := me) hF c12 hCx7 rfl mw_2_115 mw_2_116 mw_2_117 mw_1_1 mw_2_118 hd_X3_marks ⟨Nat.le_of_ble_eq_true rfl, Nat.le_of_ble_eq_true rfl⟩ hKx hZ hS hP hD hA rfl hl.1 rfl (Nat.le_of_ble_eq_true rfl) dL_holds_786 hf (fun wx10 H locs hCx9 hP hD hS => ?_)
      refine z0_ne hx hb (tgt := 888) 0 dL_holds_789 (by decide) (by decide) (fun c_789 => absurd c_789 (by decide)) (fun c_789 => ?_)
      refine lv_goto (tgt := 836) hx hb dL_holds_792 (by decide) ?_
      exact j836 _ _ _ ls hCx9 hP hD hS (lv_sub hl [2, 3, 4] rfl)
    · skip
      rw [hn] at hl
      refine lv_iload hx hb dL_holds_771 (lv_at hl 0 rfl) ?_
      refine lv_bipush (v := (-6)) hx hb dL_holds_773 (by decide) ?_
      refine z_ne hx hb (tgt := 795) ((e : Nat) : Int) (-6) dL_holds_775 (by decide) (toI (by omega)) (by decide) (fun c_775 => ?_) (fun c_775 => absurd c_775 (by omega))
      refine lv_iload hx hb dL_holds_795 (lv_at hl 0 rfl) ?_
      refine lv_iload hx hb dL_holds_797 (lv_at hl 3 rfl) ?_
      refine z_lt hx hb (tgt := 888) ((e : Nat) : Int) ((a : Nat) : Int) dL_holds_799 (by decide) (toI (by omega)) (toI (by omega)) (fun c_799 => absurd c_799 (by omega)) (fun c_799 => ?_)
      refine lv_aload_n hx hb dL_holds_802 rfl (lv_at hl 4 rfl) ?_
      refine lv_iload hx hb dL_holds_803 (lv_at hl 2 rfl) ?_
      refine lv_iload hx hb dL_holds_805 (lv_at hl 0 rfl) ?_
      refine kA (As := [.int (nI s), .int (nI e)]) (rest := []) (wr := []) (wc := wx8) (b := me) hF cm hCx7 rfl mw_2_129 mw_2_130 mw_2_131 mw_1_1 mw_2_132 hd_X3_isMarked ⟨Nat.le_of_ble_eq_true rfl, Nat.le_of_ble_eq_true rfl⟩ hKx hZ hS hP hD hA rfl hl.1 rfl (Nat.le_of_ble_eq_true rfl) dL_holds_807 hf (fun wx12 H locs hCx11 hP hD hS => ?_)
      refine lv_iconst (v := nI 1) hx hb dL_holds_810 (by decide) ?_
      refine z_ne hx hb (tgt := 888) ((nI 1 : Int32).toInt) ((nI 1 : Int32).toInt) dL_holds_811 (by decide) rfl rfl (fun c_811 => absurd rfl c_811) (fun c_811 => ?_)
      rcases h12 with ⟨hea, hq⟩ | ⟨hea, c12⟩
      · skip
        refine lv_iload hx hb dL_holds_814 (lv_at hl 0 rfl) ?_
        refine lv_iload hx hb dL_holds_816 (lv_at hl 3 rfl) ?_
        refine z_eq hx hb (tgt := 836) ((e : Nat) : Int) ((a : Nat) : Int) dL_holds_818 (by decide) (toI (by omega)) (toI (by omega)) (fun c_818 => ?_) (fun c_818 => absurd c_818 (by omega))
        rw [hq] at hCx11
        exact j836 _ _ _ ls hCx11 hP hD hS (lv_sub hl [2, 3, 4] rfl)
      · skip
        refine lv_iload hx hb dL_holds_814 (lv_at hl 0 rfl) ?_
        refine lv_iload hx hb dL_holds_816 (lv_at hl 3 rfl) ?_
        refine z_eq hx hb (tgt := 836) ((e : Nat) : Int) ((a : Nat) : Int) dL_holds_818 (by decide) (toI (by omega)) (toI (by omega)) (fun c_818 => absurd c_818 (by omega)) (fun c_818 => ?_)
        refine lv_aload_n hx hb dL_holds_821 rfl (lv_at hl 4 rfl) ?_
        refine lv_iload hx hb dL_holds_822 (lv_at hl 2 rfl) ?_
        refine lv_iload hx hb dL_holds_824 (lv_at hl 3 rfl) ?_
        refine lv_iload hx hb dL_holds_826 (lv_at hl 0 rfl) ?_
        refine lv_iconst (v := nI 1) hx hb dL_holds_828 (by decide) ?_
        refine n_isub hx hb (by omega) dL_holds_829 ?_
        refine kA (As := [.int (nI s), .int (nI a), .int (nI (e - 1))]) (rest := []) (wr := []) (wc := wx12) (b := me) hF c12 hCx11 rfl mw_2_115 mw_2_116 mw_2_117 mw_1_1 mw_2_118 hd_X3_marks ⟨Nat.le_of_ble_eq_true rfl, Nat.le_of_ble_eq_true rfl⟩ hKx hZ hS hP hD hA rfl hl.1 rfl (Nat.le_of_ble_eq_true rfl) dL_holds_830 hf (fun wx14 H locs hCx13 hP hD hS => ?_)
        refine z0_ne hx hb (tgt := 888) 0 dL_holds_833 (by decide) (by decide) (fun c_833 => absurd c_833 (by decide)) (fun c_833 => ?_)
        exact j836 _ _ _ ls hCx13 hP hD hS (lv_sub hl [2, 3, 4] rfl)
  refine lv_aload_n hx hb dL_holds_502 rfl (lv_at hl 5 rfl) ?_
  refine lv_iload hx hb dL_holds_503 (lv_at hl 3 rfl) ?_
  refine lv_iload hx hb dL_holds_505 (lv_at hl 2 rfl) ?_
  refine kA (As := [.int (nI a), .int (nI b)]) (rest := []) (wr := []) (wc := w) (b := me) hF (a_workOf l hok a b hab hb36) hC rfl mw_2_208 mw_2_209 mw_2_210 mw_1_1 mw_2_211 hd_X3_workOf ⟨Nat.le_of_ble_eq_true rfl, Nat.le_of_ble_eq_true rfl⟩ hKx hZ hS hP hD hA rfl hl.1 rfl (Nat.le_of_ble_eq_true rfl) dL_holds_507 hf (fun wx16 H locs hCx15 hP hD hS => ?_)
  refine lv_istore (lv' := [(12, .int (lkk (qr q) (mot a) (mot b + 1 - mot a) 3 - qr q 3)), (11, .int (nI t)), (10, .int (nI s)), (9, .int (nI b)), (8, .int (nI a)), (7, .int (nI 1)), (0, .ref me), (1, .int (nI x))]) hx hb dL_holds_510 hl (by decide) rfl (fun ls hl => ?_)
  refine lv_aload_n hx hb dL_holds_512 rfl (lv_at hl 6 rfl) ?_
  refine lv_iconst (v := nI 5) hx hb dL_holds_513 (by decide) ?_
  refine kA (As := [.int (nI 5)]) (rest := []) (wr := []) (wc := wx16) (b := me) hF (n_work l hok) hCx15 rfl mw_1_156 mw_1_157 mw_1_158 mw_1_1 mw_1_159 hd_X3_count ⟨Nat.le_of_ble_eq_true rfl, Nat.le_of_ble_eq_true rfl⟩ hKx hZ hS hP hD hA rfl hl.1 rfl (Nat.le_of_ble_eq_true rfl) dL_holds_514 hf (fun wx18 H locs hCx17 hP hD hS => ?_)
  refine lv_istore (lv' := [(13, .int (qr q 3)), (12, .int (lkk (qr q) (mot a) (mot b + 1 - mot a) 3 - qr q 3)), (11, .int (nI t)), (10, .int (nI s)), (9, .int (nI b)), (8, .int (nI a)), (7, .int (nI 1)), (0, .ref me), (1, .int (nI x))]) hx hb dL_holds_517 hl (by decide) rfl (fun ls hl => ?_)
  refine lv_aload_n hx hb dL_holds_519 rfl (lv_at hl 7 rfl) ?_
  refine lv_iload hx hb dL_holds_520 (lv_at hl 3 rfl) ?_
  refine lv_iload hx hb dL_holds_522 (lv_at hl 2 rfl) ?_
  refine lv_iload hx hb dL_holds_524 (lv_at hl 5 rfl) ?_
  refine lv_iload hx hb dL_holds_526 (lv_at hl 4 rfl) ?_
  refine kA (As := [.int (nI s), .int (nI t), .int (nI a), .int (nI b)]) (rest := []) (wr := []) (wc := wx18) (b := me) hF c1 hCx17 rfl mw_2_136 mw_2_137 mw_2_138 mw_1_1 mw_2_139 hd_X3_both ⟨Nat.le_of_ble_eq_true rfl, Nat.le_of_ble_eq_true rfl⟩ hKx hZ hS hP hD hA rfl hl.1 rfl (Nat.le_of_ble_eq_true rfl) dL_holds_528 hf (fun wx20 H locs hCx19 hP hD hS => ?_)
  refine lv_istore (lv' := [(14, .int (nI (bc r s t a b))), (13, .int (qr q 3)), (12, .int (lkk (qr q) (mot a) (mot b + 1 - mot a) 3 - qr q 3)), (11, .int (nI t)), (10, .int (nI s)), (9, .int (nI b)), (8, .int (nI a)), (7, .int (nI 1)), (0, .ref me), (1, .int (nI x))]) hx hb dL_holds_531 hl (by decide) rfl (fun ls hl => ?_)
  refine lv_iload hx hb dL_holds_533 (lv_at hl 7 rfl) ?_
  refine z0_eq hx hb (tgt := 634) 1 dL_holds_535 (by decide) (by decide) (fun c_535 => absurd c_535 (by decide)) (fun c_535 => ?_)
  refine lv_aload_n hx hb dL_holds_538 rfl (lv_at hl 8 rfl) ?_
  refine lv_iconst (v := nI 5) hx hb dL_holds_539 (by decide) ?_
  refine kA (As := [.int (nI 5)]) (rest := []) (wr := []) (wc := wx20) (b := me) hF (n_work l ok1) hCx19 rfl mw_1_156 mw_1_157 mw_1_158 mw_1_1 mw_1_159 hd_X3_count ⟨Nat.le_of_ble_eq_true rfl, Nat.le_of_ble_eq_true rfl⟩ hKx hZ hS hP hD hA rfl hl.1 rfl (Nat.le_of_ble_eq_true rfl) dL_holds_540 hf (fun wx22 H locs hCx21 hP hD hS => ?_)
  refine lv_iload hx hb dL_holds_543 (lv_at hl 1 rfl) ?_
  refine lv_iload hx hb dL_holds_545 (lv_at hl 2 rfl) ?_
  refine lv_iadd hx hb dL_holds_547 ?_
  refine lv_cv (y := qr q1 3) (by rw [w_add]; exact hw1.symm) ?_
  refine z_ne hx hb (tgt := 634) ((qr q1 3 : Int32).toInt) ((qr q1 3 : Int32).toInt) dL_holds_548 (by decide) rfl rfl (fun c_548 => absurd rfl c_548) (fun c_548 => ?_)
  refine lv_iload hx hb dL_holds_551 (lv_at hl 0 rfl) ?_
  refine lv_aload_n hx hb dL_holds_553 rfl (lv_at hl 8 rfl) ?_
  refine lv_iload hx hb dL_holds_554 (lv_at hl 3 rfl) ?_
  refine lv_iload hx hb dL_holds_556 (lv_at hl 4 rfl) ?_
  refine lv_iload hx hb dL_holds_558 (lv_at hl 6 rfl) ?_
  refine lv_iload hx hb dL_holds_560 (lv_at hl 5 rfl) ?_
  refine kA (As := [.int (nI t), .int (nI s), .int (nI a), .int (nI b)]) (rest := [.int (nI (bc r s t a b))]) (wr := []) (wc := wx22) (b := me) hF c2 hCx21 rfl mw_2_136 mw_2_137 mw_2_138 mw_1_1 mw_2_139 hd_X3_both ⟨Nat.le_of_ble_eq_true rfl, Nat.le_of_ble_eq_true rfl⟩ hKx hZ hS hP hD hA rfl hl.1 rfl (Nat.le_of_ble_eq_true rfl) dL_holds_562 hf (fun wx24 H locs hCx23 hP hD hS => ?_)
  refine z_ne hx hb (tgt := 634) ((nI (bc r s t a b) : Int32).toInt) ((nI (bc r s t a b) : Int32).toInt) dL_holds_565 (by decide) rfl rfl (fun c_565 => absurd rfl c_565) (fun c_565 => ?_)
  refine lv_iload hx hb dL_holds_568 (lv_at hl 0 rfl) ?_
  refine lv_aload_n hx hb dL_holds_570 rfl (lv_at hl 8 rfl) ?_
  refine lv_iload hx hb dL_holds_571 (lv_at hl 4 rfl) ?_
  refine lv_iload hx hb dL_holds_573 (lv_at hl 6 rfl) ?_
  refine lv_iload hx hb dL_holds_575 (lv_at hl 5 rfl) ?_
  refine kA (As := [.int (nI s), .int (nI a), .int (nI b)]) (rest := [.int (nI (bc r s t a b))]) (wr := []) (wc := wx24) (b := me) hF c3 hCx23 rfl mw_2_115 mw_2_116 mw_2_117 mw_1_1 mw_2_118 hd_X3_marks ⟨Nat.le_of_ble_eq_true rfl, Nat.le_of_ble_eq_true rfl⟩ hKx hZ hS hP hD hA rfl hl.1 rfl (Nat.le_of_ble_eq_true rfl) dL_holds_577 hf (fun wx26 H locs hCx25 hP hD hS => ?_)
  refine z_gt hx hb (tgt := 634) ((bc r s t a b : Nat) : Int) ((mc r s a b : Nat) : Int) dL_holds_580 (by decide) (toI (by omega)) (toI (by omega)) (fun c_580 => absurd c_580 (by omega)) (fun c_580 => ?_)
  refine lv_iload hx hb dL_holds_583 (lv_at hl 0 rfl) ?_
  refine lv_aload_n hx hb dL_holds_585 rfl (lv_at hl 8 rfl) ?_
  refine lv_iload hx hb dL_holds_586 (lv_at hl 4 rfl) ?_
  have j598 : ∀ (w : va_W) (H : Heap) (locs : List Loc) (ls : Array Slot), CS G me q3 w → va_P G.1 vwCl ([] ++ w) H → va_D A ([] ++ w) → va_S A sq.heap H locs → lv_has ls 18 [(14, .int (nI (bc r s t a b))), (13, .int (qr q 3)), (12, .int (lkk (qr q) (mot a) (mot b + 1 - mot a) 3 - qr q 3)), (11, .int (nI t)), (10, .int (nI s)), (9, .int (nI b)), (8, .int (nI a)), (7, .int (nI 1)), (0, .ref me), (1, .int (nI x))] → W pq l eq (rmL 10) sq mq args bq tq cq H locs 0 0 Q (F0 mq 598 ls [.int (nI u), .ref me, .int (nI (bc r s t a b))]) := by
    intro w H locs ls hC hP hD hS hl
    refine lv_iload hx hb dL_holds_598 (lv_at hl 6 rfl) ?_
    refine lv_iload hx hb dL_holds_600 (lv_at hl 5 rfl) ?_
    refine kA (As := [.int (nI u), .int (nI a), .int (nI b)]) (rest := [.int (nI (bc r s t a b))]) (wr := []) (wc := w) (b := me) hF c4 hC rfl mw_2_145 mw_2_146 mw_2_147 mw_1_1 mw_2_148 hd_X3_crowded ⟨Nat.le_of_ble_eq_true rfl, Nat.le_of_ble_eq_true rfl⟩ hKx hZ hS hP hD hA rfl hl.1 rfl (Nat.le_of_ble_eq_true rfl) dL_holds_602 hf (fun wx28 H locs hCx27 hP hD hS => ?_)
    refine z_gt hx hb (tgt := 634) ((bc r s t a b : Nat) : Int) ((kc r ((u : Nat) : Int) a b : Nat) : Int) dL_holds_605 (by decide) (toI (by omega)) (toI (by omega)) (fun c_605 => absurd c_605 (by omega)) (fun c_605 => ?_)
    refine lv_aload_n hx hb dL_holds_608 rfl (lv_at hl 8 rfl) ?_
    refine lv_iconst (v := nI 1) hx hb dL_holds_609 (by decide) ?_
    refine lv_iload hx hb dL_holds_610 (lv_at hl 6 rfl) ?_
    refine lv_iload hx hb dL_holds_612 (lv_at hl 5 rfl) ?_
    refine kA (As := [.int (nI 1), .int (nI a), .int (nI b)]) (rest := []) (wr := []) (wc := wx28) (b := me) hF c5 hCx27 rfl mw_2_145 mw_2_146 mw_2_147 mw_1_1 mw_2_148 hd_X3_crowded ⟨Nat.le_of_ble_eq_true rfl, Nat.le_of_ble_eq_true rfl⟩ hKx hZ hS hP hD hA rfl hl.1 rfl (Nat.le_of_ble_eq_true rfl) dL_holds_614 hf (fun wx30 H locs hCx29 hP hD hS => ?_)
    refine lv_aload_n hx hb dL_holds_617 rfl (lv_at hl 8 rfl) ?_
    refine lv_iload hx hb dL_holds_618 (lv_at hl 3 rfl) ?_
    refine lv_iload hx hb dL_holds_620 (lv_at hl 6 rfl) ?_
    refine lv_iload hx hb dL_holds_622 (lv_at hl 5 rfl) ?_
    refine kA (As := [.int (nI t), .int (nI a), .int (nI b)]) (rest := [.int (nI (kc r ((1 : Nat) : Int) a b))]) (wr := []) (wc := wx30) (b := me) hF c6 hCx29 rfl mw_2_115 mw_2_116 mw_2_117 mw_1_1 mw_2_118 hd_X3_marks ⟨Nat.le_of_ble_eq_true rfl, Nat.le_of_ble_eq_true rfl⟩ hKx hZ hS hP hD hA rfl hl.1 rfl (Nat.le_of_ble_eq_true rfl) dL_holds_624 hf (fun wx32 H locs hCx31 hP hD hS => ?_)
    refine z_lt hx hb (tgt := 634) ((kc r ((1 : Nat) : Int) a b : Nat) : Int) ((mc r t a b : Nat) : Int) dL_holds_627 (by decide) (toI (by omega)) (toI (by omega)) (fun c_627 => absurd c_627 (by omega)) (fun c_627 => ?_)
    refine lv_iconst (v := nI 1) hx hb dL_holds_630 (by decide) ?_
    refine lv_goto (tgt := 635) hx hb dL_holds_631 (by decide) ?_
    refine lv_istore (lv' := [(7, .int (nI 1)), (14, .int (nI (bc r s t a b))), (13, .int (qr q 3)), (12, .int (lkk (qr q) (mot a) (mot b + 1 - mot a) 3 - qr q 3)), (11, .int (nI t)), (10, .int (nI s)), (9, .int (nI b)), (8, .int (nI a)), (0, .ref me), (1, .int (nI x))]) hx hb dL_holds_635 hl (by decide) rfl (fun ls hl => ?_)
    refine lv_aload_n hx hb dL_holds_637 rfl (lv_at hl 8 rfl) ?_
    refine lv_iload hx hb dL_holds_638 (lv_at hl 5 rfl) ?_
    refine lv_iload hx hb dL_holds_640 (lv_at hl 7 rfl) ?_
    refine lv_iload hx hb dL_holds_642 (lv_at hl 6 rfl) ?_
    refine lv_iconst (v := nI 0) hx hb dL_holds_644 (by decide) ?_
    refine kA (As := [.int (nI s), .int (nI a), .int (nI b), .int (nI 0)]) (rest := []) (wr := []) (wc := wx32) (b := me) hF c7 hCx31 rfl mw_2_158 mw_2_159 mw_2_160 mw_1_1 mw_2_161 hd_X3_longest ⟨Nat.le_of_ble_eq_true rfl, Nat.le_of_ble_eq_true rfl⟩ hKx hZ hS hP hD hA rfl hl.1 rfl (Nat.le_of_ble_eq_true rfl) dL_holds_645 hf (fun wx34 H locs hCx33 hP hD hS => ?_)
    refine lv_istore (lv' := [(15, .int (nI (lgb r s a b (b + 1 - a)))), (7, .int (nI 1)), (14, .int (nI (bc r s t a b))), (13, .int (qr q 3)), (12, .int (lkk (qr q) (mot a) (mot b + 1 - mot a) 3 - qr q 3)), (11, .int (nI t)), (10, .int (nI s)), (9, .int (nI b)), (8, .int (nI a)), (0, .ref me), (1, .int (nI x))]) hx hb dL_holds_648 hl (by decide) rfl (fun ls hl => ?_)
    refine lv_aload_n hx hb dL_holds_650 rfl (lv_at hl 9 rfl) ?_
    refine lv_iload hx hb dL_holds_651 (lv_at hl 6 rfl) ?_
    refine lv_iload hx hb dL_holds_653 (lv_at hl 8 rfl) ?_
    refine lv_iload hx hb dL_holds_655 (lv_at hl 7 rfl) ?_
    refine lv_iconst (v := nI 1) hx hb dL_holds_657 (by decide) ?_
    refine kA (As := [.int (nI s), .int (nI a), .int (nI b), .int (nI 1)]) (rest := []) (wr := []) (wc := wx34) (b := me) hF c8 hCx33 rfl mw_2_158 mw_2_159 mw_2_160 mw_1_1 mw_2_161 hd_X3_longest ⟨Nat.le_of_ble_eq_true rfl, Nat.le_of_ble_eq_true rfl⟩ hKx hZ hS hP hD hA rfl hl.1 rfl (Nat.le_of_ble_eq_true rfl) dL_holds_658 hf (fun wx36 H locs hCx35 hP hD hS => ?_)
    refine lv_istore (lv' := [(16, .int (lgf r s a b (b + 1 - a))), (15, .int (nI (lgb r s a b (b + 1 - a)))), (7, .int (nI 1)), (14, .int (nI (bc r s t a b))), (13, .int (qr q 3)), (12, .int (lkk (qr q) (mot a) (mot b + 1 - mot a) 3 - qr q 3)), (11, .int (nI t)), (10, .int (nI s)), (9, .int (nI b)), (8, .int (nI a)), (0, .ref me), (1, .int (nI x))]) hx hb dL_holds_661 hl (by decide) rfl (fun ls hl => ?_)
    refine lv_iload hx hb dL_holds_663 (lv_at hl 2 rfl) ?_
    refine z0_eq hx hb (tgt := 753) 1 dL_holds_665 (by decide) (by decide) (fun c_665 => absurd c_665 (by decide)) (fun c_665 => ?_)
    rcases h10 with ⟨hL, hlf, hm0, hq⟩ | ⟨hL, hm0, bg, hlf, hbg, c10⟩
    · skip
      have hl6 : (lgf r s a b (b + 1 - a)).toInt = -6 := by rw [hlf]; decide
      refine lv_iload hx hb dL_holds_668 (lv_at hl 1 rfl) ?_
      refine z0_ne hx hb (tgt := 677) ((lgb r s a b (b + 1 - a) : Nat) : Int) dL_holds_670 (by decide) (toI (by omega)) (fun c_670 => absurd c_670 (by omega)) (fun c_670 => ?_)
      refine lv_iconst (v := nI 1) hx hb dL_holds_673 (by decide) ?_
      refine lv_goto (tgt := 678) hx hb dL_holds_674 (by decide) ?_
      refine lv_iload hx hb dL_holds_678 (lv_at hl 0 rfl) ?_
      refine lv_bipush (v := (-6)) hx hb dL_holds_680 (by decide) ?_
      refine z_ne hx hb (tgt := 689) (-6) (-6) dL_holds_682 (by decide) hl6 (by decide) (fun c_682 => absurd c_682 (by omega)) (fun c_682 => ?_)
      refine lv_iconst (v := nI 1) hx hb dL_holds_685 (by decide) ?_
      refine lv_goto (tgt := 690) hx hb dL_holds_686 (by decide) ?_
      refine z_ne hx hb (tgt := 753) ((nI 1 : Int32).toInt) ((nI 1 : Int32).toInt) dL_holds_690 (by decide) rfl rfl (fun c_690 => absurd rfl c_690) (fun c_690 => ?_)
      refine lv_iload hx hb dL_holds_693 (lv_at hl 1 rfl) ?_
      refine z0_ne hx hb (tgt := 702) ((lgb r s a b (b + 1 - a) : Nat) : Int) dL_holds_695 (by decide) (toI (by omega)) (fun c_695 => absurd c_695 (by omega)) (fun c_695 => ?_)
      refine lv_iconst (v := nI 1) hx hb dL_holds_698 (by decide) ?_
      refine lv_goto (tgt := 703) hx hb dL_holds_699 (by decide) ?_
      refine lv_aload_n hx hb dL_holds_703 rfl (lv_at hl 10 rfl) ?_
      refine lv_iload hx hb dL_holds_704 (lv_at hl 7 rfl) ?_
      refine lv_iload hx hb dL_holds_706 (lv_at hl 9 rfl) ?_
      refine lv_iload hx hb dL_holds_708 (lv_at hl 8 rfl) ?_
      refine kA (As := [.int (nI s), .int (nI a), .int (nI b)]) (rest := [.int (nI 1)]) (wr := []) (wc := wx36) (b := me) hF c9 hCx35 rfl mw_2_115 mw_2_116 mw_2_117 mw_1_1 mw_2_118 hd_X3_marks ⟨Nat.le_of_ble_eq_true rfl, Nat.le_of_ble_eq_true rfl⟩ hKx hZ hS hP hD hA rfl hl.1 rfl (Nat.le_of_ble_eq_true rfl) dL_holds_710 hf (fun wx38 H locs hCx37 hP hD hS => ?_)
      refine z0_ne hx hb (tgt := 720) ((mc r s a b : Nat) : Int) dL_holds_713 (by decide) (toI (by omega)) (fun c_713 => absurd c_713 (by omega)) (fun c_713 => ?_)
      refine lv_iconst (v := nI 1) hx hb dL_holds_716 (by decide) ?_
      refine lv_goto (tgt := 721) hx hb dL_holds_717 (by decide) ?_
      refine z_ne hx hb (tgt := 753) ((nI 1 : Int32).toInt) ((nI 1 : Int32).toInt) dL_holds_721 (by decide) rfl rfl (fun c_721 => absurd rfl c_721) (fun c_721 => ?_)
      refine lv_iload hx hb dL_holds_724 (lv_at hl 1 rfl) ?_
      refine z0_eq hx hb (tgt := 749) ((lgb r s a b (b + 1 - a) : Nat) : Int) dL_holds_726 (by decide) (toI (by omega)) (fun c_726 => ?_) (fun c_726 => absurd c_726 (by omega))
      rw [hq] at hCx37
      exact j749 _ _ _ ls hCx37 hP hD hS (lv_sub hl [7, 9, 10] rfl)
    · skip
      rw [hlf] at hl
      refine lv_iload hx hb dL_holds_668 (lv_at hl 1 rfl) ?_
      refine z0_ne hx hb (tgt := 677) ((lgb r s a b (b + 1 - a) : Nat) : Int) dL_holds_670 (by decide) (toI (by omega)) (fun c_670 => ?_) (fun c_670 => absurd c_670 (by omega))
      refine lv_iconst (v := nI 0) hx hb dL_holds_677 (by decide) ?_
      refine lv_iload hx hb dL_holds_678 (lv_at hl 0 rfl) ?_
      refine lv_bipush (v := (-6)) hx hb dL_holds_680 (by decide) ?_
      refine z_ne hx hb (tgt := 689) ((bg : Nat) : Int) (-6) dL_holds_682 (by decide) (toI (by omega)) (by decide) (fun c_682 => ?_) (fun c_682 => absurd c_682 (by omega))
      refine lv_iconst (v := nI 0) hx hb dL_holds_689 (by decide) ?_
      refine z_ne hx hb (tgt := 753) ((nI 0 : Int32).toInt) ((nI 0 : Int32).toInt) dL_holds_690 (by decide) rfl rfl (fun c_690 => absurd rfl c_690) (fun c_690 => ?_)
      refine lv_iload hx hb dL_holds_693 (lv_at hl 1 rfl) ?_
      refine z0_ne hx hb (tgt := 702) ((lgb r s a b (b + 1 - a) : Nat) : Int) dL_holds_695 (by decide) (toI (by omega)) (fun c_695 => ?_) (fun c_695 => absurd c_695 (by omega))
      refine lv_iconst (v := nI 0) hx hb dL_holds_702 (by decide) ?_
      refine lv_aload_n hx hb dL_holds_703 rfl (lv_at hl 10 rfl) ?_
      refine lv_iload hx hb dL_holds_704 (lv_at hl 7 rfl) ?_
      refine lv_iload hx hb dL_holds_706 (lv_at hl 9 rfl) ?_
      refine lv_iload hx hb dL_holds_708 (lv_at hl 8 rfl) ?_
      refine kA (As := [.int (nI s), .int (nI a), .int (nI b)]) (rest := [.int (nI 0)]) (wr := []) (wc := wx36) (b := me) hF c9 hCx35 rfl mw_2_115 mw_2_116 mw_2_117 mw_1_1 mw_2_118 hd_X3_marks ⟨Nat.le_of_ble_eq_true rfl, Nat.le_of_ble_eq_true rfl⟩ hKx hZ hS hP hD hA rfl hl.1 rfl (Nat.le_of_ble_eq_true rfl) dL_holds_710 hf (fun wx40 H locs hCx39 hP hD hS => ?_)
      refine z0_ne hx hb (tgt := 720) ((mc r s a b : Nat) : Int) dL_holds_713 (by decide) (toI (by omega)) (fun c_713 => ?_) (fun c_713 => absurd c_713 (by omega))
      refine lv_iconst (v := nI 0) hx hb dL_holds_720 (by decide) ?_
      refine z_ne hx hb (tgt := 753) ((nI 0 : Int32).toInt) ((nI 0 : Int32).toInt) dL_holds_721 (by decide) rfl rfl (fun c_721 => absurd rfl c_721) (fun c_721 => ?_)
      refine lv_iload hx hb dL_holds_724 (lv_at hl 1 rfl) ?_
      refine z0_eq hx hb (tgt := 749) ((lgb r s a b (b + 1 - a) : Nat) : Int) dL_holds_726 (by decide) (toI (by omega)) (fun c_726 => absurd c_726 (by omega)) (fun c_726 => ?_)
      refine lv_aload_n hx hb dL_holds_729 rfl (lv_at hl 10 rfl) ?_
      refine lv_iload hx hb dL_holds_730 (lv_at hl 7 rfl) ?_
      refine lv_iload hx hb dL_holds_732 (lv_at hl 0 rfl) ?_
      refine lv_iload hx hb dL_holds_734 (lv_at hl 0 rfl) ?_
      refine lv_iload hx hb dL_holds_736 (lv_at hl 1 rfl) ?_
      refine n_iadd hx hb dL_holds_738 ?_
      refine lv_iconst (v := nI 1) hx hb dL_holds_739 (by decide) ?_
      refine n_isub hx hb (by omega) dL_holds_740 ?_
      refine kA (As := [.int (nI s), .int (nI bg), .int (nI ((bg + lgb r s a b (b + 1 - a)) - 1))]) (rest := []) (wr := []) (wc := wx40) (b := me) hF c10 hCx39 rfl mw_2_115 mw_2_116 mw_2_117 mw_1_1 mw_2_118 hd_X3_marks ⟨Nat.le_of_ble_eq_true rfl, Nat.le_of_ble_eq_true rfl⟩ hKx hZ hS hP hD hA rfl hl.1 rfl (Nat.le_of_ble_eq_true rfl) dL_holds_741 hf (fun wx42 H locs hCx41 hP hD hS => ?_)
      refine lv_iload hx hb dL_holds_744 (lv_at hl 1 rfl) ?_
      refine z_ne hx hb (tgt := 753) ((nI (lgb r s a b (b + 1 - a)) : Int32).toInt) ((nI (lgb r s a b (b + 1 - a)) : Int32).toInt) dL_holds_746 (by decide) rfl rfl (fun c_746 => absurd rfl c_746) (fun c_746 => ?_)
      exact j749 _ _ _ ls hCx41 hP hD hS (lv_sub hl [7, 9, 10] rfl)
  refine lv_iload hx hb dL_holds_588 (lv_at hl 3 rfl) ?_
  refine z_ne hx hb (tgt := 597) ((s : Nat) : Int) ((t : Nat) : Int) dL_holds_590 (by decide) (toI (by omega)) (toI (by omega)) (fun c_590 => ?_) (fun c_590 => ?_)
  · skip
    refine lv_iconst (v := nI 2) hx hb dL_holds_597 (by decide) ?_
    refine lv_cv (y := nI u) (by rw [hu2 (by omega)]) ?_
    exact j598 _ _ _ ls hCx25 hP hD hS hl
  · skip
    refine lv_iconst (v := nI 1) hx hb dL_holds_593 (by decide) ?_
    refine lv_goto (tgt := 598) hx hb dL_holds_594 (by decide) ?_
    refine lv_cv (y := nI u) (by rw [hu1 (by omega)]) ?_
    exact j598 _ _ _ ls hCx25 hP hD hS hl
set_option maxHeartbeats 4000000 in
set_option maxRecDepth 100000 in
theorem c_holds (l : Launch) {q : Sx} (hok : OkD q) (x : Nat) (hx0 : x < 2147483648) : ∃ q2 : Sx, OkD q2 ∧ ∀ (G : gT) (me sz : Nat) (w0 : va_W), CS G me q w0 → Ru l G yL_holds cL_holds 18 (some .boolean) 10 sz w0 [Value.ref me, Value.int (nI x)] 1 (CS G me q2) := by
  obtain ⟨q2, ok2, hk⟩ := holds_s l hok (a := x % 300) (b := x % 300 + x / 512 % 100) (s := x / 64 % 16) (t := x / 1024 % 16) (by omega) (by omega) (by omega) (by omega) (by omega)
  refine ⟨q2, ok2, fun G me sz w0 hC => ?_⟩
  refine Ru.mk (by decide) (Nat.le_of_ble_eq_true rfl) (fun pq eq sq mq bq tq cq ls A hr hlk hF hKx hZ hA hP hD hS hl => ?_)
  have hx := hF.1
  have hb := hF.2.1
  have hml := hF.2.2.1
  have hown : sq.vm.findClass "FoldedMonthsLaw" = some mq.cls := hF.2.2.2.1
  have hts : ∀ w ∈ GW, w.before _ sq = true := hF.2.2.2.2
  have hl : lv_has ls 18 [(0, .ref me), (1, .int (nI x))] := hl
  refine holds_a hok hF hKx hZ hA hC hP hD hS hl (fun w H locs ls hC hP hD hS hl => ?_)
  refine lv_iload_n hx hb dL_holds_463 rfl (lv_at hl 2 rfl) ?_
  refine lv_sipush (v := nI 300) hx hb dL_holds_464 (by decide) ?_
  refine n_irem hx hb (by omega) (by omega) (by omega) dL_holds_467 ?_
  refine lv_istore (lv' := [(8, .int (nI (x % 300))), (7, .int (nI 1)), (0, .ref me), (1, .int (nI x))]) hx hb dL_holds_468 hl (by decide) rfl (fun ls hl => ?_)
  refine lv_iload hx hb dL_holds_470 (lv_at hl 0 rfl) ?_
  refine lv_iload_n hx hb dL_holds_472 rfl (lv_at hl 3 rfl) ?_
  refine lv_sipush (v := nI 512) hx hb dL_holds_473 (by decide) ?_
  refine n_idiv hx hb (by omega) (by omega) (by omega) dL_holds_476 ?_
  refine lv_bipush (v := nI 100) hx hb dL_holds_477 (by decide) ?_
  refine n_irem hx hb (by omega) (by omega) (by omega) dL_holds_479 ?_
  refine n_iadd hx hb dL_holds_480 ?_
  refine lv_istore (lv' := [(9, .int (nI (x % 300 + (x / 512) % 100))), (8, .int (nI (x % 300))), (7, .int (nI 1)), (0, .ref me), (1, .int (nI x))]) hx hb dL_holds_481 hl (by decide) rfl (fun ls hl => ?_)
  refine lv_iload_n hx hb dL_holds_483 rfl (lv_at hl 4 rfl) ?_
  refine lv_bipush (v := nI 64) hx hb dL_holds_484 (by decide) ?_
  refine n_idiv hx hb (by omega) (by omega) (by omega) dL_holds_486 ?_
  refine lv_bipush (v := nI 16) hx hb dL_holds_487 (by decide) ?_
  refine n_irem hx hb (by omega) (by omega) (by omega) dL_holds_489 ?_
  refine lv_istore (lv' := [(10, .int (nI ((x / 64) % 16))), (9, .int (nI (x % 300 + (x / 512) % 100))), (8, .int (nI (x % 300))), (7, .int (nI 1)), (0, .ref me), (1, .int (nI x))]) hx hb dL_holds_490 hl (by decide) rfl (fun ls hl => ?_)
  refine lv_iload_n hx hb dL_holds_492 rfl (lv_at hl 5 rfl) ?_
  refine lv_sipush (v := nI 1024) hx hb dL_holds_493 (by decide) ?_
  refine n_idiv hx hb (by omega) (by omega) (by omega) dL_holds_496 ?_
  refine lv_bipush (v := nI 16) hx hb dL_holds_497 (by decide) ?_
  refine n_irem hx hb (by omega) (by omega) (by omega) dL_holds_499 ?_
  refine lv_istore (lv' := [(11, .int (nI ((x / 1024) % 16))), (10, .int (nI ((x / 64) % 16))), (9, .int (nI (x % 300 + (x / 512) % 100))), (8, .int (nI (x % 300))), (7, .int (nI 1)), (0, .ref me), (1, .int (nI x))]) hx hb dL_holds_500 hl (by decide) rfl (fun ls hl => ?_)
  exact hk pq eq sq mq bq tq cq H locs ls _ _ A G me x w hF hKx hZ hA hC hP hD hS hl (fun w H locs ls hC hP hD hS => e_uz hx hb hr hlk nz_1 (ws := w) hP hD hS hC rfl dL_holds_889)
