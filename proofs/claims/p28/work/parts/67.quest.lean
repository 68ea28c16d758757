/-! ===== the questions, their answers told by the marks alone; what there is of a month ===== -/
theorem act_res {l : Launch} {y : MethodName} {bs : ByteArray} {mx : Nat} {As : List Value} {q q2 : Sx} {v v' : Int32} (h : Act l y bs mx As q v q2) (e : v = v') : Act l y bs mx As q v' q2 := e ▸ h
section QUE
variable (l : Launch) {q : Sx} {r : Nat → Int32}
theorem h_marks (hok : OkD q) (hm : Mk r (qr q)) (s f t : Nat) (hs : s < 16) (hft : f ≤ t) (ht : t < 3650) : ∃ q2 : Sx, OkD q2 ∧ Mk r (qr q2) ∧ Act l yX3_marks cX3_marks 9 [.int (nI s), .int (nI f), .int (nI t)] q (nI (mc r s f t)) q2 := by
  have h2 := mot_row ht
  have h3 := mot_mono ht hft
  exact ⟨_, OkD_r hok (Dv_mks (f := f) (t := t) (a := mot f) hok.1 (mot t + 1 - mot f) (by omega)), hm.tr (fun j => mks_mk hok.1.1.1 _ (by omega)), act_res (a_marks l hok s f t hs hft ht) (by rw [ctm_mc hft ht, mk_mc hm])⟩
theorem h_both (hok : OkD q) (hm : Mk r (qr q)) (s o f t : Nat) (hs : s < 16) (ho : o < 16) (hft : f ≤ t) (ht : t < 3650) : Act l yX3_both cX3_both 10 [.int (nI s), .int (nI o), .int (nI f), .int (nI t)] q (nI (bc r s o f t)) (lkk (qr q) (mot f) (mot t + 1 - mot f), q.2) ∧ OkD (lkk (qr q) (mot f) (mot t + 1 - mot f), q.2) ∧ Mk r (lkk (qr q) (mot f) (mot t + 1 - mot f)) := by
  have h2 := mot_row ht
  have h3 := mot_mono ht hft
  exact ⟨act_res (a_both l hok s o f t hs ho hft ht) (by rw [ctb_bc hft ht, mk_bc hm]), OkD_r hok (Dv_lkk hok.1 _ (by omega)), hm.tr (fun j => lkk_mk hok.1.1.1 _ (by omega))⟩
theorem h_crowded (hok : OkD q) (hm : Mk r (qr q)) (s f t : Nat) (hL : 1 ≤ s ∧ s ≤ 16) (hft : f ≤ t) (ht : t < 3650) : ∃ q2 : Sx, OkD q2 ∧ Mk r (qr q2) ∧ Act l yX3_crowded cX3_crowded 8 [.int (nI s), .int (nI f), .int (nI t)] q (nI (kc r ((s : Nat) : Int) f t)) q2 := by
  have h2 := mot_row ht
  have h3 := mot_mono ht hft
  exact ⟨_, OkD_r hok (Dv_lkk (a := mot f) hok.1 (mot t + 1 - mot f) (by omega)), hm.tr (fun j => lkk_mk hok.1.1.1 _ (by omega)), act_res (a_crowded l hok s f t hL hft ht) (by rw [ctc_kc hft ht, mk_kc hm])⟩
theorem h_longest0 (hok : OkD q) (hm : Mk r (qr q)) (s f t : Nat) (hs : s < 16) (hft : f ≤ t) (ht : t < 3650) : ∃ q2 : Sx, OkD q2 ∧ Mk r (qr q2) ∧ Act l yX3_longest cX3_longest 10 [.int (nI s), .int (nI f), .int (nI t), .int (nI 0)] q (nI (lgb r s f t (t + 1 - f))) q2 := by
  have h2 := mot_row ht
  have h3 := mot_mono ht hft
  exact ⟨_, OkD_r hok (Dv_lmk (s := s) (a := mot f) hok.1 (mot t + 1 - mot f) (by omega)), hm.tr (fun j => lmk_mk hok.1.1.1 _ (by omega)), act_res (a_longest l hok s f t 0 hs (by omega) hft ht) (by unfold lgs; rw [if_pos rfl, mk_lgb hm])⟩
theorem h_longest1 (hok : OkD q) (hm : Mk r (qr q)) (s f t : Nat) (hs : s < 16) (hft : f ≤ t) (ht : t < 3650) : ∃ q2 : Sx, OkD q2 ∧ Mk r (qr q2) ∧ Act l yX3_longest cX3_longest 10 [.int (nI s), .int (nI f), .int (nI t), .int (nI 1)] q (lgf r s f t (t + 1 - f)) q2 := by
  have h2 := mot_row ht
  have h3 := mot_mono ht hft
  exact ⟨_, OkD_r hok (Dv_lmk (s := s) (a := mot f) hok.1 (mot t + 1 - mot f) (by omega)), hm.tr (fun j => lmk_mk hok.1.1.1 _ (by omega)), act_res (a_longest l hok s f t 1 hs (by omega) hft ht) (by unfold lgs; rw [if_neg (by decide), mk_lgf hm])⟩
theorem h_nextMark (hok : OkD q) (hm : Mk r (qr q)) (s d : Nat) (hs : s < 16) (hd : d < 3650) : ∃ q2 : Sx, OkD q2 ∧ Mk r (qr q2) ∧ Act l yX3_nextMark cX3_nextMark 6 [.int (nI s), .int (nI d)] q (nxr r s d) q2 := by
  have h2 := mot_row hd
  exact ⟨_, OkD_r hok (Dv_lmk (s := s) (a := mot d) hok.1 (nxc (qr q) s d) (nxc_le (by omega))), hm.tr (fun j => lmk_mk hok.1.1.1 _ (nxc_le (by omega))), act_res (a_nextMark l hok s d hs hd) (by rw [mk_nxr hm])⟩
theorem h_isMarked (hok : OkD q) (hm : Mk r (qr q)) (s d : Nat) (hs : s < 16) (hd : d < 3650) (h1 : mkd r s d) : ∃ q2 : Sx, OkD q2 ∧ Mk r (qr q2) ∧ Act l yX3_isMarked cX3_isMarked 4 [.int (nI s), .int (nI d)] q (nI 1) q2 := by
  have h2 := mot_row hd
  exact ⟨_, OkD_r hok (Dv_lok (m := mot d) hok.1 (by omega)), hm.tr (fun j => lok_mk (hok.1.1.1.b (by omega)) (by omega)), act_res (a_isMarked l hok s d hs hd) (by rw [mkd_bn.mp ((mk_d hm).mpr h1)])⟩
/-! counts -/
theorem n_keep (hok : OkD q) : Act l yX3_count cX3_count 2 [.int (nI 9)] q (nI (kpn (qr q))) q :=
  act_res (a_count l hok (nI 9) (X := 9) rfl) (by
    unfold cov
    rw [if_neg (by decide), if_neg (by decide), if_neg (by decide), if_neg (by decide), if_neg (by decide), if_neg (by decide), if_neg (by decide), if_neg (by decide), if_neg (by decide), if_pos rfl]
    exact hok.1.1.1.1.2.2.1)
theorem n_open (hok : OkD q) : Act l yX3_count cX3_count 2 [.int (nI 10)] q (nI (opn (qr q))) q :=
  act_res (a_count l hok (nI 10) (X := 10) rfl) (by
    unfold cov
    rw [if_neg (by decide), if_neg (by decide), if_neg (by decide), if_neg (by decide), if_neg (by decide), if_neg (by decide), if_neg (by decide), if_neg (by decide), if_neg (by decide), if_neg (by decide), if_pos rfl]
    exact hok.1.1.1.1.2.2.2.2.1)
theorem n_row (hok : OkD q) : Act l yX3_count cX3_count 2 [.int (nI 3)] q (nI (ny (qr q))) q :=
  act_res (a_count l hok (nI 3) (X := 3) rfl) (by
    unfold cov
    rw [if_neg (by decide), if_neg (by decide), if_neg (by decide), if_pos rfl]
    exact hok.1.1.1.1.2.2.2.2.2.2.1)
theorem n_sizes (hok : OkD q) : Act l yX3_count cX3_count 2 [.int (nI 4)] q (ask (qr q) (mot (td (qr q)) + 1)) q :=
  act_res (a_count l hok (nI 4) (X := 4) rfl) (by
    unfold cov
    rw [if_neg (by decide), if_neg (by decide), if_neg (by decide), if_neg (by decide), if_pos rfl])
theorem n_work (hok : OkD q) : Act l yX3_count cX3_count 2 [.int (nI 5)] q (qr q 3) q :=
  act_res (a_count l hok (nI 5) (X := 5) rfl) (by
    unfold cov
    rw [if_neg (by decide), if_neg (by decide), if_neg (by decide), if_neg (by decide), if_neg (by decide), if_pos rfl])
theorem n_marks (hok : OkD q) : Act l yX3_count cX3_count 2 [.int (nI 8)] q (nI (amk (qr q) (mot (td (qr q)) + 1))) q :=
  act_res (a_count l hok (nI 8) (X := 8) rfl) (by
    unfold cov
    rw [if_neg (by decide), if_neg (by decide), if_neg (by decide), if_neg (by decide), if_neg (by decide), if_neg (by decide), if_neg (by decide), if_neg (by decide), if_pos rfl, amk_t hok.1.2.2 hok.1.1.1.1.2.1])
theorem n_old (hok : OkD q) : Act l yX3_count cX3_count 2 [.int (nI 2)] q (nI (mot (td (qr q)) + 1 - kpn (qr q))) q :=
  act_res (a_count l hok (nI 2) (X := 2) rfl) (by
    unfold cov
    rw [if_neg (by decide), if_neg (by decide), if_pos rfl])
end QUE
/-! what there is of a month -/
theorem om_2 {r : Nat → Int32} {m : Nat} : omv r m 2 = pI (m + kpn r ≤ mot (td r)) := by
  unfold omv
  rw [if_neg (by decide), if_neg (by decide), if_pos rfl]
theorem om_3 {r : Nat → Int32} {m : Nat} : omv r m 3 = pI (¬ plo r m = -6) := by
  unfold omv
  rw [if_neg (by decide), if_neg (by decide), if_neg (by decide), if_pos rfl]
theorem om_4 {r : Nat → Int32} {m f : Nat} (h : r (15 + m) = nI f) (hf : f ≤ 5) : omv r m 4 = nI (if f = 0 then 4 else f - 1) := by
  unfold omv
  rw [if_neg (by decide), if_neg (by decide), if_neg (by decide), if_neg (by decide), if_pos rfl, h, toI (by omega)]
  by_cases q : f = 0
  · rw [if_pos (by omega), if_pos q]
  · rw [if_neg (by omega), if_neg q, pk_sub (by omega)]
theorem om_5 {r : Nat → Int32} {m : Nat} : omv r m 5 = szo r m := by
  unfold omv
  rw [if_neg (by decide), if_neg (by decide), if_neg (by decide), if_neg (by decide), if_neg (by decide), if_pos rfl]
theorem om_6 {r : Nat → Int32} {m : Nat} : omv r m 6 = if (r (15 + m)).toInt = 2 then r (135 + m) else -6 := by
  unfold omv
  rw [if_neg (by decide), if_neg (by decide), if_neg (by decide), if_neg (by decide), if_neg (by decide), if_neg (by decide), if_pos rfl]
theorem om_7 {r : Nat → Int32} {m : Nat} : omv r m 7 = nI (mIn r m) := by
  unfold omv
  rw [if_neg (by decide), if_neg (by decide), if_neg (by decide), if_neg (by decide), if_neg (by decide), if_neg (by decide), if_neg (by decide), if_pos rfl]
theorem om_8 {r : Nat → Int32} {m : Nat} : omv r m 8 = subk r m 16 := by
  unfold omv
  rw [if_neg (by decide), if_neg (by decide), if_neg (by decide), if_neg (by decide), if_neg (by decide), if_neg (by decide), if_neg (by decide), if_neg (by decide), if_pos rfl]
theorem om_9 {r : Nat → Int32} {m : Nat} : omv r m 9 = plo r m := by
  unfold omv
  rw [if_neg (by decide), if_neg (by decide), if_neg (by decide), if_neg (by decide), if_neg (by decide), if_neg (by decide), if_neg (by decide), if_neg (by decide), if_neg (by decide), if_pos rfl]
theorem sz_0 {r : Nat → Int32} {m : Nat} (h : r (15 + m) = nI 0) : szo r m = nI 16 := by
  unfold szo
  rw [h, if_pos (by decide)]
theorem sz_2 {r : Nat → Int32} {m : Nat} (h : r (15 + m) = nI 2) : szo r m = nI 1 := by
  unfold szo
  rw [h, if_neg (by decide), if_pos (by decide)]
theorem sz_1 {r : Nat → Int32} {m : Nat} (h : r (15 + m) = nI 1) (h2 : mIn r m = 0) : szo r m = nI 0 := by
  unfold szo siz
  rw [h, if_neg (by decide), if_neg (by decide), if_pos (by decide), if_pos h2]
/-- a month is one of five: unfolded, EMPTY, SAME, of another form, young -/
theorem mon_5 {r : Nat → Int32} {m : Nat} (h : Dv r) (hm : m < 120) :
    (m + kpn r ≤ mot (td r) ∧ Inr r m ∧ r (15 + m) = nI 0 ∧ ∃ j, j < ny r ∧ plo r m = nI j) ∨
    (m + kpn r ≤ mot (td r) ∧ ¬ Inr r m ∧ r (15 + m) = nI 1 ∧ mIn r m = 0 ∧ plo r m = -6) ∨
    (m + kpn r ≤ mot (td r) ∧ ¬ Inr r m ∧ r (15 + m) = nI 2 ∧ (∃ j, j < m ∧ r (135 + m) = nI j) ∧ plo r m = -6) ∨
    (m + kpn r ≤ mot (td r) ∧ ¬ Inr r m ∧ (∃ f, 3 ≤ f ∧ f ≤ 5 ∧ r (15 + m) = nI f) ∧ plo r m = -6) ∨
    (¬ m + kpn r ≤ mot (td r) ∧ ¬ Inr r m ∧ r (15 + m) = nI 0 ∧ plo r m = -6) := by
  obtain ⟨⟨hb, hk, hc, ho⟩, he, hz⟩ := h
  obtain ⟨f, hf, ef⟩ := hc.1 m hm
  have hp := plo_Inr hb.1 (by omega) hm
  have hi := ho.1 m hm
  have hft : (r (15 + m)).toInt = ((f : Nat) : Int) := by rw [ef, toI (by omega)]
  by_cases q : m + kpn r ≤ mot (td r)
  · by_cases q2 : Inr r m
    · have h0 := (hi.mp q2).2
      have f0 : f = 0 := by omega
      subst f0
      refine Or.inl ⟨q, q2, ef, ?_⟩
      rcases plo_in r m with z | ⟨j, hj, ej, -⟩
      · exact absurd q2 (hp.mp z)
      · exact ⟨j, hj, ej⟩
    · have hpl := hp.mpr q2
      have h0 : ¬ f = 0 := fun z => q2 (hi.mpr ⟨q, by omega⟩)
      rcases (show f = 1 ∨ f = 2 ∨ 3 ≤ f by omega) with z | z | z
      · subst z
        exact Or.inr (Or.inl ⟨q, q2, ef, he m hm (by omega), hpl⟩)
      · subst z
        exact Or.inr (Or.inr (Or.inl ⟨q, q2, ef, hc.2.2 m hm (by omega), hpl⟩))
      · exact Or.inr (Or.inr (Or.inr (Or.inl ⟨q, q2, ⟨f, z, hf, ef⟩, hpl⟩)))
  · have q2 : ¬ Inr r m := fun z => q (hi.mp z).1
    have h0 := ho.2.1 m hm q
    have f0 : f = 0 := by omega
    subst f0
    exact Or.inr (Or.inr (Or.inr (Or.inr ⟨q, q2, ef, hp.mpr q2⟩)))
theorem w_add {a b : Int32} : a + (b - a) = b := by
  rw [Int32.add_comm, Int32.sub_add_cancel]
