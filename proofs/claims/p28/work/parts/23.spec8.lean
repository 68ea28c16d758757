/-! ===== what holds of a diary at rest, and stays ===== -/
def Ct (r : Nat → Int32) : Prop := Fm r ∧ Bd r ∧ Nm r
theorem Ct_ag {r r' : Nat → Int32} (h : Ct r) (ha : Ag r r') : Ct r' := by
  obtain ⟨a, b, c⟩ := h
  refine ⟨fun m hm => ?_, fun k hk => ?_, fun m hm h2 => ?_⟩
  · rw [ha _ (by omega)]; exact a m hm
  · rw [ha _ (by omega)]; exact b k hk
  · rw [ha _ (by omega)] at h2 ⊢; exact c m hm h2
theorem Ct_fld {r : Nat → Int32} {m : Nat} {B : Int} (h : Ct r) (hm : m < 120) : Ct (fld r m B) := by
  obtain ⟨a, b, c⟩ := h
  have hb : bst r m B ≤ 4 := bsj_le r m B 4
  refine ⟨fun q hq => ?_, fun k hk => ?_, fun q hq h2 => ?_⟩
  · rw [fld_f hm hq]
    by_cases e : q = m
    · rw [if_pos e]; exact ⟨_, by omega, rfl⟩
    · rw [if_neg e]; exact a q hq
  · rw [fld_mk hm (by omega)]; exact b k hk
  · rw [fld_f hm hq] at h2
    rw [fld_n hm hq]
    by_cases e : q = m
    · rw [if_pos e, toI (by omega)] at h2
      obtain ⟨j, hj, ej⟩ := bst_1 (show bst r m B = 1 by omega)
      rw [if_pos e, cI_t (show bst r m B = 1 by omega)]
      exact ⟨j, by omega, ej⟩
    · rw [if_neg e] at h2
      rw [if_neg e]; exact c q hq h2
theorem ufd_f {r : Nat → Int32} {m q : Nat} (hm : m < 120) (hq : q < 120) : ufd r m (15 + q) = if q = m then nI 0 else r (15 + q) := by
  by_cases e : q = m
  · rw [if_pos e, e]; unfold ufd; exact upd_s
  · rw [if_neg e]; exact ufd_o (by omega) (by omega) (by omega)
theorem ufd_3 {r : Nat → Int32} {m : Nat} : ufd r m 3 = r 3 + szo r m := by
  unfold ufd uf2
  rw [upd_n (by omega), upd_n (by omega)]
  unfold uf1
  exact upd_s
theorem ufd_4 {r : Nat → Int32} {m : Nat} : ufd r m 4 = r 4 + nI 1 := by
  unfold ufd
  rw [upd_n (by omega)]
  unfold uf2
  rw [upd_s]
  unfold uf1
  rw [upd_n (by omega)]
theorem Ct_ufd {r : Nat → Int32} {m : Nat} (h : Ct r) (hm : m < 120) : Ct (ufd r m) := by
  obtain ⟨a, b, c⟩ := h
  refine ⟨fun q hq => ?_, fun k hk => ?_, fun q hq h2 => ?_⟩
  · rw [ufd_f hm hq]
    by_cases e : q = m
    · rw [if_pos e]; exact ⟨0, by omega, rfl⟩
    · rw [if_neg e]; exact a q hq
  · rw [ufd_o (by omega) (by omega) (by omega)]; exact b k hk
  · rw [ufd_f hm hq] at h2
    by_cases e : q = m
    · rw [if_pos e] at h2; exact absurd h2 (by decide)
    · rw [if_neg e] at h2
      rw [ufd_o (by omega) (by omega) (by omega)]; exact c q hq h2
theorem dF_ufd {r : Nat → Int32} {m : Nat} (hm : m < 120) : upd (dF r) m (nI 5) = dF (ufd r m) := by
  refine dF_u hm (fun q hq => ?_)
  rw [ufd_f hm hq]
  by_cases e : q = m
  · rw [if_pos e, if_pos e]; rfl
  · rw [if_neg e, if_neg e]
theorem dN_ufd {r : Nat → Int32} {m : Nat} (hm : m < 120) : upd (dN r) m (-6) = dN (ufd r m) := by
  refine dN_u hm (fun q hq => ?_)
  rw [ufd_f hm hq, ufd_o (j := 135 + q) (by omega) (by omega) (by omega)]
  by_cases e : q = m
  · rw [if_pos e, if_pos e]; rfl
  · rw [if_neg e, if_neg e]
theorem dB_ufd {r : Nat → Int32} {m : Nat} (hm : m < 120) : dB (ufd r m) = dB r := dB_e (fun k hk => ufd_o (by omega) (by omega) (by omega))
theorem dW_ufd {r : Nat → Int32} {m : Nat} : dW (ufd r m) = dW r := dW_e (fun k hk => ufd_o (by omega) (by omega) (by omega))
theorem dO_ufd {r : Nat → Int32} {m a b c d : Nat} : (.inr (0, [.int (r 0), .int (r 1), .int (r 2), .int (r 3 + szo r m), .int (r 4 + nI 1), .int (r 5), .int (r 6), .ref a, .ref b, .ref c, .ref d]) : va_E) = dO (ufd r m) a b c d := by
  show (Sum.inr _ : va_E) = Sum.inr _
  rw [ufd_3, ufd_4, ufd_o (j := 0) (by omega) (by omega) (by omega), ufd_o (j := 1) (by omega) (by omega) (by omega), ufd_o (j := 2) (by omega) (by omega) (by omega), ufd_o (j := 5) (by omega) (by omega) (by omega), ufd_o (j := 6) (by omega) (by omega) (by omega)]
theorem plf_c {r r' : Nat → Int32} (h : ∀ k, k < 8 → r' (7 + k) = r (7 + k)) (m : Nat) : ∀ n o, n + o ≤ 8 → plf r' m n o = plf r m n o
  | 0, _, _ => rfl
  | n + 1, o, hn => by
    show (if (r' (7 + o)).toInt = (m : Int) then nI o else plf r' m n (o + 1)) = if (r (7 + o)).toInt = (m : Int) then nI o else plf r m n (o + 1)
    rw [h o (by omega), plf_c h m n (o + 1) (by omega)]
theorem plo_ufd {r : Nat → Int32} {m q : Nat} (hn : ny r ≤ 8) : plo (ufd r m) q = plo r q := by
  show plf (ufd r m) q (ny (ufd r m)) 0 = plf r q (ny r) 0
  rw [show ny (ufd r m) = ny r by unfold ny; rw [ufd_o (by omega) (by omega) (by omega)]]
  exact plf_c (fun k hk => ufd_o (by omega) (by omega) (by omega)) q (ny r) 0 (by omega)
theorem Ag_te1 {r : Nat → Int32} {m n : Nat} (h : Bs r n) (hn : n ≤ 8) : Ag r (te1 r m) := fun j hj => te1_o h hn (Or.inr hj)
theorem Ag_ten {r : Nat → Int32} {m n : Nat} (h : Bs r n) (hn : n ≤ 7) : Ag r (ten r m) := fun j hj => ten_mk h hn (Or.inr hj)
theorem dW_ten {r : Nat → Int32} {m : Nat} (h7 : ny (te1 r m) < 7) : upd (dW (te1 r m)) (ny (te1 r m)) (nI m) = dW (ten r m) := by
  refine dW_u h7 (fun k hk => ?_)
  by_cases e : k = ny (te1 r m)
  · rw [if_pos e, e]
    unfold ten
    rw [upd_n (by omega), upd_s]
  · rw [if_neg e, ten_o (by omega) (by omega)]
theorem dF_ten {r : Nat → Int32} {m : Nat} (h7 : ny (te1 r m) < 8) : dF (ten r m) = dF (te1 r m) := dF_e (fun k hk => ten_o (by omega) (by omega))
theorem dN_ten {r : Nat → Int32} {m : Nat} (h7 : ny (te1 r m) < 8) : dN (ten r m) = dN (te1 r m) := dN_e (fun k hk => ⟨ten_o (by omega) (by omega), ten_o (by omega) (by omega)⟩)
theorem dB_ten {r : Nat → Int32} {m : Nat} (h7 : ny (te1 r m) < 8) : dB (ten r m) = dB (te1 r m) := dB_e (fun k hk => ten_o (by omega) (by omega))
theorem dO_ten {r : Nat → Int32} {m a b c d : Nat} : (.inr (0, [.int (te1 r m 0), .int (te1 r m 1), .int (te1 r m 2), .int (te1 r m 3), .int (te1 r m 4), .int (te1 r m 5), .int (nI (ny (te1 r m) + 1)), .ref a, .ref b, .ref c, .ref d]) : va_E) = dO (ten r m) a b c d := by
  show (Sum.inr _ : va_E) = Sum.inr _
  rw [ten_o (j := 0) (by omega) (by omega), ten_o (j := 1) (by omega) (by omega), ten_o (j := 2) (by omega) (by omega), ten_o (j := 3) (by omega) (by omega), ten_o (j := 4) (by omega) (by omega), ten_o (j := 5) (by omega) (by omega), show ten r m 6 = nI (ny (te1 r m) + 1) by unfold ten; exact upd_s]
theorem Ct_lk1 {r : Nat → Int32} {m : Nat} (h : Ct r) (hm : m < 120) : Ct (lk1 r m) := by
  by_cases q : 0 < (r (15 + m)).toInt
  · unfold lk1; rw [cI_t q]; exact Ct_ufd h hm
  · unfold lk1; rw [cI_f q]; exact h
theorem fgs_e {r : Nat → Int32} {n m0 : Nat} (h : Bs r n) (hn : n ≤ 8) (hm : m0 < 120) (e : r 7 = nI m0) : fgs r = tko (fld r m0 (-6)) 0 := by
  have h8 := h.2.2.2.2.2.2.2.1
  unfold fgs
  rw [e, nI_clamp (by omega)]
  exact fld_tko hm (by omega)
theorem Ct_fgk {r : Nat → Int32} {n : Nat} (h : Bs r n) (hn : n ≤ 8) (hc : Ct r) : ∀ j, j ≤ ny r → Ct (fgk r j)
  | 0, _ => hc
  | j + 1, hj => by
    obtain ⟨h1, h2, h3⟩ := Bs_fgk h hn j (by omega)
    have ih := Ct_fgk h hn hc j (by omega)
    obtain ⟨m0, hm0, em0⟩ := h1.2.2.2.2.2.2.2.2 0 (by omega)
    have h8 := h1.2.2.2.2.2.2.2.1
    show Ct (fgs (fgk r j))
    rw [fgs_e h1 (by omega) hm0 em0]
    have en : ny (fld (fgk r j) m0 (-6)) = ny (fgk r j) := by unfold ny; rw [fld_o (by omega) (by omega) (by omega) (by omega)]
    exact Ct_ag (Ct_fld ih hm0) (ag_tko (by omega))
theorem Ct_lnk {r : Nat → Int32} {m : Nat} (h : Ct r) : ∀ o, o ≤ 120 → Ct (lnk r m o)
  | 0, _ => h
  | o + 1, ho => by
    by_cases q : (lnk r m o (15 + o)).toInt = 2 ∧ (lnk r m o (135 + o)).toInt = (m : Int)
    · rw [← lnk_t q]; exact Ct_fld (Ct_lnk h o (by omega)) (by omega)
    · rw [← lnk_f q]; exact Ct_lnk h o (by omega)
/-- the unfolded months are those that are old and have the form 0; each stands once in the row -/
def Inr (r : Nat → Int32) (m : Nat) : Prop := ∃ i, i < ny r ∧ r (7 + i) = nI m
def Ow (r : Nat → Int32) : Prop := (∀ m, m < 120 → (Inr r m ↔ (m + kpn r ≤ mot (td r) ∧ (r (15 + m)).toInt = 0))) ∧ (∀ m, m < 120 → ¬ (m + kpn r ≤ mot (td r)) → (r (15 + m)).toInt = 0) ∧ (∀ i j, i < j → j < ny r → r (7 + i) ≠ r (7 + j))
def Cv (r : Nat → Int32) : Prop := Br r ∧ 1 ≤ kpn r ∧ Ct r ∧ Ow r
theorem nI_inj {a b : Nat} (ha : a < 2147483648) (hb : b < 2147483648) (h : nI a = nI b) : a = b := (nI_eq ha hb).mp h
theorem plo_Inr {r : Nat → Int32} {m n : Nat} (h : Bs r n) (hn : n ≤ 8) (hm : m < 120) : plo r m = -6 ↔ ¬ Inr r m := by
  have h8 := h.2.2.2.2.2.2.2.1
  constructor
  · intro e hi
    obtain ⟨i, hi, ei⟩ := hi
    have key : ∀ n o, o ≤ i → i < o + n → plf r m n o ≠ -6 := by
      intro n
      induction n with
      | zero => intro o h1 h2; omega
      | succ n ih =>
        intro o h1 h2
        show (if (r (7 + o)).toInt = (m : Int) then nI o else plf r m n (o + 1)) ≠ -6
        by_cases q : (r (7 + o)).toInt = (m : Int)
        · rw [if_pos q]; exact nI_ne6 (by omega)
        · rw [if_neg q]
          rcases Nat.eq_or_lt_of_le h1 with q2 | q2
          · subst q2; rw [ei, toI (by omega)] at q; exact absurd rfl q
          · exact ih (o + 1) (by omega) (by omega)
    exact key (ny r) 0 (Nat.zero_le _) (by omega) e
  · intro hi
    refine (plo_in r m).resolve_right (fun z => hi ?_)
    obtain ⟨j, hj, ej, e⟩ := z
    exact ⟨j, hj, Int32.toInt_inj.mp (by rw [e, toI (by omega)])⟩
/-- a row that is the same but for the form of a folded month -/
theorem Ow_e {r r' : Nat → Int32} (h : Ow r) (e0 : td r' = td r) (e1 : kpn r' = kpn r) (e6 : ny r' = ny r) (e7 : ∀ i, i < ny r → r' (7 + i) = r (7 + i)) (hf : ∀ m, m < 120 → ((r' (15 + m)).toInt = 0 ↔ (r (15 + m)).toInt = 0)) : Ow r' := by
  obtain ⟨a, b, c⟩ := h
  refine ⟨fun m hm => ?_, fun m hm hn => ?_, fun i j hij hj => ?_⟩
  · rw [e0, e1, hf m hm, ← a m hm]
    unfold Inr
    rw [e6]
    constructor
    · rintro ⟨i, hi, ei⟩; exact ⟨i, hi, by rw [← e7 i hi]; exact ei⟩
    · rintro ⟨i, hi, ei⟩; exact ⟨i, hi, by rw [e7 i hi]; exact ei⟩
  · rw [e0, e1] at hn; exact (hf m hm).mpr (b m hm hn)
  · rw [e6] at hj; rw [e7 i (by omega), e7 j hj]; exact c i j hij hj
theorem Ow_fld {r : Nat → Int32} {m n : Nat} {B : Int} (h : Ow r) (hb : Bs r n) (hn : n ≤ 8) (hm : m < 120) (hf : ¬ (r (15 + m)).toInt = 0) : Ow (fld r m B) := by
  have h8 := hb.2.2.2.2.2.2.2.1
  have hbs : bst r m B ≤ 4 := bsj_le r m B 4
  refine Ow_e h (by unfold td; rw [fld_o (by omega) (by omega) (by omega) (by omega)]) (by unfold kpn; rw [fld_o (by omega) (by omega) (by omega) (by omega)]) (by unfold ny; rw [fld_o (by omega) (by omega) (by omega) (by omega)]) (fun i hi => fld_o (by omega) (by omega) (by omega) (by omega)) (fun q hq => ?_)
  rw [fld_f hm hq]
  by_cases e : q = m
  · rw [if_pos e, toI (by omega), e]
    exact ⟨fun z => by omega, fun z => absurd z hf⟩
  · rw [if_neg e]
theorem Ow_fgs {r : Nat → Int32} {n : Nat} (h : Ow r) (hb : Bs r n) (hn : n ≤ 8) (hc : 0 < ny r) : Ow (fgs r) := by
  have h8 := hb.2.2.2.2.2.2.2.1
  obtain ⟨m0, hm0, em0⟩ := hb.2.2.2.2.2.2.2.2 0 hc
  have hRx := hb.2.2.2.2.2.2.2.2
  have em0 : r 7 = nI m0 := em0
  obtain ⟨a, b, c⟩ := h
  rw [fgs_e hb hn hm0 em0]
  have hbs : bst r m0 (-6) ≤ 4 := bsj_le r m0 (-6) 4
  have en : ny (fld r m0 (-6)) = ny r := by unfold ny; rw [fld_o (by omega) (by omega) (by omega) (by omega)]
  have e6 : ny (tko (fld r m0 (-6)) 0) = ny r - 1 := by rw [ny_tko (by omega), en]
  have e0 : td (tko (fld r m0 (-6)) 0) = td r := by unfold td; rw [tko_o (by omega) (by omega), fld_o (by omega) (by omega) (by omega) (by omega)]
  have e1 : kpn (tko (fld r m0 (-6)) 0) = kpn r := by unfold kpn; rw [tko_o (by omega) (by omega), fld_o (by omega) (by omega) (by omega) (by omega)]
  have e7 : ∀ i, i < ny r - 1 → tko (fld r m0 (-6)) 0 (7 + i) = r (7 + (i + 1)) := fun i hi => by
    rw [tko_i (by omega) (by omega), fld_o (by omega) (by omega) (by omega) (by omega)]; rfl
  have ef : ∀ q, q < 120 → tko (fld r m0 (-6)) 0 (15 + q) = if q = m0 then nI (bst r m0 (-6) + 1) else r (15 + q) := fun q hq => by
    rw [tko_o (by omega) (by omega), fld_f hm0 hq]
  have ho := (a m0 hm0).mp ⟨0, hc, em0⟩
  refine ⟨fun m hm => ?_, fun m hm hno => ?_, fun i j hij hj => ?_⟩
  · rw [e0, e1, ef m hm]
    by_cases e : m = m0
    · rw [if_pos e, toI (by omega)]
      constructor
      · rintro ⟨i, hi, ei⟩
        rw [e6] at hi
        rw [e7 i hi, e, ← em0] at ei
        exact absurd ei.symm (c 0 (i + 1) (by omega) (by omega))
      · intro z; omega
    · rw [if_neg e, ← a m hm]
      constructor
      · rintro ⟨i, hi, ei⟩
        rw [e6] at hi
        rw [e7 i hi] at ei
        exact ⟨i + 1, by omega, ei⟩
      · rintro ⟨i, hi, ei⟩
        rcases Nat.eq_zero_or_pos i with q | q
        · subst q
          have ei : r 7 = nI m := ei
          rw [em0] at ei
          exact absurd (nI_inj (by omega) (by omega) ei).symm e
        · refine ⟨i - 1, by rw [e6]; omega, ?_⟩
          rw [e7 (i - 1) (by omega), show i - 1 + 1 = i by omega]; exact ei
  · rw [e0, e1] at hno
    rw [ef m hm]
    by_cases e : m = m0
    · rw [e] at hno; exact absurd ho.1 hno
    · rw [if_neg e]; exact b m hm hno
  · rw [e6] at hj
    rw [e7 i (by omega), e7 j hj]
    exact c (i + 1) (j + 1) (by omega) (by omega)
theorem Ow_fgk {r : Nat → Int32} {n : Nat} (h : Ow r) (hb : Bs r n) (hn : n ≤ 8) : ∀ j, j ≤ ny r → Ow (fgk r j)
  | 0, _ => h
  | j + 1, hj => by
    obtain ⟨h1, h2, h3⟩ := Bs_fgk hb hn j (by omega)
    exact Ow_fgs (Ow_fgk h hb hn j (by omega)) h1 (by omega) (by omega)
/-- an old month is looked at: it stands at the row's end, with the form 0 -/
theorem Ow_ten {r : Nat → Int32} {m : Nat} (h : Ow r) (hb : Bs r 7) (hm : m < 120) (hold : m + kpn r ≤ mot (td r)) (hf : Fm r) : Ow (ten (lk1 r m) m) := by
  have h8 := hb.2.2.2.2.2.2.2.1
  have hRx := hb.2.2.2.2.2.2.2.2
  obtain ⟨a, b, c⟩ := h
  have hb1 := Bs_lk1 (m := m) hb (by omega)
  have hb2 := Bs_te1 (m := m) hb1 (by omega)
  have h82 := hb2.2.2.2.2.2.2.2.1
  have eny := ny_ten (m := m) hb1 (by omega)
  have g : ∀ j, j ≠ 15 + m → j ≠ 3 → j ≠ 4 → lk1 r m j = r j := fun j q1 q2 q3 => by
    unfold lk1
    by_cases q : 0 < (r (15 + m)).toInt
    · rw [cI_t q]; exact ufd_o q1 q2 q3
    · rw [cI_f q]
  have gm : (lk1 r m (15 + m)).toInt = 0 := by
    obtain ⟨f, hf5, ef⟩ := hf m hm
    unfold lk1
    by_cases q : 0 < (r (15 + m)).toInt
    · rw [cI_t q, ufd_f hm hm, if_pos rfl]; rfl
    · rw [cI_f q]; rw [ef, toI (by omega)] at q ⊢; omega
  have e0 : td (ten (lk1 r m) m) = td r := by unfold td; rw [ten_o (by omega) (by omega), te1_o hb1 (by omega) (by omega), g 0 (by omega) (by omega) (by omega)]
  have e1 : kpn (ten (lk1 r m) m) = kpn r := by unfold kpn; rw [ten_o (by omega) (by omega), te1_o hb1 (by omega) (by omega), g 1 (by omega) (by omega) (by omega)]
  have en1 : ny (lk1 r m) = ny r := by unfold ny; rw [g 6 (by omega) (by omega) (by omega)]
  have ef : ∀ q, q < 120 → ten (lk1 r m) m (15 + q) = lk1 r m (15 + q) := fun q hq => ten_mk hb1 (Nat.le_refl 7) (by omega)
  have e7 : ∀ i, i < 7 → lk1 r m (7 + i) = r (7 + i) := fun i hi => g _ (by omega) (by omega) (by omega)
  -- the row without m
  have et : (∀ q, q < 120 → ((∃ i, i < ny (te1 (lk1 r m) m) ∧ te1 (lk1 r m) m (7 + i) = nI q) ↔ (Inr r q ∧ q ≠ m))) ∧ (∀ i j, i < j → j < ny (te1 (lk1 r m) m) → te1 (lk1 r m) m (7 + i) ≠ te1 (lk1 r m) m (7 + j)) := by
    rcases plo_in (lk1 r m) m with e | ⟨k, hk, e, ek⟩
    · have hni : ¬ Inr (lk1 r m) m := (plo_Inr hb1 (by omega) hm).mp e
      have et1 : te1 (lk1 r m) m = lk1 r m := by unfold te1; rw [cI_t e]
      rw [et1, en1]
      refine ⟨fun q hq => ?_, fun i j hij hj => ?_⟩
      · constructor
        · rintro ⟨i, hi, ei⟩
          refine ⟨⟨i, hi, by rw [← e7 i (by omega)]; exact ei⟩, fun z => hni ?_⟩
          subst z
          exact ⟨i, by rw [en1]; exact hi, ei⟩
        · rintro ⟨⟨i, hi, ei⟩, -⟩
          exact ⟨i, hi, by rw [e7 i (by omega)]; exact ei⟩
      · rw [e7 i (by omega), e7 j (by omega)]; exact c i j hij hj
    · have et1 : te1 (lk1 r m) m = tko (lk1 r m) k := by
        unfold te1
        rw [cI_f (by rw [e]; exact nI_ne6 (by omega)), e, nI_clamp (by omega)]
      have ek2 : r (7 + k) = nI m := by
        rw [← e7 k (by omega)]; exact Int32.toInt_inj.mp (by rw [ek, toI (by omega)])
      have et2 : ny (tko (lk1 r m) k) = ny r - 1 := by rw [ny_tko (by omega), en1]
      rw [et1, et2]
      rw [en1] at hk
      have ev : ∀ i, i < ny r - 1 → tko (lk1 r m) k (7 + i) = r (7 + (if i < k then i else i + 1)) := fun i hi => by
        by_cases q : i < k
        · rw [tko_o (by omega) (by omega), if_pos q, e7 i (by omega)]
        · rw [tko_i (by omega) (by omega), if_neg q]; exact e7 (i + 1) (by omega)
      refine ⟨fun q hq => ?_, fun i j hij hj => ?_⟩
      · constructor
        · rintro ⟨i, hi, ei⟩
          rw [ev i hi] at ei
          refine ⟨⟨_, by split <;> omega, ei⟩, fun z => ?_⟩
          subst z
          rw [← ek2] at ei
          by_cases q2 : i < k
          · rw [if_pos q2] at ei; exact c i k q2 hk ei
          · rw [if_neg q2] at ei; exact c k (i + 1) (by omega) (by omega) ei.symm
        · rintro ⟨⟨i, hi, ei⟩, hne⟩
          have hik : i ≠ k := fun z => by
            subst z
            rw [ek2] at ei
            exact hne (nI_inj (by omega) (by omega) ei).symm
          rcases Nat.lt_or_ge i k with q2 | q2
          · exact ⟨i, by omega, by rw [ev i (by omega), if_pos q2]; exact ei⟩
          · exact ⟨i - 1, by omega, by rw [ev (i - 1) (by omega), if_neg (by omega), show i - 1 + 1 = i by omega]; exact ei⟩
      · rw [ev i (by omega), ev j hj]
        by_cases q1 : i < k
        · rw [if_pos q1]
          by_cases q2 : j < k
          · rw [if_pos q2]; exact c i j hij (by omega)
          · rw [if_neg q2]; exact c i (j + 1) (by omega) (by omega)
        · rw [if_neg q1, if_neg (by omega)]; exact c (i + 1) (j + 1) (by omega) (by omega)
  have el : ten (lk1 r m) m (7 + ny (te1 (lk1 r m) m)) = nI m := by
    unfold ten
    rw [upd_n (by omega), upd_s]
  have ee : ∀ i, i < ny (te1 (lk1 r m) m) → ten (lk1 r m) m (7 + i) = te1 (lk1 r m) m (7 + i) := fun i hi => ten_o (by omega) (by omega)
  refine ⟨fun q hq => ?_, fun q hq hno => ?_, fun i j hij hj => ?_⟩
  · rw [e0, e1, ef q hq]
    by_cases eq : q = m
    · rw [eq]
      exact ⟨fun _ => ⟨hold, gm⟩, fun _ => ⟨ny (te1 (lk1 r m) m), by rw [eny]; omega, el⟩⟩
    · rw [g (15 + q) (by omega) (by omega) (by omega), ← a q hq]
      constructor
      · rintro ⟨i, hi, ei⟩
        rw [eny] at hi
        by_cases q3 : i = ny (te1 (lk1 r m) m)
        · subst q3
          rw [el] at ei
          exact absurd (nI_inj (by omega) (by omega) ei).symm eq
        · rw [ee i (by omega)] at ei
          exact ((et.1 q hq).mp ⟨i, by omega, ei⟩).1
      · intro z
        obtain ⟨i, hi, ei⟩ := (et.1 q hq).mpr ⟨z, eq⟩
        exact ⟨i, by rw [eny]; omega, by rw [ee i hi]; exact ei⟩
  · rw [e0, e1] at hno
    rw [ef q hq]
    by_cases eq : q = m
    · rw [eq]; exact gm
    · rw [g (15 + q) (by omega) (by omega) (by omega)]; exact b q hq hno
  · rw [eny] at hj
    by_cases q3 : j = ny (te1 (lk1 r m) m)
    · subst q3
      rw [el, ee i hij]
      intro z
      exact ((et.1 m hm).mp ⟨i, hij, z⟩).2 rfl
    · rw [ee i (by omega), ee j (by omega)]; exact et.2 i j hij (by omega)
theorem Cv_fga {r : Nat → Int32} (hb : Bs r 8) (hk : 1 ≤ kpn r) (hc : Ct r) (ho : Ow r) : Cv (fga r) := by
  have h := Bs_fga hb
  have hkn : kpn (fga r) = kpn r := by
    have key : ∀ j, j ≤ ny r → kpn (fgk r j) = kpn r := by
      intro j
      induction j with
      | zero => intro _; rfl
      | succ j ih =>
        intro hj
        obtain ⟨h1, h2, h3⟩ := Bs_fgk hb (Nat.le_refl 8) j (by omega)
        show kpn (fgs (fgk r j)) = _
        rw [← ih (by omega)]
        unfold fgs kpn
        rw [fld_o (by omega) (by omega) (by omega) (by omega), tko_o (by omega) (by omega)]
    exact key _ (by omega)
  exact ⟨⟨h.1, h.2.1⟩, by rw [hkn]; exact hk, Ct_fgk hb (Nat.le_refl 8) hc _ (by omega), Ow_fgk ho hb (Nat.le_refl 8) _ (by omega)⟩
theorem kpn_ten {r : Nat → Int32} {m : Nat} (hb : Bs r 7) : kpn (ten (lk1 r m) m) = kpn r := by
  unfold kpn
  rw [ten_mk (Bs_lk1 hb (by omega)) (Nat.le_refl 7) (by omega)]
  unfold lk1
  by_cases q : 0 < (r (15 + m)).toInt
  · rw [cI_t q, ufd_o (by omega) (by omega) (by omega)]
  · rw [cI_f q]
theorem Cv_lok {r : Nat → Int32} {m : Nat} (h : Cv r) (hm : m < 120) : Cv (lok r m) := by
  obtain ⟨hb, hk, hc, ho⟩ := h
  have hb7 : Bs r 7 := hb.b (by omega)
  unfold lok
  by_cases q : m + kpn r ≤ mot (td r) ∧ ¬ (r (15 + m)).toInt = 1
  · rw [cI_t q]
    exact Cv_fga (Bs_ten (Bs_lk1 hb7 (by omega)) (Nat.le_refl 7) hm) (by rw [kpn_ten hb7]; exact hk) (Ct_ag (Ct_lk1 hc hm) (Ag_ten (Bs_lk1 hb7 (by omega)) (Nat.le_refl 7))) (Ow_ten ho hb7 hm q.1 hc.1)
  · rw [cI_f q]; exact ⟨hb, hk, hc, ho⟩
theorem Cv_lkk {r : Nat → Int32} {a : Nat} (h : Cv r) : ∀ j, a + j ≤ 120 → Cv (lkk r a j)
  | 0, _ => h
  | j + 1, hj => Cv_lok (Cv_lkk h j (by omega)) (by omega)
theorem Cv_lmk {r : Nat → Int32} {s a : Nat} (h : Cv r) : ∀ j, a + j ≤ 120 → Cv (lmk r s a j)
  | 0, _ => h
  | j + 1, hj => by
    by_cases q : (r (255 + 16 * (a + j) + s)).toInt = 0
    · rw [← lmk_f q]; exact Cv_lmk h j (by omega)
    · rw [← lmk_t q]; exact Cv_lok (Cv_lmk h j (by omega)) (by omega)
theorem Cv_mks {r : Nat → Int32} {f t a : Nat} (h : Cv r) : ∀ j, a + j ≤ 120 → Cv (mks r f t a j)
  | 0, _ => h
  | j + 1, hj => by
    by_cases q : (mnt (a + j) f t).toInt = (mnt (a + j) 0 3649).toInt
    · rw [← mks_f q]; exact Cv_mks h j (by omega)
    · rw [← mks_t q]; exact Cv_lok (Cv_mks h j (by omega)) (by omega)
theorem dB_w {r : Nat → Int32} {s m : Nat} {v : Int32} (hs : s < 16) (hm : m < 120) : upd (dB r) (m * 16 + s) v = dB (upd r (255 + 16 * m + s) v) := by
  refine dB_u (by omega) (fun k hk => ?_)
  by_cases e : k = m * 16 + s
  · rw [if_pos e, show 255 + k = 255 + 16 * m + s by omega, upd_s]
  · rw [if_neg e, upd_n (by omega)]
theorem te1_in {r : Nat → Int32} {m k : Nat} (hpf : plo r m = -6 ↔ 0 < (r (15 + m)).toInt) (e : plo r m = nI k) (hk : k < 2147483648) : te1 (lk1 r m) m = tko r k := by
  have h0 : ¬ 0 < (r (15 + m)).toInt := fun z => by
    have := hpf.mpr z
    rw [e] at this
    exact nI_ne6 hk this
  have el : lk1 r m = r := by unfold lk1; rw [cI_f h0]
  rw [el]
  unfold te1
  rw [cI_f (by rw [e]; exact nI_ne6 hk), e, nI_clamp hk]
theorem te1_out {r : Nat → Int32} {m : Nat} (h0 : 0 < (r (15 + m)).toInt) (e : plo r m = -6) (hn : ny r ≤ 8) : te1 (lk1 r m) m = ufd r m := by
  have el : lk1 r m = ufd r m := by unfold lk1; rw [cI_t h0]
  rw [el]
  unfold te1
  rw [cI_t (by rw [plo_ufd hn]; exact e)]
theorem cfm_e {x : Int32} (h : ∃ f, f ≤ 5 ∧ x = nI f) : (cfm x).toInt = 0 ↔ x.toInt = 1 := by
  obtain ⟨f, hf, rfl⟩ := h
  rw [cfm_f hf, toI (by have := cfn_le hf; omega), toI (by omega)]
  unfold cfn
  rcases Nat.eq_zero_or_pos f with q | q
  · subst q; exact ⟨fun z => absurd z (by decide), fun z => absurd z (by decide)⟩
  · rw [if_neg (by omega)]; omega
theorem plo_f {r : Nat → Int32} {m : Nat} (h : Cv r) (hm : m < 120) (hold : m + kpn r ≤ mot (td r)) : plo r m = -6 ↔ 0 < (r (15 + m)).toInt := by
  obtain ⟨f, hf, ef⟩ := h.2.2.1.1 m hm
  rw [plo_Inr h.1.1 (by omega) hm, h.2.2.2.1 m hm, ef, toI (by omega)]
  exact ⟨fun z => by omega, fun z q => by omega⟩
