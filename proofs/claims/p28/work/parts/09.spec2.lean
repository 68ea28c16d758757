/-! ===== what writes a diary's row ===== -/
theorem nI_ne6 {n : Nat} (h : n < 2147483648) : ¬ nI n = -6 := fun z => by
  have h2 := congrArg Int32.toInt z
  rw [toI h, show (-6 : Int32).toInt = -6 from by decide] at h2
  omega
abbrev ny (r : Nat → Int32) : Nat := (r 6).toNatClampNeg
abbrev td (r : Nat → Int32) : Nat := (r 0).toNatClampNeg
abbrev kpn (r : Nat → Int32) : Nat := (r 1).toNatClampNeg
abbrev opn (r : Nat → Int32) : Nat := (r 2).toNatClampNeg
theorem upd_s {f : Nat → Int32} {k : Nat} {x : Int32} : upd f k x k = x := by simp [upd]
theorem upd_n {f : Nat → Int32} {k j : Nat} {x : Int32} (h : j ≠ k) : upd f k x j = f j := by simp [upd, h]
/-- the row of unfolded months holds months -/
def Rx (r : Nat → Int32) (c : Nat) : Prop := ∀ i, i < c → ∃ m, m < 120 ∧ r (7 + i) = nI m
/-- the numbers of a diary's head are in their ranges -/
def Bs (r : Nat → Int32) (n : Nat) : Prop := r 0 = nI (td r) ∧ td r < 3650 ∧ r 1 = nI (kpn r) ∧ kpn r ≤ 12 ∧ r 2 = nI (opn r) ∧ opn r ≤ 6 ∧ r 6 = nI (ny r) ∧ ny r ≤ n ∧ Rx r (ny r)
theorem Bs.mono {r : Nat → Int32} {n k : Nat} (h : Bs r n) (hk : n ≤ k) : Bs r k := by
  obtain ⟨a, b, c, d, e, f, g, i, j⟩ := h
  exact ⟨a, b, c, d, e, f, g, Nat.le_trans i hk, j⟩
/-- a row with the same head -/
theorem Bs.same {r r' : Nat → Int32} {n : Nat} (h : Bs r n) (e0 : r' 0 = r 0) (e1 : r' 1 = r 1) (e2 : r' 2 = r 2) (e6 : r' 6 = r 6) (e7 : ∀ i, i < ny r → r' (7 + i) = r (7 + i)) : Bs r' n := by
  obtain ⟨a, b, c, d, e, f, g, i, j⟩ := h
  unfold Bs
  rw [show td r' = td r by unfold td; rw [e0], show kpn r' = kpn r by unfold kpn; rw [e1], show opn r' = opn r by unfold opn; rw [e2], show ny r' = ny r by unfold ny; rw [e6], e0, e1, e2, e6]
  refine ⟨a, b, c, d, e, f, g, i, fun k hk => ?_⟩
  rw [e7 k hk]
  exact j k hk
/-! fold -/
def fof : Nat → Int32
  | 0 => 3 | 1 => 2 | 2 => 1 | 3 => 0 | _ => -1
theorem fof_s : ∀ k, k < 4 → fof k + (-1) = fof (k + 1) := by decide +kernel
theorem fof_n : ∀ k, k < 4 → fof k = nI (3 - k) := by decide +kernel
theorem fof_i {k : Nat} (h : k ≤ 4) : (fof k).toInt = 3 - (k : Int) := by
  match k, h with
  | 0, _ => rfl
  | 1, _ => rfl
  | 2, _ => rfl
  | 3, _ => rfl
  | 4, _ => rfl
noncomputable def bsj (r : Nat → Int32) (m : Nat) (B : Int) : Nat → Nat
  | 0 => 4
  | k + 1 => cI (siz r m B (3 - (k : Int)) ≠ -6 ∧ (siz r m B (3 - (k : Int))).toInt ≤ (siz r m B ((bsj r m B k : Nat) : Int)).toInt) (3 - k) (bsj r m B k)
theorem bsj_t {r : Nat → Int32} {m k : Nat} {B : Int} (h : siz r m B (3 - (k : Int)) ≠ -6 ∧ (siz r m B (3 - (k : Int))).toInt ≤ (siz r m B ((bsj r m B k : Nat) : Int)).toInt) : bsj r m B (k + 1) = 3 - k := cI_t h
theorem bsj_f {r : Nat → Int32} {m k : Nat} {B : Int} (h : ¬ (siz r m B (3 - (k : Int)) ≠ -6 ∧ (siz r m B (3 - (k : Int))).toInt ≤ (siz r m B ((bsj r m B k : Nat) : Int)).toInt)) : bsj r m B (k + 1) = bsj r m B k := cI_f h
theorem bsj_le (r : Nat → Int32) (m : Nat) (B : Int) : ∀ k, bsj r m B k ≤ 4
  | 0 => Nat.le_refl 4
  | k + 1 => by
    by_cases h : siz r m B (3 - (k : Int)) ≠ -6 ∧ (siz r m B (3 - (k : Int))).toInt ≤ (siz r m B ((bsj r m B k : Nat) : Int)).toInt
    · rw [bsj_t h]; omega
    · rw [bsj_f h]; exact bsj_le r m B k
noncomputable abbrev bst (r : Nat → Int32) (m : Nat) (B : Int) : Nat := bsj r m B 4
noncomputable def fl1 (r : Nat → Int32) (m : Nat) (B : Int) : Nat → Int32 := upd r (135 + m) (cI (bst r m B = 1) (tw r m B) (nI 0))
noncomputable def fl2 (r : Nat → Int32) (m : Nat) (B : Int) : Nat → Int32 := upd (fl1 r m B) (15 + m) (nI (bst r m B + 1))
noncomputable def fl3 (r : Nat → Int32) (m : Nat) (B : Int) : Nat → Int32 := upd (fl2 r m B) 3 (fl2 r m B 3 + szo (fl2 r m B) m)
noncomputable def fld (r : Nat → Int32) (m : Nat) (B : Int) : Nat → Int32 := upd (fl3 r m B) 5 (fl3 r m B 5 + nI 1)
theorem fld_o {r : Nat → Int32} {m j : Nat} {B : Int} (h1 : j ≠ 135 + m) (h2 : j ≠ 15 + m) (h3 : j ≠ 3) (h4 : j ≠ 5) : fld r m B j = r j := by
  unfold fld fl3 fl2 fl1
  rw [upd_n h4, upd_n h3, upd_n h2, upd_n h1]
theorem Bs_fld {r : Nat → Int32} {m n : Nat} {B : Int} (h : Bs r n) (hn : n ≤ 8) : Bs (fld r m B) n :=
  h.same (fld_o (by omega) (by omega) (by omega) (by omega)) (fld_o (by omega) (by omega) (by omega) (by omega)) (fld_o (by omega) (by omega) (by omega) (by omega)) (fld_o (by omega) (by omega) (by omega) (by omega)) (fun i hi => by
    have := h.2.2.2.2.2.2.2.1
    exact fld_o (by omega) (by omega) (by omega) (by omega))
/-! the row of unfolded months -/
def plf (r : Nat → Int32) (m : Nat) : Nat → Nat → Int32
  | 0, _ => -6
  | n + 1, o => if (r (7 + o)).toInt = (m : Int) then nI o else plf r m n (o + 1)
abbrev plo (r : Nat → Int32) (m : Nat) : Int32 := plf r m (ny r) 0
theorem plf_t {r : Nat → Int32} {m c k : Nat} (hk : k < c) (h : (r (7 + k)).toInt = (m : Int)) : plf r m (c - k) k = nI k := by
  rw [show c - k = (c - (k + 1)) + 1 by omega]; exact if_pos h
theorem plf_f {r : Nat → Int32} {m c k : Nat} (hk : k < c) (h : ¬ (r (7 + k)).toInt = (m : Int)) : plf r m (c - k) k = plf r m (c - (k + 1)) (k + 1) := by
  rw [show c - k = (c - (k + 1)) + 1 by omega]; exact if_neg h
theorem plf_e {r : Nat → Int32} {m c k : Nat} (hk : c ≤ k) : plf r m (c - k) k = -6 := by
  rw [show c - k = 0 by omega]; rfl
theorem plf_in (r : Nat → Int32) (m : Nat) : ∀ n o, plf r m n o = -6 ∨ ∃ j, o ≤ j ∧ j < o + n ∧ plf r m n o = nI j ∧ (r (7 + j)).toInt = (m : Int)
  | 0, o => Or.inl rfl
  | n + 1, o => by
    by_cases h : (r (7 + o)).toInt = (m : Int)
    · exact Or.inr ⟨o, Nat.le_refl _, by omega, if_pos h, h⟩
    · have e : plf r m (n + 1) o = plf r m n (o + 1) := if_neg h
      rw [e]
      rcases plf_in r m n (o + 1) with h1 | ⟨j, h0, h1, h2, h3⟩
      · exact Or.inl h1
      · exact Or.inr ⟨j, by omega, by omega, h2, h3⟩
theorem plo_in (r : Nat → Int32) (m : Nat) : plo r m = -6 ∨ ∃ j, j < ny r ∧ plo r m = nI j ∧ (r (7 + j)).toInt = (m : Int) := by
  rcases plf_in r m (ny r) 0 with h | ⟨j, _, h1, h2, h3⟩
  · exact Or.inl h
  · exact Or.inr ⟨j, by omega, h2, h3⟩
def tkk (r : Nat → Int32) (k i : Nat) : Nat → Int32 := fun j => if j = 6 then nI (ny r - 1) else if 7 + k ≤ j ∧ j < 7 + i then r (j + 1) else r j
abbrev tko (r : Nat → Int32) (k : Nat) : Nat → Int32 := tkk r k (ny r - 1)
theorem tkk_6 {r : Nat → Int32} {k i : Nat} : tkk r k i 6 = nI (ny r - 1) := rfl
theorem tkk_o {r : Nat → Int32} {k i j : Nat} (h6 : j ≠ 6) (h : j < 7 + k ∨ 7 + i ≤ j) : tkk r k i j = r j := by
  unfold tkk
  rw [if_neg h6, if_neg (by omega)]
theorem tkk_i {r : Nat → Int32} {k i j : Nat} (h : 7 + k ≤ j) (h2 : j < 7 + i) : tkk r k i j = r (j + 1) := by
  unfold tkk
  rw [if_neg (by omega), if_pos ⟨h, h2⟩]
theorem tkk_0 {r : Nat → Int32} {k : Nat} : upd r 6 (nI (ny r - 1)) = tkk r k k := by
  funext j
  unfold tkk upd
  by_cases h : j = 6
  · rw [if_pos h, if_pos h]
  · rw [if_neg h, if_neg h, if_neg (by omega)]
theorem tkk_s {r : Nat → Int32} {k i : Nat} (h : k ≤ i) : upd (tkk r k i) (7 + i) (tkk r k i (7 + i + 1)) = tkk r k (i + 1) := by
  funext j
  by_cases e : j = 7 + i
  · subst e
    rw [upd_s, tkk_o (by omega) (by omega), tkk_i (by omega) (by omega)]
  · rw [upd_n e]
    by_cases h6 : j = 6
    · subst h6; rfl
    · by_cases q : 7 + k ≤ j ∧ j < 7 + i
      · rw [tkk_i q.1 q.2, tkk_i q.1 (by omega)]
      · rw [tkk_o h6 (by omega), tkk_o h6 (by omega)]
theorem tko_o {r : Nat → Int32} {k j : Nat} (h6 : j ≠ 6) (h : j < 7 + k ∨ 7 + (ny r - 1) ≤ j) : tko r k j = r j := tkk_o h6 h
theorem tko_i {r : Nat → Int32} {k j : Nat} (h : 7 + k ≤ j) (h2 : j < 7 + (ny r - 1)) : tko r k j = r (j + 1) := tkk_i h h2
theorem tko_6 {r : Nat → Int32} {k : Nat} : tko r k 6 = nI (ny r - 1) := rfl
theorem ny_tko {r : Nat → Int32} {k : Nat} (h : ny r ≤ 8) : ny (tko r k) = ny r - 1 := by
  show (nI (ny r - 1)).toNatClampNeg = ny r - 1
  exact nI_clamp (by omega)
theorem Bs_tko {r : Nat → Int32} {k n : Nat} (h : Bs r n) (hn : n ≤ 8) (hk : k < ny r) : Bs (tko r k) (n - 1) := by
  obtain ⟨a, b, c, d, e, f, g, i, j⟩ := h
  have e0 : tko r k 0 = r 0 := tko_o (by omega) (by omega)
  have e1 : tko r k 1 = r 1 := tkk_o (by omega) (by omega)
  have e2 : tko r k 2 = r 2 := tkk_o (by omega) (by omega)
  have e6 := ny_tko (r := r) (k := k) (by omega)
  unfold Bs
  rw [show td (tko r k) = td r by unfold td; rw [e0], show kpn (tko r k) = kpn r by unfold kpn; rw [e1], show opn (tko r k) = opn r by unfold opn; rw [e2], e6, e0, e1, e2]
  refine ⟨a, b, c, d, e, f, rfl, by omega, fun q hq => ?_⟩
  rcases Nat.lt_or_ge q k with h1 | h1
  · rw [tko_o (by omega) (by omega)]; exact j q (by omega)
  · rw [tko_i (by omega) (by omega)]; exact j (q + 1) (by omega)
/-! folding again -/
noncomputable def fgs (r : Nat → Int32) : Nat → Int32 := fld (tko r 0) (r 7).toNatClampNeg (-6)
noncomputable def fgk (r : Nat → Int32) : Nat → Nat → Int32
  | 0 => r
  | j + 1 => fgs (fgk r j)
noncomputable abbrev fga (r : Nat → Int32) : Nat → Int32 := fgk r (ny r - opn r)
theorem Bs_fgs {r : Nat → Int32} {n : Nat} (h : Bs r n) (hn : n ≤ 8) (hc : 0 < ny r) : Bs (fgs r) (n - 1) ∧ ny (fgs r) = ny r - 1 ∧ opn (fgs r) = opn r := by
  have h8 := h.2.2.2.2.2.2.2.1
  refine ⟨Bs_fld (Bs_tko h hn hc) (by omega), ?_, ?_⟩
  · unfold fgs; rw [show ny (fld (tko r 0) (r 7).toNatClampNeg (-6)) = ny (tko r 0) by unfold ny; rw [fld_o (by omega) (by omega) (by omega) (by omega)]]
    exact ny_tko (by omega)
  · unfold fgs opn; rw [fld_o (by omega) (by omega) (by omega) (by omega), tko_o (by omega) (by omega)]
theorem Bs_fgk {r : Nat → Int32} {n : Nat} (h : Bs r n) (hn : n ≤ 8) : ∀ j, j ≤ ny r → Bs (fgk r j) (n - j) ∧ ny (fgk r j) = ny r - j ∧ opn (fgk r j) = opn r
  | 0, _ => ⟨h, rfl, rfl⟩
  | j + 1, hj => by
    obtain ⟨h1, h2, h3⟩ := Bs_fgk h hn j (by omega)
    obtain ⟨g1, g2, g3⟩ := Bs_fgs h1 (by omega) (by omega)
    exact ⟨g1.mono (by omega), by rw [show fgk r (j + 1) = fgs (fgk r j) from rfl, g2, h2]; omega, by rw [show fgk r (j + 1) = fgs (fgk r j) from rfl, g3, h3]⟩
theorem Bs_fga {r : Nat → Int32} (h : Bs r 8) : Bs (fga r) 6 ∧ ny (fga r) ≤ opn (fga r) ∧ opn (fga r) = opn r := by
  obtain ⟨h1, h2, h3⟩ := Bs_fgk h (Nat.le_refl 8) (ny r - opn r) (by omega)
  have ho := h.2.2.2.2.2.1
  have hb := h1.2.2.2.2.2.1
  refine ⟨?_, by rw [h2, h3]; omega, h3⟩
  obtain ⟨a, b, c, d, e, f, g, i, j⟩ := h1
  exact ⟨a, b, c, d, e, f, g, by rw [h2]; omega, j⟩
/-! unfold, to the end, look -/
noncomputable def uf1 (r : Nat → Int32) (m : Nat) : Nat → Int32 := upd r 3 (r 3 + szo r m)
noncomputable def uf2 (r : Nat → Int32) (m : Nat) : Nat → Int32 := upd (uf1 r m) 4 (uf1 r m 4 + nI 1)
noncomputable def ufd (r : Nat → Int32) (m : Nat) : Nat → Int32 := upd (uf2 r m) (15 + m) (nI 0)
theorem ufd_o {r : Nat → Int32} {m j : Nat} (h1 : j ≠ 15 + m) (h2 : j ≠ 3) (h3 : j ≠ 4) : ufd r m j = r j := by
  unfold ufd uf2 uf1
  rw [upd_n h1, upd_n h3, upd_n h2]
theorem Bs_ufd {r : Nat → Int32} {m n : Nat} (h : Bs r n) (hn : n ≤ 8) : Bs (ufd r m) n :=
  h.same (ufd_o (by omega) (by omega) (by omega)) (ufd_o (by omega) (by omega) (by omega)) (ufd_o (by omega) (by omega) (by omega)) (ufd_o (by omega) (by omega) (by omega)) (fun i hi => by
    have := h.2.2.2.2.2.2.2.1
    exact ufd_o (by omega) (by omega) (by omega))
noncomputable def te1 (r : Nat → Int32) (m : Nat) : Nat → Int32 := cI (plo r m = -6) r (tko r (plo r m).toNatClampNeg)
noncomputable def ten (r : Nat → Int32) (m : Nat) : Nat → Int32 := upd (upd (te1 r m) (7 + ny (te1 r m)) (nI m)) 6 (nI (ny (te1 r m) + 1))
theorem Bs_te1 {r : Nat → Int32} {m n : Nat} (h : Bs r n) (hn : n ≤ 8) : Bs (te1 r m) n := by
  unfold te1
  rcases plo_in r m with e | ⟨j, hj, e, _⟩
  · rw [cI_t e]; exact h
  · have h8 := h.2.2.2.2.2.2.2.1
    rw [cI_f (by rw [e]; exact nI_ne6 (by omega)), e, nI_clamp (by omega)]
    exact (Bs_tko h hn hj).mono (by omega)
theorem ny_ten {r : Nat → Int32} {m n : Nat} (h : Bs r n) (hn : n ≤ 8) : ny (ten r m) = ny (te1 r m) + 1 := by
  have h8 := (Bs_te1 (m := m) h hn).2.2.2.2.2.2.2.1
  show (upd _ 6 _ 6).toNatClampNeg = _
  rw [upd_s, nI_clamp (by omega)]
theorem ten_o {r : Nat → Int32} {m j : Nat} (h6 : j ≠ 6) (h7 : j ≠ 7 + ny (te1 r m)) : ten r m j = te1 r m j := by
  unfold ten
  rw [upd_n h6, upd_n h7]
theorem Bs_ten {r : Nat → Int32} {m n : Nat} (h : Bs r n) (hn : n ≤ 7) (hm : m < 120) : Bs (ten r m) (n + 1) := by
  have h1 := Bs_te1 (m := m) h (by omega)
  have h2 := ny_ten (m := m) h (by omega)
  obtain ⟨a, b, c, d, e, f, g, i, j⟩ := h1
  have e0 : ten r m 0 = te1 r m 0 := ten_o (by omega) (by omega)
  have e1 : ten r m 1 = te1 r m 1 := ten_o (by omega) (by omega)
  have e2 : ten r m 2 = te1 r m 2 := ten_o (by omega) (by omega)
  have e6 : ten r m 6 = nI (ny (te1 r m) + 1) := by unfold ten; exact upd_s
  unfold Bs
  rw [show td (ten r m) = td (te1 r m) by unfold td; rw [e0], show kpn (ten r m) = kpn (te1 r m) by unfold kpn; rw [e1], show opn (ten r m) = opn (te1 r m) by unfold opn; rw [e2], h2, e0, e1, e2]
  refine ⟨a, b, c, d, e, f, e6, by omega, fun q hq => ?_⟩
  by_cases z : q = ny (te1 r m)
  · subst z
    refine ⟨m, hm, ?_⟩
    unfold ten
    rw [upd_n (by omega), upd_s]
  · rw [ten_o (by omega) (by omega)]; exact j q (by omega)
noncomputable def lk1 (r : Nat → Int32) (m : Nat) : Nat → Int32 := cI (0 < (r (15 + m)).toInt) (ufd r m) r
noncomputable def lok (r : Nat → Int32) (m : Nat) : Nat → Int32 := cI (m + kpn r ≤ mot (td r) ∧ ¬ (r (15 + m)).toInt = 1) (fga (ten (lk1 r m) m)) r
theorem Bs_lk1 {r : Nat → Int32} {m n : Nat} (h : Bs r n) (hn : n ≤ 8) : Bs (lk1 r m) n := by
  by_cases q : 0 < (r (15 + m)).toInt
  · unfold lk1; rw [cI_t q]; exact Bs_ufd h hn
  · unfold lk1; rw [cI_f q]; exact h
theorem Bs_lok {r : Nat → Int32} {m : Nat} (h : Bs r 7) (hm : m < 120) (hr : ny r ≤ opn r) : Bs (lok r m) 6 ∧ ny (lok r m) ≤ opn (lok r m) := by
  unfold lok
  by_cases q : m + kpn r ≤ mot (td r) ∧ ¬ (r (15 + m)).toInt = 1
  · rw [cI_t q]
    have := Bs_fga (Bs_ten (m := m) (Bs_lk1 (m := m) h (by omega)) (Nat.le_refl 7) hm)
    exact ⟨this.1, this.2.1⟩
  · rw [cI_f q]
    obtain ⟨a, b, c, d, e, f, g, i, j⟩ := h
    exact ⟨⟨a, b, c, d, e, f, g, by omega, j⟩, hr⟩
/-! laying marks -/
noncomputable def lnk (r : Nat → Int32) (m : Nat) : Nat → Nat → Int32
  | 0 => r
  | o + 1 => cI ((lnk r m o (15 + o)).toInt = 2 ∧ (lnk r m o (135 + o)).toInt = (m : Int)) (fld (lnk r m o) o (m : Int)) (lnk r m o)
theorem lnk_t {r : Nat → Int32} {m o : Nat} (h : (lnk r m o (15 + o)).toInt = 2 ∧ (lnk r m o (135 + o)).toInt = (m : Int)) : fld (lnk r m o) o (m : Int) = lnk r m (o + 1) := (cI_t h).symm
theorem lnk_f {r : Nat → Int32} {m o : Nat} (h : ¬ ((lnk r m o (15 + o)).toInt = 2 ∧ (lnk r m o (135 + o)).toInt = (m : Int))) : lnk r m o = lnk r m (o + 1) := (cI_f h).symm
theorem Bs_lnk {r : Nat → Int32} {m n : Nat} (h : Bs r n) (hn : n ≤ 8) : ∀ o, Bs (lnk r m o) n
  | 0 => h
  | o + 1 => by
    by_cases q : (lnk r m o (15 + o)).toInt = 2 ∧ (lnk r m o (135 + o)).toInt = (m : Int)
    · rw [← lnk_t q]; exact Bs_fld (Bs_lnk h hn o) hn
    · rw [← lnk_f q]; exact Bs_lnk h hn o
noncomputable def ly1 (r : Nat → Int32) (m : Nat) : Nat → Int32 := cI (m + kpn r ≤ mot (td r)) (lnk r m 120) r
noncomputable def ly2 (r : Nat → Int32) (m : Nat) : Nat → Int32 := cI (m + kpn r ≤ mot (td r) ∧ 0 < (ly1 r m (15 + m)).toInt) (ufd (ly1 r m) m) (ly1 r m)
noncomputable def lyv (r : Nat → Int32) (s m : Nat) (x : Int32) (P : Prop) : Int32 := cI P (ly2 r m (255 + 16 * m + s) ||| x) (ly2 r m (255 + 16 * m + s) &&& (x ^^^ (-1)))
noncomputable def ly3 (r : Nat → Int32) (s m : Nat) (x : Int32) (P : Prop) : Nat → Int32 := upd (ly2 r m) (255 + 16 * m + s) (lyv r s m x P)
noncomputable def lay (r : Nat → Int32) (s m : Nat) (x : Int32) (P : Prop) : Nat → Int32 := cI (m + kpn r ≤ mot (td r)) (fga (ten (ly3 r s m x P) m)) (ly3 r s m x P)
theorem Bs_ly1 {r : Nat → Int32} {m n : Nat} (h : Bs r n) (hn : n ≤ 8) : Bs (ly1 r m) n := by
  unfold ly1
  by_cases q : m + kpn r ≤ mot (td r)
  · rw [cI_t q]; exact Bs_lnk h hn 120
  · rw [cI_f q]; exact h
theorem Bs_ly2 {r : Nat → Int32} {m n : Nat} (h : Bs r n) (hn : n ≤ 8) : Bs (ly2 r m) n := by
  unfold ly2
  by_cases q : m + kpn r ≤ mot (td r) ∧ 0 < (ly1 r m (15 + m)).toInt
  · rw [cI_t q]; exact Bs_ufd (Bs_ly1 h hn) hn
  · rw [cI_f q]; exact Bs_ly1 h hn
theorem Bs_ly3 {r : Nat → Int32} {s m n : Nat} {x : Int32} {P : Prop} (h : Bs r n) (hn : n ≤ 8) : Bs (ly3 r s m x P) n := by
  have h2 := Bs_ly2 (m := m) h hn
  exact h2.same (upd_n (by omega)) (upd_n (by omega)) (upd_n (by omega)) (upd_n (by omega)) (fun i hi => upd_n (by have := h2.2.2.2.2.2.2.2.1; omega))
