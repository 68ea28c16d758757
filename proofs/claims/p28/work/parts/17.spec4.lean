/-! ===== texts: the pad p of n signs; the sign at a place, numbers, ranges, orders, the fault ===== -/
def sgn (p : Nat → Int32) (n i : Nat) : Int32 := if i < n then p i else -6
/-- the sign at a place, as a number (-6 behind the end) -/
abbrev sg (p : Nat → Int32) (n i : Nat) : Int := (sgn p n i).toInt
theorem sg_lt {p : Nat → Int32} {n i : Nat} (h : 0 ≤ sg p n i) : i < n := by
  rcases Nat.lt_or_ge i n with q | q
  · exact q
  · unfold sg sgn at h; rw [if_neg (by omega)] at h; exact absurd h (by decide)
def dgP (p : Nat → Int32) (n i : Nat) : Prop := 48 ≤ sg p n i ∧ sg p n i ≤ 57
def dv (p : Nat → Int32) (n i : Nat) : Nat := (sg p n i - 48).toNat
theorem dv_in {p : Nat → Int32} {n i : Nat} (h : dgP p n i) : ((dv p n i : Nat) : Int) = sg p n i - 48 ∧ dv p n i ≤ 9 := by
  unfold dgP at h; unfold dv; omega
def cnt (p : Nat → Int32) (n v i : Nat) : Prop := dgP p n i ∧ ¬ v = 0 ∧ 10 * v + dv p n i < 3650
noncomputable def nfv (p : Nat → Int32) (n : Nat) : Nat → Nat → Nat → Nat
  | 0, v, _ => v
  | f + 1, v, i => cI (cnt p n v i) (nfv p n f (10 * v + dv p n i) (i + 1)) v
noncomputable def nfe (p : Nat → Int32) (n : Nat) : Nat → Nat → Nat → Nat
  | 0, _, i => i
  | f + 1, v, i => cI (cnt p n v i) (nfe p n f (10 * v + dv p n i) (i + 1)) i
/-- the number that goes on at place i with the value v so far: its value, its end -/
noncomputable abbrev nV (p : Nat → Int32) (n v i : Nat) : Nat := nfv p n (81 - i) v i
noncomputable abbrev nW (p : Nat → Int32) (n v i : Nat) : Nat := nfe p n (81 - i) v i
theorem cnt_lt {p : Nat → Int32} {n v i : Nat} (h : cnt p n v i) : i < n := sg_lt (p := p) (n := n) (by have := h.1.1; omega)
theorem nV_t {p : Nat → Int32} {n v i : Nat} (hn : n ≤ 80) (h : cnt p n v i) : nV p n v i = nV p n (10 * v + dv p n i) (i + 1) := by
  have := cnt_lt h
  show nfv p n (81 - i) v i = _
  rw [show 81 - i = (81 - (i + 1)) + 1 by omega]; exact cI_t h
theorem nV_f {p : Nat → Int32} {n v i : Nat} (h : ¬ cnt p n v i) : nV p n v i = v := by
  show nfv p n (81 - i) v i = _
  rcases Nat.eq_zero_or_pos (81 - i) with q | q
  · rw [q]; rfl
  · rw [show 81 - i = (81 - i - 1) + 1 by omega]; exact cI_f h
theorem nW_t {p : Nat → Int32} {n v i : Nat} (hn : n ≤ 80) (h : cnt p n v i) : nW p n v i = nW p n (10 * v + dv p n i) (i + 1) := by
  have := cnt_lt h
  show nfe p n (81 - i) v i = _
  rw [show 81 - i = (81 - (i + 1)) + 1 by omega]; exact cI_t h
theorem nW_f {p : Nat → Int32} {n v i : Nat} (h : ¬ cnt p n v i) : nW p n v i = i := by
  show nfe p n (81 - i) v i = _
  rcases Nat.eq_zero_or_pos (81 - i) with q | q
  · rw [q]; rfl
  · rw [show 81 - i = (81 - i - 1) + 1 by omega]; exact cI_f h
theorem nfe_in {p : Nat → Int32} {n : Nat} : ∀ f v i, i ≤ n → i ≤ nfe p n f v i ∧ nfe p n f v i ≤ n
  | 0, v, i, h => ⟨Nat.le_refl _, h⟩
  | f + 1, v, i, h => by
    by_cases q : cnt p n v i
    · have e : nfe p n (f + 1) v i = nfe p n f (10 * v + dv p n i) (i + 1) := cI_t q
      have := nfe_in (p := p) (n := n) f (10 * v + dv p n i) (i + 1) (cnt_lt q)
      rw [e]; omega
    · have e : nfe p n (f + 1) v i = i := cI_f q
      rw [e]; omega
theorem nfv_in {p : Nat → Int32} {n : Nat} : ∀ f v i, v < 3650 → nfv p n f v i < 3650
  | 0, v, i, h => h
  | f + 1, v, i, h => by
    by_cases q : cnt p n v i
    · have e : nfv p n (f + 1) v i = nfv p n f (10 * v + dv p n i) (i + 1) := cI_t q
      rw [e]; exact nfv_in f _ _ q.2.2
    · have e : nfv p n (f + 1) v i = v := cI_f q
      rw [e]; exact h
/-- the number at place i: its end (i itself where there is no digit), its value -/
noncomputable def nE (p : Nat → Int32) (n i : Nat) : Nat := cI (dgP p n i) (nW p n (dv p n i) (i + 1)) i
noncomputable def nuV (p : Nat → Int32) (n i : Nat) : Nat := nV p n (dv p n i) (i + 1)
noncomputable def nR (p : Nat → Int32) (n i : Nat) : Int32 := cI (dgP p n i ∧ ¬ dgP p n (nE p n i)) (nI (nuV p n i)) (-6)
theorem nE_f {p : Nat → Int32} {n i : Nat} (h : ¬ dgP p n i) : nE p n i = i := cI_f h
theorem nE_t {p : Nat → Int32} {n i : Nat} (h : dgP p n i) : nE p n i = nW p n (dv p n i) (i + 1) := cI_t h
theorem nE_in {p : Nat → Int32} {n i : Nat} (h : i ≤ n) : i ≤ nE p n i ∧ nE p n i ≤ n := by
  by_cases q : dgP p n i
  · have h1 : i < n := sg_lt (p := p) (n := n) (by have := q.1; omega)
    have : i + 1 ≤ nW p n (dv p n i) (i + 1) ∧ nW p n (dv p n i) (i + 1) ≤ n := nfe_in (p := p) (n := n) (81 - (i + 1)) (dv p n i) (i + 1) h1
    rw [nE_t q]; exact ⟨by have := this.1; omega, this.2⟩
  · rw [nE_f q]; omega
theorem nE_gt {p : Nat → Int32} {n i : Nat} (h : dgP p n i) : i < nE p n i := by
  have h1 : i < n := sg_lt (p := p) (n := n) (by have := h.1; omega)
  have : i + 1 ≤ nW p n (dv p n i) (i + 1) ∧ nW p n (dv p n i) (i + 1) ≤ n := nfe_in (p := p) (n := n) (81 - (i + 1)) (dv p n i) (i + 1) h1
  rw [nE_t h]; have := this.1; omega
theorem nuV_in {p : Nat → Int32} {n i : Nat} (h : dgP p n i) : nuV p n i < 3650 := nfv_in _ _ _ (by have := (dv_in h).2; omega)
theorem nR_6 {p : Nat → Int32} {n i : Nat} : (nR p n i).toInt = -6 ↔ ¬ (dgP p n i ∧ ¬ dgP p n (nE p n i)) := by
  by_cases q : dgP p n i ∧ ¬ dgP p n (nE p n i)
  · have e : nR p n i = nI (nuV p n i) := cI_t q
    have := nuV_in q.1
    rw [e, toI (by omega)]
    exact ⟨fun z => by omega, fun z => absurd q z⟩
  · have e : nR p n i = -6 := cI_f q
    rw [e]; exact ⟨fun _ => q, fun _ => by decide⟩
theorem nR_t {p : Nat → Int32} {n i : Nat} (h : dgP p n i ∧ ¬ dgP p n (nE p n i)) : nR p n i = nI (nuV p n i) := cI_t h
theorem nR_f {p : Nat → Int32} {n i : Nat} (h : ¬ (dgP p n i ∧ ¬ dgP p n (nE p n i))) : nR p n i = -6 := cI_f h
/-- one range at place j: whether its signs can stand there, its end or the place that is wrong -/
def rF (p : Nat → Int32) (n j : Nat) : Prop := dgP p n j ∧ (sg p n (nE p n j) = 45 → dgP p n (nE p n j + 1))
noncomputable def rL (p : Nat → Int32) (n j : Nat) : Nat := cI (dgP p n j) (cI (sg p n (nE p n j) = 45) (nE p n (nE p n j + 1)) (nE p n j)) j
theorem rL_in {p : Nat → Int32} {n j : Nat} (h : j ≤ n) : j ≤ rL p n j ∧ rL p n j ≤ n := by
  have h1 := nE_in (p := p) h
  unfold rL
  by_cases q : dgP p n j
  · rw [cI_t q]
    by_cases q2 : sg p n (nE p n j) = 45
    · have := sg_lt (p := p) (n := n) (i := nE p n j) (by omega)
      have := nE_in (p := p) (n := n) (i := nE p n j + 1) (by omega)
      rw [cI_t q2]; omega
    · rw [cI_f q2]; omega
  · rw [cI_f q]; omega
noncomputable def rge (p : Nat → Int32) (n : Nat) : Nat → Nat → Nat
  | 0, j => j
  | f + 1, j => cI (rF p n j ∧ sg p n (rL p n j) = 44) (rge p n f (rL p n j + 1)) (rL p n j)
noncomputable def rgo (p : Nat → Int32) (n : Nat) : Nat → Nat → Prop
  | 0, _ => False
  | f + 1, j => cI (rF p n j ∧ sg p n (rL p n j) = 44) (rgo p n f (rL p n j + 1)) (rF p n j)
/-- the ranges from place j on: their end, whether their signs can stand there -/
noncomputable abbrev rgE (p : Nat → Int32) (n j : Nat) : Nat := rge p n (82 - j) j
noncomputable abbrev rgO (p : Nat → Int32) (n j : Nat) : Prop := rgo p n (82 - j) j
/-- more fuel changes nothing -/
theorem rge_more {p : Nat → Int32} {n : Nat} : ∀ f g j, j ≤ n → n + 1 - j ≤ f → n + 1 - j ≤ g → rge p n f j = rge p n g j ∧ (rgo p n f j ↔ rgo p n g j)
  | 0, g, j, h, hf, hg => by omega
  | f + 1, 0, j, h, hf, hg => by omega
  | f + 1, g + 1, j, h, hf, hg => by
    have hL := rL_in (p := p) h
    by_cases q : rF p n j ∧ sg p n (rL p n j) = 44
    · have h1 := sg_lt (p := p) (n := n) (i := rL p n j) (by omega)
      have a := rge_more (p := p) (n := n) f g (rL p n j + 1) (by omega) (by omega) (by omega)
      have e1 : rge p n (f + 1) j = rge p n f (rL p n j + 1) := cI_t q
      have e2 : rge p n (g + 1) j = rge p n g (rL p n j + 1) := cI_t q
      have e3 : rgo p n (f + 1) j = rgo p n f (rL p n j + 1) := cI_t q
      have e4 : rgo p n (g + 1) j = rgo p n g (rL p n j + 1) := cI_t q
      rw [e1, e2, e3, e4]
      exact a
    · have e1 : rge p n (f + 1) j = rL p n j := cI_f q
      have e2 : rge p n (g + 1) j = rL p n j := cI_f q
      have e3 : rgo p n (f + 1) j = rF p n j := cI_f q
      have e4 : rgo p n (g + 1) j = rF p n j := cI_f q
      rw [e1, e2, e3, e4]
      exact ⟨rfl, Iff.rfl⟩
theorem rg_t {p : Nat → Int32} {n j : Nat} (hn : n ≤ 80) (h : j ≤ n) (q : rF p n j ∧ sg p n (rL p n j) = 44) : rgE p n j = rgE p n (rL p n j + 1) ∧ (rgO p n j ↔ rgO p n (rL p n j + 1)) := by
  have hL := rL_in (p := p) h
  have h1 := sg_lt (p := p) (n := n) (i := rL p n j) (by omega)
  have b := rge_more (p := p) (n := n) (82 - j - 1) (82 - (rL p n j + 1)) (rL p n j + 1) (by omega) (by omega) (by omega)
  have e2 : rge p n (82 - j - 1 + 1) j = rge p n (82 - j - 1) (rL p n j + 1) := cI_t q
  have e4 : rgo p n (82 - j - 1 + 1) j = rgo p n (82 - j - 1) (rL p n j + 1) := cI_t q
  unfold rgE rgO
  rw [show 82 - j = (82 - j - 1) + 1 by omega, e2, e4]
  exact b
theorem rg_f {p : Nat → Int32} {n j : Nat} (hj : j ≤ 81) (q : ¬ (rF p n j ∧ sg p n (rL p n j) = 44)) : rgE p n j = rL p n j ∧ (rgO p n j ↔ rF p n j) := by
  have e2 : rge p n (82 - j - 1 + 1) j = rL p n j := cI_f q
  have e4 : rgo p n (82 - j - 1 + 1) j = rF p n j := cI_f q
  unfold rgE rgO
  rw [show 82 - j = (82 - j - 1) + 1 by omega, e2, e4]
  exact ⟨rfl, Iff.rfl⟩
theorem rgE_in {p : Nat → Int32} {n : Nat} : ∀ f j, j ≤ n → j ≤ rge p n f j ∧ rge p n f j ≤ n
  | 0, j, h => ⟨Nat.le_refl _, h⟩
  | f + 1, j, h => by
    have hL := rL_in (p := p) h
    by_cases q : rF p n j ∧ sg p n (rL p n j) = 44
    · have h1 := sg_lt (p := p) (n := n) (i := rL p n j) (by omega)
      have e1 : rge p n (f + 1) j = rge p n f (rL p n j + 1) := cI_t q
      have := rgE_in (p := p) (n := n) f (rL p n j + 1) (by omega)
      rw [e1]; omega
    · have e1 : rge p n (f + 1) j = rL p n j := cI_f q
      rw [e1]; omega
/-- an order at place i -/
noncomputable def oE (p : Nat → Int32) (n i : Nat) : Nat := cI (sg p n i = 112) (nE p n (i + 1)) (cI (sg p n i = 109 ∨ sg p n i = 99) (cI (97 ≤ sg p n (i + 1) ∧ sg p n (i + 1) ≤ 112) (cI (sg p n (i + 2) = 58) (rgE p n (i + 3)) (i + 2)) (i + 1)) i)
noncomputable def oF (p : Nat → Int32) (n i : Nat) : Prop := cI (sg p n i = 112) (dgP p n (i + 1)) (cI (sg p n i = 109 ∨ sg p n i = 99) (cI (97 ≤ sg p n (i + 1) ∧ sg p n (i + 1) ≤ 112) (cI (sg p n (i + 2) = 58) (rgO p n (i + 3)) False) False) False)
theorem oE_in {p : Nat → Int32} {n i : Nat} (h : i ≤ n) : i ≤ oE p n i ∧ oE p n i ≤ n := by
  unfold oE
  by_cases q : sg p n i = 112
  · have h1 := sg_lt (p := p) (n := n) (i := i) (by omega)
    have := nE_in (p := p) (n := n) (i := i + 1) (by omega)
    rw [cI_t q]; omega
  · rw [cI_f q]
    by_cases q2 : sg p n i = 109 ∨ sg p n i = 99
    · have h1 := sg_lt (p := p) (n := n) (i := i) (by omega)
      rw [cI_t q2]
      by_cases q3 : 97 ≤ sg p n (i + 1) ∧ sg p n (i + 1) ≤ 112
      · have h2 := sg_lt (p := p) (n := n) (i := i + 1) (by omega)
        rw [cI_t q3]
        by_cases q4 : sg p n (i + 2) = 58
        · have h3 := sg_lt (p := p) (n := n) (i := i + 2) (by omega)
          have : i + 3 ≤ rgE p n (i + 3) ∧ rgE p n (i + 3) ≤ n := rgE_in (p := p) (n := n) (82 - (i + 3)) (i + 3) (by omega)
          rw [cI_t q4]; omega
        · rw [cI_f q4]; omega
      · rw [cI_f q3]; omega
    · rw [cI_f q2]; omega
noncomputable def flt (p : Nat → Int32) (n : Nat) : Nat → Nat → Int32
  | 0, _ => -6
  | f + 1, i => cI (oF p n i ∧ sg p n (oE p n i) = 59) (flt p n f (oE p n i + 1)) (cI (oF p n i ∧ n ≤ oE p n i) (-6) (nI (oE p n i)))
noncomputable def fle (p : Nat → Int32) (n : Nat) : Nat → Nat → Nat
  | 0, i => i
  | f + 1, i => cI (oF p n i ∧ sg p n (oE p n i) = 59) (fle p n f (oE p n i + 1)) (oE p n i)
/-- the fault of a text from its order at place i on; where its reading ends -/
noncomputable abbrev fV (p : Nat → Int32) (n i : Nat) : Int32 := flt p n (82 - i) i
noncomputable abbrev fW (p : Nat → Int32) (n i : Nat) : Nat := fle p n (82 - i) i
theorem fl_more {p : Nat → Int32} {n : Nat} : ∀ f g i, i ≤ n → n + 1 - i ≤ f → n + 1 - i ≤ g → flt p n f i = flt p n g i ∧ fle p n f i = fle p n g i
  | 0, g, j, h, hf, hg => by omega
  | f + 1, 0, j, h, hf, hg => by omega
  | f + 1, g + 1, j, h, hf, hg => by
    have hL := oE_in (p := p) h
    by_cases q : oF p n j ∧ sg p n (oE p n j) = 59
    · have h1 := sg_lt (p := p) (n := n) (i := oE p n j) (by omega)
      have a := fl_more (p := p) (n := n) f g (oE p n j + 1) (by omega) (by omega) (by omega)
      have e1 : flt p n (f + 1) j = flt p n f (oE p n j + 1) := cI_t q
      have e2 : flt p n (g + 1) j = flt p n g (oE p n j + 1) := cI_t q
      have e3 : fle p n (f + 1) j = fle p n f (oE p n j + 1) := cI_t q
      have e4 : fle p n (g + 1) j = fle p n g (oE p n j + 1) := cI_t q
      rw [e1, e2, e3, e4]
      exact a
    · have e1 : flt p n (f + 1) j = cI (oF p n j ∧ n ≤ oE p n j) (-6) (nI (oE p n j)) := cI_f q
      have e2 : flt p n (g + 1) j = cI (oF p n j ∧ n ≤ oE p n j) (-6) (nI (oE p n j)) := cI_f q
      have e3 : fle p n (f + 1) j = oE p n j := cI_f q
      have e4 : fle p n (g + 1) j = oE p n j := cI_f q
      rw [e1, e2, e3, e4]
      exact ⟨rfl, rfl⟩
theorem fV_t {p : Nat → Int32} {n j : Nat} (hn : n ≤ 80) (h : j ≤ n) (q : oF p n j ∧ sg p n (oE p n j) = 59) : fV p n j = fV p n (oE p n j + 1) ∧ fW p n j = fW p n (oE p n j + 1) := by
  have hL := oE_in (p := p) h
  have h1 := sg_lt (p := p) (n := n) (i := oE p n j) (by omega)
  have b := fl_more (p := p) (n := n) (82 - j - 1) (82 - (oE p n j + 1)) (oE p n j + 1) (by omega) (by omega) (by omega)
  have e2 : flt p n (82 - j - 1 + 1) j = flt p n (82 - j - 1) (oE p n j + 1) := cI_t q
  have e4 : fle p n (82 - j - 1 + 1) j = fle p n (82 - j - 1) (oE p n j + 1) := cI_t q
  unfold fV fW
  rw [show 82 - j = (82 - j - 1) + 1 by omega, e2, e4]
  exact b
theorem fV_f {p : Nat → Int32} {n j : Nat} (hj : j ≤ 81) (q : ¬ (oF p n j ∧ sg p n (oE p n j) = 59)) : fV p n j = cI (oF p n j ∧ n ≤ oE p n j) (-6) (nI (oE p n j)) ∧ fW p n j = oE p n j := by
  have e2 : flt p n (82 - j - 1 + 1) j = cI (oF p n j ∧ n ≤ oE p n j) (-6) (nI (oE p n j)) := cI_f q
  have e4 : fle p n (82 - j - 1 + 1) j = oE p n j := cI_f q
  unfold fV fW
  rw [show 82 - j = (82 - j - 1) + 1 by omega, e2, e4]
  exact ⟨rfl, rfl⟩
/-- the value of the number at place i after k more digits -/
def vk (p : Nat → Int32) (n i : Nat) : Nat → Nat
  | 0 => dv p n i
  | k + 1 => 10 * vk p n i k + dv p n (i + 1 + k)
theorem dv_sub {p : Nat → Int32} {n i : Nat} (h : dgP p n i) : sgn p n i - nI 48 = nI (dv p n i) := by
  have h1 := dv_in h
  have h2 : sgn p n i = nI (dv p n i + 48) := by
    apply Int32.toInt_inj.mp
    rw [toI (by omega)]
    have : sg p n i = (sgn p n i).toInt := rfl
    omega
  rw [h2, pk_sub (by omega), Nat.add_sub_cancel]
theorem dv_sub2 {p : Nat → Int32} {n i a : Nat} (h : dgP p n i) : nI a + sgn p n i - nI 48 = nI (a + dv p n i) := by
  rw [Int32.sub_eq_add_neg, Int32.add_assoc, ← Int32.sub_eq_add_neg, dv_sub h, nI_add]
theorem dg_ne {p : Nat → Int32} {n i : Nat} (h : dgP p n i) : ¬ sg p n i = 44 ∧ ¬ sg p n i = 45 ∧ ¬ sg p n i = 59 ∧ i < n := by
  have h1 := h.1
  have h2 := h.2
  exact ⟨by omega, by omega, by omega, sg_lt (p := p) (n := n) (by omega)⟩
theorem rr_a {p : Nat → Int32} {n j : Nat} (hj : j ≤ 81) (h : ¬ (dgP p n j ∧ ¬ dgP p n (nE p n j))) : rgE p n j = nE p n j ∧ ¬ (rgO p n j ∧ ¬ dgP p n (rgE p n j)) := by
  by_cases q : dgP p n j
  · have q2 : dgP p n (nE p n j) := Classical.byContradiction (fun z => h ⟨q, z⟩)
    have hne := dg_ne q2
    have eL : rL p n j = nE p n j := by unfold rL; rw [cI_t q, cI_f hne.2.1]
    have hf := rg_f (p := p) (n := n) hj (fun z => hne.1 (by rw [← eL]; exact z.2))
    rw [hf.1, eL]
    exact ⟨rfl, fun z => z.2 q2⟩
  · have eL : rL p n j = j := by unfold rL; rw [cI_f q]
    have hf := rg_f (p := p) (n := n) hj (fun z => q z.1.1)
    rw [hf.1, eL, nE_f q]
    exact ⟨rfl, fun z => q (hf.2.mp z.1).1⟩
theorem rr_b {p : Nat → Int32} {n j : Nat} (hj : j ≤ 81) (h1 : dgP p n j) (h2 : sg p n (nE p n j) = 45) (h : ¬ (dgP p n (nE p n j + 1) ∧ ¬ dgP p n (nE p n (nE p n j + 1)))) : rgE p n j = nE p n (nE p n j + 1) ∧ ¬ (rgO p n j ∧ ¬ dgP p n (rgE p n j)) := by
  have eL : rL p n j = nE p n (nE p n j + 1) := by unfold rL; rw [cI_t h1, cI_t h2]
  by_cases q : dgP p n (nE p n j + 1)
  · have q2 : dgP p n (nE p n (nE p n j + 1)) := Classical.byContradiction (fun z => h ⟨q, z⟩)
    have hne := dg_ne q2
    have hf := rg_f (p := p) (n := n) hj (fun z => hne.1 (by rw [← eL]; exact z.2))
    rw [hf.1, eL]
    exact ⟨rfl, fun z => z.2 q2⟩
  · have hf := rg_f (p := p) (n := n) hj (fun z => q (z.1.2 h2))
    rw [hf.1, eL]
    exact ⟨rfl, fun z => q ((hf.2.mp z.1).2 h2)⟩
theorem rL_1 {p : Nat → Int32} {n j : Nat} (h1 : dgP p n j) (h2 : ¬ sg p n (nE p n j) = 45) : rL p n j = nE p n j := by unfold rL; rw [cI_t h1, cI_f h2]
theorem rL_2 {p : Nat → Int32} {n j : Nat} (h1 : dgP p n j) (h2 : sg p n (nE p n j) = 45) : rL p n j = nE p n (nE p n j + 1) := by unfold rL; rw [cI_t h1, cI_t h2]
theorem o_p {p : Nat → Int32} {n i : Nat} (h : sg p n i = 112) : oE p n i = nE p n (i + 1) ∧ (oF p n i ↔ dgP p n (i + 1)) := by
  unfold oE oF; rw [cI_t h, cI_t h]; exact ⟨rfl, Iff.rfl⟩
theorem o_n {p : Nat → Int32} {n i : Nat} (h : ¬ sg p n i = 112) (h2 : ¬ (sg p n i = 109 ∨ sg p n i = 99)) : oE p n i = i ∧ ¬ oF p n i := by
  unfold oE oF; rw [cI_f h, cI_f h, cI_f h2, cI_f h2]; exact ⟨rfl, fun z => z⟩
theorem o_s {p : Nat → Int32} {n i : Nat} (h2 : sg p n i = 109 ∨ sg p n i = 99) (h3 : ¬ (97 ≤ sg p n (i + 1) ∧ sg p n (i + 1) ≤ 112)) : oE p n i = i + 1 ∧ ¬ oF p n i := by
  have h : ¬ sg p n i = 112 := by omega
  unfold oE oF; rw [cI_f h, cI_f h, cI_t h2, cI_t h2, cI_f h3, cI_f h3]; exact ⟨rfl, fun z => z⟩
theorem o_c {p : Nat → Int32} {n i : Nat} (h2 : sg p n i = 109 ∨ sg p n i = 99) (h3 : 97 ≤ sg p n (i + 1) ∧ sg p n (i + 1) ≤ 112) (h4 : ¬ sg p n (i + 2) = 58) : oE p n i = i + 2 ∧ ¬ oF p n i := by
  have h : ¬ sg p n i = 112 := by omega
  unfold oE oF; rw [cI_f h, cI_f h, cI_t h2, cI_t h2, cI_t h3, cI_t h3, cI_f h4, cI_f h4]; exact ⟨rfl, fun z => z⟩
theorem o_r {p : Nat → Int32} {n i : Nat} (h2 : sg p n i = 109 ∨ sg p n i = 99) (h3 : 97 ≤ sg p n (i + 1) ∧ sg p n (i + 1) ≤ 112) (h4 : sg p n (i + 2) = 58) : oE p n i = rgE p n (i + 3) ∧ (oF p n i ↔ rgO p n (i + 3)) := by
  have h : ¬ sg p n i = 112 := by omega
  unfold oE oF; rw [cI_f h, cI_f h, cI_t h2, cI_t h2, cI_t h3, cI_t h3, cI_t h4, cI_t h4]; exact ⟨rfl, Iff.rfl⟩
theorem ff_a {p : Nat → Int32} {n i : Nat} (hi : i ≤ 81) (h : ¬ (oF p n i ∧ ¬ dgP p n (oE p n i))) : fV p n i = nI (oE p n i) ∧ fW p n i = oE p n i := by
  have hd : oF p n i → dgP p n (oE p n i) := fun z => Classical.byContradiction (fun q => h ⟨z, q⟩)
  have hf := fV_f (p := p) (n := n) hi (fun z => (dg_ne (hd z.1)).2.2.1 z.2)
  rw [hf.1, hf.2]
  exact ⟨cI_f (fun z => absurd (dg_ne (hd z.1)).2.2.2 (by omega)), rfl⟩
theorem ff_b {p : Nat → Int32} {n i : Nat} (hi : i ≤ 81) (h : oF p n i) (h2 : ¬ sg p n (oE p n i) = 59) : fV p n i = cI (n ≤ oE p n i) (-6) (nI (oE p n i)) ∧ fW p n i = oE p n i := by
  have hf := fV_f (p := p) (n := n) hi (fun z => h2 z.2)
  rw [hf.1, hf.2]
  exact ⟨cI_c ⟨fun z => z.2, fun z => ⟨h, z⟩⟩ rfl rfl, rfl⟩
