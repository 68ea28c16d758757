/-! ===== the class's reading ===== -/
def Pg (p : Nat → Int32) (n : Nat) : Prop := ∀ i, i < n → 33 ≤ (p i).toInt ∧ (p i).toInt ≤ 126
def cgn (p : Nat → Int32) (n i : Nat) : Int32 := if i < n then p i else nI 0
theorem cg_in {p : Nat → Int32} {n i : Nat} (h : Pg p n) : 0 ≤ (cgn p n i).toInt ∧ (cgn p n i).toInt ≤ 126 := by
  unfold cgn
  by_cases q : i < n
  · have := h i q
    rw [if_pos q]; omega
  · rw [if_neg q]; decide
theorem cg_k {p : Nat → Int32} {n i : Nat} {K : Int} (hK : 1 ≤ K) : (cgn p n i).toInt = K ↔ sg p n i = K := by
  unfold cgn sg sgn
  by_cases q : i < n
  · rw [if_pos q, if_pos q]
  · rw [if_neg q, if_neg q]
    have h1 : (nI 0).toInt = 0 := rfl
    have h2 : (-6 : Int32).toInt = -6 := rfl
    omega
theorem cg_d {p : Nat → Int32} {n i : Nat} : (48 ≤ (cgn p n i).toInt ∧ (cgn p n i).toInt ≤ 57) ↔ dgP p n i := by
  unfold dgP cgn sg sgn
  by_cases q : i < n
  · rw [if_pos q, if_pos q]
  · rw [if_neg q, if_neg q]
    have h1 : (nI 0).toInt = 0 := rfl
    have h2 : (-6 : Int32).toInt = -6 := rfl
    omega
theorem ch_nar {x : Int32} (h : 0 ≤ x.toInt ∧ x.toInt ≤ 126) : narrow .char (.int x) = .int x := by
  obtain ⟨y, hy, rfl⟩ := nI_ex (x := x) (X := x.toInt) (N := 127) rfl (by omega)
  exact (pk_charN (by omega)).1
noncomputable def cdg (p : Nat → Int32) (n i : Nat) : Int32 := cI (dgP p n i) (nI (dv p n i)) (-1)
theorem cdg_t {p : Nat → Int32} {n i : Nat} (h : dgP p n i) : cdg p n i = nI (dv p n i) := cI_t h
theorem cdg_f {p : Nat → Int32} {n i : Nat} (h : ¬ dgP p n i) : cdg p n i = -1 := cI_f h
theorem cdg_1 {p : Nat → Int32} {n i : Nat} : (cdg p n i).toInt = -1 ↔ ¬ dgP p n i := by
  by_cases q : dgP p n i
  · have h := (dv_in q).2
    rw [cdg_t q, toI (by omega)]
    exact ⟨fun z => by omega, fun z => absurd q z⟩
  · rw [cdg_f q]; exact ⟨fun _ => q, fun _ => by decide⟩
theorem cdg_sub {p : Nat → Int32} {n i : Nat} (h : dgP p n i) : cgn p n i - nI 48 = cdg p n i := by
  have h1 : i < n := sg_lt (p := p) (n := n) (by have := h.1; omega)
  rw [cdg_t h, ← dv_sub h]
  unfold cgn sgn
  rw [if_pos h1, if_pos h1]
noncomputable def tkE (p : Nat → Int32) (n i : Nat) (K : Int) : Nat := cI (sg p n i = K) (i + 1) i
theorem tkE_t {p : Nat → Int32} {n i : Nat} {K : Int} (h : sg p n i = K) : tkE p n i K = i + 1 := cI_t h
theorem tkE_f {p : Nat → Int32} {n i : Nat} {K : Int} (h : ¬ sg p n i = K) : tkE p n i K = i := cI_f h
noncomputable def cnR (p : Nat → Int32) (n i : Nat) : Int32 := cI (dgP p n i) (nI (nuV p n i)) (-1)
theorem cnR_t {p : Nat → Int32} {n i : Nat} (h : dgP p n i) : cnR p n i = nI (nuV p n i) := cI_t h
theorem cnR_f {p : Nat → Int32} {n i : Nat} (h : ¬ dgP p n i) : cnR p n i = -1 := cI_f h
theorem cnR_1 {p : Nat → Int32} {n i : Nat} : (cnR p n i).toInt = -1 ↔ ¬ dgP p n i := by
  by_cases q : dgP p n i
  · have h := nuV_in q
    rw [cnR_t q, toI (by omega)]
    exact ⟨fun z => by omega, fun z => absurd q z⟩
  · rw [cnR_f q]; exact ⟨fun _ => q, fun _ => by decide⟩
