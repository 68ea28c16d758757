/-! ===== the pure picture: bits, the calendar, a diary as a row of numbers (r k: the cell k of the reference's row) ===== -/
noncomputable def cI {α : Type} (P : Prop) (a b : α) : α := @ite α P (Classical.propDecidable P) a b
theorem cI_t {α : Type} {P : Prop} {a b : α} (h : P) : cI P a b = a := @if_pos _ (Classical.propDecidable P) h _ _ _
theorem cI_f {α : Type} {P : Prop} {a b : α} (h : ¬ P) : cI P a b = b := @if_neg _ (Classical.propDecidable P) h _ _ _
theorem cI_c {α : Type} {P P' : Prop} {a b a' b' : α} (h : P ↔ P') (ha : a = a') (hb : b = b') : cI P a b = cI P' a' b' := by rw [propext h, ha, hb]
theorem pI_cI (P : Prop) : pI P = cI P 1 0 := rfl
/-- bits of an int (rows of kit/laws/BITS) -/
def bt (x : Int32) (i : Nat) : Bool := x.toBitVec.getLsbD i
theorem b_ext {x y : Int32} (h : ∀ i, i < 32 → bt x i = bt y i) : x = y := Int32.toBitVec_inj.mp (BitVec.eq_of_getLsbD_eq (fun i hi => h i hi))
theorem b_or (x y : Int32) (i : Nat) : bt (x ||| y) i = (bt x i || bt y i) := by unfold bt; rw [Int32.toBitVec_or, BitVec.getLsbD_or]
theorem b_and (x y : Int32) (i : Nat) : bt (x &&& y) i = (bt x i && bt y i) := by unfold bt; rw [Int32.toBitVec_and, BitVec.getLsbD_and]
theorem b_xor (x y : Int32) (i : Nat) : bt (x ^^^ y) i = (bt x i ^^ bt y i) := by unfold bt; rw [Int32.toBitVec_xor, BitVec.getLsbD_xor]
theorem b_big {x : Int32} {i : Nat} (h : 32 ≤ i) : bt x i = false := BitVec.getLsbD_of_ge _ _ h
theorem b_m1 : ∀ i, i < 32 → bt (-1) i = true := by decide +kernel
theorem b_0 (i : Nat) : bt 0 i = false := BitVec.getLsbD_zero
theorem b_1 : ∀ i, i < 32 → bt (nI 1) i = decide (i = 0) := by decide +kernel
theorem s_l : ∀ n, n < 32 → ((nI n &&& 31).toBitVec.smod 32).toNat = n := by decide +kernel
theorem s_u : ∀ n, n < 32 → (((nI n).toUInt32 &&& Int32.toUInt32 31).toBitVec % 32).toNat = n := by decide +kernel
theorem b_shl (n : Nat) (hn : n < 32) (x : Int32) {i : Nat} (hi : i < 32) : bt (x <<< (nI n &&& 31)) i = (decide (n ≤ i) && bt x (i - n)) := by
  unfold bt
  rw [Int32.toBitVec_shiftLeft]
  show (x.toBitVec <<< ((nI n &&& 31).toBitVec.smod 32).toNat).getLsbD i = _
  rw [s_l n hn, BitVec.getLsbD_shiftLeft]
  rcases Nat.lt_or_ge i n with h | h
  · simp [h, Nat.not_le.mpr h]
  · simp [hi, h, Nat.not_lt.mpr h]
theorem b_ushr (n : Nat) (hn : n < 32) (x : Int32) (i : Nat) : bt ((x.toUInt32 >>> ((nI n).toUInt32 &&& Int32.toUInt32 31)).toInt32) i = bt x (n + i) := by
  show (x.toUInt32 >>> ((nI n).toUInt32 &&& Int32.toUInt32 31)).toBitVec.getLsbD i = x.toUInt32.toBitVec.getLsbD (n + i)
  rw [UInt32.toBitVec_shiftRight]
  show (x.toUInt32.toBitVec >>> (((nI n).toUInt32 &&& Int32.toUInt32 31).toBitVec % 32).toNat).getLsbD i = _
  rw [s_u n hn, BitVec.getLsbD_ushiftRight]
theorem b_sshr (n : Nat) (hn : n < 32) (x : Int32) {i : Nat} (hi : i < 32) : bt (x >>> (nI n &&& 31)) i = if n + i < 32 then bt x (n + i) else bt x 31 := by
  unfold bt
  rw [Int32.toBitVec_shiftRight]
  show (x.toBitVec.sshiftRight ((nI n &&& 31).toBitVec.smod 32).toNat).getLsbD i = _
  rw [s_l n hn, BitVec.getLsbD_sshiftRight, BitVec.msb_eq_getLsbD_last]
  simp [hi]
def bn (x : Int32) (k : Nat) : Nat := (bt x k).toNat
theorem bn_le (x : Int32) (k : Nat) : bn x k ≤ 1 := by unfold bn; cases bt x k <;> decide
theorem bn_1 {x : Int32} {k : Nat} : bn x k = 1 ↔ bt x k = true := by unfold bn; cases bt x k <;> decide
theorem b_n {b : Bool} : ∀ i, i < 32 → bt (nI b.toNat) i = (decide (i = 0) && b) := by
  cases b
  · exact (by decide +kernel : ∀ i, i < 32 → bt (nI 0) i = (decide (i = 0) && false))
  · exact (by decide +kernel : ∀ i, i < 32 → bt (nI 1) i = (decide (i = 0) && true))
theorem b_sra {x : Int32} {k : Nat} (h : k < 32) : (x >>> (nI k &&& 31)) &&& nI 1 = nI (bn x k) := by
  refine b_ext (fun i hi => ?_)
  rw [b_and, b_1 i hi, bn, b_n i hi]
  rcases Nat.eq_zero_or_pos i with rfl | h0
  · rw [b_sshr k h x hi, if_pos (by omega)]; simp
  · simp [Nat.ne_of_gt h0]
theorem b_srl {x : Int32} {k : Nat} (h : k < 32) : ((x.toUInt32 >>> ((nI k).toUInt32 &&& Int32.toUInt32 31)).toInt32) &&& nI 1 = nI (bn x k) := by
  refine b_ext (fun i hi => ?_)
  rw [b_and, b_1 i hi, bn, b_n i hi, b_ushr k h x i]
  rcases Nat.eq_zero_or_pos i with rfl | h0
  · simp
  · simp [Nat.ne_of_gt h0]
/-- how many of the lowest bits are set -/
def pcn (x : Int32) : Nat → Nat
  | 0 => 0
  | k + 1 => pcn x k + bn x k
theorem pcn_le (x : Int32) : ∀ k, pcn x k ≤ k
  | 0 => Nat.le_refl 0
  | k + 1 => by have h := pcn_le x k; have h2 := bn_le x k; show pcn x k + bn x k ≤ k + 1; omega
abbrev ons (x : Int32) : Nat := pcn x 31
theorem ons_le (x : Int32) : ons x ≤ 31 := pcn_le x 31
/-! the calendar -/
def fdy (m : Nat) : Nat := m / 12 * 365 + mst (m % 12)
def dys (m : Nat) : Nat := mst (m % 12 + 1) - mst (m % 12)
def moy (e : Nat) : Nat := if e < 31 then 0 else if e < 59 then 1 else if e < 90 then 2 else if e < 120 then 3 else if e < 151 then 4 else if e < 181 then 5 else if e < 212 then 6 else if e < 243 then 7 else if e < 273 then 8 else if e < 304 then 9 else if e < 334 then 10 else 11
def mot (d : Nat) : Nat := d / 365 * 12 + moy (d % 365)
theorem mst_row : ∀ r, r < 12 → mst r < mst (r + 1) ∧ mst (r + 1) - mst r ≤ 31 ∧ 28 ≤ mst (r + 1) - mst r ∧ mst (r + 1) ≤ 365 := by decide +kernel
theorem moy_row : ∀ e, e < 365 → moy e < 12 ∧ mst (moy e) ≤ e ∧ e < mst (moy e + 1) := by decide +kernel
theorem mst_mono : ∀ a, a < 13 → ∀ b, b < 13 → a ≤ b → mst a ≤ mst b := by decide +kernel
theorem dys_in (m : Nat) : 28 ≤ dys m ∧ dys m ≤ 31 := by
  have h := mst_row (m % 12) (Nat.mod_lt _ (by decide))
  exact ⟨h.2.2.1, h.2.1⟩
theorem fdy_succ (m : Nat) : fdy (m + 1) = fdy m + dys m := by
  have h := mst_row (m % 12) (Nat.mod_lt _ (by decide))
  unfold fdy dys
  rcases Nat.lt_or_ge (m % 12 + 1) 12 with h1 | h1
  · rw [show (m + 1) / 12 = m / 12 by omega, show (m + 1) % 12 = m % 12 + 1 by omega]; omega
  · rw [show (m + 1) / 12 = m / 12 + 1 by omega, show (m + 1) % 12 = 0 by omega, show m % 12 = 11 by omega]
    show (m / 12 + 1) * 365 + 0 = m / 12 * 365 + 334 + 31
    omega
theorem fdy_mono {a b : Nat} (h : a ≤ b) : fdy a ≤ fdy b := by
  induction h with
  | refl => exact Nat.le_refl _
  | step _ ih => rw [fdy_succ]; omega
theorem fdy_lt {m : Nat} (h : m ≤ 120) : fdy m ≤ 3650 := fdy_mono (b := 120) h
theorem fdy_lt' {m : Nat} (h : m < 120) : fdy m + dys m ≤ 3650 := by rw [← fdy_succ]; exact fdy_lt h
theorem mot_row {d : Nat} (h : d < 3650) : mot d < 120 ∧ fdy (mot d) ≤ d ∧ d < fdy (mot d + 1) := by
  have h1 := moy_row (d % 365) (Nat.mod_lt _ (by decide))
  have h2 := mst_row (moy (d % 365)) h1.1
  rw [fdy_succ]
  unfold mot fdy dys
  rw [show (d / 365 * 12 + moy (d % 365)) / 12 = d / 365 by omega, show (d / 365 * 12 + moy (d % 365)) % 12 = moy (d % 365) by omega]
  omega
theorem mot_lo {d m : Nat} (h : d < 3650) (h2 : m ≤ mot d) : fdy m ≤ d := Nat.le_trans (fdy_mono h2) (mot_row h).2.1
theorem mot_hi {d m : Nat} (h : d < 3650) (h2 : mot d < m) : d < fdy m := Nat.lt_of_lt_of_le (mot_row h).2.2 (fdy_mono h2)
theorem mot_le {d m : Nat} (h : d < 3650) (h2 : fdy m ≤ d) : m ≤ mot d := by
  rcases Nat.lt_or_ge (mot d) m with h3 | h3
  · have := mot_hi h h3; omega
  · exact h3
theorem mot_ge {d m : Nat} (h : d < 3650) (h2 : d < fdy (m + 1)) : mot d ≤ m := by
  rcases Nat.lt_or_ge m (mot d) with h3 | h3
  · have := mot_lo h (show m + 1 ≤ mot d from h3); omega
  · exact h3
theorem mot_mono {a b : Nat} (hb : b < 3650) (h : a ≤ b) : mot a ≤ mot b := mot_le hb (Nat.le_trans (mot_row (by omega)).2.1 h)
theorem mot_12 {d : Nat} (h : d < 3650) : d / 365 * 12 ≤ mot d := by unfold mot; omega
/-- the days of a month that are meant, day by day -/
noncomputable def mtk (m f t : Nat) : Nat → Int32
  | 0 => 0
  | k + 1 => mtk m f t k ||| cI (f ≤ fdy m + k ∧ fdy m + k ≤ t) (nI 1 <<< (nI k &&& 31)) (nI 0)
noncomputable abbrev mnt (m f t : Nat) : Int32 := mtk m f t (dys m)
theorem mtk_t {m f t k : Nat} (h : f ≤ fdy m + k ∧ fdy m + k ≤ t) : mtk m f t k ||| (nI 1 <<< (nI k &&& 31)) = mtk m f t (k + 1) := by
  show _ = mtk m f t k ||| cI _ _ _
  rw [cI_t h]
theorem mtk_f {m f t k : Nat} (h : ¬ (f ≤ fdy m + k ∧ fdy m + k ≤ t)) : mtk m f t k ||| nI 0 = mtk m f t (k + 1) := by
  show _ = mtk m f t k ||| cI _ _ _
  rw [cI_f h]
theorem b_one (k : Nat) (hk : k < 32) {i : Nat} (hi : i < 32) : bt (nI 1 <<< (nI k &&& 31)) i = decide (i = k) := by
  rw [b_shl k hk _ hi, b_1 _ (by omega)]
  by_cases h : i = k
  · subst h; simp
  · simp only [h, decide_false, Bool.and_eq_false_iff, decide_eq_false_iff_not]; omega
theorem b_mtk (m f t : Nat) : ∀ (k : Nat), k ≤ 31 → ∀ i, i < 32 → bt (mtk m f t k) i = decide (i < k ∧ f ≤ fdy m + i ∧ fdy m + i ≤ t)
  | 0, _, i, _ => by rw [show mtk m f t 0 = 0 from rfl, b_0]; simp
  | k + 1, hk, i, hi => by
    show bt (mtk m f t k ||| cI _ _ _) i = _
    rw [b_or, b_mtk m f t k (by omega) i hi]
    by_cases h : f ≤ fdy m + k ∧ fdy m + k ≤ t
    · rw [cI_t h, b_one k (by omega) hi]
      by_cases e : i = k
      · subst e; simp [h]
      · by_cases h1 : i < k
        · simp [e, h1, Nat.lt_succ_of_lt h1]
        · simp [e, h1, show ¬ i < k + 1 by omega]
    · rw [cI_f h, show nI 0 = 0 from rfl, b_0]
      by_cases e : i = k
      · subst e; simp [h]
      · by_cases h1 : i < k
        · simp [h1, Nat.lt_succ_of_lt h1]
        · simp [h1, show ¬ i < k + 1 by omega]
theorem b_mnt (m f t : Nat) {i : Nat} (hi : i < 32) : bt (mnt m f t) i = decide (i < dys m ∧ f ≤ fdy m + i ∧ fdy m + i ≤ t) := b_mtk m f t (dys m) (dys_in m).2 i hi
/-! what is read of a diary's row -/
def mIk (r : Nat → Int32) (m : Nat) : Nat → Nat
  | 0 => 0
  | s + 1 => mIk r m s + ons (r (255 + 16 * m + s))
abbrev mIn (r : Nat → Int32) (m : Nat) : Nat := mIk r m 16
theorem mIk_le (r : Nat → Int32) (m : Nat) : ∀ k, mIk r m k ≤ 31 * k
  | 0 => Nat.le_refl 0
  | k + 1 => by have h := mIk_le r m k; have h2 := ons_le (r (255 + 16 * m + k)); show mIk r m k + ons _ ≤ _; omega
def rnk (r : Nat → Int32) (m : Nat) : Nat → Nat
  | 0 => 0
  | s + 1 => rnk r m s + ons (r (255 + 16 * m + s) &&& (((r (255 + 16 * m + s)) <<< (nI 1 &&& 31)) ^^^ (-1)))
abbrev rns (r : Nat → Int32) (m : Nat) : Nat := rnk r m 16
theorem rnk_le (r : Nat → Int32) (m : Nat) : ∀ k, rnk r m k ≤ 31 * k
  | 0 => Nat.le_refl 0
  | k + 1 => by have h := rnk_le r m k; have h2 := ons_le (r (255 + 16 * m + k) &&& (((r (255 + 16 * m + k)) <<< (nI 1 &&& 31)) ^^^ (-1))); show rnk r m k + ons _ ≤ _; omega
def alk (r : Nat → Int32) (m o k : Nat) : Prop := ∀ s, s < k → r (255 + 16 * m + s) = r (255 + 16 * o + s)
theorem alk_0 (r : Nat → Int32) (m o : Nat) : alk r m o 0 := fun s h => absurd h (Nat.not_lt_zero s)
theorem alk_s {r : Nat → Int32} {m o k : Nat} (h : alk r m o k) (e : r (255 + 16 * m + k) = r (255 + 16 * o + k)) : alk r m o (k + 1) := by
  intro s hs
  rcases Nat.lt_or_ge s k with h1 | h1
  · exact h s h1
  · rw [show s = k by omega]; exact e
theorem alk_n {r : Nat → Int32} {m o k n : Nat} (h : ¬ alk r m o k) (hk : k ≤ n) : ¬ alk r m o n := fun z => h (fun s hs => z s (by omega))
def tOk (r : Nat → Int32) (m : Nat) (but : Int) (o : Nat) : Prop := ((o : Int) ≠ but ∧ 0 < (r (15 + o)).toInt ∧ (r (15 + o)).toInt ≠ 2) ∧ alk r m o 16
noncomputable def twf (r : Nat → Int32) (m : Nat) (but : Int) : Nat → Nat → Int32
  | 0, _ => -6
  | n + 1, o => cI (tOk r m but o) (nI o) (twf r m but n (o + 1))
noncomputable abbrev tw (r : Nat → Int32) (m : Nat) (but : Int) : Int32 := twf r m but m 0
theorem twf_t {r : Nat → Int32} {m k : Nat} {but : Int} (hk : k < m) (h : tOk r m but k) : twf r m but (m - k) k = nI k := by
  rw [show m - k = (m - (k + 1)) + 1 by omega]; exact cI_t h
theorem twf_f {r : Nat → Int32} {m k : Nat} {but : Int} (hk : k < m) (h : ¬ tOk r m but k) : twf r m but (m - k) k = twf r m but (m - (k + 1)) (k + 1) := by
  rw [show m - k = (m - (k + 1)) + 1 by omega]; exact cI_f h
theorem twf_e {r : Nat → Int32} {m k : Nat} {but : Int} (hk : m ≤ k) : twf r m but (m - k) k = -6 := by
  rw [show m - k = 0 by omega]; rfl
theorem twf_in (r : Nat → Int32) (m : Nat) (but : Int) : ∀ n o, twf r m but n o = -6 ∨ ∃ j, j < o + n ∧ twf r m but n o = nI j
  | 0, o => Or.inl rfl
  | n + 1, o => by
    by_cases h : tOk r m but o
    · exact Or.inr ⟨o, by omega, cI_t h⟩
    · show cI _ _ _ = _ ∨ ∃ j, _ ∧ cI _ _ _ = _
      rw [cI_f h]
      rcases twf_in r m but n (o + 1) with h1 | ⟨j, h1, h2⟩
      · exact Or.inl h1
      · exact Or.inr ⟨j, by omega, h2⟩
theorem tw_in (r : Nat → Int32) (m : Nat) (but : Int) : tw r m but = -6 ∨ ∃ j, j < m ∧ tw r m but = nI j := by
  have := twf_in r m but m 0; rwa [Nat.zero_add] at this
/-- the size in a form -/
noncomputable def siz (r : Nat → Int32) (m : Nat) (but : Int) (f : Int) : Int32 :=
  if f = 0 then (if mIn r m = 0 then nI 0 else -6) else if f = 1 then (if tw r m but = -6 then -6 else nI 1) else if f = 2 then nI (1 + rns r m) else if f = 3 then nI (1 + (mIn r m + 2) / 3) else nI 16
noncomputable def szo (r : Nat → Int32) (m : Nat) : Int32 :=
  if (r (15 + m) - nI 1).toInt < 0 then nI 16 else if (r (15 + m) - nI 1).toInt = 1 then nI 1 else siz r m (-6) (r (15 + m) - nI 1).toInt
/-- today, keep as numbers -/
def oldP (r : Nat → Int32) (m : Nat) : Prop := (nI m + r 1).toInt ≤ (mot (r 0).toNatClampNeg : Int)
