/-! ===== the class's diary, as a picture of the same row of numbers ===== -/
/-- the class's form of the reference's; 5: not folded -/
def cfm (x : Int32) : Int32 := if x.toInt = 0 then nI 5 else x - nI 1
/-- the class's name -/
def cnm (x n : Int32) : Int32 := if x.toInt = 2 then n else -6
def dB (r : Nat → Int32) : Nat → Int32 := fun k => if k < 1920 then r (255 + k) else 0
def dF (r : Nat → Int32) : Nat → Int32 := fun m => if m < 120 then cfm (r (15 + m)) else 0
def dN (r : Nat → Int32) : Nat → Int32 := fun m => if m < 120 then cnm (r (15 + m)) (r (135 + m)) else 0
def dW (r : Nat → Int32) : Nat → Int32 := fun k => if k < 7 then r (7 + k) else 0
abbrev dO (r : Nat → Int32) (ab af an aw : Nat) : va_E := .inr (0, [.int (r 0), .int (r 1), .int (r 2), .int (r 3), .int (r 4), .int (r 5), .int (r 6), .ref ab, .ref af, .ref an, .ref aw])
/-- forms are 0 to 5 -/
def Fm (r : Nat → Int32) : Prop := ∀ m, m < 120 → ∃ f, f ≤ 5 ∧ r (15 + m) = nI f
/-- a mark's word has no 32nd bit -/
def Bd (r : Nat → Int32) : Prop := ∀ k, k < 1920 → bt (r (255 + k)) 31 = false
/-- a SAME month names one that is lower -/
def Nm (r : Nat → Int32) : Prop := ∀ m, m < 120 → (r (15 + m)).toInt = 2 → ∃ j, j < m ∧ r (135 + m) = nI j
theorem pcn_31 {x : Int32} (h : bt x 31 = false) : pcn x 32 = ons x := by
  show pcn x 31 + bn x 31 = pcn x 31
  unfold bn
  rw [h]
  rfl
theorem cfm_n {f : Nat} (h : f ≤ 5) (h0 : 0 < f) : cfm (nI f) = nI (f - 1) := by
  unfold cfm
  rw [if_neg (by rw [toI (by omega)]; omega), pk_sub (by omega)]
theorem cfm_0 : cfm (nI 0) = nI 5 := rfl
/-- a form as a number -/
def cfn (f : Nat) : Nat := if f = 0 then 5 else f - 1
theorem cfm_f {f : Nat} (h : f ≤ 5) : cfm (nI f) = nI (cfn f) := by
  unfold cfn
  rcases Nat.eq_zero_or_pos f with q | q
  · subst q; rfl
  · rw [if_neg (by omega)]; exact cfm_n h q
theorem cfn_le {f : Nat} (h : f ≤ 5) : cfn f ≤ 5 := by unfold cfn; split <;> omega
/-- the size in a form, the month that it would name given -/
def szc (r : Nat → Int32) (m : Nat) (F T : Int) : Int32 :=
  if F = 0 then (if mIn r m = 0 then nI 0 else -6) else if F = 1 then (if T = -6 then -6 else nI 1) else if F = 2 then nI (1 + rns r m) else if F = 3 then nI (1 + (mIn r m + 2) / 3) else nI 16
theorem szc_tw {r : Nat → Int32} {m : Nat} {B F : Int} : szc r m F (tw r m B).toInt = siz r m B F := by
  unfold szc siz
  have e : ((tw r m B).toInt = -6) = (tw r m B = -6) := propext ⟨fun h => Int32.toInt_inj.mp h, fun h => by rw [h]; rfl⟩
  simp only [e]
theorem szc_o {r : Nat → Int32} {m : Nat} (hF : Fm r) (hN : Nm r) (hm : m < 120) : szc r m (cfm (r (15 + m))).toInt (cnm (r (15 + m)) (r (135 + m))).toInt = szo r m := by
  obtain ⟨f, hf, e⟩ := hF m hm
  have hn := hN m hm
  unfold szo
  rw [e] at hn ⊢
  rcases Nat.eq_zero_or_pos f with q | q
  · subst q
    rw [if_pos (by decide)]
    rfl
  · rw [cfm_n hf q, pk_sub (by omega), toI (by omega)]
    rw [if_neg (by omega)]
    by_cases q2 : f = 2
    · subst q2
      obtain ⟨j, hj, ej⟩ := hn rfl
      rw [ej]
      have : cnm (nI 2) (nI j) = nI j := if_pos rfl
      rw [this, toI (by omega)]
      unfold szc
      rw [if_neg (by omega), if_pos (by omega), if_neg (by omega), if_pos (by omega)]
    · rw [if_neg (by omega)]
      unfold szc siz
      by_cases q0 : ((f - 1 : Nat) : Int) = 0
      · rw [if_pos q0, if_pos q0]
      · have q1 : ¬ ((f - 1 : Nat) : Int) = 1 := by omega
        rw [if_neg q0, if_neg q0, if_neg q1, if_neg q1]
theorem b_low : ∀ a, a < 32 → ∀ i, i < 32 → bt ((nI 1 <<< (nI a &&& 31)) - nI 1) i = decide (i < a) := by decide +kernel
theorem low_mnt {m f t : Nat} (hm : m < 120) (hf : f < fdy (m + 1)) (ht : fdy m ≤ t) (hft : f ≤ t) :
    ((nI 1 <<< (nI (min (t - fdy m) (dys m - 1) - (f - fdy m) + 1) &&& 31)) - nI 1) <<< (nI (f - fdy m) &&& 31) = mnt m f t := by
  have hd := dys_in m
  have hs := fdy_succ m
  refine b_ext (fun i hi => ?_)
  rw [b_shl _ (by omega) _ hi, b_mnt m f t hi]
  by_cases q : f - fdy m ≤ i
  · rw [b_low _ (by omega) _ (by omega)]
    have e : (i - (f - fdy m) < min (t - fdy m) (dys m - 1) - (f - fdy m) + 1) ↔ (i < dys m ∧ f ≤ fdy m + i ∧ fdy m + i ≤ t) := by omega
    simp only [q, decide_true, Bool.true_and]
    exact decide_eq_decide.mpr e
  · have e : ¬ (i < dys m ∧ f ≤ fdy m + i ∧ fdy m + i ≤ t) := by omega
    simp only [q, e, decide_false, Bool.false_and]
theorem low_all {m : Nat} (hm : m < 120) : (nI 1 <<< (nI (dys m) &&& 31)) - nI 1 = mnt m 0 3649 := by
  have hd := dys_in m
  have hl := fdy_lt' hm
  refine b_ext (fun i hi => ?_)
  rw [b_low _ (by omega) _ hi, b_mnt m 0 3649 hi]
  exact decide_eq_decide.mpr (by omega)
theorem max0 {a b : Nat} (ha : a < 1073741823) (hb : b < 1073741823) : (if nI a - nI b < nI 0 then nI 0 else nI a - nI b) = nI (a - b) := by
  have h := pk_sub_toInt (a := a) (b := b) (by omega) (by omega)
  by_cases q : nI a - nI b < nI 0
  · rw [if_pos q]
    rw [Int32.lt_iff_toInt_lt, h] at q
    have : (nI 0).toInt = 0 := rfl
    rw [show a - b = 0 by omega]
  · rw [if_neg q]
    rw [Int32.lt_iff_toInt_lt, h] at q
    have : (nI 0).toInt = 0 := rfl
    exact pk_sub (by omega)
theorem max0' {a b : Nat} (ha : a < 1073741823) (hb : b < 1073741823) : (if nI 0 < nI a - nI b + nI 1 then nI a - nI b + nI 1 else nI 0) = nI (a + 1 - b) := by
  have h := sub1_toInt (a := a) (b := b) ha hb
  have h0 : (nI 0).toInt = 0 := rfl
  by_cases q : nI 0 < nI a - nI b + nI 1
  · rw [if_pos q]
    rw [Int32.lt_iff_toInt_lt, h] at q
    exact sub_add1 (by omega)
  · rw [if_neg q]
    rw [Int32.lt_iff_toInt_lt, h] at q
    rw [show a + 1 - b = 0 by omega]
theorem min_n {a b : Nat} (ha : a < 2147483648) (hb : b < 2147483648) : (if nI b < nI a then nI b else nI a) = nI (min a b) := by
  by_cases q : nI b < nI a
  · rw [if_pos q, Nat.min_eq_right (by have := (nI_ltI hb ha).mp q; omega)]
  · rw [if_neg q, Nat.min_eq_left (by have := mt (nI_ltI hb ha).mpr q; omega)]
theorem max_n0 {a : Nat} (ha : a < 2147483648) : (if nI a < nI 0 then nI 0 else nI a) = nI a := by
  rw [if_neg (by rw [Int32.lt_iff_toInt_lt, toI ha, show (nI 0).toInt = 0 from rfl]; omega)]
/-- the twin, as the class looks for it -/
theorem tOk_c {r : Nat → Int32} {m o : Nat} {but : Int} (hF : Fm r) (ho : o < 120) : tOk r m but o ↔ (¬ (cfm (r (15 + o))).toInt = 5 ∧ ¬ (cfm (r (15 + o))).toInt = 1 ∧ ¬ (o : Int) = but) ∧ alk r o m 16 := by
  obtain ⟨f, hf, e⟩ := hF o ho
  unfold tOk
  rw [e, cfm_f hf, toI (by omega), toI (by have := cfn_le hf; omega)]
  have hsym : alk r m o 16 ↔ alk r o m 16 := ⟨fun h s hs => (h s hs).symm, fun h s hs => (h s hs).symm⟩
  rw [hsym]
  unfold cfn
  constructor
  · rintro ⟨⟨h1, h2, h3⟩, h4⟩
    refine ⟨⟨?_, ?_, h1⟩, h4⟩
    · rw [if_neg (by omega)]; omega
    · rw [if_neg (by omega)]; omega
  · rintro ⟨⟨h1, h2, h3⟩, h4⟩
    have h0 : ¬ f = 0 := fun z => h1 (by rw [if_pos z]; rfl)
    rw [if_neg h0] at h2
    exact ⟨⟨h3, by omega, by omega⟩, h4⟩
theorem bn_0 {x : Int32} {k : Nat} (h : ¬ bt x k = true) : bn x k = 0 := by
  have h1 := bn_le x k
  have h2 : ¬ bn x k = 1 := fun z => h (bn_1.mp z)
  omega
noncomputable def cdx (r : Nat → Int32) (L : Int) (x : Int32) (m : Nat) : Nat → Nat
  | 0 => 0
  | k + 1 => cdx r L x m k + cI (bt x k = true ∧ L ≤ (sbo r m k 16 : Int)) 1 0
theorem cdx_t {r : Nat → Int32} {L : Int} {x : Int32} {m k : Nat} (h : bt x k = true ∧ L ≤ (sbo r m k 16 : Int)) : cdx r L x m k + 1 = cdx r L x m (k + 1) := by
  show _ = cdx r L x m k + cI _ 1 0
  rw [cI_t h]
theorem cdx_f {r : Nat → Int32} {L : Int} {x : Int32} {m k : Nat} (h : ¬ (bt x k = true ∧ L ≤ (sbo r m k 16 : Int))) : cdx r L x m k = cdx r L x m (k + 1) := by
  show _ = cdx r L x m k + cI _ 1 0
  rw [cI_f h]; rfl
theorem cdx_le (r : Nat → Int32) (L : Int) (x : Int32) (m : Nat) : ∀ k, cdx r L x m k ≤ k
  | 0 => Nat.le_refl 0
  | k + 1 => by
    have h := cdx_le r L x m k
    by_cases q : bt x k = true ∧ L ≤ (sbo r m k 16 : Int)
    · rw [← cdx_t q]; omega
    · rw [← cdx_f q]; omega
theorem cdx_k {r : Nat → Int32} {L : Int} {m f t : Nat} : ∀ k, k ≤ 31 → cdx r L (mnt m f t) m k = cdk r L m f t (min k (dys m))
  | 0, _ => by rw [Nat.min_eq_left (Nat.zero_le _)]; rfl
  | k + 1, hk => by
    have ih := cdx_k (r := r) (L := L) (m := m) (f := f) (t := t) k (by omega)
    rcases Nat.lt_or_ge k (dys m) with q | q
    · rw [show min (k + 1) (dys m) = k + 1 by omega]
      show cdx r L (mnt m f t) m k + cI _ 1 0 = cdk r L m f t k + cI _ 1 0
      rw [ih, show min k (dys m) = k by omega]
      exact congrArg (fun z => cdk r L m f t k + z) (cI_c (by rw [bn_1]) rfl rfl)
    · rw [show min (k + 1) (dys m) = dys m by omega]
      rw [show min k (dys m) = dys m by omega] at ih
      rw [← cdx_f (fun z => by have := z.1; rw [b_mnt m f t (show k < 32 by omega), decide_eq_true_eq] at this; omega), ih]
theorem cdx_31 {r : Nat → Int32} {L : Int} {m f t : Nat} : cdx r L (mnt m f t) m 31 = cdk r L m f t (dys m) := by
  rw [cdx_k 31 (Nat.le_refl _), Nat.min_eq_right (dys_in m).2]
theorem hd2_lt (n : Nat) : hd2 n < 4294967296 := by
  unfold hd2
  have h1 : hd1 n &&& 858993459 ≤ 858993459 := Nat.and_le_right
  have h2 : (hd1 n / 4) &&& 858993459 ≤ 858993459 := Nat.and_le_right
  omega
theorem hd3_lt (n : Nat) : hd3 n < 4294967296 := by
  unfold hd3
  have h1 : (hd2 n + hd2 n / 16) &&& 252645135 ≤ 252645135 := Nat.and_le_right
  omega
theorem hd4_lt (n : Nat) : hd4 n < 4294967296 := by
  unfold hd4
  have h1 : hd3 n ≤ 252645135 := by unfold hd3; exact Nat.and_le_right
  omega
theorem moy_lt {e k : Nat} (hk : k ≤ moy e) (h : e < mst (moy e + 1)) (h2 : mst (k + 1) ≤ e) : k < moy e := by
  rcases Nat.lt_or_ge k (moy e) with q | q
  · exact q
  · rw [show moy e = k by omega] at h; omega
theorem moy_ge {e k : Nat} (hk : k ≤ moy e) (h : moy e < 12 ∧ mst (moy e) ≤ e ∧ e < mst (moy e + 1)) (h2 : e < mst (k + 1)) : moy e = k := by
  rcases Nat.lt_or_ge k (moy e) with q | q
  · have := mst_mono (k + 1) (by omega) (moy e) (by omega) (by omega); omega
  · omega
theorem eDy_P {P Q : Prop} {F T : Int} (hp : P) (hq : Q) : eDy P F T = eDy Q F T := by
  rw [show P = Q from propext ⟨fun _ => hq, fun _ => hp⟩]
theorem subk_g {r : Nat → Int32} {m s : Nat} (h : (r (255 + 16 * m + s)).toInt = 0) : subk r m s = subk r m (s + 1) := by
  rw [← subk_f h]
  exact (Int32.or_zero).symm
