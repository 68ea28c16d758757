/-! ===== the characters of a long ===== -/
def lw (n : Nat) : Int64 := Int64.ofNat n
theorem lw_LN {n : Nat} (h : n < 18446744073709551616) : (lw n).toBitVec.toNat = n := by
  show (BitVec.ofNat 64 n).toNat = n
  rw [BitVec.toNat_ofNat]
  exact Nat.mod_eq_of_lt h
theorem lw_ex (x : Int64) : ∃ n : Nat, n < 18446744073709551616 ∧ x = lw n := by
  refine ⟨x.toBitVec.toNat, x.toBitVec.isLt, ?_⟩
  apply Int64.toBitVec_inj.mp
  apply BitVec.eq_of_toNat_eq
  exact (lw_LN x.toBitVec.isLt).symm
theorem lw_e {x : Int64} {n : Nat} (hn : n < 18446744073709551616) (h : x.toBitVec.toNat = n) : x = lw n := by
  apply Int64.toBitVec_inj.mp
  apply BitVec.eq_of_toNat_eq
  rw [h, lw_LN hn]
theorem lw_and {a : Nat} (h : a < 18446744073709551616) : lw a &&& 255 = lw (a % 256) := by
  refine lw_e (by omega) ?_
  show (lw a &&& 255).toBitVec.toNat = a % 256
  rw [Int64.toBitVec_and, BitVec.toNat_and, lw_LN h]
  exact Nat.and_two_pow_sub_one_eq_mod a 8
theorem lw_i {a : Nat} (h : a < 9223372036854775808) : (lw a).toInt = (a : Int) := lg_ofNat_toInt h
theorem lw_nI {s : Nat} (h : s < 2147483648) : (nI s).toInt64 = lw s := by
  apply Int64.toInt_inj.mp
  rw [Int32.toInt_toInt64, toI h, lw_i (by omega)]
theorem lw_l2i {a : Nat} (h : a < 2147483648) : (lw a).toInt32 = nI a := by
  rw [← lw_nI h, lg_l2i_i2l]
theorem lw_0 {a : Nat} (h : a < 18446744073709551616) : (lw a).toInt = 0 ↔ a = 0 := by
  constructor
  · intro z
    have e : lw a = 0 := Int64.toInt_inj.mp (by rw [z]; rfl)
    have h2 := lw_LN h
    rw [e] at h2
    exact h2.symm
  · intro z
    subst z; rfl
theorem lw_sh {a s : Nat} (h : a < 18446744073709551616) (hs : s < 64) : ((lw a).toUInt64 >>> ((nI s).toInt64.toUInt64 &&& Int64.toUInt64 63)).toInt64 = lw (a / 2 ^ s) := by
  have hd : a / 2 ^ s ≤ a := Nat.div_le_self _ _
  refine lw_e (by omega) ?_
  show ((lw a).toUInt64 >>> ((nI s).toInt64.toUInt64 &&& Int64.toUInt64 63)).toNat = a / 2 ^ s
  rw [UInt64.toNat_shiftRight, UInt64.toNat_and, lw_nI (by omega)]
  have e1 : (lw a).toUInt64.toNat = a := lw_LN h
  have e2 : (lw s).toUInt64.toNat = s := lw_LN (by omega)
  have e3 : (Int64.toUInt64 63).toNat = 2 ^ 6 - 1 := rfl
  rw [e1, e2, e3, Nat.and_two_pow_sub_one_eq_mod, Nat.shiftRight_eq_div_pow, Nat.mod_mod, Nat.mod_eq_of_lt hs]
/-- the k-th byte, and the bytes from k on -/
abbrev byt (W k : Nat) : Nat := W / 256 ^ k % 256
theorem byt_sh {W k : Nat} : W / 256 ^ k / 2 ^ 8 = W / 256 ^ (k + 1) := by
  rw [Nat.div_div_eq_div_mul]
  show W / (256 ^ k * 256) = W / 256 ^ (k + 1)
  rfl
theorem byt_le {W k : Nat} (h : W < 18446744073709551616) : W / 256 ^ k < 18446744073709551616 := Nat.lt_of_le_of_lt (Nat.div_le_self _ _) h
theorem byt_pw {k : Nat} : 2 ^ (8 * k) = 256 ^ k := by rw [Nat.pow_mul]
theorem byt_lt {W k : Nat} : byt W k < 256 := Nat.mod_lt _ (by decide)
def gdB (W k : Nat) : Prop := 33 ≤ byt W k ∧ byt W k ≤ 126
noncomputable def chk (W : Nat) : Nat → Nat → Nat
  | 0, k => k
  | f + 1, k => cI (W / 256 ^ k = 0) k (cI (gdB W k) (chk W f (k + 1)) 0)
/-- how many characters; 0 where it is no row of one to eight characters -/
noncomputable abbrev chN (W : Nat) : Nat := chk W 8 0
theorem chk_z {W k : Nat} (hk : k < 8) (h : W / 256 ^ k = 0) : chk W (8 - k) k = k := by
  rw [show 8 - k = (8 - (k + 1)) + 1 by omega]; exact cI_t h
theorem chk_b {W k : Nat} (hk : k < 8) (h : ¬ W / 256 ^ k = 0) (h2 : ¬ gdB W k) : chk W (8 - k) k = 0 := by
  rw [show 8 - k = (8 - (k + 1)) + 1 by omega]; exact (cI_f h).trans (cI_f h2)
theorem chk_g {W k : Nat} (hk : k < 8) (h : ¬ W / 256 ^ k = 0) (h2 : gdB W k) : chk W (8 - k) k = chk W (8 - (k + 1)) (k + 1) := by
  rw [show 8 - k = (8 - (k + 1)) + 1 by omega]; exact (cI_f h).trans (cI_t h2)
theorem chk_e {W k : Nat} (hk : 8 ≤ k) : chk W (8 - k) k = k := by
  rw [show 8 - k = 0 by omega]; rfl
/-- the pad after j of the c characters -/
def apk (p : Nat → Int32) (n W c : Nat) : Nat → Nat → Int32
  | 0 => p
  | j + 1 => upd (apk p n W c j) (n + j) (nI (byt W (c - 1 - j)))
def ia (c j : Nat) : Int32 := nI c - nI 1 - nI j
theorem ia_i {c j : Nat} (hc : 1 ≤ c ∧ c ≤ 8) (hj : j ≤ c) : (ia c j).toInt = (c : Int) - 1 - (j : Int) := by
  unfold ia
  rw [pk_sub hc.1, pk_sub_toInt (by omega) (by omega)]
  omega
theorem ia_n {c j : Nat} (hc : 1 ≤ c ∧ c ≤ 8) (hj : j < c) : ia c j = nI (c - 1 - j) := by
  unfold ia
  rw [pk_sub hc.1, pk_sub (by omega)]
theorem ia_s {c j : Nat} : ia c j + (-1) = ia c (j + 1) := by
  unfold ia
  rw [← nI_add j 1, Int32.sub_eq_add_neg (nI c - nI 1) (nI j + nI 1), Int32.neg_add, Int32.sub_eq_add_neg (-nI j) (nI 1), ← Int32.add_assoc, ← Int32.sub_eq_add_neg (nI c - nI 1) (nI j)]
  rfl
theorem i2c_n {b : Nat} (h : b < 65536) : ((nI b).toUInt32 % 65536).toInt32 = nI b := by
  have e : (nI b).toBitVec.toNat = b := by
    show (BitVec.ofNat 32 b).toNat = b
    rw [BitVec.toNat_ofNat]
    exact Nat.mod_eq_of_lt (by omega)
  apply Int32.toBitVec_inj.mp
  apply BitVec.eq_of_toNat_eq
  show ((nI b).toUInt32 % 65536).toNat = (nI b).toBitVec.toNat
  rw [UInt32.toNat_mod]
  show (nI b).toBitVec.toNat % 65536 = (nI b).toBitVec.toNat
  rw [e]
  exact Nat.mod_eq_of_lt h
theorem chk_le (W : Nat) : ∀ f k, chk W f k ≤ f + k
  | 0, k => by show k ≤ 0 + k; omega
  | f + 1, k => by
    have h := chk_le W f (k + 1)
    by_cases q : W / 256 ^ k = 0
    · rw [show chk W (f + 1) k = k from cI_t q]; omega
    · by_cases q2 : gdB W k
      · rw [show chk W (f + 1) k = chk W f (k + 1) from (cI_f q).trans (cI_t q2)]; omega
      · rw [show chk W (f + 1) k = 0 from (cI_f q).trans (cI_f q2)]; omega
theorem byt_8 {W : Nat} (h : W < 18446744073709551616) : W / 256 ^ 8 = 0 := Nat.div_eq_of_lt h
theorem byt_n0 {W k : Nat} (h : ¬ byt W k = 0) : ¬ W / 256 ^ k = 0 := fun z => h (by show W / 256 ^ k % 256 = 0; rw [z])
theorem ptE {W k : Nat} (hk : k < 8) (h0 : byt W k = 0) (hC : chN W = chk W (8 - k) k) : (W / 256 ^ k = 0 → chN W = k) ∧ (¬ W / 256 ^ k = 0 → chN W = 0) :=
  ⟨fun z => hC.trans (chk_z hk z), fun z => hC.trans (chk_b hk z (fun y => by have := y.1; omega))⟩
theorem ptE8 {W k : Nat} (hW : W < 18446744073709551616) (hk : k = 8) (hC : chN W = chk W (8 - k) k) : (W / 256 ^ k = 0 → chN W = k) ∧ (¬ W / 256 ^ k = 0 → chN W = 0) := by
  subst hk
  exact ⟨fun _ => hC.trans (chk_e (by omega)), fun z => absurd (byt_8 hW) z⟩
