/-! ===== counting bits, as the JDK does it ===== -/
theorem wb_of32' (x : Int32) : ∃ n, n < 4294967296 ∧ x = nI n := by
  refine ⟨x.toBitVec.toNat, x.toBitVec.isLt, ?_⟩
  apply Int32.toBitVec_inj.1
  show x.toBitVec = BitVec.ofNat 32 x.toBitVec.toNat
  rw [BitVec.ofNat_toNat, BitVec.setWidth_eq]
theorem nx_and (a b : Nat) : nI a &&& nI b = nI (a &&& b) := by
  apply Int32.toBitVec_inj.1
  show BitVec.ofNat 32 a &&& BitVec.ofNat 32 b = BitVec.ofNat 32 (a &&& b)
  apply BitVec.eq_of_getLsbD_eq
  intro i hi
  simp [hi]
/-- 'and', byte by byte -/
theorem and_b {a c : Nat} (B D : Nat) (ha : a < 256) (hc : c < 256) : (256 * B + a) &&& (256 * D + c) = 256 * (B &&& D) + (a &&& c) := by
  have hac : a &&& c < 256 := Nat.lt_of_le_of_lt Nat.and_le_left ha
  apply Nat.eq_of_testBit_eq
  intro i
  rw [Nat.testBit_and, show 256 * B + a = 2 ^ 8 * B + a from rfl, show 256 * D + c = 2 ^ 8 * D + c from rfl, show 256 * (B &&& D) + (a &&& c) = 2 ^ 8 * (B &&& D) + (a &&& c) from rfl, Nat.testBit_two_pow_mul_add _ ha, Nat.testBit_two_pow_mul_add _ hc, Nat.testBit_two_pow_mul_add _ hac]
  by_cases h : i < 8
  · simp [h, Nat.testBit_and]
  · simp [h, Nat.testBit_and]
def hA (b : Nat) : Nat := b - ((b / 2) &&& 85)
def hC (b : Nat) : Nat := (hA b &&& 51) + ((hA b / 4) &&& 51)
def hQ (b : Nat) : Nat := hC b % 16 + hC b / 16
theorem h_byte : ∀ b, b < 256 → ((b / 2) &&& 85 = (b / 2 + 128) &&& 85 ∧ (b / 2) &&& 85 ≤ b ∧ hA b < 256 ∧ (hA b / 4) &&& 51 = (hA b / 4 + 64) &&& 51 ∧ (hA b / 4) &&& 51 = (hA b / 4 + 128) &&& 51 ∧ (hA b / 4) &&& 51 = (hA b / 4 + 192) &&& 51 ∧ hC b % 16 ≤ 4 ∧ hC b / 16 ≤ 4 ∧ hQ b = b % 2 + b / 2 % 2 + b / 4 % 2 + b / 8 % 2 + b / 16 % 2 + b / 32 % 2 + b / 64 % 2 + b / 128 % 2) := by decide +kernel
theorem h_and51 : ∀ c, c < 256 → c &&& 51 < 256 := fun c h => Nat.lt_of_le_of_lt Nat.and_le_left h
theorem h_15 : ∀ c, c < 256 → c &&& 15 = c % 16 := by decide +kernel
theorem h_63 (n : Nat) : n &&& 63 = n % 64 := Nat.and_two_pow_sub_one_eq_mod n 6
/-- four bytes -/
def by4 (a b c d : Nat) : Nat := 256 * (256 * (256 * d + c) + b) + a
theorem by4_and {a b c d : Nat} (m : Nat) (hm : m < 256) (ha : a < 256) (hb : b < 256) (hc : c < 256) (hd : d < 256) : by4 a b c d &&& by4 m m m m = by4 (a &&& m) (b &&& m) (c &&& m) (d &&& m) := by
  unfold by4
  rw [and_b _ _ ha hm, and_b _ _ hb hm, and_b _ _ hc hm]
theorem by4_sub {a b c d a' b' c' d' : Nat} (ha : a' ≤ a) (hb : b' ≤ b) (hc : c' ≤ c) (hd : d' ≤ d) : by4 a b c d - by4 a' b' c' d' = by4 (a - a') (b - b') (c - c') (d - d') := by
  unfold by4; omega
theorem by4_add (a b c d a' b' c' d' : Nat) : by4 a b c d + by4 a' b' c' d' = by4 (a + a') (b + b') (c + c') (d + d') := by
  unfold by4; omega
theorem h_2 {b : Nat} (hb : b < 256) {c : Nat} (hc : c < 2) : (b / 2 + 128 * c) &&& 85 = (b / 2) &&& 85 := by
  match c, hc with
  | 0, _ => rfl
  | 1, _ => exact (h_byte b hb).1.symm
theorem h_4 {b : Nat} (hb : b < 256) {c : Nat} (hc : c < 4) : (hA b / 4 + 64 * c) &&& 51 = (hA b / 4) &&& 51 := by
  match c, hc with
  | 0, _ => rfl
  | 1, _ => exact (h_byte b hb).2.2.2.1.symm
  | 2, _ => exact (h_byte b hb).2.2.2.2.1.symm
  | 3, _ => exact (h_byte b hb).2.2.2.2.2.1.symm
def hd1 (n : Nat) : Nat := n - ((n / 2) &&& 1431655765)
def hd2 (n : Nat) : Nat := (hd1 n &&& 858993459) + ((hd1 n / 4) &&& 858993459)
def hd3 (n : Nat) : Nat := (hd2 n + hd2 n / 16) &&& 252645135
def hd4 (n : Nat) : Nat := hd3 n + hd3 n / 256
def hd5 (n : Nat) : Nat := hd4 n + hd4 n / 65536
theorem hd_1 {a b c d : Nat} (ha : a < 256) (hb : b < 256) (hc : c < 256) (hd : d < 256) : hd1 (by4 a b c d) = by4 (hA a) (hA b) (hA c) (hA d) := by
  unfold hd1
  rw [show by4 a b c d / 2 = by4 (a / 2 + 128 * (b % 2)) (b / 2 + 128 * (c % 2)) (c / 2 + 128 * (d % 2)) (d / 2) by unfold by4; omega, show 1431655765 = by4 85 85 85 85 from rfl,
    by4_and 85 (by omega) (by omega) (by omega) (by omega) (by omega), h_2 ha (by omega), h_2 hb (by omega), h_2 hc (by omega)]
  exact by4_sub (h_byte a ha).2.1 (h_byte b hb).2.1 (h_byte c hc).2.1 (h_byte d hd).2.1
theorem hd_2 {a b c d : Nat} (ha : a < 256) (hb : b < 256) (hc : c < 256) (hd : d < 256) : hd2 (by4 a b c d) = by4 (hC a) (hC b) (hC c) (hC d) := by
  unfold hd2
  have a1 := (h_byte a ha).2.2.1
  have b1 := (h_byte b hb).2.2.1
  have c1 := (h_byte c hc).2.2.1
  have d1 := (h_byte d hd).2.2.1
  rw [hd_1 ha hb hc hd]
  rw [show by4 (hA a) (hA b) (hA c) (hA d) / 4 = by4 (hA a / 4 + 64 * (hA b % 4)) (hA b / 4 + 64 * (hA c % 4)) (hA c / 4 + 64 * (hA d % 4)) (hA d / 4) by unfold by4; omega, show 858993459 = by4 51 51 51 51 from rfl,
    by4_and 51 (by omega) a1 b1 c1 d1, by4_and 51 (by omega) (by omega) (by omega) (by omega) (by omega), h_4 ha (by omega), h_4 hb (by omega), h_4 hc (by omega)]
  exact by4_add _ _ _ _ _ _ _ _
theorem c16 {x y : Nat} (hx : x % 16 ≤ 4) (hx2 : x / 16 ≤ 4) (hy : y % 16 ≤ 4) : x + (x / 16 + 16 * (y % 16)) < 256 ∧ (x + (x / 16 + 16 * (y % 16))) % 16 = x % 16 + x / 16 := by omega
theorem c16' {x : Nat} (hx : x % 16 ≤ 4) (hx2 : x / 16 ≤ 4) : x + x / 16 < 256 ∧ (x + x / 16) % 16 = x % 16 + x / 16 := by omega
theorem by4_16 (a b c d : Nat) : by4 a b c d / 16 = by4 (a / 16 + 16 * (b % 16)) (b / 16 + 16 * (c % 16)) (c / 16 + 16 * (d % 16)) (d / 16) ∨ ¬ (a < 256 ∧ b < 256 ∧ c < 256) := by
  by_cases h : a < 256 ∧ b < 256 ∧ c < 256
  · left
    obtain ⟨ha, hb, hc⟩ := h
    unfold by4
    omega
  · exact Or.inr h
theorem hd_3 {a b c d : Nat} (ha : a < 256) (hb : b < 256) (hc : c < 256) (hd : d < 256) : hd3 (by4 a b c d) = by4 (hQ a) (hQ b) (hQ c) (hQ d) := by
  have a1 := (h_byte a ha).2.2.2.2.2.2.1
  have b1 := (h_byte b hb).2.2.2.2.2.2.1
  have c1 := (h_byte c hc).2.2.2.2.2.2.1
  have d1 := (h_byte d hd).2.2.2.2.2.2.1
  have a2 := (h_byte a ha).2.2.2.2.2.2.2.1
  have b2 := (h_byte b hb).2.2.2.2.2.2.2.1
  have c2 := (h_byte c hc).2.2.2.2.2.2.2.1
  have d2 := (h_byte d hd).2.2.2.2.2.2.2.1
  have p1 := c16 a1 a2 b1
  have p2 := c16 b1 b2 c1
  have p3 := c16 c1 c2 d1
  have p4 := c16' d1 d2
  have e16 := (by4_16 (hC a) (hC b) (hC c) (hC d)).resolve_right (fun z => z ⟨by omega, by omega, by omega⟩)
  unfold hd3
  rw [hd_2 ha hb hc hd, e16, by4_add, show 252645135 = by4 15 15 15 15 from rfl, by4_and 15 (by decide) p1.1 p2.1 p3.1 p4.1, h_15 _ p1.1, h_15 _ p2.1, h_15 _ p3.1, h_15 _ p4.1, p1.2, p2.2, p3.2, p4.2]
  rfl
theorem hd_n {n : Nat} (hn : n < 4294967296) : ∃ a b c d, a < 256 ∧ b < 256 ∧ c < 256 ∧ d < 256 ∧ n = by4 a b c d ∧ a = n % 256 ∧ b = n / 256 % 256 ∧ c = n / 65536 % 256 ∧ d = n / 16777216 := by
  refine ⟨n % 256, n / 256 % 256, n / 65536 % 256, n / 16777216, by omega, by omega, by omega, by omega, ?_, rfl, rfl, rfl, rfl⟩
  unfold by4; omega
theorem bn_nI {n k : Nat} (hn : n < 4294967296) (hk : k < 32) : bn (nI n) k = n / 2 ^ k % 2 := by
  have e : bt (nI n) k = n.testBit k := by
    show (BitVec.ofNat 32 n).getLsbD k = _
    rw [BitVec.getLsbD_ofNat]; simp [hk]
  unfold bn
  rw [e, Nat.testBit_eq_decide_div_mod_eq]
  have := Nat.mod_lt (n / 2 ^ k) (show 0 < 2 by decide)
  by_cases q : n / 2 ^ k % 2 = 1
  · rw [q]; rfl
  · rw [show n / 2 ^ k % 2 = 0 by omega]; rfl
theorem g_b0 (m : Nat) : m % 256 % 2 = m % 2 := by omega
theorem g_b1 (m : Nat) : m % 256 / 2 % 2 = m / 2 % 2 := by omega
theorem g_b2 (m : Nat) : m % 256 / 4 % 2 = m / 4 % 2 := by omega
theorem g_b3 (m : Nat) : m % 256 / 8 % 2 = m / 8 % 2 := by omega
theorem g_b4 (m : Nat) : m % 256 / 16 % 2 = m / 16 % 2 := by omega
theorem g_b5 (m : Nat) : m % 256 / 32 % 2 = m / 32 % 2 := by omega
theorem g_b6 (m : Nat) : m % 256 / 64 % 2 = m / 64 % 2 := by omega
theorem g_b7 (m : Nat) : m % 256 / 128 % 2 = m / 128 % 2 := by omega
theorem by4_d8 {a b c d : Nat} (ha : a < 256) : by4 a b c d / 256 = by4 b c d 0 := by unfold by4; omega
theorem by4_d16 {a b c d : Nat} (ha : a < 256) (hb : b < 256) : by4 a b c d / 65536 = by4 c d 0 0 := by unfold by4; omega
theorem by4_m64 {a b c d : Nat} (ha : a < 64) : by4 a b c d % 64 = a := by unfold by4; omega
theorem hQ_le {b : Nat} (hb : b < 256) : hQ b ≤ 8 := by
  have a1 := (h_byte b hb).2.2.2.2.2.2.1
  have a2 := (h_byte b hb).2.2.2.2.2.2.2.1
  unfold hQ; omega
theorem hd_5 {a b c d : Nat} (ha : a < 256) (hb : b < 256) (hc : c < 256) (hd : d < 256) : hd5 (by4 a b c d) % 64 = hQ a + hQ b + (hQ c + hQ d) := by
  have sa := hQ_le ha
  have sb := hQ_le hb
  have sc := hQ_le hc
  have sd := hQ_le hd
  unfold hd5 hd4
  rw [hd_3 ha hb hc hd, by4_d8 (by omega), by4_add, by4_d16 (by omega) (by omega), by4_add, by4_m64 (by omega)]
theorem q_b (m : Nat) : hQ (m % 256) = m % 2 + m / 2 % 2 + m / 4 % 2 + m / 8 % 2 + m / 16 % 2 + m / 32 % 2 + m / 64 % 2 + m / 128 % 2 := by
  have h := (h_byte (m % 256) (Nat.mod_lt _ (by decide))).2.2.2.2.2.2.2.2
  rw [h, g_b0, g_b1, g_b2, g_b3, g_b4, g_b5, g_b6, g_b7]
theorem pcn_8 (n j : Nat) (hn : n < 4294967296) (hj : j + 8 ≤ 32) : pcn (nI n) (j + 8) = pcn (nI n) j + hQ (n / 2 ^ j % 256) := by
  have f : ∀ k, k < 8 → bn (nI n) (j + k) = n / 2 ^ j / 2 ^ k % 2 := fun k hk => by rw [bn_nI hn (by omega), Nat.pow_add, Nat.div_div_eq_div_mul]
  have e : pcn (nI n) (j + 8) = pcn (nI n) j + bn (nI n) (j + 0) + bn (nI n) (j + 1) + bn (nI n) (j + 2) + bn (nI n) (j + 3) + bn (nI n) (j + 4) + bn (nI n) (j + 5) + bn (nI n) (j + 6) + bn (nI n) (j + 7) := rfl
  rw [e, q_b, f 0 (by omega), f 1 (by omega), f 2 (by omega), f 3 (by omega), f 4 (by omega), f 5 (by omega), f 6 (by omega), f 7 (by omega)]
  simp only [Nat.reducePow, Nat.div_one, Nat.add_assoc]
theorem pcn_32 {n : Nat} (hn : n < 4294967296) : pcn (nI n) 32 = hd5 n % 64 := by
  obtain ⟨a, b, c, d, ha, hb, hc, hd, e, ea, eb, ec, ed⟩ := hd_n hn
  have h5 : hd5 n % 64 = hQ a + hQ b + (hQ c + hQ d) := by rw [e]; exact hd_5 ha hb hc hd
  have h1 := pcn_8 n 0 hn (by decide)
  have h2 := pcn_8 n 8 hn (by decide)
  have h3 := pcn_8 n 16 hn (by decide)
  have h4 := pcn_8 n 24 hn (by decide)
  have d2 : n / 16777216 % 256 = d := by omega
  simp only [Nat.reducePow, Nat.div_one, Nat.reduceAdd] at h1 h2 h3 h4
  rw [d2] at h4
  rw [← ec] at h3
  rw [← eb] at h2
  rw [← ea] at h1
  have h0 : pcn (nI n) 0 = 0 := rfl
  rw [h5, h4, h3, h2, h1, h0, Nat.zero_add, Nat.add_assoc]
