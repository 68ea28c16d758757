/-! ===== the class's questions ===== -/
theorem max_n {a b : Nat} (ha : a < 2147483648) (hb : b < 2147483648) : (if nI a < nI b then nI b else nI a) = nI (max a b) := by
  by_cases q : nI a < nI b
  · rw [if_pos q, Nat.max_eq_right (by have := (nI_ltI ha hb).mp q; omega)]
  · rw [if_neg q, Nat.max_eq_left (by have := mt (nI_ltI ha hb).mpr q; omega)]
theorem sbo_c {r r' : Nat → Int32} {m k : Nat} : ∀ n, (∀ i, i < n → r' (255 + 16 * m + i) = r (255 + 16 * m + i)) → sbo r' m k n = sbo r m k n
  | 0, _ => rfl
  | n + 1, h => by
    show sbo r' m k n + bn (r' (255 + 16 * m + n)) k = sbo r m k n + bn (r (255 + 16 * m + n)) k
    rw [sbo_c n (fun i hi => h i (by omega)), h n (by omega)]
theorem cdx_c {r r' : Nat → Int32} {L : Int} {x : Int32} {m : Nat} (h : ∀ i, i < 16 → r' (255 + 16 * m + i) = r (255 + 16 * m + i)) : ∀ n, cdx r' L x m n = cdx r L x m n
  | 0 => rfl
  | n + 1 => by
    show cdx r' L x m n + cI _ 1 0 = cdx r L x m n + cI _ 1 0
    rw [cdx_c h n, sbo_c 16 h]
theorem crw_l {r : Nat → Int32} {L : Int} {f t m a j : Nat} (h : Br r) (hj : a + j ≤ 120) : cdx (lkk r a j) L (mnt m f t) m 31 = cdk r L m f t (dys m) := by
  have e : ∀ i, i < 16 → lkk r a j (255 + 16 * m + i) = r (255 + 16 * m + i) := fun i _ => by rw [Nat.add_assoc]; exact lkk_mk h j hj
  exact (cdx_c e 31).trans cdx_31
theorem mkd_lmk {r : Nat → Int32} {s a d j : Nat} (h : Br r) (hj : a + j ≤ 120) : mkd (lmk r s a j) s d ↔ mkd r s d := by
  unfold mkd
  rw [show lmk r s a j (255 + 16 * mot d + s) = r (255 + 16 * mot d + s) from by rw [Nat.add_assoc]; exact lmk_mk h j hj]
theorem lgr_t {r : Nat → Int32} {s f t n : Nat} (h : f + n ≤ t) (h2 : mkd r s (f + n)) : lgr r s f t n + 1 = lgr r s f t (n + 1) := (cI_t (P := f + n ≤ t ∧ mkd r s (f + n)) ⟨h, h2⟩).symm
theorem lgr_f {r : Nat → Int32} {s f t n : Nat} (h2 : ¬ mkd r s (f + n)) : 0 = lgr r s f t (n + 1) := (cI_f (P := f + n ≤ t ∧ mkd r s (f + n)) (fun z => h2 z.2)).symm
theorem lgb_t {r : Nat → Int32} {s f t n : Nat} (h : lgb r s f t n < lgr r s f t (n + 1)) : lgr r s f t (n + 1) = lgb r s f t (n + 1) := (if_pos h).symm
theorem lgb_f {r : Nat → Int32} {s f t n : Nat} (h : ¬ lgb r s f t n < lgr r s f t (n + 1)) : lgb r s f t n = lgb r s f t (n + 1) := (if_neg h).symm
theorem lgf_t {r : Nat → Int32} {s f t n : Nat} (h : lgb r s f t n < lgr r s f t (n + 1)) : nI (f + n + 1 - lgr r s f t (n + 1)) = lgf r s f t (n + 1) := (if_pos h).symm
theorem lgf_f {r : Nat → Int32} {s f t n : Nat} (h : ¬ lgb r s f t n < lgr r s f t (n + 1)) : lgf r s f t n = lgf r s f t (n + 1) := (if_neg h).symm
theorem fsk_skip {r : Nat → Int32} {s m d : Nat} : ∀ k, k ≤ dys m → (k = 0 ∨ fdy m + k ≤ d) → fsm r s m d = fsk r s m d (dys m - k) k
  | 0, _, _ => rfl
  | k + 1, hk, hd => by
    rw [fsk_skip k (by omega) (by omega)]
    exact fsk_f (by omega) (fun z => by omega)
theorem b_and_c {x y : Int32} : x &&& y = y &&& x := Int32.and_comm x y
theorem eCr_d {L F T : Int} (h : ¬ (eDy True F T).toInt = 0) : eDy True F T = eCr L F T := by
  by_cases q : (0 ≤ F ∧ F ≤ 3649) ∧ (0 ≤ T ∧ T ≤ 3649)
  · by_cases q2 : T < F
    · rw [eCr_2 q (by omega)]
      exact (cI_f (fun z => z.elim (fun y => y trivial) (by omega))).trans (cI_t q2)
    · exact absurd (by rw [eDy_0 trivial ⟨q.1, q.2, by omega⟩]; rfl) h
  · rw [eCr_1 q]
    exact cI_t (Or.inr (by omega))
theorem eLo_d {S F T X : Int} (h : ¬ (eDy (0 ≤ S ∧ S ≤ 15) F T).toInt = 0) : eDy (0 ≤ S ∧ S ≤ 15) F T = eLo S F T X := by
  by_cases q : (0 ≤ S ∧ S ≤ 15) ∧ (0 ≤ F ∧ F ≤ 3649) ∧ (0 ≤ T ∧ T ≤ 3649)
  · by_cases q2 : T < F
    · rw [eLo_2 q (by omega)]
      exact (cI_f (fun z => z.elim (fun y => y q.1) (by omega))).trans (cI_t q2)
    · exact absurd (by rw [eDy_0 q.1 ⟨q.2.1, q.2.2, by omega⟩]; rfl) h
  · rw [eLo_1 q]
    exact cI_t (by omega)
theorem mkk_lmk {r : Nat → Int32} {s a j m k : Nat} (h : Br r) (hj : a + j ≤ 120) (hm : m < 120) (hk : k < dys m) : (bt (lmk r s a j (255 + 16 * mot (fdy m + k) + s)) (fdy m + k - fdy (mot (fdy m + k))) = true) = (bt (r (255 + 16 * m + s)) k = true) := by
  rw [mot_of hm hk, Nat.add_sub_cancel_left, show lmk r s a j (255 + 16 * m + s) = r (255 + 16 * m + s) from by rw [Nat.add_assoc]; exact lmk_mk h j hj]
theorem cfm_o {x : Int32} (h : ∃ f, f ≤ 5 ∧ x = nI f) : ((cfm x).toInt = 5 → nI 4 = if x.toInt = 0 then nI 4 else x - nI 1) ∧ (¬ (cfm x).toInt = 5 → cfm x = if x.toInt = 0 then nI 4 else x - nI 1) := by
  obtain ⟨f, hf, rfl⟩ := h
  have h1 := cfn_le hf
  rw [toI (by omega), cfm_f hf, toI (by omega)]
  rcases Nat.eq_zero_or_pos f with q | q
  · subst q
    exact ⟨fun _ => rfl, fun z => absurd rfl z⟩
  · have e : cfn f = f - 1 := by unfold cfn; rw [if_neg (by omega)]
    rw [e, if_neg (by omega), pk_sub (by omega)]
    exact ⟨fun z => by omega, fun _ => rfl⟩
