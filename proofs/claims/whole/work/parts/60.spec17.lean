/-! ===== what holds between two calls; a call on both sides ===== -/
def Ok (r : Nat → Int32) (c : Nat) (hr : Nat → Nat → Int32) (sv : Int32) (sr : Nat → Nat → Int32) (p : Nat → Int32) (n : Nat) : Prop := Cv r ∧ c ≤ 6 ∧ n ≤ 80 ∧ Pg p n ∧ (∀ k, k < c → Cv (hr k)) ∧ (∀ v, v ≤ 1 → bt sv v = true → Cv (sr v))
section OKS
variable {r r' p : Nat → Int32} {c n : Nat} {hr sr : Nat → Nat → Int32} {sv : Int32}
theorem Ok_r (h : Ok r c hr sv sr p n) (h2 : Cv r') : Ok r' c hr sv sr p n := ⟨h2, h.2⟩
theorem Ok_n (h : Ok r c hr sv sr p n) : Ok r c hr sv sr p 0 := ⟨h.1, h.2.1, Nat.zero_le _, fun i hi => absurd hi (Nat.not_lt_zero i), h.2.2.2.2⟩
theorem Ok_rec (h : Ok r c hr sv sr p n) (h2 : Cv r') : Ok r' (rch c + 1) (recH c hr r) sv sr p n := by
  obtain ⟨h3, h4, h5, h6, h7, h8⟩ := h
  have hrc := rch_le h4
  refine ⟨h2, by omega, h5, h6, fun k hk => ?_, h8⟩
  by_cases q : c = 6
  · rw [recH_6 q]
    unfold rotH
    by_cases e : k < 5
    · rw [if_pos e]; exact h7 (k + 1) (by omega)
    · rw [if_neg e]; exact h3
  · rw [recH_n q]
    rw [rch_n q] at hk
    unfold uph
    by_cases e : k = c
    · rw [if_pos e]; exact h3
    · rw [if_neg e]; exact h7 k (by omega)
theorem Ok_undo (h : Ok r c hr sv sr p n) (hc : 1 ≤ c) : Ok (hr (c - 1)) (c - 1) hr sv sr p n := by
  obtain ⟨h3, h4, h5, h6, h7, h8⟩ := h
  exact ⟨h7 _ (by omega), by omega, h5, h6, fun k hk => h7 k (by omega), h8⟩
theorem Ok_save {v : Nat} (h : Ok r c hr sv sr p n) (hv : v ≤ 1) : Ok r c hr (sv ||| (nI 1 <<< (nI v &&& 31))) (uph v sr r) p n := by
  obtain ⟨h3, h4, h5, h6, h7, h8⟩ := h
  refine ⟨h3, h4, h5, h6, h7, fun w hw hb => ?_⟩
  have e1 : bt (sv ||| (nI 1 <<< (nI v &&& 31))) w = (bt sv w || decide (w = v)) := by rw [b_or, b_one v (by omega) (by omega)]
  unfold uph
  by_cases q : w = v
  · rw [if_pos q]; exact h3
  · rw [if_neg q]
    rw [e1, decide_eq_false q, Bool.or_false] at hb
    exact h8 w hw hb
theorem chk_gd {W : Nat} : ∀ f k, ¬ chk W f k = 0 → ∀ j, k ≤ j → j < chk W f k → gdB W j
  | 0, k, h, j, h1, h2 => by
    have e : chk W 0 k = k := rfl
    rw [e] at h2
    omega
  | f + 1, k, h, j, h1, h2 => by
    by_cases q : W / 256 ^ k = 0
    · rw [show chk W (f + 1) k = k from cI_t q] at h2
      omega
    · by_cases q2 : gdB W k
      · have e : chk W (f + 1) k = chk W f (k + 1) := (cI_f q).trans (cI_t q2)
        rw [e] at h h2
        rcases Nat.eq_or_lt_of_le h1 with e2 | e2
        · rw [← e2]; exact q2
        · exact chk_gd f (k + 1) h j e2 h2
      · exact absurd ((cI_f q).trans (cI_f q2)) h
theorem apk_at {W C : Nat} : ∀ j i, apk p n W C j i = if n ≤ i ∧ i < n + j then nI (byt W (C - 1 - (i - n))) else p i
  | 0, i => by rw [if_neg (by omega)]; rfl
  | j + 1, i => by
    show upd (apk p n W C j) (n + j) (nI (byt W (C - 1 - j))) i = _
    by_cases q : i = n + j
    · subst q
      rw [upd_s, if_pos (by omega), show n + j - n = j by omega]
    · rw [upd_n q, apk_at j i]
      by_cases q2 : n ≤ i ∧ i < n + j
      · rw [if_pos q2, if_pos (by omega)]
      · rw [if_neg q2, if_neg (by omega)]
theorem Ok_put {Wd : Nat} (h : Ok r c hr sv sr p n) (hc0 : ¬ chN Wd = 0) (hnc : n + chN Wd ≤ 80) : Ok r c hr sv sr (apk p n Wd (chN Wd) (chN Wd)) (n + chN Wd) := by
  obtain ⟨h3, h4, h5, h6, h7, h8⟩ := h
  refine ⟨h3, h4, hnc, fun i hi => ?_, h7, h8⟩
  rw [apk_at]
  by_cases q : n ≤ i ∧ i < n + chN Wd
  · rw [if_pos q]
    have hg := chk_gd 8 0 hc0 (chN Wd - 1 - (i - n)) (Nat.zero_le _) (show chN Wd - 1 - (i - n) < chN Wd by omega)
    have hb := byt_lt (W := Wd) (k := chN Wd - 1 - (i - n))
    have g1 := hg.1
    have g2 := hg.2
    rw [toI (by omega)]
    omega
  · rw [if_neg q]; exact h6 i (by omega)
end OKS
theorem eSt_ok {S V T : Int} (h : (eSt S V T).toInt = 0) : (S = 0 ∧ (1 ≤ V ∧ V ≤ 12) ∧ T = 0) ∨ (S = 1 ∧ 0 ≤ V ∧ V ≤ 6) := by
  by_cases q : (S = 0 ∧ 1 ≤ V ∧ V ≤ 12) ∨ (S = 1 ∧ 0 ≤ V ∧ V ≤ 6)
  · by_cases q2 : S = 0 ∧ ¬ T = 0
    · rw [eSt_2 q q2] at h
      exact absurd h (by decide)
    · omega
  · rw [eSt_1 q] at h
    exact absurd h (by decide)
theorem nxn_le {r : Nat → Int32} {s d : Nat} : ∀ f m, nxn r s d f m ≤ f
  | 0, m => Nat.le_refl 0
  | f + 1, m => by
    have h := nxn_le (r := r) (s := s) (d := d) f (m + 1)
    by_cases q : fsm r s m d = -6
    · rw [show nxn r s d (f + 1) m = nxn r s d f (m + 1) + 1 from cI_t q]; omega
    · rw [show nxn r s d (f + 1) m = 0 from cI_f q]; omega
theorem nxc_le {r : Nat → Int32} {s d : Nat} (hm : mot d < 120) : mot d + nxc r s d ≤ 120 := by
  have h : nxJ r s d ≤ 120 - mot d := nxn_le _ _
  unfold nxc
  by_cases q : mot d + nxJ r s d < 120
  · rw [if_pos q]; omega
  · rw [if_neg q]; omega
/-- one call on both sides: the same answer, and the states go together again -/
def Sim (l : Launch) (G : gT) (me hm : Nat) (yC : MethodName) (bC : ByteArray) (mC : Nat) (yM : MethodName) (bM : ByteArray) (mM : Nat) (As : List Value) (r : Nat → Int32) (c : Nat) (hr : Nat → Nat → Int32) (sv : Int32) (sr : Nat → Nat → Int32) (p : Nat → Int32) (n : Nat) : Prop :=
  ∃ (res : Int32) (r' : Nat → Int32) (c' : Nat) (hr' : Nat → Nat → Int32) (sv' : Int32) (sr' : Nat → Nat → Int32) (p' : Nat → Int32) (n' : Nat), Ok r' c' hr' sv' sr' p' n' ∧
    (∃ d, d ≤ 10 ∧ ∀ (sz : Nat) (ws : va_W), CP G me r c hr sv sr p n ws → Ru l G yC bC mC (some .int) d sz ws (.ref me :: As) res (CP G me r' c' hr' sv' sr' p' n')) ∧
    (∃ d, d ≤ 10 ∧ ∀ (sz : Nat) (ws : va_W), MP G hm r c hr sv sr p n ws → Ru l G yM bM mM (some .int) d sz ws (.ref hm :: As) res (MP G hm r' c' hr' sv' sr' p' n'))
