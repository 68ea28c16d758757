/-! ===== a step carried out ===== -/
noncomputable def er (K s b t : Nat) (r : Nat → Int32) : Int32 := cI (K = 112) (ePs ((b : Nat) : Int) ((td r : Nat) : Int)) (eMk (0 ≤ ((s : Nat) : Int) ∧ ((s : Nat) : Int) ≤ 15) ((b : Nat) : Int) ((t : Nat) : Int) ((td r : Nat) : Int))
noncomputable def dn (K s b t : Nat) (r : Nat → Int32) : Nat → Int32 := cI (K = 112) (psk r b 120) (mko r s b t (mot b) (K = 109) (mot t + 1 - mot b))
noncomputable def dx (K s b t : Nat) (r : Nat → Int32) : Nat → Int32 := cI ((er K s b t r).toInt = 0) (dn K s b t r) r
noncomputable def rz (K s b t : Nat) (r : Nat → Int32) : Int32 := cI ((er K s b t r).toInt = 0) (cI (K = 112) (nI (td r + b)) (nI (mkn r s b t (mot b) (K = 109) (mot t + 1 - mot b)))) (er K s b t r)
theorem er_p {K s b t : Nat} {r : Nat → Int32} (h : K = 112) : er K s b t r = ePs ((b : Nat) : Int) ((td r : Nat) : Int) := cI_t h
theorem er_m {K s b t : Nat} {r : Nat → Int32} (h : ¬ K = 112) : er K s b t r = eMk (0 ≤ ((s : Nat) : Int) ∧ ((s : Nat) : Int) ≤ 15) ((b : Nat) : Int) ((t : Nat) : Int) ((td r : Nat) : Int) := cI_f h
theorem dx_e {K s b t : Nat} {r : Nat → Int32} (h : ¬ (er K s b t r).toInt = 0) : dx K s b t r = r := cI_f h
theorem dx_p {K s b t : Nat} {r : Nat → Int32} (h : (er K s b t r).toInt = 0) (hK : K = 112) : dx K s b t r = psk r b 120 := (cI_t h).trans (cI_t hK)
theorem dx_m {K s b t : Nat} {r : Nat → Int32} (h : (er K s b t r).toInt = 0) (hK : ¬ K = 112) : dx K s b t r = mko r s b t (mot b) (K = 109) (mot t + 1 - mot b) := (cI_t h).trans (cI_f hK)
theorem rz_e {K s b t : Nat} {r : Nat → Int32} (h : ¬ (er K s b t r).toInt = 0) : rz K s b t r = er K s b t r := cI_f h
theorem rz_p {K s b t : Nat} {r : Nat → Int32} (h : (er K s b t r).toInt = 0) (hK : K = 112) : rz K s b t r = nI (td r + b) := (cI_t h).trans (cI_t hK)
theorem rz_m {K s b t : Nat} {r : Nat → Int32} (h : (er K s b t r).toInt = 0) (hK : ¬ K = 112) : rz K s b t r = nI (mkn r s b t (mot b) (K = 109) (mot t + 1 - mot b)) := (cI_t h).trans (cI_f hK)
theorem ePs_ok {X D : Int} (h : (ePs X D).toInt = 0) : 1 ≤ X ∧ X ≤ 400 ∧ D + X < 3650 := by
  by_cases q : 1 ≤ X ∧ X ≤ 400
  · by_cases q2 : 3650 ≤ D + X
    · rw [show ePs X D = -4 from (cI_f (fun z => z q)).trans (cI_t q2)] at h
      exact absurd h (by decide)
    · exact ⟨q.1, q.2, by omega⟩
  · rw [show ePs X D = -2 from cI_t q] at h
    exact absurd h (by decide)
theorem ePs_ng {X D : Int} (h : ¬ (ePs X D).toInt = 0) : (ePs X D).toInt < 0 := by
  by_cases q : 1 ≤ X ∧ X ≤ 400
  · by_cases q2 : 3650 ≤ D + X
    · rw [show ePs X D = -4 from (cI_f (fun z => z q)).trans (cI_t q2)]; decide
    · exact absurd (by rw [show ePs X D = nI 0 from (cI_f (fun z => z q)).trans (cI_f q2)]; rfl) h
  · rw [show ePs X D = -2 from cI_t q]; decide
theorem eDy_ng {P : Prop} {F T : Int} (h : ¬ (eDy P F T).toInt = 0) : (eDy P F T).toInt < 0 := by
  by_cases q : ¬ P ∨ ¬ (0 ≤ F ∧ F ≤ 3649) ∨ ¬ (0 ≤ T ∧ T ≤ 3649)
  · rw [show eDy P F T = -1 from cI_t q]; decide
  · by_cases q2 : T < F
    · rw [show eDy P F T = -2 from (cI_f q).trans (cI_t q2)]; decide
    · exact absurd (by rw [show eDy P F T = nI 0 from (cI_f q).trans (cI_f q2)]; rfl) h
theorem eMk_ok {P : Prop} {F T D : Int} (h : (eMk P F T D).toInt = 0) : P ∧ (0 ≤ F ∧ F ≤ 3649) ∧ (0 ≤ T ∧ T ≤ 3649) ∧ F ≤ T ∧ T ≤ D := by
  by_cases q : (eDy P F T).toInt = 0
  · have h1 := eDy_ok q
    by_cases q2 : D < T
    · rw [eMk_l q q2] at h
      exact absurd h (by decide)
    · exact ⟨h1.1, h1.2.1, h1.2.2.1, h1.2.2.2, by omega⟩
  · rw [eMk_d q] at h
    exact absurd h q
theorem eMk_ng {P : Prop} {F T D : Int} (h : ¬ (eMk P F T D).toInt = 0) : (eMk P F T D).toInt < 0 := by
  by_cases q : (eDy P F T).toInt = 0
  · by_cases q2 : D < T
    · rw [eMk_l q q2]; decide
    · exact absurd (by rw [eMk_z q q2]; rfl) h
  · rw [eMk_d q] at h ⊢
    exact eDy_ng h
theorem er_ng {K s b t : Nat} {r : Nat → Int32} (h : ¬ (er K s b t r).toInt = 0) : (er K s b t r).toInt < 0 := by
  by_cases q : K = 112
  · rw [er_p q] at h ⊢; exact ePs_ng h
  · rw [er_m q] at h ⊢; exact eMk_ng h
theorem mkn_le (r : Nat → Int32) (s f t a : Nat) (P : Prop) : ∀ j, mkn r s f t a P j ≤ 31 * j
  | 0 => Nat.le_refl 0
  | j + 1 => by
    have h := mkn_le r s f t a P j
    have h2 := ons_le (due r s (a + j) f t P)
    show mkn r s f t a P j + ons (due r s (a + j) f t P) ≤ 31 * (j + 1)
    omega
theorem rz_ok {K s b t : Nat} {r : Nat → Int32} (hr : td r < 3650) (hb : b < 3650) (ht : t < 3650) : 0 ≤ (rz K s b t r).toInt ↔ (er K s b t r).toInt = 0 := by
  by_cases h : (er K s b t r).toInt = 0
  · refine ⟨fun _ => h, fun _ => ?_⟩
    by_cases q : K = 112
    · rw [rz_p h q, toI (by omega)]; omega
    · have h1 := mkn_le r s b t (mot b) (K = 109) (mot t + 1 - mot b)
      have h2 := mot_row ht
      rw [rz_m h q, toI (by omega)]; omega
  · rw [rz_e h]
    have := er_ng h
    exact ⟨fun z => by omega, fun z => absurd z h⟩
theorem Cv_dx {K s b t : Nat} {r : Nat → Int32} (h : Cv r) : Cv (dx K s b t r) := by
  by_cases e : (er K s b t r).toInt = 0
  · by_cases q : K = 112
    · rw [dx_p e q]
      rw [er_p q] at e
      have h1 := ePs_ok e
      exact Cv_psk h (by omega)
    · rw [dx_m e q]
      rw [er_m q] at e
      obtain ⟨h1, h2, h3, h4, h5⟩ := eMk_ok e
      have h6 := mot_mono (a := b) (b := t) (by omega) (by omega)
      have h7 := mot_row (d := t) (by omega)
      exact Cv_mko h (by omega) _ (by omega)
  · rw [dx_e e]; exact h
/-! the steps of a text, one after the other -/
noncomputable def cK (p : Nat → Int32) (n q : Nat) : Nat := (cur p n q).2.1
noncomputable def cS (p : Nat → Int32) (n q : Nat) : Nat := (cur p n q).2.2.1
noncomputable def cF (p : Nat → Int32) (n q : Nat) : Nat := nuV p n (cur p n q).1
noncomputable def cT (p : Nat → Int32) (n q : Nat) : Nat := cI ((cur p n q).2.1 = 112) (nuV p n (cur p n q).1) (sTo p n (cur p n q).1)
noncomputable def cO (p : Nat → Int32) (n q : Nat) : Nat := (cur p n q).2.2.2
theorem stE {p : Nat → Int32} {n N q : Nat} {T : Nat → Nat → Int32} (h : q < N) : tS p n T N q 0 = nI (cK p n q) ∧ tS p n T N q 1 = nI (cS p n q) ∧ tS p n T N q 2 = nI (cF p n q) ∧ tS p n T N q 3 = nI (cT p n q) ∧ tS p n T N q 4 = nI (cO p n q) := by
  have e : tS p n T N q = stv p n (cur p n q) := cI_t h
  rw [e]
  exact ⟨rfl, rfl, rfl, rfl, rfl⟩
theorem c_m {p : Nat → Int32} {n q j K s o : Nat} (h : cur p n q = (j, K, s, o)) (hK : ¬ K = 112) : cK p n q = K ∧ cS p n q = s ∧ cF p n q = nuV p n j ∧ cT p n q = sTo p n j ∧ cO p n q = o := by
  unfold cK cS cF cT cO
  rw [h]
  exact ⟨rfl, rfl, rfl, cI_f hK, rfl⟩
theorem c_p {p : Nat → Int32} {n q j s o : Nat} (h : cur p n q = (j, 112, s, o)) : cK p n q = 112 ∧ cS p n q = s ∧ cF p n q = nuV p n j ∧ cT p n q = nuV p n j ∧ cO p n q = o := by
  unfold cK cS cF cT cO
  rw [h]
  exact ⟨rfl, rfl, rfl, cI_t rfl, rfl⟩
noncomputable def run (p : Nat → Int32) (n : Nat) (r0 : Nat → Int32) : Nat → Nat → Int32
  | 0 => r0
  | q + 1 => dx (cK p n q) (cS p n q) (cF p n q) (cT p n q) (run p n r0 q)
def ok1 (p : Nat → Int32) (n : Nat) (r0 : Nat → Int32) (q : Nat) : Prop := (er (cK p n q) (cS p n q) (cF p n q) (cT p n q) (run p n r0 q)).toInt = 0
theorem run_0 {p : Nat → Int32} {n : Nat} {r0 : Nat → Int32} : run p n r0 0 = r0 := rfl
theorem run_s {p : Nat → Int32} {n q : Nat} {r0 : Nat → Int32} : run p n r0 (q + 1) = dx (cK p n q) (cS p n q) (cF p n q) (cT p n q) (run p n r0 q) := rfl
theorem run_f {p : Nat → Int32} {n q : Nat} {r0 : Nat → Int32} (h : ¬ ok1 p n r0 q) : run p n r0 (q + 1) = run p n r0 q := dx_e h
theorem Cv_run {p : Nat → Int32} {n : Nat} {r0 : Nat → Int32} (h : Cv r0) : ∀ q, Cv (run p n r0 q)
  | 0 => h
  | q + 1 => Cv_dx (Cv_run h q)
/-- the first step of m from q on that can't be done; behind them if all can -/
noncomputable def fe (p : Nat → Int32) (n : Nat) (r0 : Nat → Int32) : Nat → Nat → Nat
  | 0, q => q
  | m + 1, q => cI (ok1 p n r0 q) (fe p n r0 m (q + 1)) q
theorem fe_t {p : Nat → Int32} {n m q : Nat} {r0 : Nat → Int32} (h : ok1 p n r0 q) : fe p n r0 (m + 1) q = fe p n r0 m (q + 1) := cI_t h
theorem fe_f {p : Nat → Int32} {n m q : Nat} {r0 : Nat → Int32} (h : ¬ ok1 p n r0 q) : fe p n r0 (m + 1) q = q := cI_f h
theorem fe_in {p : Nat → Int32} {n : Nat} {r0 : Nat → Int32} : ∀ m q, q ≤ fe p n r0 m q ∧ fe p n r0 m q ≤ q + m
  | 0, q => ⟨Nat.le_refl _, Nat.le_refl _⟩
  | m + 1, q => by
    by_cases h : ok1 p n r0 q
    · have := fe_in (p := p) (n := n) (r0 := r0) m (q + 1)
      rw [fe_t h]; omega
    · rw [fe_f h]; omega
theorem fe_add {p : Nat → Int32} {n : Nat} {r0 : Nat → Int32} (b : Nat) : ∀ a q, fe p n r0 (a + b) q = cI (fe p n r0 a q = q + a) (fe p n r0 b (q + a)) (fe p n r0 a q)
  | 0, q => by
    rw [Nat.zero_add]
    exact (cI_t rfl).symm
  | a + 1, q => by
    rw [show a + 1 + b = (a + b) + 1 by omega]
    by_cases h : ok1 p n r0 q
    · rw [fe_t h, fe_t h, fe_add b a (q + 1)]
      exact cI_c (by rw [show q + 1 + a = q + (a + 1) by omega]) (by rw [show q + 1 + a = q + (a + 1) by omega]) rfl
    · rw [fe_f h, fe_f h]
      exact (cI_f (by omega)).symm
/-! what holds of the steps that a text has -/
def gd (p : Nat → Int32) (n : Nat) (c : crs) : Prop := dgP p n c.1 ∧ c.2.2.1 ≤ 15 ∧ (c.2.1 = 112 ∨ ((c.2.1 = 109 ∨ c.2.1 = 99) ∧ rF p n c.1))
theorem rg_gd {p : Nat → Int32} {n K s o : Nat} (hn : n ≤ 80) (hK : K = 109 ∨ K = 99) (hs : s ≤ 15) : ∀ d j q, n + 1 - j ≤ d → j ≤ n → 2 * q + 1 ≤ j → cur p n q = (j, K, s, o) → ∀ k, k < rgN p n j → gd p n (cur p n (q + k)) ∧ cO p n (q + k) = o ∧ q + k < 40
  | 0, j, q, hd, hj, hq, hc, k, hk => by omega
  | d + 1, j, q, hd, hj, hq, hc, k, hk => by
    have hK2 : ¬ K = 112 := by omega
    by_cases z : rF p n j ∧ sg p n (rL p n j) = 44
    · rw [rgN_t hn hj z] at hk
      rcases Nat.eq_zero_or_pos k with e | e
      · subst e
        have h9 := (dg_ne z.1.1).2.2.2
        refine ⟨?_, (c_m hc hK2).2.2.2.2, by omega⟩
        rw [Nat.add_zero, hc]
        exact ⟨z.1.1, hs, Or.inr ⟨hK, z.1⟩⟩
      · have h2 := rC_in j hj z
        have h3 := rL_gt z.1.1
        have ih := rg_gd hn hK hs d (rL p n j + 1) (q + 1) (by omega) h2.2 (by omega) (cur_rn hc hK2 z.2) (k - 1) (by omega)
        rw [show q + 1 + (k - 1) = q + k by omega] at ih
        exact ih
    · rw [rgN_f z] at hk
      by_cases z2 : rF p n j
      · rw [cI_t z2] at hk
        have e : k = 0 := by omega
        subst e
        have h9 := (dg_ne z2.1).2.2.2
        refine ⟨?_, (c_m hc hK2).2.2.2.2, by omega⟩
        rw [Nat.add_zero, hc]
        exact ⟨z2.1, hs, Or.inr ⟨hK, z2⟩⟩
      · rw [cI_f z2] at hk
        omega
theorem od_gd {p : Nat → Int32} {n i q o : Nat} (hn : n ≤ 80) (hq : 2 * q ≤ i) (hc : cur p n q = ent p n i o) : ∀ k, k < odN p n i → gd p n (cur p n (q + k)) ∧ cO p n (q + k) = o ∧ q + k < 40 := by
  intro k hk
  by_cases h : sg p n i = 112
  · rw [odN_p h] at hk
    by_cases hd : dgP p n (i + 1)
    · rw [cI_t hd] at hk
      have e : k = 0 := by omega
      subst e
      rw [ent_p h] at hc
      have h9 := (dg_ne hd).2.2.2
      refine ⟨?_, (c_p hc).2.2.2.2, by omega⟩
      rw [Nat.add_zero, hc]
      exact ⟨hd, Nat.zero_le _, Or.inl rfl⟩
    · rw [cI_f hd] at hk
      omega
  · by_cases hm : oM p n i
    · rw [odN_m hm] at hk
      have h3 := sg_lt (p := p) (n := n) (i := i + 2) (by have := hm.2.2; omega)
      have h4 := hm.1
      have h5 := hm.2.1
      rw [ent_m h4] at hc
      exact rg_gd hn (by omega) (by omega) (n + 1) (i + 3) q (by omega) (by omega) (by omega) hc k hk
    · rw [odN_0 h hm] at hk
      omega
theorem al_gd {p : Nat → Int32} {n : Nat} (hn : n ≤ 80) : ∀ d i q o, n + 1 - i ≤ d → i ≤ n → 2 * q ≤ i → cur p n q = ent p n i o → ∀ k, k < alN p n i → gd p n (cur p n (q + k)) ∧ q + k < 40
  | 0, i, q, o, hd, hi, hq, hc, k, hk => by omega
  | d + 1, i, q, o, hd, hi, hq, hc, k, hk => by
    by_cases z : oF p n i ∧ sg p n (oE p n i) = 59
    · rw [alN_t hn hi z] at hk
      rcases Nat.lt_or_ge k (odN p n i) with e | e
      · exact ⟨(od_gd hn hq hc k e).1, (od_gd hn hq hc k e).2.2⟩
      · have h2 := oC_in i hi z
        have h3 := cur_o hn hi hc hq z.1
        have ih := al_gd hn d (oE p n i + 1) (q + odN p n i) (o + 1) (by omega) h2.2 (by omega) h3.1 (k - odN p n i) (by omega)
        rw [show q + odN p n i + (k - odN p n i) = q + k by omega] at ih
        exact ih
    · rw [alN_f z] at hk
      exact ⟨(od_gd hn hq hc k hk).1, (od_gd hn hq hc k hk).2.2⟩
theorem all_gd {p : Nat → Int32} {n k : Nat} (hn : n ≤ 80) (hk : k < alN p n 0) : gd p n (cur p n k) ∧ k < 40 := by
  have h := al_gd hn (n + 1) 0 0 0 (by omega) (Nat.zero_le _) (Nat.le_refl _) rfl k hk
  rwa [Nat.zero_add] at h
theorem gd_in {p : Nat → Int32} {n q : Nat} (h : gd p n (cur p n q)) : cK p n q < 128 ∧ cS p n q ≤ 15 ∧ cF p n q < 3650 ∧ cT p n q < 3650 := by
  obtain ⟨h1, h2, h3⟩ := h
  have h4 := nuV_in h1
  refine ⟨by show (cur p n q).2.1 < 128; omega, h2, h4, ?_⟩
  show cI ((cur p n q).2.1 = 112) (nuV p n (cur p n q).1) (sTo p n (cur p n q).1) < 3650
  by_cases e : (cur p n q).2.1 = 112
  · rw [cI_t e]; exact h4
  · rw [cI_f e]
    have h5 := h3.resolve_left e
    unfold sTo
    by_cases e2 : sg p n (nE p n (cur p n q).1) = 45
    · rw [cI_t e2]; exact nuV_in (h5.2.2 e2)
    · rw [cI_f e2]; exact h4
/-- what a text's carrying out answers; where the reference's reading ends then -/
noncomputable def coV (p : Nat → Int32) (n : Nat) (r0 : Nat → Int32) : Int32 := cI (fe p n r0 (alN p n 0) 0 = alN p n 0) (nI (alO p n 0)) (nI (cO p n (fe p n r0 (alN p n 0) 0)))
noncomputable abbrev coR (p : Nat → Int32) (n : Nat) (r0 : Nat → Int32) : Nat → Int32 := run p n r0 (fe p n r0 (alN p n 0) 0)
noncomputable def coS (p : Nat → Int32) (n : Nat) (r0 : Nat → Int32) : Nat := cI (fe p n r0 (alN p n 0) 0 = alN p n 0) (n + 1) (cE p n (cur p n (fe p n r0 (alN p n 0) 0)))
theorem al_40 {p : Nat → Int32} {n N : Nat} (hn : n ≤ 80) (h : alN p n 0 = N) : N ≤ 40 := by
  rcases Nat.eq_zero_or_pos N with e | e
  · omega
  · have := (all_gd (p := p) hn (k := N - 1) (by rw [h]; omega)).2
    omega
