/-! ===== counting: days, months ===== -/
noncomputable def cz (P : Nat → Prop) : Nat → Nat
  | 0 => 0
  | n + 1 => cz P n + cI (P n) 1 0
theorem cz_t {P : Nat → Prop} {n : Nat} (h : P n) : cz P (n + 1) = cz P n + 1 := by
  show cz P n + cI (P n) 1 0 = _
  rw [cI_t h]
theorem cz_f {P : Nat → Prop} {n : Nat} (h : ¬ P n) : cz P (n + 1) = cz P n := by
  show cz P n + cI (P n) 1 0 = _
  rw [cI_f h]
  rfl
theorem cz_n (P : Nat → Prop) : ∀ n, cz P n ≤ n
  | 0 => Nat.le_refl 0
  | n + 1 => by
    have ih := cz_n P n
    by_cases h : P n
    · rw [cz_t h]; omega
    · rw [cz_f h]; omega
theorem cz_le {P Q : Nat → Prop} : ∀ n, (∀ d, d < n → P d → Q d) → cz P n ≤ cz Q n
  | 0, _ => Nat.le_refl 0
  | n + 1, h => by
    have ih := cz_le n (fun d hd => h d (by omega))
    by_cases q : P n
    · rw [cz_t q, cz_t (h n (by omega) q)]; omega
    · by_cases q2 : Q n
      · rw [cz_f q, cz_t q2]; omega
      · rw [cz_f q, cz_f q2]; exact ih
theorem cz_c {P Q : Nat → Prop} (n : Nat) (h : ∀ d, d < n → (P d ↔ Q d)) : cz P n = cz Q n :=
  Nat.le_antisymm (cz_le n (fun d hd => (h d hd).mp)) (cz_le n (fun d hd => (h d hd).mpr))
theorem cz_z {P : Nat → Prop} : ∀ n, (∀ d, d < n → ¬ P d) → cz P n = 0
  | 0, _ => rfl
  | n + 1, h => by rw [cz_f (h n (by omega))]; exact cz_z n (fun d hd => h d (by omega))
theorem cz_0 {P : Nat → Prop} : ∀ n, cz P n = 0 → ∀ d, d < n → ¬ P d
  | 0, _, d, hd => absurd hd (Nat.not_lt_zero d)
  | n + 1, h, d, hd => by
    by_cases q : P n
    · rw [cz_t q] at h; omega
    · rw [cz_f q] at h
      rcases Nat.lt_or_ge d n with g | g
      · exact cz_0 n h d g
      · rw [show d = n by omega]; exact q
theorem cz_or {P Q : Nat → Prop} : ∀ n, (∀ d, d < n → ¬ (P d ∧ Q d)) → cz (fun d => P d ∨ Q d) n = cz P n + cz Q n
  | 0, _ => rfl
  | n + 1, h => by
    have ih := cz_or n (fun d hd => h d (by omega))
    have hn := h n (by omega)
    by_cases q : P n
    · have q2 : ¬ Q n := fun z => hn ⟨q, z⟩
      rw [cz_t (P := fun d => P d ∨ Q d) (Or.inl q), cz_t q, cz_f q2, ih]; omega
    · by_cases q2 : Q n
      · rw [cz_t (P := fun d => P d ∨ Q d) (Or.inr q2), cz_f q, cz_t q2, ih]; omega
      · rw [cz_f (P := fun d => P d ∨ Q d) (fun z => z.elim q q2), cz_f q, cz_f q2, ih]
theorem cz_x {P : Nat → Prop} {m : Nat} : ∀ k, (∀ d, m ≤ d → ¬ P d) → cz P (m + k) = cz P m
  | 0, _ => rfl
  | k + 1, h => by
    show cz P ((m + k) + 1) = _
    rw [cz_f (h (m + k) (by omega))]
    exact cz_x k h
theorem cz_i {b k : Nat} : ∀ n, b + k ≤ n → cz (fun d => b ≤ d ∧ d < b + k) n = k := by
  have key : ∀ j, j ≤ k → cz (fun d => b ≤ d ∧ d < b + k) (b + j) = j := by
    intro j
    induction j with
    | zero => intro _; exact cz_z _ (fun d hd z => by omega)
    | succ j ih =>
      intro hj
      show cz (fun d => b ≤ d ∧ d < b + k) ((b + j) + 1) = _
      rw [cz_t (show b ≤ b + j ∧ b + j < b + k by omega), ih (by omega)]
  intro n hn
  obtain ⟨i, rfl⟩ : ∃ i, n = (b + k) + i := ⟨n - (b + k), by omega⟩
  rw [cz_x i (fun d hd z => by omega)]
  exact key k (Nat.le_refl k)
/-! a month's words, as days -/
theorem bn_cI {x : Int32} {k : Nat} {P : Prop} (h : P ↔ bn x k = 1) : cI P 1 0 = bn x k := by
  by_cases q : P
  · rw [cI_t q, h.mp q]
  · rw [cI_f q]
    have h1 := bn_le x k
    have h2 : ¬ bn x k = 1 := fun z => q (h.mpr z)
    omega
theorem mon_k {P : Nat → Prop} {x : Int32} {m f t : Nat} (h : ∀ k, k < dys m → (P (fdy m + k) ↔ ((f ≤ fdy m + k ∧ fdy m + k ≤ t) ∧ bt x k = true))) : ∀ k, k ≤ dys m → cz P (fdy m + k) = cz P (fdy m) + pcn (x &&& mnt m f t) k
  | 0, _ => by rw [Nat.add_zero, show pcn (x &&& mnt m f t) 0 = 0 from rfl, Nat.add_zero]
  | k + 1, hk => by
    show cz P (fdy m + k) + cI (P (fdy m + k)) 1 0 = cz P (fdy m) + (pcn (x &&& mnt m f t) k + bn (x &&& mnt m f t) k)
    rw [mon_k h k (by omega), bn_cI (x := x &&& mnt m f t) (k := k) ((h k (by omega)).trans ⟨fun z => bn_and.mpr ⟨bn_1.mpr z.2, (bn_mnt (by omega)).mpr z.1⟩, fun z => ⟨(bn_mnt (by omega)).mp (bn_and.mp z).2, bn_1.mp (bn_and.mp z).1⟩⟩)]
    omega
theorem pcn_x {x : Int32} {n : Nat} : ∀ k, (∀ i, n ≤ i → i < n + k → bt x i = false) → pcn x (n + k) = pcn x n
  | 0, _ => rfl
  | k + 1, h => by
    show pcn x (n + k) + bn x (n + k) = _
    have e : bn x (n + k) = 0 := by unfold bn; rw [h (n + k) (by omega) (by omega)]; rfl
    rw [e, pcn_x k (fun i h1 h2 => h i h1 (by omega))]
    rfl
theorem mon_c {P : Nat → Prop} {x : Int32} {m f t : Nat} (h : ∀ k, k < dys m → (P (fdy m + k) ↔ ((f ≤ fdy m + k ∧ fdy m + k ≤ t) ∧ bt x k = true))) : cz P (fdy (m + 1)) = cz P (fdy m) + ons (x &&& mnt m f t) := by
  have hd := dys_in m
  have e : ons (x &&& mnt m f t) = pcn (x &&& mnt m f t) (dys m) := by
    obtain ⟨k, hk⟩ : ∃ k, 31 = dys m + k := ⟨31 - dys m, by omega⟩
    show pcn (x &&& mnt m f t) 31 = _
    rw [hk]
    refine pcn_x k (fun i h1 h2 => ?_)
    rw [b_and, b_mnt m f t (by omega), decide_eq_false (by omega), Bool.and_false]
  rw [fdy_succ, mon_k h (dys m) (Nat.le_refl _), e]
theorem mkd_m {r : Nat → Int32} {s m k : Nat} (hm : m < 120) (hk : k < dys m) : mkd r s (fdy m + k) ↔ bt (r (255 + 16 * m + s)) k = true := by
  unfold mkd
  rw [mot_of hm hk, Nat.add_sub_cancel_left]
/-- days of marks, days of two subjects, days of many -/
def Pm (r : Nat → Int32) (s f t : Nat) : Nat → Prop := fun d => (f ≤ d ∧ d ≤ t) ∧ mkd r s d
def Pb (r : Nat → Int32) (s o f t : Nat) : Nat → Prop := fun d => (f ≤ d ∧ d ≤ t) ∧ (mkd r s d ∧ mkd r o d)
def sbd (r : Nat → Int32) (d : Nat) : Nat := sbo r (mot d) (d - fdy (mot d)) 16
def Pk (r : Nat → Int32) (L : Int) (f t : Nat) : Nat → Prop := fun d => (f ≤ d ∧ d ≤ t) ∧ L ≤ (sbd r d : Int)
noncomputable abbrev mc (r : Nat → Int32) (s f t : Nat) : Nat := cz (Pm r s f t) 3650
noncomputable abbrev bc (r : Nat → Int32) (s o f t : Nat) : Nat := cz (Pb r s o f t) 3650
noncomputable abbrev kc (r : Nat → Int32) (L : Int) (f t : Nat) : Nat := cz (Pk r L f t) 3650
theorem ctm_cz {r : Nat → Int32} {s f t a : Nat} : ∀ j, a + j ≤ 120 → cz (Pm r s f t) (fdy (a + j)) = cz (Pm r s f t) (fdy a) + ctm r s f t a j
  | 0, _ => rfl
  | j + 1, hj => by
    have ih := ctm_cz (r := r) (s := s) (f := f) (t := t) (a := a) j (by omega)
    show cz (Pm r s f t) (fdy ((a + j) + 1)) = cz (Pm r s f t) (fdy a) + (ctm r s f t a j + ons (r (255 + 16 * (a + j) + s) &&& mnt (a + j) f t))
    rw [mon_c (x := r (255 + 16 * (a + j) + s)) (f := f) (t := t) (fun k hk => by unfold Pm; rw [mkd_m (by omega) hk]), ih]
    omega
theorem ctb_cz {r : Nat → Int32} {s o f t a : Nat} : ∀ j, a + j ≤ 120 → cz (Pb r s o f t) (fdy (a + j)) = cz (Pb r s o f t) (fdy a) + ctb r s o f t a j
  | 0, _ => rfl
  | j + 1, hj => by
    have ih := ctb_cz (r := r) (s := s) (o := o) (f := f) (t := t) (a := a) j (by omega)
    show cz (Pb r s o f t) (fdy ((a + j) + 1)) = cz (Pb r s o f t) (fdy a) + (ctb r s o f t a j + ons ((r (255 + 16 * (a + j) + s) &&& r (255 + 16 * (a + j) + o)) &&& mnt (a + j) f t))
    rw [mon_c (x := r (255 + 16 * (a + j) + s) &&& r (255 + 16 * (a + j) + o)) (f := f) (t := t) (fun k hk => by unfold Pb; rw [mkd_m (by omega) hk, mkd_m (by omega) hk, b_and, Bool.and_eq_true]), ih]
    omega
theorem cdk_cz {r : Nat → Int32} {L : Int} {m f t : Nat} (hm : m < 120) : ∀ k, k ≤ dys m → cz (Pk r L f t) (fdy m + k) = cz (Pk r L f t) (fdy m) + cdk r L m f t k
  | 0, _ => by rw [Nat.add_zero, show cdk r L m f t 0 = 0 from rfl, Nat.add_zero]
  | k + 1, hk => by
    have ih := cdk_cz (r := r) (L := L) (f := f) (t := t) hm k (by omega)
    show cz (Pk r L f t) (fdy m + k) + cI (Pk r L f t (fdy m + k)) 1 0 = cz (Pk r L f t) (fdy m) + (cdk r L m f t k + cI (bn (mnt m f t) k = 1 ∧ L ≤ (sbo r m k 16 : Int)) 1 0)
    have e : cI (Pk r L f t (fdy m + k)) 1 0 = cI (bn (mnt m f t) k = 1 ∧ L ≤ (sbo r m k 16 : Int)) 1 0 := by
      refine cI_c ?_ rfl rfl
      unfold Pk sbd
      rw [mot_of hm (by omega), Nat.add_sub_cancel_left, bn_mnt (by omega)]
    rw [ih, e]
    omega
theorem ctc_cz {r : Nat → Int32} {L : Int} {f t a : Nat} : ∀ j, a + j ≤ 120 → cz (Pk r L f t) (fdy (a + j)) = cz (Pk r L f t) (fdy a) + ctc r L f t a j
  | 0, _ => rfl
  | j + 1, hj => by
    have ih := ctc_cz (r := r) (L := L) (f := f) (t := t) (a := a) j (by omega)
    show cz (Pk r L f t) (fdy ((a + j) + 1)) = cz (Pk r L f t) (fdy a) + (ctc r L f t a j + cdk r L (a + j) f t (dys (a + j)))
    rw [fdy_succ, cdk_cz (by omega) _ (Nat.le_refl _), ih]
    omega
/-- a count over the months from f's to t's is one over all days -/
theorem cz_ft {P : Nat → Prop} {f t n : Nat} (hft : f ≤ t) (ht : t < 3650) (hp : ∀ d, P d → f ≤ d ∧ d ≤ t) (h : cz P (fdy (mot f + (mot t + 1 - mot f))) = cz P (fdy (mot f)) + n) : n = cz P 3650 := by
  have h1 := mot_row (d := f) (by omega)
  have h2 := mot_row ht
  have h3 := mot_mono ht hft
  rw [show mot f + (mot t + 1 - mot f) = mot t + 1 by omega, cz_z (fdy (mot f)) (fun d hd z => by have := (hp d z).1; omega)] at h
  have h4 := fdy_lt (m := mot t + 1) (by omega)
  obtain ⟨i, hi⟩ : ∃ i, 3650 = fdy (mot t + 1) + i := ⟨3650 - fdy (mot t + 1), by omega⟩
  rw [hi, cz_x i (fun d hd z => by have := (hp d z).2; omega), h]
  omega
theorem ctm_mc {r : Nat → Int32} {s f t : Nat} (hft : f ≤ t) (ht : t < 3650) : ctm r s f t (mot f) (mot t + 1 - mot f) = mc r s f t := by
  have h2 := mot_row ht
  have h3 := mot_mono ht hft
  exact cz_ft hft ht (fun d z => z.1) (ctm_cz _ (by omega))
theorem ctb_bc {r : Nat → Int32} {s o f t : Nat} (hft : f ≤ t) (ht : t < 3650) : ctb r s o f t (mot f) (mot t + 1 - mot f) = bc r s o f t := by
  have h2 := mot_row ht
  have h3 := mot_mono ht hft
  exact cz_ft hft ht (fun d z => z.1) (ctb_cz _ (by omega))
theorem ctc_kc {r : Nat → Int32} {L : Int} {f t : Nat} (hft : f ≤ t) (ht : t < 3650) : ctc r L f t (mot f) (mot t + 1 - mot f) = kc r L f t := by
  have h2 := mot_row ht
  have h3 := mot_mono ht hft
  exact cz_ft hft ht (fun d z => z.1) (ctc_cz _ (by omega))
/-! the same marks -/
theorem mk_d {r r' : Nat → Int32} (h : Mk r r') {s d : Nat} : mkd r' s d ↔ mkd r s d := by
  unfold mkd
  rw [Nat.add_assoc, h, ← Nat.add_assoc]
theorem mk_mc {r r' : Nat → Int32} (h : Mk r r') {s f t : Nat} : mc r' s f t = mc r s f t := cz_c _ (fun d _ => by unfold Pm; rw [mk_d h])
theorem mk_bc {r r' : Nat → Int32} (h : Mk r r') {s o f t : Nat} : bc r' s o f t = bc r s o f t := cz_c _ (fun d _ => by unfold Pb; rw [mk_d h, mk_d h])
theorem mk_sbo {r r' : Nat → Int32} (h : Mk r r') {m k : Nat} : ∀ s, sbo r' m k s = sbo r m k s
  | 0 => rfl
  | s + 1 => by
    show sbo r' m k s + bn (r' (255 + 16 * m + s)) k = sbo r m k s + bn (r (255 + 16 * m + s)) k
    rw [mk_sbo h s, Nat.add_assoc, h]
theorem mk_kc {r r' : Nat → Int32} (h : Mk r r') {L : Int} {f t : Nat} : kc r' L f t = kc r L f t := cz_c _ (fun d _ => by unfold Pk sbd; rw [mk_sbo h])
theorem mk_lgr {r r' : Nat → Int32} (h : Mk r r') {s f t : Nat} : ∀ n, lgr r' s f t n = lgr r s f t n
  | 0 => rfl
  | n + 1 => by
    show cI (f + n ≤ t ∧ mkd r' s (f + n)) (lgr r' s f t n + 1) 0 = cI (f + n ≤ t ∧ mkd r s (f + n)) (lgr r s f t n + 1) 0
    rw [mk_lgr h n]
    exact cI_c (by rw [mk_d h]) rfl rfl
theorem mk_lgb {r r' : Nat → Int32} (h : Mk r r') {s f t : Nat} : ∀ n, lgb r' s f t n = lgb r s f t n
  | 0 => rfl
  | n + 1 => by
    show (if lgb r' s f t n < _ then _ else _) = (if _ < _ then _ else _)
    rw [mk_lgb h n, mk_lgr h]
theorem mk_lgf {r r' : Nat → Int32} (h : Mk r r') {s f t : Nat} : ∀ n, lgf r' s f t n = lgf r s f t n
  | 0 => rfl
  | n + 1 => by
    show (if lgb r' s f t n < _ then _ else _) = (if _ < _ then _ else _)
    rw [mk_lgb h, mk_lgr h, mk_lgf h n]
theorem mk_fsk {r r' : Nat → Int32} (h : Mk r r') {s m d : Nat} : ∀ n k, fsk r' s m d n k = fsk r s m d n k
  | 0, _ => rfl
  | n + 1, k => by
    show cI _ _ _ = cI _ _ _
    rw [mk_fsk h n (k + 1)]
    exact cI_c (by rw [Nat.add_assoc, h]) rfl rfl
theorem mk_nxn {r r' : Nat → Int32} (h : Mk r r') {s d : Nat} : ∀ n m, nxn r' s d n m = nxn r s d n m
  | 0, _ => rfl
  | n + 1, m => by
    show cI _ _ _ = cI _ _ _
    rw [mk_nxn h n (m + 1)]
    exact cI_c (by show fsk r' s m d (dys m) 0 = -6 ↔ fsk r s m d (dys m) 0 = -6; rw [mk_fsk h]) rfl rfl
theorem mk_nxr {r r' : Nat → Int32} (h : Mk r r') {s d : Nat} : nxr r' s d = nxr r s d := by
  have e : nxJ r' s d = nxJ r s d := mk_nxn h _ _
  have e2 : ∀ m, fsm r' s m d = fsm r s m d := fun m => mk_fsk h _ _
  unfold nxr
  rw [e, e2]
/-! what the answers have to do with each other -/
theorem bc_sym {r : Nat → Int32} {s o f t : Nat} : bc r s o f t = bc r o s f t := cz_c _ (fun d _ => by unfold Pb; rw [And.comm (a := mkd r s d)])
theorem bc_mc {r : Nat → Int32} {s o f t : Nat} : bc r s o f t ≤ mc r s f t := cz_le _ (fun d _ z => ⟨z.1, z.2.1⟩)
theorem sbo_ge {r : Nat → Int32} {m k s : Nat} (h : bn (r (255 + 16 * m + s)) k = 1) : ∀ n, s < n → 1 ≤ sbo r m k n
  | 0, hn => absurd hn (Nat.not_lt_zero s)
  | n + 1, hn => by
    show 1 ≤ sbo r m k n + bn (r (255 + 16 * m + n)) k
    rcases Nat.lt_or_ge s n with q | q
    · have := sbo_ge h n q; omega
    · rw [show n = s by omega, h]; omega
theorem sbo_ge2 {r : Nat → Int32} {m k s o : Nat} (h : bn (r (255 + 16 * m + s)) k = 1) (h2 : bn (r (255 + 16 * m + o)) k = 1) (hso : s < o) : ∀ n, o < n → 2 ≤ sbo r m k n
  | 0, hn => absurd hn (Nat.not_lt_zero o)
  | n + 1, hn => by
    show 2 ≤ sbo r m k n + bn (r (255 + 16 * m + n)) k
    rcases Nat.lt_or_ge o n with q | q
    · have := sbo_ge2 h h2 hso n q; omega
    · rw [show n = o by omega, h2]
      have := sbo_ge h o hso
      omega
theorem mkd_bn {r : Nat → Int32} {s d : Nat} : mkd r s d ↔ bn (r (255 + 16 * mot d + s)) (d - fdy (mot d)) = 1 := bn_1.symm
theorem mc_kc {r : Nat → Int32} {s f t : Nat} (hs : s < 16) : mc r s f t ≤ kc r 1 f t := cz_le _ (fun d _ z => ⟨z.1, by
  have := sbo_ge (mkd_bn.mp z.2) 16 hs
  unfold sbd
  omega⟩)
theorem bc_kc {r : Nat → Int32} {s o f t : Nat} (hs : s < 16) (ho : o < 16) (h : ¬ s = o) : bc r s o f t ≤ kc r 2 f t := cz_le _ (fun d _ z => ⟨z.1, by
  have h1 := mkd_bn.mp z.2.1
  have h2 := mkd_bn.mp z.2.2
  unfold sbd
  rcases Nat.lt_or_ge s o with q | q
  · have := sbo_ge2 h1 h2 q 16 ho; omega
  · have := sbo_ge2 h2 h1 (by omega) 16 hs; omega⟩)
theorem bc_kc1 {r : Nat → Int32} {s f t : Nat} (hs : s < 16) : bc r s s f t ≤ kc r 1 f t := Nat.le_trans bc_mc (mc_kc hs)
theorem mc_split {r : Nat → Int32} {s a : Nat} (ha : a < 3649) : mc r s 0 a + mc r s (a + 1) 3649 = mc r s 0 3649 := by
  rw [← cz_or (P := Pm r s 0 a) (Q := Pm r s (a + 1) 3649) 3650 (fun d _ z => by have h1 := z.1.1; have h2 := z.2.1; omega)]
  refine cz_c _ (fun d hd => ?_)
  unfold Pm
  constructor
  · rintro (z | z)
    · exact ⟨by omega, z.2⟩
    · exact ⟨by omega, z.2⟩
  · intro z
    rcases Nat.lt_or_ge a d with q | q
    · exact Or.inr ⟨by omega, z.2⟩
    · exact Or.inl ⟨by omega, z.2⟩
theorem mc_0 {r : Nat → Int32} {s f t : Nat} (ht : t < 3650) : mc r s f t = 0 ↔ ∀ d, f ≤ d → d ≤ t → ¬ mkd r s d :=
  ⟨fun h d h1 h2 z => cz_0 3650 h d (by omega) ⟨⟨h1, h2⟩, z⟩, fun h => cz_z _ (fun d _ z => h d z.1.1 z.1.2 z.2)⟩
theorem mc_all {r : Nat → Int32} {s b k : Nat} (hk : 1 ≤ k) (hb : b + k ≤ 3650) (h : ∀ d, b ≤ d → d < b + k → mkd r s d) : mc r s b (b + k - 1) = k := by
  refine (cz_c 3650 (fun d hd => ?_)).trans (cz_i (b := b) (k := k) 3650 hb)
  unfold Pm
  exact ⟨fun z => by omega, fun z => ⟨by omega, h d z.1 z.2⟩⟩
/-- the longest row: its first day, all its days -/
theorem lg_run {r : Nat → Int32} {s f t : Nat} : ∀ n, f + n ≤ t + 1 → (∀ d, f + n - lgr r s f t n ≤ d → d < f + n → mkd r s d) ∧ (lgb r s f t n = 0 → lgf r s f t n = -6 ∧ ∀ d, f ≤ d → d < f + n → ¬ mkd r s d) ∧ (¬ lgb r s f t n = 0 → ∃ b, lgf r s f t n = nI b ∧ f ≤ b ∧ b + lgb r s f t n ≤ f + n ∧ ∀ d, b ≤ d → d < b + lgb r s f t n → mkd r s d)
  | 0, _ => ⟨fun d h1 h2 => absurd h2 (by have : lgr r s f t 0 = 0 := rfl; omega), fun _ => ⟨rfl, fun d h1 h2 => by omega⟩, fun h => absurd rfl h⟩
  | n + 1, hn => by
    obtain ⟨i1, i2, i3⟩ := lg_run (r := r) (s := s) (f := f) (t := t) n (by omega)
    have hle := lgr_le r s f t n
    have hle2 := lgr_le r s f t (n + 1)
    have hr : ∀ d, f + (n + 1) - lgr r s f t (n + 1) ≤ d → d < f + (n + 1) → mkd r s d := by
      intro d h1 h2
      by_cases q : f + n ≤ t ∧ mkd r s (f + n)
      · rw [show lgr r s f t (n + 1) = lgr r s f t n + 1 from cI_t q] at h1
        rcases Nat.lt_or_ge d (f + n) with g | g
        · exact i1 d (by omega) g
        · rw [show d = f + n by omega]; exact q.2
      · rw [show lgr r s f t (n + 1) = 0 from cI_f q] at h1
        omega
    refine ⟨hr, ?_, ?_⟩
    · intro h0
      by_cases q : lgb r s f t n < lgr r s f t (n + 1)
      · rw [show lgb r s f t (n + 1) = lgr r s f t (n + 1) from if_pos q] at h0
        omega
      · rw [show lgb r s f t (n + 1) = lgb r s f t n from if_neg q] at h0
        obtain ⟨j1, j2⟩ := i2 h0
        refine ⟨(show lgf r s f t (n + 1) = lgf r s f t n from if_neg q).trans j1, fun d h1 h2 z => ?_⟩
        rcases Nat.lt_or_ge d (f + n) with g | g
        · exact j2 d h1 g z
        · rw [show d = f + n by omega] at z
          rw [show lgr r s f t (n + 1) = lgr r s f t n + 1 from cI_t ⟨by omega, z⟩] at q
          omega
    · intro h0
      by_cases q : lgb r s f t n < lgr r s f t (n + 1)
      · rw [show lgb r s f t (n + 1) = lgr r s f t (n + 1) from if_pos q]
        exact ⟨f + n + 1 - lgr r s f t (n + 1), if_pos q, by omega, by omega, fun d h1 h2 => hr d (by omega) (by omega)⟩
      · rw [show lgb r s f t (n + 1) = lgb r s f t n from if_neg q] at h0 ⊢
        obtain ⟨b, j1, j2, j3, j4⟩ := i3 h0
        exact ⟨b, (show lgf r s f t (n + 1) = lgf r s f t n from if_neg q).trans j1, j2, by omega, j4⟩
/-- the next mark -/
theorem fsk_r {r : Nat → Int32} {s m d : Nat} (hm : m < 120) : ∀ n k, k + n ≤ dys m → (fsk r s m d n k = -6 → ∀ j, k ≤ j → j < k + n → d ≤ fdy m + j → bt (r (255 + 16 * m + s)) j = false) ∧ (¬ fsk r s m d n k = -6 → ∃ j, k ≤ j ∧ j < k + n ∧ fsk r s m d n k = nI (fdy m + j) ∧ d ≤ fdy m + j ∧ bt (r (255 + 16 * m + s)) j = true ∧ ∀ i, k ≤ i → i < j → d ≤ fdy m + i → bt (r (255 + 16 * m + s)) i = false)
  | 0, k, _ => ⟨fun _ j h1 h2 => by omega, fun h => absurd rfl h⟩
  | n + 1, k, hk => by
    have h9 := fdy_lt' hm
    obtain ⟨i1, i2⟩ := fsk_r (r := r) (s := s) (d := d) hm n (k + 1) (by omega)
    by_cases q : bt (r (255 + 16 * m + s)) k = true ∧ d ≤ fdy m + k
    · have e : fsk r s m d (n + 1) k = nI (fdy m + k) := cI_t q
      refine ⟨fun h => ?_, fun _ => ⟨k, Nat.le_refl k, by omega, e, q.2, q.1, fun i h1 h2 => by omega⟩⟩
      rw [e] at h
      exact absurd h (nI_ne6 (by omega))
    · have e : fsk r s m d (n + 1) k = fsk r s m d n (k + 1) := cI_f q
      have hb : d ≤ fdy m + k → bt (r (255 + 16 * m + s)) k = false := fun g => by
        cases hb : bt (r (255 + 16 * m + s)) k with
        | false => rfl
        | true => exact absurd ⟨hb, g⟩ q
      rw [e]
      refine ⟨fun h j h1 h2 h3 => ?_, fun h => ?_⟩
      · rcases Nat.eq_or_lt_of_le h1 with g | g
        · rw [← g] at h3 ⊢; exact hb h3
        · exact i1 h j g (by omega) h3
      · obtain ⟨j, g1, g2, g3, g4, g5, g6⟩ := i2 h
        refine ⟨j, by omega, by omega, g3, g4, g5, fun i h1 h2 h3 => ?_⟩
        rcases Nat.eq_or_lt_of_le h1 with g | g
        · rw [← g] at h3 ⊢; exact hb h3
        · exact g6 i g h2 h3
theorem nxn_r {r : Nat → Int32} {s d : Nat} : ∀ n m, m + n = 120 → (∀ i, m ≤ i → i < m + nxn r s d n m → fsm r s i d = -6) ∧ (m + nxn r s d n m < 120 → ¬ fsm r s (m + nxn r s d n m) d = -6)
  | 0, m, hm => ⟨fun i h1 h2 => absurd h2 (by have e : nxn r s d 0 m = 0 := rfl; omega), fun h => absurd h (by have e : nxn r s d 0 m = 0 := rfl; omega)⟩
  | n + 1, m, hm => by
    obtain ⟨i1, i2⟩ := nxn_r (r := r) (s := s) (d := d) n (m + 1) (by omega)
    by_cases q : fsm r s m d = -6
    · have e : nxn r s d (n + 1) m = nxn r s d n (m + 1) + 1 := cI_t q
      rw [e, show m + (nxn r s d n (m + 1) + 1) = m + 1 + nxn r s d n (m + 1) by omega]
      refine ⟨fun i h1 h2 => ?_, i2⟩
      rcases Nat.eq_or_lt_of_le h1 with g | g
      · rw [← g]; exact q
      · exact i1 i g h2
    · have e : nxn r s d (n + 1) m = 0 := cI_f q
      rw [e]
      exact ⟨fun i h1 h2 => by omega, fun _ => q⟩
theorem nx_r {r : Nat → Int32} {s d : Nat} (hd : d < 3650) : (nxr r s d = -6 → ∀ e, d ≤ e → e < 3650 → ¬ mkd r s e) ∧ (¬ nxr r s d = -6 → ∃ e, nxr r s d = nI e ∧ d ≤ e ∧ e < 3650 ∧ mkd r s e ∧ ∀ i, d ≤ i → i < e → ¬ mkd r s i) := by
  have hmd := mot_row hd
  obtain ⟨i1, i2⟩ := nxn_r (r := r) (s := s) (d := d) (120 - mot d) (mot d) (by omega)
  have key : ∀ e, d ≤ e → e < 3650 → mot e < mot d + nxJ r s d → ¬ mkd r s e := by
    intro e h1 h2 h3 z
    have hme := mot_row h2
    have h4 := mot_mono h2 h1
    have h5 := fdy_succ (mot e)
    have h6 := (fsk_r (r := r) (s := s) (m := mot e) (d := d) hme.1 (dys (mot e)) 0 (by omega)).1 (i1 (mot e) h4 h3) (e - fdy (mot e)) (by omega) (by omega) (by omega)
    unfold mkd at z
    rw [h6] at z
    exact absurd z (by decide)
  have hle : mot d + nxJ r s d ≤ 120 := by
    have h : nxJ r s d ≤ 120 - mot d := nxn_le _ _
    omega
  by_cases q : mot d + nxJ r s d < 120
  · have e0 : nxr r s d = fsm r s (mot d + nxJ r s d) d := if_pos q
    have g := i2 q
    obtain ⟨j, g1, g2, g3, g4, g5, g6⟩ := (fsk_r (r := r) (s := s) (m := mot d + nxJ r s d) (d := d) q (dys (mot d + nxJ r s d)) 0 (by omega)).2 g
    have h9 := fdy_lt' q
    refine ⟨fun h => absurd (e0.symm.trans h) g, fun _ => ⟨fdy (mot d + nxJ r s d) + j, e0.trans g3, g4, by omega, (mkd_m q (by omega)).mpr g5, fun i h1 h2 z => ?_⟩⟩
    have hmo : mot (fdy (mot d + nxJ r s d) + j) = mot d + nxJ r s d := mot_of q (by omega)
    have h3 := mot_mono (a := i) (b := fdy (mot d + nxJ r s d) + j) (by omega) (by omega)
    rw [hmo] at h3
    rcases Nat.lt_or_ge (mot i) (mot d + nxJ r s d) with w | w
    · exact key i h1 (by omega) w z
    · have hmi := mot_row (d := i) (by omega)
      have e1 : mot i = mot d + nxJ r s d := by omega
      unfold mkd at z
      rw [e1] at z hmi
      rw [g6 (i - fdy (mot d + nxJ r s d)) (by omega) (by omega) (by omega)] at z
      exact absurd z (by decide)
  · have e0 : nxr r s d = -6 := if_neg q
    refine ⟨fun _ e h1 h2 => key e h1 h2 (by have := (mot_row h2).1; omega), fun h => absurd e0 h⟩
/-! the row of unfolded months, all marks -/
theorem cz_row {r : Nat → Int32} {n N : Nat} (hb : Bs r n) (hn : n ≤ 8) (hd : ∀ i j, i < j → j < ny r → r (7 + i) ≠ r (7 + j)) : ∀ k, k ≤ ny r → (∀ i m, i < k → r (7 + i) = nI m → m < 120 → m < N) → cz (fun m => ∃ i, i < k ∧ r (7 + i) = nI m) (min N 120) = k
  | 0, _, _ => cz_z _ (fun m _ z => by obtain ⟨i, hi, -⟩ := z; omega)
  | k + 1, hk, hN => by
    have ih := cz_row hb hn hd k (by omega) (fun i m h1 h2 h3 => hN i m (by omega) h2 h3)
    obtain ⟨m0, hm0, e0⟩ := hb.2.2.2.2.2.2.2.2 k (by omega)
    have hm1 := hN k m0 (by omega) e0 hm0
    have h1 : cz (fun m => ∃ i, i < k + 1 ∧ r (7 + i) = nI m) (min N 120) = cz (fun m => (∃ i, i < k ∧ r (7 + i) = nI m) ∨ (m0 ≤ m ∧ m < m0 + 1)) (min N 120) := by
      refine cz_c _ (fun m hm => ⟨?_, ?_⟩)
      · rintro ⟨i, hi, ei⟩
        rcases Nat.lt_or_ge i k with g | g
        · exact Or.inl ⟨i, g, ei⟩
        · have e2 : i = k := by omega
          subst e2
          rw [e0] at ei
          have := nI_inj (a := m0) (b := m) (by omega) (by omega) ei
          exact Or.inr (by omega)
      · rintro (⟨i, hi, ei⟩ | h)
        · exact ⟨i, by omega, ei⟩
        · exact ⟨k, by omega, by rw [e0, show m = m0 by omega]⟩
    rw [h1, cz_or, ih, cz_i _ (by omega)]
    intro m hm z
    obtain ⟨⟨i, hi, ei⟩, h⟩ := z
    exact hd i k hi (by omega) (by rw [ei, e0, show m = m0 by omega])
theorem cz_Inr {r : Nat → Int32} (h : Cv r) : cz (fun m => Inr r m) (mot (td r) + 1) = ny r := by
  have hmt := (mot_row h.1.1.2.1).1
  have h1 := cz_row (N := mot (td r) + 1) h.1.1 (by omega) h.2.2.2.2.2 (ny r) (Nat.le_refl _) (fun i m hi e hm => by
    have := ((h.2.2.2.1 m hm).mp ⟨i, hi, e⟩).1
    have := h.2.1
    omega)
  rw [show min (mot (td r) + 1) 120 = mot (td r) + 1 by omega] at h1
  exact h1
theorem mIn_0 {r : Nat → Int32} {m : Nat} (h : ∀ s, s < 16 → r (255 + 16 * m + s) = 0) : ∀ k, k ≤ 16 → mIk r m k = 0
  | 0, _ => rfl
  | k + 1, hk => by
    show mIk r m k + ons (r (255 + 16 * m + k)) = 0
    rw [mIn_0 h k (by omega), h k (by omega)]
    decide
theorem amk_z {r : Nat → Int32} (h : Zr r) : ∀ k, mot (td r) + 1 + k ≤ 120 → amk r (mot (td r) + 1 + k) = amk r (mot (td r) + 1)
  | 0, _ => rfl
  | k + 1, hk => by
    show amk r (mot (td r) + 1 + k) + mIn r (mot (td r) + 1 + k) = _
    rw [amk_z h k (by omega), show mIn r (mot (td r) + 1 + k) = 0 from mIn_0 (fun s hs => h _ (by omega) (by omega) s hs) 16 (Nat.le_refl _)]
    rfl
theorem amk_t {r : Nat → Int32} (h : Zr r) (htd : td r < 3650) : amk r 120 = amk r (mot (td r) + 1) := by
  have hmt := (mot_row htd).1
  have := amk_z h (119 - mot (td r)) (by omega)
  rw [← this, show mot (td r) + 1 + (119 - mot (td r)) = 120 by omega]
theorem ons_0 {x : Int32} (h : bt x 31 = false) : ons x = 0 ↔ x.toInt = 0 := by
  constructor
  · intro z
    have hk : ∀ k, pcn x k = 0 → ∀ i, i < k → bt x i = false := by
      intro k
      induction k with
      | zero => intro _ i hi; omega
      | succ k ih =>
        intro hz i hi
        have hz : pcn x k + bn x k = 0 := hz
        rcases Nat.lt_or_ge i k with g | g
        · exact ih (by omega) i g
        · have hb : bn x k = 0 := by omega
          rw [show i = k by omega]
          unfold bn at hb
          cases hq : bt x k with
          | false => rfl
          | true => rw [hq] at hb; exact absurd hb (by decide)
    have e : x = 0 := b_ext (fun i hi => by
      rw [b_0]
      rcases Nat.lt_or_ge i 31 with g | g
      · exact hk 31 z i g
      · rw [show i = 31 by omega]; exact h)
    rw [e]; rfl
  · intro z
    have e : x = 0 := Int32.toInt_inj.mp (z.trans rfl)
    rw [e]
    decide
