/-! ===== the questions and changes, as functions of a diary's row ===== -/
theorem va_nrm {D : va_G} {cl : List vw_C} {A : Nat → Prop} {ws : va_W} {H : Heap} (hP : va_P D cl ws H) (hD : va_D A ws) (q0 : Nat) {a n : Nat} {cA : ClassId} {f : Nat → Int32} (g : Nat → Int32) (ha : ws[q0]? = some (a, .inl (cA, n, .inl f))) (hfg : ∀ k, k < n → f k = g k) : va_P D cl (ws.set q0 (a, .inl (cA, n, .inl g))) H ∧ va_D A (ws.set q0 (a, .inl (cA, n, .inl g))) := by
  refine ⟨hP.set hD ha ?_ (fun _ _ => rfl), hD.set ha⟩
  have h := hP q0 _ ha
  have e : (fun (j : Fin n) => Value.int (f j.val)) = fun j => Value.int (g j.val) := funext (fun j => by rw [hfg j.val j.isLt])
  have e2 : vp_cell cA (n, .inl f) = vp_cell cA (n, .inl g) := by
    show arrCell cA n f = arrCell cA n g
    unfold arrCell arrSlots
    rw [e]
  show H[a]? = some (vp_cell cA (n, .inl g))
  rw [← e2]
  exact h
theorem cpk_0 (f g : Nat → Int32) (sp dp : Nat) : va_cpy f g sp dp 0 = g := by
  funext k
  unfold va_cpy
  rw [if_neg (by omega)]
theorem cpk_s (f g : Nat → Int32) (sp dp k : Nat) : upd (va_cpy f g sp dp k) (dp + k) (f (sp + k)) = va_cpy f g sp dp (k + 1) := by
  funext j
  by_cases e : j = dp + k
  · subst e
    rw [upd_s]
    unfold va_cpy
    rw [if_pos (by omega), show dp + k - dp = k by omega]
  · rw [upd_n e]
    unfold va_cpy
    by_cases q : dp ≤ j ∧ j < dp + k
    · rw [if_pos q, if_pos (by omega)]
    · rw [if_neg q, if_neg (by omega)]
/-! errors -/
noncomputable def eDy (P : Prop) (F T : Int) : Int32 := cI (¬ P ∨ ¬ (0 ≤ F ∧ F ≤ 3649) ∨ ¬ (0 ≤ T ∧ T ≤ 3649)) (-1) (cI (T < F) (-2) (nI 0))
theorem eDy_0 {P : Prop} {F T : Int} (h : P) (h2 : (0 ≤ F ∧ F ≤ 3649) ∧ (0 ≤ T ∧ T ≤ 3649) ∧ F ≤ T) : eDy P F T = nI 0 :=
  (cI_f (fun z => z.elim (fun q => q h) (by omega))).trans (cI_f (by omega))
theorem eDy_ok {P : Prop} {F T : Int} (h : (eDy P F T).toInt = 0) : P ∧ (0 ≤ F ∧ F ≤ 3649) ∧ (0 ≤ T ∧ T ≤ 3649) ∧ F ≤ T := by
  by_cases q : ¬ P ∨ ¬ (0 ≤ F ∧ F ≤ 3649) ∨ ¬ (0 ≤ T ∧ T ≤ 3649)
  · unfold eDy at h; rw [cI_t q] at h; exact absurd h (by decide)
  · by_cases q2 : T < F
    · unfold eDy at h; rw [cI_f q, cI_t q2] at h; exact absurd h (by decide)
    · refine ⟨Classical.byContradiction (fun z => q (Or.inl z)), ?_⟩
      have : ¬ (¬ (0 ≤ F ∧ F ≤ 3649) ∨ ¬ (0 ≤ T ∧ T ≤ 3649)) := fun z => q (Or.inr z)
      omega
noncomputable def eMk (P : Prop) (F T D : Int) : Int32 := cI (¬ (eDy P F T).toInt = 0) (eDy P F T) (cI (D < T) (-5) (nI 0))
theorem eMk_0 {P : Prop} {F T D : Int} (h : P) (h2 : (0 ≤ F ∧ F ≤ 3649) ∧ (0 ≤ T ∧ T ≤ 3649) ∧ F ≤ T ∧ T ≤ D) : eMk P F T D = nI 0 :=
  (cI_f (by rw [eDy_0 h (by omega)]; exact fun z => z (by decide))).trans (cI_f (by omega))
noncomputable def ePs (X D : Int) : Int32 := cI (¬ (1 ≤ X ∧ X ≤ 400)) (-2) (cI (3650 ≤ D + X) (-4) (nI 0))
/-! pass -/
noncomputable def psk (r : Nat → Int32) (d : Nat) : Nat → Nat → Int32
  | 0 => upd r 0 (nI (td r + d))
  | m + 1 => cI (mot (td r) < m + kpn r ∧ m + kpn r ≤ mot (td r + d)) (fld (psk r d m) m (-6)) (psk r d m)
theorem psk_t {r : Nat → Int32} {d m : Nat} (h : mot (td r) < m + kpn r ∧ m + kpn r ≤ mot (td r + d)) : fld (psk r d m) m (-6) = psk r d (m + 1) := (cI_t h).symm
theorem psk_f {r : Nat → Int32} {d m : Nat} (h : ¬ (mot (td r) < m + kpn r ∧ m + kpn r ≤ mot (td r + d))) : psk r d m = psk r d (m + 1) := (cI_f h).symm
theorem psk_h {r : Nat → Int32} {d : Nat} : ∀ m j, j = 1 ∨ j = 2 ∨ (6 ≤ j ∧ j < 15) → psk r d m j = r j
  | 0, j, h => upd_n (by omega)
  | m + 1, j, h => by
    by_cases q : mot (td r) < m + kpn r ∧ m + kpn r ≤ mot (td r + d)
    · rw [← psk_t q, fld_o (by omega) (by omega) (by omega) (by omega)]; exact psk_h m j h
    · rw [← psk_f q]; exact psk_h m j h
theorem psk_0 {r : Nat → Int32} {d : Nat} : ∀ m, psk r d m 0 = nI (td r + d)
  | 0 => upd_s
  | m + 1 => by
    by_cases q : mot (td r) < m + kpn r ∧ m + kpn r ≤ mot (td r + d)
    · rw [← psk_t q, fld_o (by omega) (by omega) (by omega) (by omega)]; exact psk_0 m
    · rw [← psk_f q]; exact psk_0 m
theorem Bs_psk {r : Nat → Int32} {d n : Nat} (h : Bs r n) (hn : n ≤ 8) (hd : td r + d < 3650) (m : Nat) : Bs (psk r d m) n ∧ td (psk r d m) = td r + d ∧ kpn (psk r d m) = kpn r ∧ opn (psk r d m) = opn r ∧ ny (psk r d m) = ny r := by
  have e0 := psk_0 (r := r) (d := d) m
  have e1 := psk_h (r := r) (d := d) m 1 (by omega)
  have e2 := psk_h (r := r) (d := d) m 2 (by omega)
  have e6 := psk_h (r := r) (d := d) m 6 (by omega)
  have t0 : td (psk r d m) = td r + d := by unfold td; rw [e0, nI_clamp (by omega)]
  have k0 : kpn (psk r d m) = kpn r := by unfold kpn; rw [e1]
  have o0 : opn (psk r d m) = opn r := by unfold opn; rw [e2]
  have n0 : ny (psk r d m) = ny r := by unfold ny; rw [e6]
  obtain ⟨a, b, c, d1, e, f, g, i, j⟩ := h
  refine ⟨?_, t0, k0, o0, n0⟩
  unfold Bs
  rw [t0, k0, o0, n0, e0, e1, e2, e6]
  exact ⟨rfl, hd, c, d1, e, f, g, i, fun q hq => by rw [psk_h m (7 + q) (by omega)]; exact j q hq⟩
/-! marks stay where a diary is folded -/
theorem fgk_mk {r : Nat → Int32} {n : Nat} (h : Bs r n) (hn : n ≤ 8) (j : Nat) : ∀ i, i ≤ ny r → fgk r i (255 + j) = r (255 + j)
  | 0, _ => rfl
  | i + 1, hi => by
    obtain ⟨h1, h2, h3⟩ := Bs_fgk h hn i (by omega)
    obtain ⟨m0, hm0, em0⟩ := h1.2.2.2.2.2.2.2.2 0 (by omega)
    have em0 : fgk r i 7 = nI m0 := em0
    have g8 := h1.2.2.2.2.2.2.2.1
    show fld (tko (fgk r i) 0) (fgk r i 7).toNatClampNeg (-6) (255 + j) = _
    rw [em0, nI_clamp (by omega), fld_o (by omega) (by omega) (by omega) (by omega), tko_o (by omega) (by omega)]
    exact fgk_mk h hn j i (by omega)
theorem te1_o {r : Nat → Int32} {m n j : Nat} (h : Bs r n) (hn : n ≤ 8) (hj : j < 6 ∨ 15 ≤ j) : te1 r m j = r j := by
  have h8 := h.2.2.2.2.2.2.2.1
  unfold te1
  rcases plo_in r m with e | ⟨k, hk, e, _⟩
  · rw [cI_t e]
  · rw [cI_f (by rw [e]; exact nI_ne6 (by omega)), e, nI_clamp (by omega)]
    exact tko_o (by omega) (by omega)
theorem ten_mk {r : Nat → Int32} {m n j : Nat} (h : Bs r n) (hn : n ≤ 7) (hj : j < 6 ∨ 15 ≤ j) : ten r m j = r j := by
  have h1 := (Bs_te1 (m := m) h (by omega)).2.2.2.2.2.2.2.1
  rw [ten_o (by omega) (by omega), te1_o h (by omega) hj]
theorem lk1_mk {r : Nat → Int32} {m j : Nat} (hm : m < 120) : lk1 r m (255 + j) = r (255 + j) := by
  unfold lk1
  by_cases q : 0 < (r (15 + m)).toInt
  · rw [cI_t q]; exact ufd_o (by omega) (by omega) (by omega)
  · rw [cI_f q]
theorem lok_mk {r : Nat → Int32} {m j : Nat} (h : Bs r 7) (hm : m < 120) : lok r m (255 + j) = r (255 + j) := by
  unfold lok
  by_cases q : m + kpn r ≤ mot (td r) ∧ ¬ (r (15 + m)).toInt = 1
  · rw [cI_t q]
    have h1 := Bs_lk1 (m := m) h (by omega)
    have h2 := Bs_ten (m := m) h1 (Nat.le_refl 7) hm
    rw [show fga (ten (lk1 r m) m) (255 + j) = ten (lk1 r m) m (255 + j) from fgk_mk h2 (Nat.le_refl 8) j _ (by omega), ten_mk h1 (Nat.le_refl 7) (by omega)]
    exact lk1_mk hm
  · rw [cI_f q]
/-- a row at rest: no more unfolded months than OPEN -/
def Br (r : Nat → Int32) : Prop := Bs r 6 ∧ ny r ≤ opn r
theorem Br.b {r : Nat → Int32} (h : Br r) {n : Nat} (hn : 6 ≤ n) : Bs r n := h.1.mono hn
theorem Br_lok {r : Nat → Int32} {m : Nat} (h : Br r) (hm : m < 120) : Br (lok r m) := Bs_lok (h.b (by omega)) hm h.2
/-- looking at one month after the other -/
noncomputable def lkk (r : Nat → Int32) (a : Nat) : Nat → Nat → Int32
  | 0 => r
  | j + 1 => lok (lkk r a j) (a + j)
theorem Br_lkk {r : Nat → Int32} {a : Nat} (h : Br r) : ∀ j, a + j ≤ 120 → Br (lkk r a j)
  | 0, _ => h
  | j + 1, hj => Br_lok (Br_lkk h j (by omega)) (by omega)
theorem lkk_mk {r : Nat → Int32} {a i : Nat} (h : Br r) : ∀ j, a + j ≤ 120 → lkk r a j (255 + i) = r (255 + i)
  | 0, _ => rfl
  | j + 1, hj => (lok_mk ((Br_lkk h j (by omega)).b (by omega)) (by omega)).trans (lkk_mk h j (by omega))
/-- the months from day f to day t -/
abbrev nmo (f t : Nat) : Nat := mot t + 1 - mot f
/-! what a question counts -/
noncomputable def ctm (r : Nat → Int32) (s f t a : Nat) : Nat → Nat
  | 0 => 0
  | j + 1 => ctm r s f t a j + ons (r (255 + 16 * (a + j) + s) &&& mnt (a + j) f t)
noncomputable def ctb (r : Nat → Int32) (s o f t a : Nat) : Nat → Nat
  | 0 => 0
  | j + 1 => ctb r s o f t a j + ons ((r (255 + 16 * (a + j) + s) &&& r (255 + 16 * (a + j) + o)) &&& mnt (a + j) f t)
noncomputable def mks (r : Nat → Int32) (f t a : Nat) : Nat → Nat → Int32
  | 0 => r
  | j + 1 => cI (¬ (mnt (a + j) f t).toInt = (mnt (a + j) 0 3649).toInt) (lok (mks r f t a j) (a + j)) (mks r f t a j)
theorem mks_t {r : Nat → Int32} {f t a j : Nat} (h : ¬ (mnt (a + j) f t).toInt = (mnt (a + j) 0 3649).toInt) : lok (mks r f t a j) (a + j) = mks r f t a (j + 1) := (cI_t h).symm
theorem mks_f {r : Nat → Int32} {f t a j : Nat} (h : (mnt (a + j) f t).toInt = (mnt (a + j) 0 3649).toInt) : mks r f t a j = mks r f t a (j + 1) := (cI_f (fun z => z h)).symm
theorem Br_mks {r : Nat → Int32} {f t a : Nat} (h : Br r) : ∀ j, a + j ≤ 120 → Br (mks r f t a j)
  | 0, _ => h
  | j + 1, hj => by
    by_cases q : (mnt (a + j) f t).toInt = (mnt (a + j) 0 3649).toInt
    · rw [← mks_f q]; exact Br_mks h j (by omega)
    · rw [← mks_t q]; exact Br_lok (Br_mks h j (by omega)) (by omega)
theorem mks_mk {r : Nat → Int32} {f t a i : Nat} (h : Br r) : ∀ j, a + j ≤ 120 → mks r f t a j (255 + i) = r (255 + i)
  | 0, _ => rfl
  | j + 1, hj => by
    by_cases q : (mnt (a + j) f t).toInt = (mnt (a + j) 0 3649).toInt
    · rw [← mks_f q]; exact mks_mk h j (by omega)
    · rw [← mks_t q]; exact (lok_mk ((Br_mks h j (by omega)).b (by omega)) (by omega)).trans (mks_mk h j (by omega))
/-- how many subjects are marked on a day of a month -/
def sbo (r : Nat → Int32) (m k : Nat) : Nat → Nat
  | 0 => 0
  | s + 1 => sbo r m k s + bn (r (255 + 16 * m + s)) k
theorem sbo_le (r : Nat → Int32) (m k : Nat) : ∀ s, sbo r m k s ≤ s
  | 0 => Nat.le_refl 0
  | s + 1 => by have h := sbo_le r m k s; have h2 := bn_le (r (255 + 16 * m + s)) k; show sbo r m k s + _ ≤ _; omega
noncomputable def cdk (r : Nat → Int32) (L : Int) (m f t : Nat) : Nat → Nat
  | 0 => 0
  | k + 1 => cdk r L m f t k + cI (bn (mnt m f t) k = 1 ∧ L ≤ (sbo r m k 16 : Int)) 1 0
theorem cdk_le (r : Nat → Int32) (L : Int) (m f t : Nat) : ∀ k, cdk r L m f t k ≤ k
  | 0 => Nat.le_refl 0
  | k + 1 => by
    have h := cdk_le r L m f t k
    show cdk r L m f t k + cI _ 1 0 ≤ _
    by_cases q : bn (mnt m f t) k = 1 ∧ L ≤ (sbo r m k 16 : Int)
    · rw [cI_t q]; omega
    · rw [cI_f q]; omega
noncomputable def ctc (r : Nat → Int32) (L : Int) (f t a : Nat) : Nat → Nat
  | 0 => 0
  | j + 1 => ctc r L f t a j + cdk r L (a + j) f t (dys (a + j))
/-- a subject is marked on a day -/
def mkd (r : Nat → Int32) (s d : Nat) : Prop := bt (r (255 + 16 * mot d + s)) (d - fdy (mot d)) = true
/-- the longest row of days: the row that ends before the n-th day, the best one, its first day -/
noncomputable def lgr (r : Nat → Int32) (s f t : Nat) : Nat → Nat
  | 0 => 0
  | n + 1 => cI (f + n ≤ t ∧ mkd r s (f + n)) (lgr r s f t n + 1) 0
noncomputable def lgb (r : Nat → Int32) (s f t : Nat) : Nat → Nat
  | 0 => 0
  | n + 1 => if lgb r s f t n < lgr r s f t (n + 1) then lgr r s f t (n + 1) else lgb r s f t n
noncomputable def lgf (r : Nat → Int32) (s f t : Nat) : Nat → Int32
  | 0 => -6
  | n + 1 => if lgb r s f t n < lgr r s f t (n + 1) then nI (f + n + 1 - lgr r s f t (n + 1)) else lgf r s f t n
theorem lgr_le (r : Nat → Int32) (s f t : Nat) : ∀ n, lgr r s f t n ≤ n
  | 0 => Nat.le_refl 0
  | n + 1 => by
    have h := lgr_le r s f t n
    show cI _ _ _ ≤ _
    by_cases q : f + n ≤ t ∧ mkd r s (f + n)
    · rw [cI_t q]; omega
    · rw [cI_f q]; omega
theorem lgb_le (r : Nat → Int32) (s f t : Nat) : ∀ n, lgb r s f t n ≤ n
  | 0 => Nat.le_refl 0
  | n + 1 => by
    have h := lgb_le r s f t n
    have h2 := lgr_le r s f t (n + 1)
    show (if _ < _ then _ else _) ≤ _
    split <;> omega
/-- looking at the months in which a subject has a mark -/
noncomputable def lmk (r : Nat → Int32) (s a : Nat) : Nat → Nat → Int32
  | 0 => r
  | j + 1 => cI (¬ (r (255 + 16 * (a + j) + s)).toInt = 0) (lok (lmk r s a j) (a + j)) (lmk r s a j)
theorem lmk_t {r : Nat → Int32} {s a j : Nat} (h : ¬ (r (255 + 16 * (a + j) + s)).toInt = 0) : lok (lmk r s a j) (a + j) = lmk r s a (j + 1) := (cI_t h).symm
theorem lmk_f {r : Nat → Int32} {s a j : Nat} (h : (r (255 + 16 * (a + j) + s)).toInt = 0) : lmk r s a j = lmk r s a (j + 1) := (cI_f (fun z => z h)).symm
theorem Br_lmk {r : Nat → Int32} {s a : Nat} (h : Br r) : ∀ j, a + j ≤ 120 → Br (lmk r s a j)
  | 0, _ => h
  | j + 1, hj => by
    by_cases q : (r (255 + 16 * (a + j) + s)).toInt = 0
    · rw [← lmk_f q]; exact Br_lmk h j (by omega)
    · rw [← lmk_t q]; exact Br_lok (Br_lmk h j (by omega)) (by omega)
theorem lmk_mk {r : Nat → Int32} {s a i : Nat} (h : Br r) : ∀ j, a + j ≤ 120 → lmk r s a j (255 + i) = r (255 + i)
  | 0, _ => rfl
  | j + 1, hj => by
    by_cases q : (r (255 + 16 * (a + j) + s)).toInt = 0
    · rw [← lmk_f q]; exact lmk_mk h j (by omega)
    · rw [← lmk_t q]; exact (lok_mk ((Br_lmk h j (by omega)).b (by omega)) (by omega)).trans (lmk_mk h j (by omega))
/-- the first marked day of a month, from a day on; -6: none -/
noncomputable def fsk (r : Nat → Int32) (s m d : Nat) : Nat → Nat → Int32
  | 0, _ => -6
  | n + 1, k => cI (bt (r (255 + 16 * m + s)) k = true ∧ d ≤ fdy m + k) (nI (fdy m + k)) (fsk r s m d n (k + 1))
theorem fsk_t {r : Nat → Int32} {s m d N k : Nat} (hk : k < N) (h : bt (r (255 + 16 * m + s)) k = true ∧ d ≤ fdy m + k) : fsk r s m d (N - k) k = nI (fdy m + k) := by
  rw [show N - k = (N - (k + 1)) + 1 by omega]; exact cI_t h
theorem fsk_f {r : Nat → Int32} {s m d N k : Nat} (hk : k < N) (h : ¬ (bt (r (255 + 16 * m + s)) k = true ∧ d ≤ fdy m + k)) : fsk r s m d (N - k) k = fsk r s m d (N - (k + 1)) (k + 1) := by
  rw [show N - k = (N - (k + 1)) + 1 by omega]; exact cI_f h
theorem fsk_e {r : Nat → Int32} {s m d N k : Nat} (hk : N ≤ k) : fsk r s m d (N - k) k = -6 := by
  rw [show N - k = 0 by omega]; rfl
noncomputable abbrev fsm (r : Nat → Int32) (s m d : Nat) : Int32 := fsk r s m d (dys m) 0
/-- the search over the months: how many months are passed before it is found; all of them where it is not -/
noncomputable def nxn (r : Nat → Int32) (s d : Nat) : Nat → Nat → Nat
  | 0, _ => 0
  | n + 1, m => cI (fsm r s m d = -6) (nxn r s d n (m + 1) + 1) 0
noncomputable def subk (r : Nat → Int32) (m : Nat) : Nat → Int32
  | 0 => nI 0
  | s + 1 => subk r m s ||| cI (¬ (r (255 + 16 * m + s)).toInt = 0) (nI 1 <<< (nI s &&& 31)) (nI 0)
theorem subk_t {r : Nat → Int32} {m s : Nat} (h : ¬ (r (255 + 16 * m + s)).toInt = 0) : subk r m s ||| (nI 1 <<< (nI s &&& 31)) = subk r m (s + 1) := by
  show _ = subk r m s ||| cI _ _ _
  rw [cI_t h]
theorem subk_f {r : Nat → Int32} {m s : Nat} (h : (r (255 + 16 * m + s)).toInt = 0) : subk r m s ||| nI 0 = subk r m (s + 1) := by
  show _ = subk r m s ||| cI _ _ _
  rw [cI_f (fun z => z h)]
noncomputable def ask (r : Nat → Int32) : Nat → Int32
  | 0 => nI 0
  | k + 1 => ask r k + szo r k
def amk (r : Nat → Int32) : Nat → Nat
  | 0 => 0
  | k + 1 => amk r k + mIn r k
theorem amk_le (r : Nat → Int32) : ∀ k, amk r k ≤ 496 * k
  | 0 => Nat.le_refl 0
  | k + 1 => by have h := amk_le r k; have h2 : mIn r k ≤ 496 := mIk_le r k 16; show amk r k + mIn r k ≤ _; omega
/-! marking -/
noncomputable def due (r : Nat → Int32) (s m f t : Nat) (P : Prop) : Int32 := cI P (mnt m f t &&& (r (255 + 16 * m + s) ^^^ (-1))) (mnt m f t &&& r (255 + 16 * m + s))
noncomputable def mko (r : Nat → Int32) (s f t a : Nat) (P : Prop) : Nat → Nat → Int32
  | 0 => r
  | j + 1 => cI (¬ (due r s (a + j) f t P).toInt = 0) (lay (mko r s f t a P j) s (a + j) (mnt (a + j) f t) P) (mko r s f t a P j)
noncomputable def mkn (r : Nat → Int32) (s f t a : Nat) (P : Prop) : Nat → Nat
  | 0 => 0
  | j + 1 => mkn r s f t a P j + ons (due r s (a + j) f t P)
theorem mko_t {r : Nat → Int32} {s f t a j : Nat} {P : Prop} (h : ¬ (due r s (a + j) f t P).toInt = 0) : lay (mko r s f t a P j) s (a + j) (mnt (a + j) f t) P = mko r s f t a P (j + 1) := (cI_t h).symm
theorem mko_f {r : Nat → Int32} {s f t a j : Nat} {P : Prop} (h : (due r s (a + j) f t P).toInt = 0) : mko r s f t a P j = mko r s f t a P (j + 1) := (cI_f (fun z => z h)).symm
theorem lnk_o {r : Nat → Int32} {m j : Nat} (hj : 255 ≤ j ∨ j = 0 ∨ j = 1 ∨ j = 2 ∨ (6 ≤ j ∧ j < 15)) : ∀ o, o ≤ 120 → lnk r m o j = r j
  | 0, _ => rfl
  | o + 1, ho => by
    by_cases q : (lnk r m o (15 + o)).toInt = 2 ∧ (lnk r m o (135 + o)).toInt = (m : Int)
    · rw [← lnk_t q, fld_o (by omega) (by omega) (by omega) (by omega)]; exact lnk_o hj o (by omega)
    · rw [← lnk_f q]; exact lnk_o hj o (by omega)
theorem ly1_o {r : Nat → Int32} {m j : Nat} (hj : 255 ≤ j ∨ j = 0 ∨ j = 1 ∨ j = 2 ∨ (6 ≤ j ∧ j < 15)) : ly1 r m j = r j := by
  unfold ly1
  by_cases q : m + kpn r ≤ mot (td r)
  · rw [cI_t q]; exact lnk_o hj 120 (Nat.le_refl _)
  · rw [cI_f q]
theorem ly2_o {r : Nat → Int32} {m j : Nat} (hm : m < 120) (hj : 255 ≤ j ∨ j = 0 ∨ j = 1 ∨ j = 2 ∨ (6 ≤ j ∧ j < 15)) : ly2 r m j = r j := by
  unfold ly2
  by_cases q : m + kpn r ≤ mot (td r) ∧ 0 < (ly1 r m (15 + m)).toInt
  · rw [cI_t q, ufd_o (by omega) (by omega) (by omega)]; exact ly1_o hj
  · rw [cI_f q]; exact ly1_o hj
theorem ly3_h {r : Nat → Int32} {s m j : Nat} {x : Int32} {P : Prop} (hm : m < 120) (hj : j = 0 ∨ j = 1 ∨ j = 2 ∨ (6 ≤ j ∧ j < 15)) : ly3 r s m x P j = r j := by
  unfold ly3
  rw [upd_n (by omega)]
  exact ly2_o hm (by omega)
theorem Br_lay {r : Nat → Int32} {s m : Nat} {x : Int32} {P : Prop} (h : Br r) (hm : m < 120) : Br (lay r s m x P) := by
  have h3 : Bs (ly3 r s m x P) 6 := Bs_ly3 h.1 (by omega)
  unfold lay
  by_cases q : m + kpn r ≤ mot (td r)
  · rw [cI_t q]
    have := Bs_fga (Bs_ten (m := m) (h3.mono (show 6 ≤ 7 by omega)) (Nat.le_refl 7) hm)
    exact ⟨this.1, this.2.1⟩
  · rw [cI_f q]
    refine ⟨h3, ?_⟩
    have e6 : ny (ly3 r s m x P) = ny r := by unfold ny; rw [ly3_h hm (by omega)]
    have e2 : opn (ly3 r s m x P) = opn r := by unfold opn; rw [ly3_h hm (by omega)]
    rw [e6, e2]; exact h.2
theorem lay_mk {r : Nat → Int32} {s m j : Nat} {x : Int32} {P : Prop} (h : Br r) (hm : m < 120) (hs : s < 16) (hj : j ≠ 16 * m + s) : lay r s m x P (255 + j) = r (255 + j) := by
  have h3 : Bs (ly3 r s m x P) 7 := (Bs_ly3 h.1 (by omega)).mono (by omega)
  have e3 : ly3 r s m x P (255 + j) = r (255 + j) := by
    unfold ly3
    rw [upd_n (by omega)]
    exact ly2_o hm (by omega)
  unfold lay
  by_cases q : m + kpn r ≤ mot (td r)
  · rw [cI_t q]
    have h4 := Bs_ten (m := m) h3 (Nat.le_refl 7) hm
    rw [show fga (ten (ly3 r s m x P) m) (255 + j) = ten (ly3 r s m x P) m (255 + j) from fgk_mk h4 (Nat.le_refl 8) j _ (by omega), ten_mk h3 (Nat.le_refl 7) (by omega)]
    exact e3
  · rw [cI_f q]; exact e3
theorem Br_mko {r : Nat → Int32} {s f t a : Nat} {P : Prop} (h : Br r) : ∀ j, a + j ≤ 120 → Br (mko r s f t a P j)
  | 0, _ => h
  | j + 1, hj => by
    by_cases q : (due r s (a + j) f t P).toInt = 0
    · rw [← mko_f q]; exact Br_mko h j (by omega)
    · rw [← mko_t q]; exact Br_lay (Br_mko h j (by omega)) (by omega)
theorem mko_mk {r : Nat → Int32} {s f t a i : Nat} {P : Prop} (h : Br r) (hs : s < 16) : ∀ j, a + j ≤ 120 → 16 * (a + j) ≤ i → mko r s f t a P j (255 + i) = r (255 + i)
  | 0, _, _ => rfl
  | j + 1, hj, hi => by
    by_cases q : (due r s (a + j) f t P).toInt = 0
    · rw [← mko_f q]; exact mko_mk h hs j (by omega) (by omega)
    · rw [← mko_t q]; exact (lay_mk (Br_mko h j (by omega)) (by omega) hs (by omega)).trans (mko_mk h hs j (by omega) (by omega))
/-! the history, settings -/
def rch (c : Nat) : Nat := if c = 6 then 5 else c
theorem rch_6 {c : Nat} (h : c = 6) : rch c = c - 1 := by subst h; rfl
theorem rch_n {c : Nat} (h : ¬ c = 6) : rch c = c := if_neg h
theorem rch_le {c : Nat} (h : c ≤ 6) : rch c ≤ 5 := by
  by_cases q : c = 6
  · rw [rch_6 q]; omega
  · rw [rch_n q]; omega
def shk (f : Nat → Int32) (k : Nat) : Nat → Int32 := fun j => if j < k then f (j + 2175) else f j
theorem shk_0 (f : Nat → Int32) : shk f 0 = f := by funext j; unfold shk; rw [if_neg (by omega)]
theorem shk_o {f : Nat → Int32} {k j : Nat} (h : k ≤ j) : shk f k j = f j := if_neg (by omega)
theorem shk_s (f : Nat → Int32) (k : Nat) : upd (shk f k) k (f (k + 2175)) = shk f (k + 1) := by
  funext j
  by_cases e : j = k
  · subst e; rw [upd_s]; unfold shk; rw [if_pos (by omega)]
  · rw [upd_n e]; unfold shk
    by_cases q : j < k
    · rw [if_pos q, if_pos (by omega)]
    · rw [if_neg q, if_neg (by omega)]
def rhh (c : Nat) (f : Nat → Int32) : Nat → Int32 := if c = 6 then shk f 10875 else f
theorem rhh_6 {c : Nat} {f : Nat → Int32} (h : c = 6) : rhh c f = shk f 10875 := if_pos h
theorem rhh_n {c : Nat} {f : Nat → Int32} (h : ¬ c = 6) : rhh c f = f := if_neg h
noncomputable def eSt (S V T : Int) : Int32 := cI (¬ ((S = 0 ∧ 1 ≤ V ∧ V ≤ 12) ∨ (S = 1 ∧ 0 ≤ V ∧ V ≤ 6))) (-2) (cI (S = 0 ∧ ¬ T = 0) (-5) (nI 0))
theorem eSt_0 {S V T : Int} (h : (S = 0 ∧ 1 ≤ V ∧ V ≤ 12) ∨ (S = 1 ∧ 0 ≤ V ∧ V ≤ 6)) (h2 : ¬ (S = 0 ∧ ¬ T = 0)) : eSt S V T = nI 0 := (cI_f (fun z => z h)).trans (cI_f h2)
theorem eSt_1 {S V T : Int} (h : ¬ ((S = 0 ∧ 1 ≤ V ∧ V ≤ 12) ∨ (S = 1 ∧ 0 ≤ V ∧ V ≤ 6))) : eSt S V T = -2 := cI_t h
theorem eSt_2 {S V T : Int} (h : (S = 0 ∧ 1 ≤ V ∧ V ≤ 12) ∨ (S = 1 ∧ 0 ≤ V ∧ V ≤ 6)) (h2 : S = 0 ∧ ¬ T = 0) : eSt S V T = -5 := (cI_f (fun z => z h)).trans (cI_t h2)
theorem Bs_keep {r : Nat → Int32} {v n : Nat} (h : Bs r n) (hv : v ≤ 12) : Bs (upd r 1 (nI v)) n := by
  obtain ⟨a, b, c, d1, e, f, g, i, j⟩ := h
  have k1 : kpn (upd r 1 (nI v)) = v := by show (upd r 1 (nI v) 1).toNatClampNeg = v; rw [upd_s, nI_clamp (by omega)]
  unfold Bs
  rw [k1, show td (upd r 1 (nI v)) = td r from rfl, show opn (upd r 1 (nI v)) = opn r from rfl, show ny (upd r 1 (nI v)) = ny r from rfl]
  exact ⟨a, b, rfl, hv, e, f, g, i, fun q hq => by rw [upd_n (by omega)]; exact j q hq⟩
theorem Bs_open {r : Nat → Int32} {v n : Nat} (h : Bs r n) (hv : v ≤ 6) : Bs (upd r 2 (nI v)) n := by
  obtain ⟨a, b, c, d1, e, f, g, i, j⟩ := h
  have k1 : opn (upd r 2 (nI v)) = v := by show (upd r 2 (nI v) 2).toNatClampNeg = v; rw [upd_s, nI_clamp (by omega)]
  unfold Bs
  rw [k1, show td (upd r 2 (nI v)) = td r from rfl, show kpn (upd r 2 (nI v)) = kpn r from rfl, show ny (upd r 2 (nI v)) = ny r from rfl]
  exact ⟨a, b, c, d1, rfl, hv, g, i, fun q hq => by rw [upd_n (by omega)]; exact j q hq⟩
theorem fga_id {r : Nat → Int32} (h : ny r ≤ opn r) : fga r = r := by
  show fgk r (ny r - opn r) = r
  rw [show ny r - opn r = 0 by omega]
  rfl
theorem fga_keep {r : Nat → Int32} {v : Nat} (h : Br r) : fga (upd r 1 (nI v)) = upd r 1 (nI v) := fga_id (by
  rw [show opn (upd r 1 (nI v)) = opn r from rfl, show ny (upd r 1 (nI v)) = ny r from rfl]; exact h.2)
noncomputable def eCr (L F T : Int) : Int32 := cI (¬ ((0 ≤ F ∧ F ≤ 3649) ∧ (0 ≤ T ∧ T ≤ 3649))) (-1) (cI (¬ ((1 ≤ L ∧ L ≤ 16) ∧ F ≤ T)) (-2) (nI 0))
theorem eCr_1 {L F T : Int} (h : ¬ ((0 ≤ F ∧ F ≤ 3649) ∧ (0 ≤ T ∧ T ≤ 3649))) : eCr L F T = -1 := cI_t h
theorem eCr_2 {L F T : Int} (h : (0 ≤ F ∧ F ≤ 3649) ∧ (0 ≤ T ∧ T ≤ 3649)) (h2 : ¬ ((1 ≤ L ∧ L ≤ 16) ∧ F ≤ T)) : eCr L F T = -2 := (cI_f (fun z => z h)).trans (cI_t h2)

theorem sub_add1 {a b : Nat} (h : b ≤ a + 1) : nI a - nI b + nI 1 = nI (a + 1 - b) := by
  rw [← pk_sub h, ← nI_add]
  exact (show nI a - nI b + nI 1 = nI a + nI 1 - nI b by rw [Int32.sub_eq_add_neg, Int32.sub_eq_add_neg, Int32.add_assoc, Int32.add_assoc, Int32.add_comm (-nI b)])
theorem mot_of {m k : Nat} (hm : m < 120) (hk : k < dys m) : mot (fdy m + k) = m := by
  have h1 := fdy_succ m
  have h2 := fdy_lt' hm
  have a := mot_le (d := fdy m + k) (m := m) (by omega) (by omega)
  have b := mot_ge (d := fdy m + k) (m := m) (by omega) (by omega)
  omega
theorem bn_and {x y : Int32} {k : Nat} : bn (x &&& y) k = 1 ↔ (bn x k = 1 ∧ bn y k = 1) := by
  rw [bn_1, bn_1, bn_1, b_and, Bool.and_eq_true]
theorem bn_mnt {m f t k : Nat} (hk : k < dys m) : bn (mnt m f t) k = 1 ↔ (f ≤ fdy m + k ∧ fdy m + k ≤ t) := by
  have := dys_in m
  rw [bn_1, b_mnt m f t (show k < 32 by omega), decide_eq_true_eq]
  exact ⟨fun h => h.2, fun h => ⟨hk, h⟩⟩
/-- one more day of a month, as the reference goes through it -/
theorem lg_step {r : Nat → Int32} {s f t m k : Nat} (hm : m < 120) (hk : k < dys m) :
    (bn (r (255 + 16 * m + s) &&& mnt m f t) k = 1 → lgr r s f t (fdy m + (k + 1) - f) = lgr r s f t (fdy m + k - f) + 1) ∧
    (¬ bn (r (255 + 16 * m + s) &&& mnt m f t) k = 1 → lgr r s f t (fdy m + (k + 1) - f) = 0) ∧
    (lgb r s f t (fdy m + k - f) < lgr r s f t (fdy m + (k + 1) - f) → lgb r s f t (fdy m + (k + 1) - f) = lgr r s f t (fdy m + (k + 1) - f) ∧ lgf r s f t (fdy m + (k + 1) - f) = nI (fdy m + k + 1 - lgr r s f t (fdy m + (k + 1) - f))) ∧
    (¬ lgb r s f t (fdy m + k - f) < lgr r s f t (fdy m + (k + 1) - f) → lgb r s f t (fdy m + (k + 1) - f) = lgb r s f t (fdy m + k - f) ∧ lgf r s f t (fdy m + (k + 1) - f) = lgf r s f t (fdy m + k - f)) := by
  have hb : bn (r (255 + 16 * m + s) &&& mnt m f t) k = 1 ↔ (bt (r (255 + 16 * m + s)) k = true ∧ f ≤ fdy m + k ∧ fdy m + k ≤ t) := by
    rw [bn_and, bn_mnt hk, bn_1]
  rcases Nat.lt_or_ge (fdy m + k) f with h | h
  · rw [show fdy m + k - f = 0 by omega, show fdy m + (k + 1) - f = 0 by omega]
    refine ⟨fun z => ?_, fun _ => rfl, fun z => ?_, fun _ => ⟨rfl, rfl⟩⟩
    · have := hb.mp z; omega
    · exact absurd z (Nat.lt_irrefl 0)
  · obtain ⟨n, hn⟩ : ∃ n, fdy m + k = f + n := ⟨fdy m + k - f, by omega⟩
    rw [show fdy m + k - f = n by omega, show fdy m + (k + 1) - f = n + 1 by omega]
    have hd : (f + n ≤ t ∧ mkd r s (f + n)) ↔ bn (r (255 + 16 * m + s) &&& mnt m f t) k = 1 := by
      rw [hb, ← hn]
      unfold mkd
      rw [mot_of hm hk, show fdy m + k - fdy m = k by omega]
      exact ⟨fun z => ⟨z.2, h, z.1⟩, fun z => ⟨z.2.2, z.1⟩⟩
    refine ⟨fun z => cI_t (hd.mpr z), fun z => cI_f (fun q => z (hd.mp q)), fun z => ⟨if_pos z, ?_⟩, fun z => ⟨if_neg z, if_neg z⟩⟩
    rw [hn]
    exact if_pos z
theorem lg_end {r : Nat → Int32} {s f t : Nat} : ∀ n, t + 1 - f ≤ n → f ≤ t → lgb r s f t n = lgb r s f t (t + 1 - f) ∧ lgf r s f t n = lgf r s f t (t + 1 - f) := by
  intro n
  induction n with
  | zero => intro h hf; omega
  | succ n ih =>
    intro h hf
    rcases Nat.lt_or_ge n (t + 1 - f) with q | q
    · rw [show n + 1 = t + 1 - f by omega]; exact ⟨rfl, rfl⟩
    · have e : lgr r s f t (n + 1) = 0 := cI_f (fun z => by omega)
      have g : ¬ lgb r s f t n < lgr r s f t (n + 1) := by rw [e]; exact Nat.not_lt_zero _
      have h1 : lgb r s f t (n + 1) = lgb r s f t n := if_neg g
      have h2 : lgf r s f t (n + 1) = lgf r s f t n := if_neg g
      rw [h1, h2]
      exact ih q hf
noncomputable def lgs (r : Nat → Int32) (s f t w : Nat) : Int32 := if w = 0 then nI (lgb r s f t (t + 1 - f)) else lgf r s f t (t + 1 - f)
noncomputable def eLo (S F T X : Int) : Int32 := cI (¬ ((0 ≤ S ∧ S ≤ 15) ∧ (0 ≤ F ∧ F ≤ 3649) ∧ (0 ≤ T ∧ T ≤ 3649))) (-1) (cI (¬ ((0 ≤ X ∧ X ≤ 1) ∧ F ≤ T)) (-2) (nI 0))
theorem eLo_1 {S F T X : Int} (h : ¬ ((0 ≤ S ∧ S ≤ 15) ∧ (0 ≤ F ∧ F ≤ 3649) ∧ (0 ≤ T ∧ T ≤ 3649))) : eLo S F T X = -1 := cI_t h
theorem eLo_2 {S F T X : Int} (h : (0 ≤ S ∧ S ≤ 15) ∧ (0 ≤ F ∧ F ≤ 3649) ∧ (0 ≤ T ∧ T ≤ 3649)) (h2 : ¬ ((0 ≤ X ∧ X ≤ 1) ∧ F ≤ T)) : eLo S F T X = -2 := (cI_f (fun z => z h)).trans (cI_t h2)
/-! the next mark -/
theorem fsk_in (r : Nat → Int32) (s m d : Nat) : ∀ n k, fsk r s m d n k = -6 ∨ ∃ j, k ≤ j ∧ j < k + n ∧ fsk r s m d n k = nI (fdy m + j)
  | 0, k => Or.inl rfl
  | n + 1, k => by
    by_cases h : bt (r (255 + 16 * m + s)) k = true ∧ d ≤ fdy m + k
    · exact Or.inr ⟨k, Nat.le_refl _, by omega, cI_t h⟩
    · have e : fsk r s m d (n + 1) k = fsk r s m d n (k + 1) := cI_f h
      rw [e]
      rcases fsk_in r s m d n (k + 1) with h1 | ⟨j, h0, h1, h2⟩
      · exact Or.inl h1
      · exact Or.inr ⟨j, by omega, by omega, h2⟩
theorem fsk_z {r : Nat → Int32} {s m d : Nat} (h : (r (255 + 16 * m + s)).toInt = 0) : ∀ n k, fsk r s m d n k = -6
  | 0, k => rfl
  | n + 1, k => by
    have e : fsk r s m d (n + 1) k = fsk r s m d n (k + 1) := cI_f (fun z => by
      have h0 : r (255 + 16 * m + s) = 0 := Int32.toInt_inj.mp (by rw [h]; rfl)
      rw [h0, b_0] at z
      exact absurd z.1 (by decide))
    rw [e]; exact fsk_z h n (k + 1)
noncomputable abbrev nxJ (r : Nat → Int32) (s d : Nat) : Nat := nxn r s d (120 - mot d) (mot d)
theorem nxn_t {r : Nat → Int32} {s d m : Nat} (hm : m < 120) (h : ¬ fsm r s m d = -6) : nxn r s d (120 - m) m = 0 := by
  rw [show 120 - m = (120 - (m + 1)) + 1 by omega]; exact cI_f h
theorem nxn_f {r : Nat → Int32} {s d m : Nat} (hm : m < 120) (h : fsm r s m d = -6) : nxn r s d (120 - m) m = nxn r s d (120 - (m + 1)) (m + 1) + 1 := by
  rw [show 120 - m = (120 - (m + 1)) + 1 by omega]; exact cI_t h
noncomputable def nxc (r : Nat → Int32) (s d : Nat) : Nat := if mot d + nxJ r s d < 120 then nxJ r s d + 1 else nxJ r s d
noncomputable def nxr (r : Nat → Int32) (s d : Nat) : Int32 := if mot d + nxJ r s d < 120 then fsm r s (mot d + nxJ r s d) d else -6
/-! of a month, counts -/
noncomputable def omv (r : Nat → Int32) (m : Nat) (W : Int) : Int32 := if W = 0 then nI (fdy m) else if W = 1 then nI (dys m) else if W = 2 then pI (m + kpn r ≤ mot (td r)) else if W = 3 then pI (¬ plo r m = -6) else if W = 4 then (if (r (15 + m)).toInt = 0 then nI 4 else r (15 + m) - nI 1) else if W = 5 then szo r m else if W = 6 then (if (r (15 + m)).toInt = 2 then r (135 + m) else -6) else if W = 7 then nI (mIn r m) else if W = 8 then subk r m 16 else if W = 9 then plo r m else -2
def dtv (d : Nat) (W : Int) : Int32 := if W = 0 then nI (d / 365) else if W = 1 then nI (1 + mot d % 12) else if W = 2 then nI (1 + d - fdy (mot d)) else nI (mot d)
noncomputable def cov (r : Nat → Int32) (ch sy : Int32) (W : Int) : Int32 := if W = 0 then r 0 else if W = 1 then nI (mot (td r)) else if W = 2 then nI (mot (td r) + 1 - kpn r) else if W = 3 then r 6 else if W = 4 then ask r (mot (td r) + 1) else if W = 5 then r 3 else if W = 6 then r 4 else if W = 7 then r 5 else if W = 8 then nI (amk r 120) else if W = 9 then r 1 else if W = 10 then r 2 else if W = 11 then sy else if W = 12 then ch else -2
/-! the best OPEN -/
noncomputable def tbr (r : Nat → Int32) (f t k : Nat) : Nat → Int32 := lkk (lkk (fga (upd r 2 (nI k))) (mot f) (mot t + 1 - mot f)) (mot f) (mot t + 1 - mot f)
noncomputable def tbo (r rt : Nat → Int32) (f t : Nat) : Nat → Nat → Int32
  | 0 => rt
  | k + 1 => tbr r f t k
noncomputable def bwk (r : Nat → Int32) (f t k : Nat) : Int32 := tbr r f t k 3 - r 3
/-- the least work and where, of the first k + 1 settings -/
noncomputable def bol (r : Nat → Int32) (f t : Nat) : Nat → Int32
  | 0 => bwk r f t 0
  | k + 1 => if (bwk r f t (k + 1)).toInt < (bol r f t k).toInt then bwk r f t (k + 1) else bol r f t k
noncomputable def bob (r : Nat → Int32) (f t : Nat) : Nat → Nat
  | 0 => 0
  | k + 1 => if (bwk r f t (k + 1)).toInt < (bol r f t k).toInt then k + 1 else bob r f t k
noncomputable def ro1 (r : Nat → Int32) (f t : Nat) : Nat → Int32
  | 0 => -6
  | k + 1 => nI (bob r f t k)
noncomputable def ro2 (r : Nat → Int32) (f t : Nat) : Nat → Int32
  | 0 => nI 0
  | k + 1 => bol r f t k
theorem bob_le (r : Nat → Int32) (f t : Nat) : ∀ k, bob r f t k ≤ k
  | 0 => Nat.le_refl 0
  | k + 1 => by
    have h := bob_le r f t k
    show (if _ < _ then _ else _) ≤ _
    split <;> omega
theorem ro_s {r : Nat → Int32} {f t k : Nat} : ((ro1 r f t k).toInt = -6 ∨ (bwk r f t k).toInt < (ro2 r f t k).toInt → k ≤ 6 → ro1 r f t (k + 1) = nI k ∧ ro2 r f t (k + 1) = bwk r f t k) ∧ (¬ ((ro1 r f t k).toInt = -6 ∨ (bwk r f t k).toInt < (ro2 r f t k).toInt) → ro1 r f t (k + 1) = ro1 r f t k ∧ ro2 r f t (k + 1) = ro2 r f t k) := by
  cases k with
  | zero => exact ⟨fun _ _ => ⟨rfl, rfl⟩, fun h => absurd (Or.inl rfl) h⟩
  | succ k =>
    refine ⟨fun h hk => ?_, fun h => ?_⟩
    · have h6 : ¬ (ro1 r f t (k + 1)).toInt = -6 := by
        show ¬ (nI (bob r f t k)).toInt = -6
        rw [toI (by have := bob_le r f t k; omega)]; omega
      have h2 : (bwk r f t (k + 1)).toInt < (bol r f t k).toInt := h.resolve_left h6
      exact ⟨congrArg nI (if_pos h2), if_pos h2⟩
    · have h2 : ¬ (bwk r f t (k + 1)).toInt < (bol r f t k).toInt := fun z => h (Or.inr z)
      exact ⟨congrArg nI (if_neg h2), if_neg h2⟩
theorem sub1_toInt {a b : Nat} (ha : a < 1073741823) (hb : b < 1073741823) : (nI a - nI b + nI 1).toInt = (a : Int) - b + 1 := by
  rcases Nat.lt_or_ge (a + 1) b with h | h
  · have e : nI a - nI b + nI 1 = nI (a + 1) - nI b := by
      rw [← nI_add]
      rw [Int32.sub_eq_add_neg, Int32.sub_eq_add_neg, Int32.add_assoc, Int32.add_assoc, Int32.add_comm (-nI b)]
    rw [e, pk_sub_toInt (by omega) (by omega)]
    omega
  · rw [sub_add1 h, toI (by omega)]
    omega
