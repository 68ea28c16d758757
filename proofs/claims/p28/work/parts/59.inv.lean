/-! ===== what holds besides: a month that is EMPTY has no mark; no mark stands behind the month of today ===== -/
def Em (r : Nat → Int32) : Prop := ∀ m, m < 120 → (r (15 + m)).toInt = 1 → mIn r m = 0
def Zr (r : Nat → Int32) : Prop := ∀ m, m < 120 → mot (td r) < m → ∀ s, s < 16 → r (255 + 16 * m + s) = 0
def Ex (r : Nat → Int32) : Prop := Em r ∧ Zr r
def Dv (r : Nat → Int32) : Prop := Cv r ∧ Ex r
theorem mIk_c {r r' : Nat → Int32} {m : Nat} (h : ∀ s, s < 16 → r' (255 + 16 * m + s) = r (255 + 16 * m + s)) : ∀ k, k ≤ 16 → mIk r' m k = mIk r m k
  | 0, _ => rfl
  | k + 1, hk => by
    show mIk r' m k + ons (r' (255 + 16 * m + k)) = mIk r m k + ons (r (255 + 16 * m + k))
    rw [mIk_c h k (by omega), h k (by omega)]
theorem Ex_same {r r' : Nat → Int32} (h : Ex r) (he : ∀ m, m < 120 → (r' (15 + m)).toInt = 1 → (r (15 + m)).toInt = 1 ∨ mIn r m = 0) (h0 : mot (td r) ≤ mot (td r')) (hm : ∀ j, r' (255 + j) = r (255 + j)) : Ex r' := by
  refine ⟨fun m q h1 => ?_, fun m q h1 s hs => ?_⟩
  · rw [show mIn r' m = mIn r m from mIk_c (fun s hs => by rw [Nat.add_assoc]; exact hm _) 16 (Nat.le_refl 16)]
    rcases he m q h1 with g | g
    · exact h.1 m q g
    · exact g
  · rw [Nat.add_assoc, hm, ← Nat.add_assoc]
    exact h.2 m q (by omega) s hs
theorem Ex_ag {r r' : Nat → Int32} (h : Ex r) (ha : Ag r r') (h0 : r' 0 = r 0) : Ex r' :=
  Ex_same h (fun m hm h1 => Or.inl (by rw [← ha _ (by omega)]; exact h1)) (by unfold td; rw [h0]; exact Nat.le_refl _) (fun j => ha _ (by omega))
theorem bsj_ge (r : Nat → Int32) (m : Nat) (B : Int) : ∀ k, k ≤ 4 → 4 ≤ bsj r m B k + k
  | 0, _ => Nat.le_refl 4
  | k + 1, hk => by
    by_cases q : siz r m B (3 - (k : Int)) ≠ -6 ∧ (siz r m B (3 - (k : Int))).toInt ≤ (siz r m B ((bsj r m B k : Nat) : Int)).toInt
    · rw [bsj_t q]; omega
    · have := bsj_ge r m B k (by omega)
      rw [bsj_f q]; omega
theorem bst_0 {r : Nat → Int32} {m : Nat} {B : Int} (h : bst r m B = 0) : mIn r m = 0 := by
  have h : bsj r m B (3 + 1) = 0 := h
  by_cases q : siz r m B (3 - ((3 : Nat) : Int)) ≠ -6 ∧ (siz r m B (3 - ((3 : Nat) : Int))).toInt ≤ (siz r m B ((bsj r m B 3 : Nat) : Int)).toInt
  · have q1 := q.1
    rw [show (3 : Int) - ((3 : Nat) : Int) = 0 by decide] at q1
    unfold siz at q1
    rw [if_pos rfl] at q1
    by_cases z : mIn r m = 0
    · exact z
    · rw [if_neg z] at q1
      exact absurd rfl q1
  · rw [bsj_f q] at h
    have := bsj_ge r m B 3 (by omega)
    omega
theorem Ex_fld {r : Nat → Int32} {m : Nat} {B : Int} (h : Ex r) (hm : m < 120) : Ex (fld r m B) := by
  refine Ex_same h (fun q hq h1 => ?_) (by unfold td; rw [fld_o (by omega) (by omega) (by omega) (by omega)]; exact Nat.le_refl _) (fun j => fld_o (by omega) (by omega) (by omega) (by omega))
  rw [fld_f hm hq] at h1
  by_cases e : q = m
  · rw [if_pos e, toI (by have : bst r m B ≤ 4 := bsj_le _ m B 4; omega)] at h1
    subst e
    exact Or.inr (bst_0 (B := B) (by omega))
  · rw [if_neg e] at h1
    exact Or.inl h1
theorem Ex_ufd {r : Nat → Int32} {m : Nat} (h : Ex r) (hm : m < 120) : Ex (ufd r m) := by
  refine Ex_same h (fun q hq h1 => ?_) (by unfold td; rw [ufd_o (by omega) (by omega) (by omega)]; exact Nat.le_refl _) (fun j => ufd_o (by omega) (by omega) (by omega))
  rw [ufd_f hm hq] at h1
  by_cases e : q = m
  · rw [if_pos e] at h1
    exact absurd h1 (by decide)
  · rw [if_neg e] at h1
    exact Or.inl h1
theorem fgk_0 {r : Nat → Int32} {n : Nat} (h : Bs r n) (hn : n ≤ 8) : ∀ i, i ≤ ny r → fgk r i 0 = r 0
  | 0, _ => rfl
  | i + 1, hi => by
    obtain ⟨h1, h2, h3⟩ := Bs_fgk h hn i (by omega)
    show fgs (fgk r i) 0 = _
    unfold fgs
    rw [fld_o (by omega) (by omega) (by omega) (by omega), tko_o (by omega) (by omega)]
    exact fgk_0 h hn i (by omega)
theorem Ex_fgk {r : Nat → Int32} {n : Nat} (h : Bs r n) (hn : n ≤ 8) (hc : Ex r) : ∀ j, j ≤ ny r → Ex (fgk r j)
  | 0, _ => hc
  | j + 1, hj => by
    obtain ⟨h1, h2, h3⟩ := Bs_fgk h hn j (by omega)
    have ih := Ex_fgk h hn hc j (by omega)
    obtain ⟨m0, hm0, em0⟩ := h1.2.2.2.2.2.2.2.2 0 (by omega)
    have h8 := h1.2.2.2.2.2.2.2.1
    show Ex (fgs (fgk r j))
    rw [fgs_e h1 (by omega) hm0 em0]
    have en : ny (fld (fgk r j) m0 (-6)) = ny (fgk r j) := by unfold ny; rw [fld_o (by omega) (by omega) (by omega) (by omega)]
    exact Ex_ag (Ex_fld ih hm0) (ag_tko (by omega)) (tko_o (by omega) (by omega))
theorem Ex_fga {r : Nat → Int32} (h : Bs r 8) (hc : Ex r) : Ex (fga r) := Ex_fgk h (Nat.le_refl 8) hc _ (by omega)
theorem fga_0 {r : Nat → Int32} (h : Bs r 8) : fga r 0 = r 0 := fgk_0 h (Nat.le_refl 8) _ (by omega)
theorem Ex_lk1 {r : Nat → Int32} {m : Nat} (h : Ex r) (hm : m < 120) : Ex (lk1 r m) := by
  by_cases q : 0 < (r (15 + m)).toInt
  · unfold lk1; rw [cI_t q]; exact Ex_ufd h hm
  · unfold lk1; rw [cI_f q]; exact h
theorem lk1_0 {r : Nat → Int32} {m : Nat} : lk1 r m 0 = r 0 := by
  by_cases q : 0 < (r (15 + m)).toInt
  · unfold lk1; rw [cI_t q]; exact ufd_o (by omega) (by omega) (by omega)
  · unfold lk1; rw [cI_f q]
theorem Ex_lok {r : Nat → Int32} {m : Nat} (h : Dv r) (hm : m < 120) : Ex (lok r m) := by
  obtain ⟨⟨hb, hk, hc, ho⟩, he⟩ := h
  have hb7 : Bs r 7 := hb.b (by omega)
  unfold lok
  by_cases q : m + kpn r ≤ mot (td r) ∧ ¬ (r (15 + m)).toInt = 1
  · rw [cI_t q]
    have g1 := Bs_lk1 (m := m) hb7 (by omega)
    exact Ex_fga (Bs_ten g1 (Nat.le_refl 7) hm) (Ex_ag (Ex_lk1 he hm) (Ag_ten g1 (Nat.le_refl 7)) (ten_mk g1 (Nat.le_refl 7) (by omega)))
  · rw [cI_f q]; exact he
theorem lok_0 {r : Nat → Int32} {m : Nat} (h : Dv r) (hm : m < 120) : lok r m 0 = r 0 := by
  have hb7 : Bs r 7 := h.1.1.b (by omega)
  unfold lok
  by_cases q : m + kpn r ≤ mot (td r) ∧ ¬ (r (15 + m)).toInt = 1
  · rw [cI_t q]
    have g1 := Bs_lk1 (m := m) hb7 (by omega)
    rw [fga_0 (Bs_ten g1 (Nat.le_refl 7) hm), ten_mk g1 (Nat.le_refl 7) (by omega)]
    exact lk1_0
  · rw [cI_f q]
theorem Dv_lok {r : Nat → Int32} {m : Nat} (h : Dv r) (hm : m < 120) : Dv (lok r m) := ⟨Cv_lok h.1 hm, Ex_lok h hm⟩
theorem Dv_lkk {r : Nat → Int32} {a : Nat} (h : Dv r) : ∀ j, a + j ≤ 120 → Dv (lkk r a j)
  | 0, _ => h
  | j + 1, hj => Dv_lok (Dv_lkk h j (by omega)) (by omega)
theorem Dv_lmk {r : Nat → Int32} {s a : Nat} (h : Dv r) : ∀ j, a + j ≤ 120 → Dv (lmk r s a j)
  | 0, _ => h
  | j + 1, hj => by
    by_cases q : (r (255 + 16 * (a + j) + s)).toInt = 0
    · rw [← lmk_f q]; exact Dv_lmk h j (by omega)
    · rw [← lmk_t q]; exact Dv_lok (Dv_lmk h j (by omega)) (by omega)
theorem Dv_mks {r : Nat → Int32} {f t a : Nat} (h : Dv r) : ∀ j, a + j ≤ 120 → Dv (mks r f t a j)
  | 0, _ => h
  | j + 1, hj => by
    by_cases q : (mnt (a + j) f t).toInt = (mnt (a + j) 0 3649).toInt
    · rw [← mks_f q]; exact Dv_mks h j (by omega)
    · rw [← mks_t q]; exact Dv_lok (Dv_mks h j (by omega)) (by omega)
theorem Ex_lnk {r : Nat → Int32} {m : Nat} (h : Ex r) : ∀ o, o ≤ 120 → Ex (lnk r m o)
  | 0, _ => h
  | o + 1, ho => by
    by_cases q : (lnk r m o (15 + o)).toInt = 2 ∧ (lnk r m o (135 + o)).toInt = (m : Int)
    · rw [← lnk_t q]; exact Ex_fld (Ex_lnk h o (by omega)) (by omega)
    · rw [← lnk_f q]; exact Ex_lnk h o (by omega)
/-- a mark that changes in a month of today or before, whose form isn't EMPTY -/
theorem Ex_upd {r : Nat → Int32} {s m : Nat} {v : Int32} (h : Ex r) (hm : m < 120) (hs : s < 16) (hf : ¬ (r (15 + m)).toInt = 1) (ht : m ≤ mot (td r)) : Ex (upd r (255 + 16 * m + s) v) := by
  refine ⟨fun q hq h1 => ?_, fun q hq h1 u hu => ?_⟩
  · rw [upd_n (by omega)] at h1
    have e : ¬ q = m := fun z => hf (by rw [← z]; exact h1)
    rw [show mIn (upd r (255 + 16 * m + s) v) q = mIn r q from mIk_c (fun u hu => upd_n (by omega)) 16 (Nat.le_refl 16)]
    exact h.1 q hq h1
  · have et : td (upd r (255 + 16 * m + s) v) = td r := by unfold td; rw [upd_n (by omega)]
    rw [et] at h1
    rw [upd_n (by omega)]
    exact h.2 q hq h1 u hu
theorem Ex_lay {r : Nat → Int32} {s m : Nat} {x : Int32} {P : Prop} (h : Dv r) (hm : m < 120) (hs : s < 16) (ht : m ≤ mot (td r)) : Ex (lay r s m x P) := by
  obtain ⟨⟨hb, hk, hc, ho⟩, he⟩ := h
  have hb6 := hb.1
  unfold lay
  by_cases g : m + kpn r ≤ mot (td r)
  · rw [cI_t g]
    have b1 := Bs_lnk (m := m) hb6 (by omega) 120
    have e2 : ly2 r m = lk1 (lnk r m 120) m := ly2_old g
    have x2 : Ex (ly2 r m) := by rw [e2]; exact Ex_lk1 (Ex_lnk he 120 (Nat.le_refl _)) hm
    have f2 : ¬ (ly2 r m (15 + m)).toInt = 1 := by
      rw [e2]
      unfold lk1
      by_cases q : 0 < (lnk r m 120 (15 + m)).toInt
      · rw [cI_t q, ufd_f hm hm, if_pos rfl]; decide
      · rw [cI_f q]; omega
    have t2 : td (ly2 r m) = td r := by unfold td; rw [ly2_o hm (by omega)]
    have x3 : Ex (ly3 r s m x P) := Ex_upd x2 hm hs f2 (by rw [t2]; exact ht)
    have b3 : Bs (ly3 r s m x P) 7 := Bs_ly3 (hb6.mono (show 6 ≤ 7 by omega)) (by omega)
    exact Ex_fga (Bs_ten b3 (Nat.le_refl 7) hm) (Ex_ag x3 (Ag_ten b3 (Nat.le_refl 7)) (ten_mk b3 (Nat.le_refl 7) (by omega)))
  · rw [cI_f g]
    have e2 : ly2 r m = r := by
      unfold ly2
      rw [cI_f (fun z => g z.1)]
      unfold ly1
      rw [cI_f g]
    unfold ly3
    rw [e2]
    exact Ex_upd he hm hs (by rw [ho.2.1 m hm g]; decide) ht
theorem lay_0 {r : Nat → Int32} {s m : Nat} {x : Int32} {P : Prop} (h : Dv r) (hm : m < 120) (hs : s < 16) : lay r s m x P 0 = r 0 := by
  have hb6 := h.1.1.1
  have e0 : ly3 r s m x P 0 = r 0 := by
    unfold ly3
    rw [upd_n (by omega), ly2_o hm (by omega)]
  unfold lay
  by_cases g : m + kpn r ≤ mot (td r)
  · rw [cI_t g]
    have b3 : Bs (ly3 r s m x P) 7 := Bs_ly3 (hb6.mono (show 6 ≤ 7 by omega)) (by omega)
    rw [fga_0 (Bs_ten b3 (Nat.le_refl 7) hm), ten_mk b3 (Nat.le_refl 7) (by omega)]
    exact e0
  · rw [cI_f g]; exact e0
theorem Dv_lay {r : Nat → Int32} {s m f t : Nat} {P : Prop} (h : Dv r) (hm : m < 120) (hs : s < 16) (ht : m ≤ mot (td r)) : Dv (lay r s m (mnt m f t) P) := ⟨Cv_lay h.1 hm hs, Ex_lay h hm hs ht⟩
theorem Dv_mko {r : Nat → Int32} {s f t a : Nat} {P : Prop} (h : Dv r) (hs : s < 16) (ha : mot (td r) < 120) : ∀ j, a + j ≤ mot (td r) + 1 → Dv (mko r s f t a P j) ∧ mko r s f t a P j 0 = r 0
  | 0, _ => ⟨h, rfl⟩
  | j + 1, hj => by
    obtain ⟨h1, h2⟩ := Dv_mko (P := P) (f := f) (t := t) (a := a) h hs ha j (by omega)
    by_cases q : (due r s (a + j) f t P).toInt = 0
    · rw [← mko_f q]; exact ⟨h1, h2⟩
    · rw [← mko_t q]
      have et : td (mko r s f t a P j) = td r := by unfold td; rw [h2]
      exact ⟨Dv_lay h1 (by omega) hs (by rw [et]; omega), by rw [lay_0 h1 (by omega) hs]; exact h2⟩
theorem Ex_psk {r : Nat → Int32} {d : Nat} (h : Ex r) (hd : td r + d < 3650) : ∀ m, m ≤ 120 → Ex (psk r d m)
  | 0, _ => by
    refine Ex_same h (fun m hm h1 => Or.inl ?_) ?_ (fun j => upd_n (by omega))
    · have h1 : (upd r 0 (nI (td r + d)) (15 + m)).toInt = 1 := h1
      rw [upd_n (by omega)] at h1; exact h1
    · have e : td (psk r d 0) = td r + d := by show (upd r 0 (nI (td r + d)) 0).toNatClampNeg = _; rw [upd_s, nI_clamp (by omega)]
      rw [e]; exact mot_mono hd (by omega)
  | m + 1, hm => by
    by_cases q : mot (td r) < m + kpn r ∧ m + kpn r ≤ mot (td r + d)
    · rw [← psk_t q]; exact Ex_fld (Ex_psk h hd m (by omega)) (by omega)
    · rw [← psk_f q]; exact Ex_psk h hd m (by omega)
theorem Dv_psk {r : Nat → Int32} {d : Nat} (h : Dv r) (hd : td r + d < 3650) : Dv (psk r d 120) := ⟨Cv_psk h.1 hd, Ex_psk h.2 hd 120 (Nat.le_refl _)⟩
theorem Dv_open {r : Nat → Int32} {v : Nat} (h : Dv r) (hv : v ≤ 6) : Dv (fga (upd r 2 (nI v))) :=
  ⟨Cv_open h.1 hv, Ex_fga (Bs_open (h.1.1.b (by omega)) hv) (Ex_ag h.2 (fun j hj => upd_n (by omega)) (upd_n (by omega)))⟩
theorem Dv_dx {K s b t : Nat} {r : Nat → Int32} (h : Dv r) : Dv (dx K s b t r) := by
  by_cases e : (er K s b t r).toInt = 0
  · by_cases q : K = 112
    · rw [dx_p e q]
      rw [er_p q] at e
      have h1 := ePs_ok e
      exact Dv_psk h (by omega)
    · rw [dx_m e q]
      rw [er_m q] at e
      obtain ⟨h1, h2, h3, h4, h5⟩ := eMk_ok e
      have h8 := h.1.1.1.2.1
      have h6 := mot_mono (a := b) (b := t) (by omega) (by omega)
      have h9 := mot_mono (a := t) (b := td r) h8 (by omega)
      have h7 := mot_row h8
      exact (Dv_mko h (by omega) h7.1 _ (by omega)).1
  · rw [dx_e e]; exact h
theorem Dv_run {p : Nat → Int32} {n : Nat} {r0 : Nat → Int32} (h : Dv r0) : ∀ q, Dv (run p n r0 q)
  | 0 => h
  | q + 1 => Dv_dx (Dv_run h q)
