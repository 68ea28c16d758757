/-! ===== passing days and laying marks, as the class does it ===== -/
theorem psk_lo {r : Nat → Int32} {d : Nat} : ∀ m, m ≤ mot (td r) + 1 - kpn r → psk r d m = psk r d 0
  | 0, _ => rfl
  | m + 1, hm => by rw [← psk_f (by omega)]; exact psk_lo m (by omega)
theorem psk_hi {r : Nat → Int32} {d : Nat} : ∀ k m, mot (td r + d) + 1 - kpn r ≤ m → psk r d (m + k) = psk r d m
  | 0, _, _ => rfl
  | k + 1, m, hm => by rw [show m + (k + 1) = (m + k) + 1 by omega, ← psk_f (by omega)]; exact psk_hi k m hm
theorem Ct_psk {r : Nat → Int32} {d : Nat} (h : Ct r) : ∀ m, m ≤ 120 → Ct (psk r d m)
  | 0, _ => Ct_ag h (fun j hj => upd_n (by omega))
  | m + 1, hm => by
    by_cases q : mot (td r) < m + kpn r ∧ m + kpn r ≤ mot (td r + d)
    · rw [← psk_t q]; exact Ct_fld (Ct_psk h m (by omega)) (by omega)
    · rw [← psk_f q]; exact Ct_psk h m (by omega)
theorem dO_ps0 {r : Nat → Int32} {d a b c e : Nat} : (.inr (0, [.int (nI (td r + d)), .int (r 1), .int (r 2), .int (r 3), .int (r 4), .int (r 5), .int (r 6), .ref a, .ref b, .ref c, .ref e]) : va_E) = dO (psk r d 0) a b c e := rfl
theorem dB_ps0 {r : Nat → Int32} {d : Nat} : dB r = dB (psk r d 0) := (dB_e (fun k hk => upd_n (by omega))).symm
theorem dF_ps0 {r : Nat → Int32} {d : Nat} : dF r = dF (psk r d 0) := (dF_e (fun k hk => upd_n (by omega))).symm
theorem dN_ps0 {r : Nat → Int32} {d : Nat} : dN r = dN (psk r d 0) := (dN_e (fun k hk => ⟨upd_n (by omega), upd_n (by omega)⟩)).symm
theorem dW_ps0 {r : Nat → Int32} {d : Nat} : dW r = dW (psk r d 0) := (dW_e (fun k hk => upd_n (by omega))).symm
/-- the form of a month while days pass -/
theorem psk_15 {r : Nat → Int32} {d q : Nat} (hq : q < 120) : ∀ m, m ≤ 120 → (psk r d m (15 + q) = r (15 + q) ∧ ¬ (q < m ∧ mot (td r) < q + kpn r ∧ q + kpn r ≤ mot (td r + d))) ∨ (¬ (psk r d m (15 + q)).toInt = 0 ∧ (q < m ∧ mot (td r) < q + kpn r ∧ q + kpn r ≤ mot (td r + d)))
  | 0, _ => Or.inl ⟨upd_n (by omega), fun z => by omega⟩
  | m + 1, hm => by
    have ih := psk_15 (r := r) (d := d) hq m (by omega)
    by_cases c : mot (td r) < m + kpn r ∧ m + kpn r ≤ mot (td r + d)
    · rw [← psk_t c, fld_f (by omega) hq]
      by_cases e : q = m
      · rw [if_pos e, toI (by have : bst (psk r d m) m (-6) ≤ 4 := bsj_le _ m (-6) 4; omega)]
        exact Or.inr ⟨by omega, by omega⟩
      · rw [if_neg e]
        rcases ih with ⟨h1, h2⟩ | ⟨h1, h2⟩
        · exact Or.inl ⟨h1, by omega⟩
        · exact Or.inr ⟨h1, by omega⟩
    · rw [← psk_f c]
      rcases ih with ⟨h1, h2⟩ | ⟨h1, h2⟩
      · exact Or.inl ⟨h1, fun z => by
          rcases Nat.lt_or_ge q m with g | g
          · exact h2 ⟨g, z.2⟩
          · have : q = m := by omega
            subst this; exact c z.2⟩
      · exact Or.inr ⟨h1, by omega⟩
theorem Cv_psk {r : Nat → Int32} {d : Nat} (h : Cv r) (hd : td r + d < 3650) : Cv (psk r d 120) := by
  obtain ⟨hb, hk, hc, ho⟩ := h
  obtain ⟨g, gt, gk, go, gn⟩ := Bs_psk hb.1 (by omega) hd 120
  have h6 := hb.1.2.2.2.2.2.2.2.1
  have hmt := mot_mono (a := td r) (b := td r + d) hd (by omega)
  refine ⟨⟨g, by rw [gn, go]; exact hb.2⟩, by rw [gk]; exact hk, Ct_psk hc 120 (Nat.le_refl _), ?_⟩
  obtain ⟨a, b, c⟩ := ho
  have e7 : ∀ i, i < ny r → psk r d 120 (7 + i) = r (7 + i) := fun i hi => psk_h 120 (7 + i) (by omega)
  have eI : ∀ m, Inr (psk r d 120) m ↔ Inr r m := fun m => by
    unfold Inr
    rw [gn]
    constructor
    · rintro ⟨i, hi, ei⟩; exact ⟨i, hi, by rw [← e7 i hi]; exact ei⟩
    · rintro ⟨i, hi, ei⟩; exact ⟨i, hi, by rw [e7 i hi]; exact ei⟩
  refine ⟨fun m hm => ?_, fun m hm hn => ?_, fun i j hij hj => ?_⟩
  · rw [eI m, a m hm, gt, gk]
    rcases psk_15 (r := r) (d := d) hm 120 (Nat.le_refl _) with ⟨h1, h2⟩ | ⟨h1, h2⟩
    · rw [h1]
      constructor
      · intro z; exact ⟨by omega, z.2⟩
      · intro z
        refine ⟨?_, z.2⟩
        rcases Nat.lt_or_ge (mot (td r)) (m + kpn r) with q | q
        · exact absurd ⟨hm, q, z.1⟩ h2
        · exact q
    · exact ⟨fun z => by omega, fun z => absurd z.2 h1⟩
  · rw [gt, gk] at hn
    rcases psk_15 (r := r) (d := d) hm 120 (Nat.le_refl _) with ⟨h1, h2⟩ | ⟨h1, h2⟩
    · rw [h1]; exact b m hm (by omega)
    · exact absurd h2.2.2 hn
  · rw [gn] at hj
    rw [e7 i (by omega), e7 j hj]; exact c i j hij hj
/-- naming, as the class has it -/
theorem cnm_e {x n : Int32} {m : Nat} : (cnm x n).toInt = (m : Int) ↔ (x.toInt = 2 ∧ n.toInt = (m : Int)) := by
  unfold cnm
  by_cases q : x.toInt = 2
  · rw [if_pos q]; exact ⟨fun z => ⟨q, z⟩, fun z => z.2⟩
  · rw [if_neg q]
    exact ⟨fun z => by rw [show (-6 : Int32).toInt = -6 from by decide] at z; omega, fun z => absurd z.1 q⟩
theorem upd_upd {f : Nat → Int32} {i j : Nat} {x y : Int32} (h : i ≠ j) : upd (upd f i x) j y = upd (upd f j y) i x := by
  funext k
  unfold upd
  by_cases q : k = j
  · rw [if_pos q, if_neg (by omega), if_pos q]
  · by_cases q2 : k = i
    · rw [if_neg q, if_pos q2, if_pos q2]
    · rw [if_neg q, if_neg q2, if_neg q2, if_neg q]
theorem tko_upd {r : Nat → Int32} {k i : Nat} {v : Int32} (hn : ny r ≤ 8) (hi : 255 ≤ i) : tko (upd r i v) k = upd (tko r k) i v := by
  have en : ny (upd r i v) = ny r := by unfold ny; rw [upd_n (by omega)]
  funext j
  by_cases e : j = i
  · subst e; rw [upd_s, tko_o (by omega) (by rw [en]; omega), upd_s]
  · rw [upd_n e]
    by_cases h6 : j = 6
    · subst h6; rw [tko_6, tko_6, en]
    · by_cases q : 7 + k ≤ j ∧ j < 7 + (ny r - 1)
      · rw [tko_i q.1 (by rw [en]; exact q.2), tko_i q.1 q.2, upd_n (by omega)]
      · rw [tko_o h6 (by rw [en]; omega), tko_o h6 (by omega), upd_n e]
theorem te1_upd {r : Nat → Int32} {m i : Nat} {v : Int32} (hn : ny r ≤ 8) (hi : 255 ≤ i) : te1 (upd r i v) m = upd (te1 r m) i v := by
  have en : ny (upd r i v) = ny r := by unfold ny; rw [upd_n (by omega)]
  have ep : plo (upd r i v) m = plo r m := by
    show plf (upd r i v) m (ny (upd r i v)) 0 = plf r m (ny r) 0
    rw [en]
    exact plf_c (fun k hk => upd_n (by omega)) m (ny r) 0 (by omega)
  unfold te1
  rw [ep]
  by_cases q : plo r m = -6
  · rw [cI_t q, cI_t q]
  · rw [cI_f q, cI_f q, tko_upd hn hi]
theorem ten_upd {r : Nat → Int32} {m i n : Nat} {v : Int32} (hb : Bs r n) (hn : n ≤ 7) (hi : 255 ≤ i) : ten (upd r i v) m = upd (ten r m) i v := by
  have h8 := hb.2.2.2.2.2.2.2.1
  have h81 := (Bs_te1 (m := m) hb (by omega)).2.2.2.2.2.2.2.1
  unfold ten
  rw [te1_upd (by omega) hi]
  have en : ny (upd (te1 r m) i v) = ny (te1 r m) := by unfold ny; rw [upd_n (by omega)]
  rw [en, upd_upd (i := i) (j := 7 + ny (te1 r m)) (by omega), upd_upd (i := i) (j := 6) (by omega)]
noncomputable def wd1 (q : Nat → Int32) (m : Nat) : Nat → Int32 := cI (m + kpn q ≤ mot (td q)) (ten (lk1 (lnk q m 120) m) m) q
theorem ly2_old {q : Nat → Int32} {m : Nat} (h : m + kpn q ≤ mot (td q)) : ly2 q m = lk1 (lnk q m 120) m := by
  have e1 : ly1 q m = lnk q m 120 := cI_t h
  unfold ly2 lk1
  rw [e1]
  exact cI_c ⟨fun z => z.2, fun z => ⟨h, z⟩⟩ rfl rfl
theorem b_xor_or {b x : Int32} : b ^^^ (x &&& (b ^^^ (-1))) = b ||| x := b_ext (fun i hi => by
  rw [b_xor, b_and, b_xor, b_m1 i hi, b_or]
  cases bt b i <;> cases bt x i <;> rfl)
theorem b_xor_an {b x : Int32} : b ^^^ (x &&& b) = b &&& (x ^^^ (-1)) := b_ext (fun i hi => by
  rw [b_xor, b_and, b_and, b_xor, b_m1 i hi]
  cases bt b i <;> cases bt x i <;> rfl)
theorem lyv_e {q : Nat → Int32} {s m f t : Nat} {P : Prop} (hm : m < 120) : lyv q s m (mnt m f t) P = q (255 + 16 * m + s) ^^^ due q s m f t P := by
  have e : ly2 q m (255 + 16 * m + s) = q (255 + 16 * m + s) := ly2_o hm (by omega)
  unfold lyv due
  rw [e]
  by_cases h : P
  · rw [cI_t h, cI_t h]; exact b_xor_or.symm
  · rw [cI_f h, cI_f h]; exact b_xor_an.symm
theorem lay_w {q : Nat → Int32} {s m f t : Nat} {P : Prop} (hb : Br q) (hm : m < 120) (hs : s < 16) : fga (upd (wd1 q m) (255 + 16 * m + s) (q (255 + 16 * m + s) ^^^ due q s m f t P)) = lay q s m (mnt m f t) P := by
  rw [← lyv_e hm]
  unfold lay wd1 ly3
  by_cases h : m + kpn q ≤ mot (td q)
  · rw [cI_t h, cI_t h, ly2_old h]
    have hb1 : Bs (lk1 (lnk q m 120) m) 6 := Bs_lk1 (Bs_lnk hb.1 (by omega) 120) (by omega)
    rw [ten_upd hb1 (by omega) (by omega)]
  · rw [cI_f h, cI_f h]
    have e2 : ly2 q m = q := by
      unfold ly2
      rw [cI_f (fun z => h z.1)]
      unfold ly1
      rw [cI_f h]
    rw [e2]
    exact fga_id (by
      rw [show ny (upd q (255 + 16 * m + s) (lyv q s m (mnt m f t) P)) = ny q by unfold ny; rw [upd_n (by omega)], show opn (upd q (255 + 16 * m + s) (lyv q s m (mnt m f t) P)) = opn q by unfold opn; rw [upd_n (by omega)]]
      exact hb.2)
theorem Ow_upd {r : Nat → Int32} {i n : Nat} {v : Int32} (h : Ow r) (hb : Bs r n) (hn : n ≤ 8) (hi : 255 ≤ i) : Ow (upd r i v) := by
  have h8 := hb.2.2.2.2.2.2.2.1
  exact Ow_e h (by unfold td; rw [upd_n (by omega)]) (by unfold kpn; rw [upd_n (by omega)]) (by unfold ny; rw [upd_n (by omega)]) (fun k hk => upd_n (by omega)) (fun m hm => by rw [upd_n (by omega)])
theorem Ct_upd {r : Nat → Int32} {s m : Nat} {v : Int32} (h : Ct r) (hm : m < 120) (hs : s < 16) (hv : bt v 31 = false) : Ct (upd r (255 + 16 * m + s) v) := by
  obtain ⟨a, b, c⟩ := h
  refine ⟨fun q hq => by rw [upd_n (by omega)]; exact a q hq, fun k hk => ?_, fun q hq h2 => ?_⟩
  · by_cases e : 255 + k = 255 + 16 * m + s
    · rw [e, upd_s]; exact hv
    · rw [upd_n e]; exact b k hk
  · rw [upd_n (by omega)] at h2 ⊢; exact c q hq h2
theorem Ow_lnk {r : Nat → Int32} {m n : Nat} (h : Ow r) (hb : Bs r n) (hn : n ≤ 8) : ∀ o, o ≤ 120 → Ow (lnk r m o)
  | 0, _ => h
  | o + 1, ho => by
    have ih := Ow_lnk (m := m) h hb hn o (by omega)
    by_cases q : (lnk r m o (15 + o)).toInt = 2 ∧ (lnk r m o (135 + o)).toInt = (m : Int)
    · rw [← lnk_t q]; exact Ow_fld ih (Bs_lnk hb hn o) hn (by omega) (by omega)
    · rw [← lnk_f q]; exact ih
theorem lnk_k {r : Nat → Int32} {m : Nat} : kpn (lnk r m 120) = kpn r ∧ td (lnk r m 120) = td r := by
  unfold kpn td
  rw [lnk_o (by omega) 120 (Nat.le_refl _), lnk_o (by omega) 120 (Nat.le_refl _)]
  exact ⟨rfl, rfl⟩
theorem due_31 {r : Nat → Int32} {s m f t : Nat} {P : Prop} : bt (due r s m f t P) 31 = false := by
  have hd := (dys_in m).2
  have e : bt (mnt m f t) 31 = false := by rw [b_mnt m f t (by omega), decide_eq_false (by omega)]
  unfold due
  by_cases h : P
  · rw [cI_t h, b_and, e]; exact Bool.false_and _
  · rw [cI_f h, b_and, e]; exact Bool.false_and _
/-- the class's state between -/
theorem wd1_in {q : Nat → Int32} {m : Nat} (h : Cv q) (hm : m < 120) : Bs (wd1 q m) 7 ∧ Ct (wd1 q m) ∧ Ow (wd1 q m) ∧ kpn (wd1 q m) = kpn q ∧ (∀ j, 255 ≤ j → wd1 q m j = q j) := by
  obtain ⟨hb, hk, hc, ho⟩ := h
  unfold wd1
  by_cases g : m + kpn q ≤ mot (td q)
  · rw [cI_t g]
    have hb1 := Bs_lnk (m := m) hb.1 (by omega) 120
    have hc1 := Ct_lnk (m := m) hc 120 (Nat.le_refl _)
    have ho1 := Ow_lnk (m := m) ho hb.1 (by omega) 120 (Nat.le_refl _)
    have hb2 := Bs_lk1 (m := m) hb1 (by omega)
    have hkk := lnk_k (r := q) (m := m)
    refine ⟨Bs_ten hb2 (by omega) hm, Ct_ag (Ct_lk1 hc1 hm) (Ag_ten (hb2.mono (show 6 ≤ 7 by omega)) (Nat.le_refl 7)), Ow_ten ho1 (hb1.mono (by omega)) hm (by rw [hkk.1, hkk.2]; exact g) hc1.1, by rw [kpn_ten (hb1.mono (by omega)), hkk.1], fun j hj => ?_⟩
    rw [ten_mk (hb2.mono (show 6 ≤ 7 by omega)) (Nat.le_refl 7) (by omega)]
    obtain ⟨j', rfl⟩ : ∃ j', j = 255 + j' := ⟨j - 255, by omega⟩
    rw [lk1_mk hm]
    exact lnk_o (by omega) 120 (Nat.le_refl _)
  · rw [cI_f g]
    exact ⟨hb.b (by omega), hc, ho, rfl, fun j hj => rfl⟩
theorem wd2_in {q : Nat → Int32} {s m f t : Nat} {P : Prop} (h : Cv q) (hm : m < 120) (hs : s < 16) : Bs (upd (wd1 q m) (255 + 16 * m + s) (q (255 + 16 * m + s) ^^^ due q s m f t P)) 7 ∧ Ct (upd (wd1 q m) (255 + 16 * m + s) (q (255 + 16 * m + s) ^^^ due q s m f t P)) := by
  obtain ⟨h1, h2, h3, h4, h5⟩ := wd1_in h hm
  have h8 := h1.2.2.2.2.2.2.2.1
  refine ⟨h1.same (upd_n (by omega)) (upd_n (by omega)) (upd_n (by omega)) (upd_n (by omega)) (fun i hi => upd_n (by omega)), Ct_upd h2 hm hs ?_⟩
  have hq := h.2.2.1.2.1 (16 * m + s) (by omega)
  rw [← Nat.add_assoc] at hq
  rw [b_xor, hq, due_31]
  rfl
theorem Cv_lay {q : Nat → Int32} {s m f t : Nat} {P : Prop} (h : Cv q) (hm : m < 120) (hs : s < 16) : Cv (lay q s m (mnt m f t) P) := by
  rw [← lay_w (f := f) (t := t) (P := P) h.1 hm hs]
  obtain ⟨h1, h2, h3, h4, h5⟩ := wd1_in h hm
  obtain ⟨g1, g2⟩ := wd2_in (s := s) (f := f) (t := t) (P := P) h hm hs
  exact Cv_fga (g1.mono (by omega)) (by unfold kpn; rw [upd_n (by omega)]; rw [show (wd1 q m 1).toNatClampNeg = kpn q from h4]; exact h.2.1) g2 (Ow_upd h3 h1 (by omega) (by omega))
theorem Cv_mko {r : Nat → Int32} {s f t a : Nat} {P : Prop} (h : Cv r) (hs : s < 16) : ∀ j, a + j ≤ 120 → Cv (mko r s f t a P j)
  | 0, _ => h
  | j + 1, hj => by
    by_cases q : (due r s (a + j) f t P).toInt = 0
    · rw [← mko_f q]; exact Cv_mko h hs j (by omega)
    · rw [← mko_t q]; exact Cv_lay (Cv_mko h hs j (by omega)) (by omega) hs
theorem due_c {r r' : Nat → Int32} {s m f t : Nat} {P : Prop} (h : r' (255 + 16 * m + s) = r (255 + 16 * m + s)) : due r' s m f t P = due r s m f t P := by
  unfold due
  rw [h]
theorem Cv_keep {r : Nat → Int32} {v : Nat} (h : Cv r) (hv : 1 ≤ v) (hv2 : v ≤ 12) (h0 : td r = 0) : Cv (upd r 1 (nI v)) := by
  obtain ⟨hb, hk, hc, ho⟩ := h
  have k1 : kpn (upd r 1 (nI v)) = v := by show (upd r 1 (nI v) 1).toNatClampNeg = v; rw [upd_s, nI_clamp (by omega)]
  refine ⟨⟨Bs_keep hb.1 hv2, hb.2⟩, by rw [k1]; exact hv, Ct_ag hc (fun j hj => upd_n (by omega)), ?_⟩
  obtain ⟨a, b, c⟩ := ho
  have h6 := hb.1.2.2.2.2.2.2.2.1
  have ez : mot (td r) = 0 := by rw [h0]; rfl
  have et : td (upd r 1 (nI v)) = td r := rfl
  refine ⟨fun m hm => ?_, fun m hm hn => ?_, fun i j hij hj => by rw [upd_n (by omega), upd_n (by omega)]; exact c i j hij hj⟩
  · rw [k1, et, ez, show upd r 1 (nI v) (15 + m) = r (15 + m) from upd_n (by omega)]
    have := a m hm
    rw [ez] at this
    constructor
    · rintro ⟨i, hi, ei⟩
      rw [upd_n (by omega)] at ei
      have := this.mp ⟨i, hi, ei⟩
      omega
    · intro z; omega
  · rw [upd_n (by omega)]
    exact b m hm (by rw [ez]; omega)
theorem Cv_open {r : Nat → Int32} {v : Nat} (h : Cv r) (hv : v ≤ 6) : Cv (fga (upd r 2 (nI v))) := by
  obtain ⟨hb, hk, hc, ho⟩ := h
  have h6 := hb.1.2.2.2.2.2.2.2.1
  exact Cv_fga (Bs_open (hb.b (by omega)) hv) hk (Ct_ag hc (fun j hj => upd_n (by omega))) (Ow_e ho rfl rfl rfl (fun i hi => upd_n (by omega)) (fun m hm => by rw [upd_n (by omega)]))
theorem Cv_lnk {q : Nat → Int32} {m : Nat} (h : Cv q) : Cv (lnk q m 120) := by
  obtain ⟨hb, hk, hc, ho⟩ := h
  have hkk := lnk_k (r := q) (m := m)
  have e6 : lnk q m 120 6 = q 6 := lnk_o (by omega) 120 (Nat.le_refl _)
  have e2 : lnk q m 120 2 = q 2 := lnk_o (by omega) 120 (Nat.le_refl _)
  refine ⟨⟨Bs_lnk hb.1 (by omega) 120, ?_⟩, by rw [hkk.1]; exact hk, Ct_lnk hc 120 (Nat.le_refl _), Ow_lnk ho hb.1 (by omega) 120 (Nat.le_refl _)⟩
  have h2 := hb.2
  unfold ny opn at h2 ⊢
  rw [e6, e2]; exact h2
theorem plo_lnk {q : Nat → Int32} {m : Nat} (h : Cv q) (hm : m < 120) (hold : m + kpn q ≤ mot (td q)) : plo (lnk q m 120) m = -6 ↔ 0 < (lnk q m 120 (15 + m)).toInt :=
  plo_f (Cv_lnk h) hm (by rw [lnk_k.1, lnk_k.2]; exact hold)
