/-! ===== what holds between two calls; a call ===== -/
def OkE (r : Nat → Int32) (c : Nat) (hr : Nat → Nat → Int32) (sv : Int32) (sr : Nat → Nat → Int32) (p : Nat → Int32) (n : Nat) : Prop := Dv r ∧ c ≤ 6 ∧ n ≤ 80 ∧ Pg p n ∧ (∀ k, k < c → Dv (hr k)) ∧ (∀ v, v ≤ 1 → bt sv v = true → Dv (sr v))
section OKS
variable {r r' p : Nat → Int32} {c n : Nat} {hr sr : Nat → Nat → Int32} {sv : Int32}
theorem OkE_r (h : OkE r c hr sv sr p n) (h2 : Dv r') : OkE r' c hr sv sr p n := ⟨h2, h.2⟩
theorem OkE_n (h : OkE r c hr sv sr p n) : OkE r c hr sv sr p 0 := ⟨h.1, h.2.1, Nat.zero_le _, fun i hi => absurd hi (Nat.not_lt_zero i), h.2.2.2.2⟩
theorem OkE_rec (h : OkE r c hr sv sr p n) (h2 : Dv r') : OkE r' (rch c + 1) (recH c hr r) sv sr p n := by
  obtain ⟨h3, h4, h5, h6, h7, h8⟩ := h
  have hrc := rch_le h4
  refine ⟨h2, by omega, h5, h6, fun k hk => ?_, h8⟩
  by_cases q : c = 6
  · rw [recH_6 q]
    unfold rotH
    by_cases e : k < 5
    · rw [if_pos e]; exact h7 (k + 1) (by omega)
    · rw [if_neg e]; exact h3
  · rw [recH_n q]
    rw [rch_n q] at hk
    unfold uph
    by_cases e : k = c
    · rw [if_pos e]; exact h3
    · rw [if_neg e]; exact h7 k (by omega)
theorem OkE_undo (h : OkE r c hr sv sr p n) (hc : 1 ≤ c) : OkE (hr (c - 1)) (c - 1) hr sv sr p n := by
  obtain ⟨h3, h4, h5, h6, h7, h8⟩ := h
  exact ⟨h7 _ (by omega), by omega, h5, h6, fun k hk => h7 k (by omega), h8⟩
theorem OkE_save {v : Nat} (h : OkE r c hr sv sr p n) (hv : v ≤ 1) : OkE r c hr (sv ||| (nI 1 <<< (nI v &&& 31))) (uph v sr r) p n := by
  obtain ⟨h3, h4, h5, h6, h7, h8⟩ := h
  refine ⟨h3, h4, h5, h6, h7, fun w hw hb => ?_⟩
  have e1 : bt (sv ||| (nI 1 <<< (nI v &&& 31))) w = (bt sv w || decide (w = v)) := by rw [b_or, b_one v (by omega) (by omega)]
  unfold uph
  by_cases q : w = v
  · rw [if_pos q]; exact h3
  · rw [if_neg q]
    rw [e1, decide_eq_false q, Bool.or_false] at hb
    exact h8 w hw hb
theorem chk_gd {W : Nat} : ∀ f k, ¬ chk W f k = 0 → ∀ j, k ≤ j → j < chk W f k → gdB W j
  | 0, k, h, j, h1, h2 => by
    have e : chk W 0 k = k := rfl
    rw [e] at h2
    omega
  | f + 1, k, h, j, h1, h2 => by
    by_cases q : W / 256 ^ k = 0
    · rw [show chk W (f + 1) k = k from cI_t q] at h2
      omega
    · by_cases q2 : gdB W k
      · have e : chk W (f + 1) k = chk W f (k + 1) := (cI_f q).trans (cI_t q2)
        rw [e] at h h2
        rcases Nat.eq_or_lt_of_le h1 with e2 | e2
        · rw [← e2]; exact q2
        · exact chk_gd f (k + 1) h j e2 h2
      · exact absurd ((cI_f q).trans (cI_f q2)) h
theorem apk_at {W C : Nat} : ∀ j i, apk p n W C j i = if n ≤ i ∧ i < n + j then nI (byt W (C - 1 - (i - n))) else p i
  | 0, i => by rw [if_neg (by omega)]; rfl
  | j + 1, i => by
    show upd (apk p n W C j) (n + j) (nI (byt W (C - 1 - j))) i = _
    by_cases q : i = n + j
    · subst q
      rw [upd_s, if_pos (by omega), show n + j - n = j by omega]
    · rw [upd_n q, apk_at j i]
      by_cases q2 : n ≤ i ∧ i < n + j
      · rw [if_pos q2, if_pos (by omega)]
      · rw [if_neg q2, if_neg (by omega)]
theorem OkE_put {Wd : Nat} (h : OkE r c hr sv sr p n) (hc0 : ¬ chN Wd = 0) (hnc : n + chN Wd ≤ 80) : OkE r c hr sv sr (apk p n Wd (chN Wd) (chN Wd)) (n + chN Wd) := by
  obtain ⟨h3, h4, h5, h6, h7, h8⟩ := h
  refine ⟨h3, h4, hnc, fun i hi => ?_, h7, h8⟩
  rw [apk_at]
  by_cases q : n ≤ i ∧ i < n + chN Wd
  · rw [if_pos q]
    have hg := chk_gd 8 0 hc0 (chN Wd - 1 - (i - n)) (Nat.zero_le _) (show chN Wd - 1 - (i - n) < chN Wd by omega)
    have hb := byt_lt (W := Wd) (k := chN Wd - 1 - (i - n))
    have g1 := hg.1
    have g2 := hg.2
    rw [toI (by omega)]
    omega
  · rw [if_neg q]; exact h6 i (by omega)
end OKS
theorem eSt_ok {S V T : Int} (h : (eSt S V T).toInt = 0) : (S = 0 ∧ (1 ≤ V ∧ V ≤ 12) ∧ T = 0) ∨ (S = 1 ∧ 0 ≤ V ∧ V ≤ 6) := by
  by_cases q : (S = 0 ∧ 1 ≤ V ∧ V ≤ 12) ∨ (S = 1 ∧ 0 ≤ V ∧ V ≤ 6)
  · by_cases q2 : S = 0 ∧ ¬ T = 0
    · rw [eSt_2 q q2] at h
      exact absurd h (by decide)
    · omega
  · rw [eSt_1 q] at h
    exact absurd h (by decide)
theorem nxn_le {r : Nat → Int32} {s d : Nat} : ∀ f m, nxn r s d f m ≤ f
  | 0, m => Nat.le_refl 0
  | f + 1, m => by
    have h := nxn_le (r := r) (s := s) (d := d) f (m + 1)
    by_cases q : fsm r s m d = -6
    · rw [show nxn r s d (f + 1) m = nxn r s d f (m + 1) + 1 from cI_t q]; omega
    · rw [show nxn r s d (f + 1) m = 0 from cI_f q]; omega
theorem nxc_le {r : Nat → Int32} {s d : Nat} (hm : mot d < 120) : mot d + nxc r s d ≤ 120 := by
  have h : nxJ r s d ≤ 120 - mot d := nxn_le _ _
  unfold nxc
  by_cases q : mot d + nxJ r s d < 120
  · rw [if_pos q]; omega
  · rw [if_neg q]; omega
/-- the class's picture as one value: the diary, how many states are recorded, these, which slots are saved, these, the pad's signs, how many -/
abbrev Sx : Type := (Nat → Int32) × Nat × (Nat → Nat → Int32) × Int32 × (Nat → Nat → Int32) × (Nat → Int32) × Nat
abbrev qr (q : Sx) : Nat → Int32 := q.1
abbrev qc (q : Sx) : Nat := q.2.1
abbrev qh (q : Sx) : Nat → Nat → Int32 := q.2.2.1
abbrev qp (q : Sx) : Nat → Int32 := q.2.2.2.2.2.1
abbrev qn (q : Sx) : Nat := q.2.2.2.2.2.2
def CS (G : gT) (me : Nat) (q : Sx) (ws : va_W) : Prop := CP G me q.1 q.2.1 q.2.2.1 q.2.2.2.1 q.2.2.2.2.1 q.2.2.2.2.2.1 q.2.2.2.2.2.2 ws
def OkD (q : Sx) : Prop := OkE q.1 q.2.1 q.2.2.1 q.2.2.2.1 q.2.2.2.2.1 q.2.2.2.2.2.1 q.2.2.2.2.2.2
/-- one call: it answers res, the picture q becomes q2 -/
def Act (l : Launch) (y : MethodName) (bs : ByteArray) (mx : Nat) (As : List Value) (q : Sx) (res : Int32) (q2 : Sx) : Prop := ∀ (G : gT) (me sz : Nat) (ws : va_W), CS G me q ws → Ru l G y bs mx (some .int) 9 sz ws (.ref me :: As) res (CS G me q2)
theorem OkD.v {q : Sx} (h : OkD q) : Dv (qr q) := h.1
theorem OkD_r {q : Sx} {r' : Nat → Int32} (h : OkD q) (h2 : Dv r') : OkD (r', q.2) := ⟨h2, h.2⟩
/-- the same marks, today, KEEP and OPEN -/
def Mk (r r' : Nat → Int32) : Prop := ∀ j, r' (255 + j) = r (255 + j)
theorem Mk.rf {r : Nat → Int32} : Mk r r := fun _ => rfl
theorem Mk.tr {a b c : Nat → Int32} (h : Mk a b) (h2 : Mk b c) : Mk a c := fun j => (h2 j).trans (h j)
section ACT
variable (l : Launch) {q : Sx}
theorem a_set_e (hok : OkD q) (x y : Int32) {S0 V : Int} {v : Int32} (hx1 : x.toInt = S0) (hy1 : y.toInt = V) (hv : eSt S0 V (qr q 0).toInt = v) (h0 : ¬ v.toInt = 0) : Act l yX3_set cX3_set 3 [.int x, .int y] q v q := by
  obtain ⟨r, c, hr, sv, sr, p, n⟩ := q
  obtain ⟨hDv, hc, hn, hPg, hH, hS⟩ := id hok
  have hDv : Dv r := hDv
  have hc : c ≤ 6 := hc
  have hn : n ≤ 80 := hn
  have hCv : Cv r := hDv.1
  obtain ⟨h0r, htr, -⟩ := id hCv.1.1
  subst hv
  intro G me sz ws hw
  exact c_MD (fun o ou oh os op ab af an aw => c_X3_set_e l G me o ou oh os op (nI c) sv ab af an aw r x S0 y V hx1 hy1 h0) hw sz
theorem a_pass_e (hok : OkD q) (x : Int32) {X : Int} {v : Int32} (hx1 : x.toInt = X) (hv : ePs X ((td (qr q) : Nat) : Int) = v) (h0 : ¬ v.toInt = 0) : Act l yX3_pass cX3_pass 3 [.int x] q v q := by
  obtain ⟨r, c, hr, sv, sr, p, n⟩ := q
  obtain ⟨hDv, hc, hn, hPg, hH, hS⟩ := id hok
  have hDv : Dv r := hDv
  have hc : c ≤ 6 := hc
  have hn : n ≤ 80 := hn
  have hCv : Cv r := hDv.1
  obtain ⟨h0r, htr, -⟩ := id hCv.1.1
  subst hv
  intro G me sz ws hw
  exact c_MD (fun o ou oh os op ab af an aw => c_X3_pass_e l G me o ou oh os op (nI c) sv ab af an aw r x X hx1 (h0r) (htr) h0) hw sz
theorem a_mark_e (hok : OkD q) (w x y : Int32) {S0 F T0 : Int} (hw1 : w.toInt = S0) (hx1 : x.toInt = F) (hy1 : y.toInt = T0) {v : Int32} (hv : eMk (0 ≤ S0 ∧ S0 ≤ 15) F T0 ((td (qr q) : Nat) : Int) = v) (h0 : ¬ v.toInt = 0) : Act l yX3_mark cX3_mark 4 [.int w, .int x, .int y] q v q := by
  obtain ⟨r, c, hr, sv, sr, p, n⟩ := q
  obtain ⟨hDv, hc, hn, hPg, hH, hS⟩ := id hok
  have hDv : Dv r := hDv
  have hc : c ≤ 6 := hc
  have hn : n ≤ 80 := hn
  have hCv : Cv r := hDv.1
  obtain ⟨h0r, htr, -⟩ := id hCv.1.1
  subst hv
  intro G me sz ws hw
  exact c_MD (fun o ou oh os op ab af an aw => c_X3_mark_e l G me o ou oh os op (nI c) sv ab af an aw r w S0 x F y T0 hw1 hx1 hy1 (h0r) (htr) h0) hw sz
theorem a_clear_e (hok : OkD q) (w x y : Int32) {S0 F T0 : Int} (hw1 : w.toInt = S0) (hx1 : x.toInt = F) (hy1 : y.toInt = T0) {v : Int32} (hv : eMk (0 ≤ S0 ∧ S0 ≤ 15) F T0 ((td (qr q) : Nat) : Int) = v) (h0 : ¬ v.toInt = 0) : Act l yX3_clear cX3_clear 4 [.int w, .int x, .int y] q v q := by
  obtain ⟨r, c, hr, sv, sr, p, n⟩ := q
  obtain ⟨hDv, hc, hn, hPg, hH, hS⟩ := id hok
  have hDv : Dv r := hDv
  have hc : c ≤ 6 := hc
  have hn : n ≤ 80 := hn
  have hCv : Cv r := hDv.1
  obtain ⟨h0r, htr, -⟩ := id hCv.1.1
  subst hv
  intro G me sz ws hw
  exact c_MD (fun o ou oh os op ab af an aw => c_X3_clear_e l G me o ou oh os op (nI c) sv ab af an aw r w S0 x F y T0 hw1 hx1 hy1 (h0r) (htr) h0) hw sz
theorem a_marks_e (hok : OkD q) (w x y : Int32) {S0 F T0 : Int} (hw1 : w.toInt = S0) (hx1 : x.toInt = F) (hy1 : y.toInt = T0) {v : Int32} (hv : eDy (0 ≤ S0 ∧ S0 ≤ 15) F T0 = v) (h0 : ¬ v.toInt = 0) : Act l yX3_marks cX3_marks 9 [.int w, .int x, .int y] q v q := by
  obtain ⟨r, c, hr, sv, sr, p, n⟩ := q
  obtain ⟨hDv, hc, hn, hPg, hH, hS⟩ := id hok
  have hDv : Dv r := hDv
  have hc : c ≤ 6 := hc
  have hn : n ≤ 80 := hn
  have hCv : Cv r := hDv.1
  obtain ⟨h0r, htr, -⟩ := id hCv.1.1
  subst hv
  intro G me sz ws hw
  exact c_M (fun o ou oh os op => c_X3_marks_e l G me o ou oh os op (nI c) sv 0 0 0 0 w S0 x F y T0 hw1 hx1 hy1 h0) hw sz
theorem a_isMarked_e (hok : OkD q) (w x : Int32) {S0 F : Int} (hw1 : w.toInt = S0) (hx1 : x.toInt = F) (he : ¬ ((0 ≤ S0 ∧ S0 ≤ 15) ∧ (0 ≤ F ∧ F ≤ 3649))) : Act l yX3_isMarked cX3_isMarked 4 [.int w, .int x] q (-1) q := by
  obtain ⟨r, c, hr, sv, sr, p, n⟩ := q
  obtain ⟨hDv, hc, hn, hPg, hH, hS⟩ := id hok
  have hDv : Dv r := hDv
  have hc : c ≤ 6 := hc
  have hn : n ≤ 80 := hn
  have hCv : Cv r := hDv.1
  obtain ⟨h0r, htr, -⟩ := id hCv.1.1
  intro G me sz ws hw
  exact c_M (fun o ou oh os op => c_X3_isMarked_e l G me o ou oh os op (nI c) sv 0 0 0 0 w S0 x F hw1 hx1 (he)) hw sz
theorem a_nextMark_e (hok : OkD q) (w x : Int32) {S0 F : Int} (hw1 : w.toInt = S0) (hx1 : x.toInt = F) (he : ¬ ((0 ≤ S0 ∧ S0 ≤ 15) ∧ (0 ≤ F ∧ F ≤ 3649))) : Act l yX3_nextMark cX3_nextMark 6 [.int w, .int x] q (-1) q := by
  obtain ⟨r, c, hr, sv, sr, p, n⟩ := q
  obtain ⟨hDv, hc, hn, hPg, hH, hS⟩ := id hok
  have hDv : Dv r := hDv
  have hc : c ≤ 6 := hc
  have hn : n ≤ 80 := hn
  have hCv : Cv r := hDv.1
  obtain ⟨h0r, htr, -⟩ := id hCv.1.1
  intro G me sz ws hw
  exact c_M (fun o ou oh os op => c_X3_nextMark_e l G me o ou oh os op (nI c) sv 0 0 0 0 w S0 x F hw1 hx1 (he)) hw sz
theorem a_both_e (hok : OkD q) (w u x y : Int32) {S0 O F T0 : Int} (hw1 : w.toInt = S0) (hu1 : u.toInt = O) (hx1 : x.toInt = F) (hy1 : y.toInt = T0) {v : Int32} (hv : eDy ((0 ≤ S0 ∧ S0 ≤ 15) ∧ (0 ≤ O ∧ O ≤ 15)) F T0 = v) (h0 : ¬ v.toInt = 0) : Act l yX3_both cX3_both 10 [.int w, .int u, .int x, .int y] q v q := by
  obtain ⟨r, c, hr, sv, sr, p, n⟩ := q
  obtain ⟨hDv, hc, hn, hPg, hH, hS⟩ := id hok
  have hDv : Dv r := hDv
  have hc : c ≤ 6 := hc
  have hn : n ≤ 80 := hn
  have hCv : Cv r := hDv.1
  obtain ⟨h0r, htr, -⟩ := id hCv.1.1
  subst hv
  intro G me sz ws hw
  exact c_M (fun o ou oh os op => c_X3_both_e l G me o ou oh os op (nI c) sv 0 0 0 0 w S0 u O x F y T0 hw1 hu1 hx1 hy1 h0) hw sz
theorem a_crowded_e (hok : OkD q) (w x y : Int32) {S0 F T0 : Int} (hw1 : w.toInt = S0) (hx1 : x.toInt = F) (hy1 : y.toInt = T0) (he : ¬ ((0 ≤ F ∧ F ≤ 3649) ∧ (0 ≤ T0 ∧ T0 ≤ 3649) ∧ (1 ≤ S0 ∧ S0 ≤ 16) ∧ F ≤ T0)) {v : Int32} (hv : eCr S0 F T0 = v) : Act l yX3_crowded cX3_crowded 8 [.int w, .int x, .int y] q v q := by
  obtain ⟨r, c, hr, sv, sr, p, n⟩ := q
  obtain ⟨hDv, hc, hn, hPg, hH, hS⟩ := id hok
  have hDv : Dv r := hDv
  have hc : c ≤ 6 := hc
  have hn : n ≤ 80 := hn
  have hCv : Cv r := hDv.1
  obtain ⟨h0r, htr, -⟩ := id hCv.1.1
  subst hv
  intro G me sz ws hw
  exact c_M (fun o ou oh os op => c_X3_crowded_e l G me o ou oh os op (nI c) sv 0 0 0 0 w S0 x F y T0 hw1 hx1 hy1 (he)) hw sz
theorem a_longest_e (hok : OkD q) (w x y u : Int32) {S0 F T0 X : Int} (hw1 : w.toInt = S0) (hx1 : x.toInt = F) (hy1 : y.toInt = T0) (hu1 : u.toInt = X) (he : ¬ ((0 ≤ S0 ∧ S0 ≤ 15) ∧ (0 ≤ F ∧ F ≤ 3649) ∧ (0 ≤ T0 ∧ T0 ≤ 3649) ∧ (0 ≤ X ∧ X ≤ 1) ∧ F ≤ T0)) {v : Int32} (hv : eLo S0 F T0 X = v) : Act l yX3_longest cX3_longest 10 [.int w, .int x, .int y, .int u] q v q := by
  obtain ⟨r, c, hr, sv, sr, p, n⟩ := q
  obtain ⟨hDv, hc, hn, hPg, hH, hS⟩ := id hok
  have hDv : Dv r := hDv
  have hc : c ≤ 6 := hc
  have hn : n ≤ 80 := hn
  have hCv : Cv r := hDv.1
  obtain ⟨h0r, htr, -⟩ := id hCv.1.1
  subst hv
  intro G me sz ws hw
  exact c_M (fun o ou oh os op => c_X3_longest_e l G me o ou oh os op (nI c) sv 0 0 0 0 w S0 x F y T0 u X hw1 hx1 hy1 hu1 he) hw sz
theorem a_ofMonth_e (hok : OkD q) (w x : Int32) {S0 : Int} (hw1 : w.toInt = S0) (he : ¬ (0 ≤ S0 ∧ S0 ≤ 119)) : Act l yX3_ofMonth cX3_ofMonth 3 [.int w, .int x] q (-1) q := by
  obtain ⟨r, c, hr, sv, sr, p, n⟩ := q
  obtain ⟨hDv, hc, hn, hPg, hH, hS⟩ := id hok
  have hDv : Dv r := hDv
  have hc : c ≤ 6 := hc
  have hn : n ≤ 80 := hn
  have hCv : Cv r := hDv.1
  obtain ⟨h0r, htr, -⟩ := id hCv.1.1
  intro G me sz ws hw
  exact c_M (fun o ou oh os op => c_X3_ofMonth_e l G me o ou oh os op (nI c) sv 0 0 0 0 w S0 x hw1 (he)) hw sz
theorem a_inMonth_e (hok : OkD q) (w x : Int32) {S0 F : Int} (hw1 : w.toInt = S0) (hx1 : x.toInt = F) (he : ¬ ((0 ≤ S0 ∧ S0 ≤ 15) ∧ (0 ≤ F ∧ F ≤ 119))) : Act l yX3_inMonth cX3_inMonth 3 [.int w, .int x] q (-1) q := by
  obtain ⟨r, c, hr, sv, sr, p, n⟩ := q
  obtain ⟨hDv, hc, hn, hPg, hH, hS⟩ := id hok
  have hDv : Dv r := hDv
  have hc : c ≤ 6 := hc
  have hn : n ≤ 80 := hn
  have hCv : Cv r := hDv.1
  obtain ⟨h0r, htr, -⟩ := id hCv.1.1
  intro G me sz ws hw
  exact c_M (fun o ou oh os op => c_X3_inMonth_e l G me o ou oh os op (nI c) sv 0 0 0 0 w S0 x F hw1 hx1 (he)) hw sz
theorem a_dayOf_e (hok : OkD q) (y m : Nat) (z : Int32) {X : Int} (hz1 : z.toInt = X) (hy : y < 10) (hm8 : 1 ≤ m ∧ m ≤ 12) (he2 : ¬ (1 ≤ X ∧ X ≤ ((dys (12 * y + m - 1) : Nat) : Int))) : Act l yX3_dayOf cX3_dayOf 5 [.int (nI y), .int (nI m), .int z] q (-1) q := by
  obtain ⟨r, c, hr, sv, sr, p, n⟩ := q
  obtain ⟨hDv, hc, hn, hPg, hH, hS⟩ := id hok
  have hDv : Dv r := hDv
  have hc : c ≤ 6 := hc
  have hn : n ≤ 80 := hn
  have hCv : Cv r := hDv.1
  obtain ⟨h0r, htr, -⟩ := id hCv.1.1
  intro G me sz ws hw
  exact c_M (fun o ou oh os op => c_X3_dayOf_e2 l G me o ou oh os op (nI c) sv 0 0 0 0 y m z X (hy) (hm8) hz1 (he2)) hw sz
theorem a_dateOf_e (hok : OkD q) (d : Nat) (x : Int32) {X : Int} (hd : d < 3650) (hx1 : x.toInt = X) (he2 : ¬ (0 ≤ X ∧ X ≤ 3)) : Act l yX3_dateOf cX3_dateOf 4 [.int (nI d), .int x] q (-2) q := by
  obtain ⟨r, c, hr, sv, sr, p, n⟩ := q
  obtain ⟨hDv, hc, hn, hPg, hH, hS⟩ := id hok
  have hDv : Dv r := hDv
  have hc : c ≤ 6 := hc
  have hn : n ≤ 80 := hn
  have hCv : Cv r := hDv.1
  obtain ⟨h0r, htr, -⟩ := id hCv.1.1
  intro G me sz ws hw
  exact c_M (fun o ou oh os op => c_X3_dateOf_e2 l G me o ou oh os op (nI c) sv 0 0 0 0 d x X (hd) hx1 (he2)) hw sz
theorem a_sizeAs_e2 (hok : OkD q) (m : Nat) (x : Int32) {X : Int} (hm8 : m < 120) (hx1 : x.toInt = X) (he2 : ¬ (0 ≤ X ∧ X ≤ 4)) : Act l yX3_sizeAs cX3_sizeAs 3 [.int (nI m), .int x] q (-2) q := by
  obtain ⟨r, c, hr, sv, sr, p, n⟩ := q
  obtain ⟨hDv, hc, hn, hPg, hH, hS⟩ := id hok
  have hDv : Dv r := hDv
  have hc : c ≤ 6 := hc
  have hn : n ≤ 80 := hn
  have hCv : Cv r := hDv.1
  obtain ⟨h0r, htr, -⟩ := id hCv.1.1
  intro G me sz ws hw
  exact c_M (fun o ou oh os op => c_X3_sizeAs_e2 l G me o ou oh os op (nI c) sv 0 0 0 0 m x X (hm8) hx1 (he2)) hw sz
theorem a_sizeAs_e (hok : OkD q) (w x : Int32) {S0 : Int} (hw1 : w.toInt = S0) (he : ¬ (0 ≤ S0 ∧ S0 ≤ 119)) : Act l yX3_sizeAs cX3_sizeAs 3 [.int w, .int x] q (-1) q := by
  obtain ⟨r, c, hr, sv, sr, p, n⟩ := q
  obtain ⟨hDv, hc, hn, hPg, hH, hS⟩ := id hok
  have hDv : Dv r := hDv
  have hc : c ≤ 6 := hc
  have hn : n ≤ 80 := hn
  have hCv : Cv r := hDv.1
  obtain ⟨h0r, htr, -⟩ := id hCv.1.1
  intro G me sz ws hw
  exact c_M (fun o ou oh os op => c_X3_sizeAs_e l G me o ou oh os op (nI c) sv 0 0 0 0 w S0 x hw1 (he)) hw sz
theorem a_workOf_e (hok : OkD q) (x y : Int32) {F T0 : Int} (hx1 : x.toInt = F) (hy1 : y.toInt = T0) {v : Int32} (hv : eDy True F T0 = v) (h0 : ¬ v.toInt = 0) : Act l yX3_workOf cX3_workOf 4 [.int x, .int y] q v q := by
  obtain ⟨r, c, hr, sv, sr, p, n⟩ := q
  obtain ⟨hDv, hc, hn, hPg, hH, hS⟩ := id hok
  have hDv : Dv r := hDv
  have hc : c ≤ 6 := hc
  have hn : n ≤ 80 := hn
  have hCv : Cv r := hDv.1
  obtain ⟨h0r, htr, -⟩ := id hCv.1.1
  subst hv
  intro G me sz ws hw
  exact c_M (fun o ou oh os op => c_X3_workOf_e l G me o ou oh os op (nI c) sv 0 0 0 0 x F y T0 hx1 hy1 h0) hw sz
theorem a_bestOpen_e (hok : OkD q) (x y : Int32) {F T0 : Int} (hx1 : x.toInt = F) (hy1 : y.toInt = T0) {v : Int32} (hv : eDy True F T0 = v) (h0 : ¬ v.toInt = 0) : Act l yX3_bestOpen cX3_bestOpen 8 [.int x, .int y] q v q := by
  obtain ⟨r, c, hr, sv, sr, p, n⟩ := q
  obtain ⟨hDv, hc, hn, hPg, hH, hS⟩ := id hok
  have hDv : Dv r := hDv
  have hc : c ≤ 6 := hc
  have hn : n ≤ 80 := hn
  have hCv : Cv r := hDv.1
  obtain ⟨h0r, htr, -⟩ := id hCv.1.1
  subst hv
  intro G me sz ws hw
  exact c_M (fun o ou oh os op => c_X3_bestOpen_e l G me o ou oh os op (nI c) sv 0 0 0 0 x F y T0 hx1 hy1 h0) hw sz
theorem a_put_e (hok : OkD q) (Wd : Nat) (hW : Wd < 18446744073709551616) (hc0 : chN Wd = 0) : Act l yX3_put cX3_put 4 [.long (lw Wd)] q (-2) q := by
  obtain ⟨r, c, hr, sv, sr, p, n⟩ := q
  obtain ⟨hDv, hc, hn, hPg, hH, hS⟩ := id hok
  have hDv : Dv r := hDv
  have hc : c ≤ 6 := hc
  have hn : n ≤ 80 := hn
  have hCv : Cv r := hDv.1
  obtain ⟨h0r, htr, -⟩ := id hCv.1.1
  intro G me sz ws hw
  exact c_M (fun o ou oh os op => c_X3_put_e l G me o ou oh os op (nI c) sv 0 0 0 0 Wd (hW) (hc0)) hw sz
theorem a_save_e (hok : OkD q) (w : Int32) {S0 : Int} (hw1 : w.toInt = S0) (he : ¬ (0 ≤ S0 ∧ S0 ≤ 1)) : Act l yX3_save cX3_save 2 [.int w] q (-2) q := by
  obtain ⟨r, c, hr, sv, sr, p, n⟩ := q
  obtain ⟨hDv, hc, hn, hPg, hH, hS⟩ := id hok
  have hDv : Dv r := hDv
  have hc : c ≤ 6 := hc
  have hn : n ≤ 80 := hn
  have hCv : Cv r := hDv.1
  obtain ⟨h0r, htr, -⟩ := id hCv.1.1
  intro G me sz ws hw
  exact c_M (fun o ou oh os op => c_X3_save_e l G me o ou oh os op (nI c) sv 0 0 0 0 w S0 hw1 (he)) hw sz
theorem a_restore_e (hok : OkD q) (w : Int32) {S0 : Int} (hw1 : w.toInt = S0) (he : ¬ (0 ≤ S0 ∧ S0 ≤ 1)) : Act l yX3_restore cX3_restore 2 [.int w] q (-2) q := by
  obtain ⟨r, c, hr, sv, sr, p, n⟩ := q
  obtain ⟨hDv, hc, hn, hPg, hH, hS⟩ := id hok
  have hDv : Dv r := hDv
  have hc : c ≤ 6 := hc
  have hn : n ≤ 80 := hn
  have hCv : Cv r := hDv.1
  obtain ⟨h0r, htr, -⟩ := id hCv.1.1
  intro G me sz ws hw
  exact c_M (fun o ou oh os op => c_X3_restore_e l G me o ou oh os op (nI c) sv 0 0 0 0 w S0 hw1 (he)) hw sz
theorem a_fault (hok : OkD q)  : Act l yX3_fault cX3_fault 1 [] q (fV (qp q) (qn q) 0) q := by
  obtain ⟨r, c, hr, sv, sr, p, n⟩ := q
  obtain ⟨hDv, hc, hn, hPg, hH, hS⟩ := id hok
  have hDv : Dv r := hDv
  have hc : c ≤ 6 := hc
  have hn : n ≤ 80 := hn
  have hCv : Cv r := hDv.1
  obtain ⟨h0r, htr, -⟩ := id hCv.1.1
  intro G me sz ws hw
  exact c_txt (fun sz o ou oh os op pa pt i k3 k4 f hs T hfp => c_X3_fault l G sz me o ou oh os op (nI c) sv 0 0 0 0 pa pt n p i k3 k4 f hs T (fV p n 0) (fW p n 0) (alN p n 0) (alO p n 0) (hn) (hPg) (hfp) (rfl) (rfl) (rfl) (rfl)) hw sz
theorem a_carryOut_t (hok : OkD q) (hV6 : ¬ (fV (qp q) (qn q) 0).toInt = -6) : Act l yX3_carryOut cX3_carryOut 4 [] q (-3) q := by
  obtain ⟨r, c, hr, sv, sr, p, n⟩ := q
  obtain ⟨hDv, hc, hn, hPg, hH, hS⟩ := id hok
  have hDv : Dv r := hDv
  have hc : c ≤ 6 := hc
  have hn : n ≤ 80 := hn
  have hCv : Cv r := hDv.1
  obtain ⟨h0r, htr, -⟩ := id hCv.1.1
  intro G me sz ws hw
  exact c_txt (fun sz o ou oh os op pa pt i k3 k4 f hs T hfp => c_X3_carryOut_t l G sz me o ou oh os op (nI c) sv 0 0 0 0 pa pt n p i k3 k4 f hs T (fV p n 0) (fW p n 0) (alN p n 0) (alO p n 0) (hn) (hPg) (hfp) (rfl) (rfl) (rfl) (rfl) (hV6)) hw sz
theorem a_count (hok : OkD q) (x : Int32) {X : Int} (hx1 : x.toInt = X) : Act l yX3_count cX3_count 2 [.int x] q (cov (qr q) (nI (qc q)) (nI (qn q)) X) q := by
  obtain ⟨r, c, hr, sv, sr, p, n⟩ := q
  obtain ⟨hDv, hc, hn, hPg, hH, hS⟩ := id hok
  have hDv : Dv r := hDv
  have hc : c ≤ 6 := hc
  have hn : n ≤ 80 := hn
  have hCv : Cv r := hDv.1
  obtain ⟨h0r, htr, -⟩ := id hCv.1.1
  intro G me sz ws hw
  exact c_MPD (fun o ou oh os op ab af an aw pa pt i k3 k4 => c_X3_count l G me o ou oh os op (nI c) sv ab af an aw r pa pt (nI n) i k3 k4 x X (hCv) hx1) hw sz
theorem a_ofMonth (hok : OkD q) (m : Nat) (x : Int32) {X : Int} (hm8 : m < 120) (hx1 : x.toInt = X) : Act l yX3_ofMonth cX3_ofMonth 3 [.int (nI m), .int x] q (omv (qr q) m X) q := by
  obtain ⟨r, c, hr, sv, sr, p, n⟩ := q
  obtain ⟨hDv, hc, hn, hPg, hH, hS⟩ := id hok
  have hDv : Dv r := hDv
  have hc : c ≤ 6 := hc
  have hn : n ≤ 80 := hn
  have hCv : Cv r := hDv.1
  obtain ⟨h0r, htr, -⟩ := id hCv.1.1
  intro G me sz ws hw
  exact c_MD (fun o ou oh os op ab af an aw => c_X3_ofMonth_k l G me o ou oh os op (nI c) sv ab af an aw r m x X (hCv) (hm8) hx1) hw sz
theorem a_inMonth (hok : OkD q) (s m : Nat) (hs : s < 16) (hm8 : m < 120) : Act l yX3_inMonth cX3_inMonth 3 [.int (nI s), .int (nI m)] q (nI (ons (qr q (255 + 16 * m + s)))) q := by
  obtain ⟨r, c, hr, sv, sr, p, n⟩ := q
  obtain ⟨hDv, hc, hn, hPg, hH, hS⟩ := id hok
  have hDv : Dv r := hDv
  have hc : c ≤ 6 := hc
  have hn : n ≤ 80 := hn
  have hCv : Cv r := hDv.1
  obtain ⟨h0r, htr, -⟩ := id hCv.1.1
  intro G me sz ws hw
  exact c_MD (fun o ou oh os op ab af an aw => c_X3_inMonth_k l G me o ou oh os op (nI c) sv ab af an aw r s m (hCv.2.2.1.2.1) (hm8) (hs)) hw sz
theorem a_sizeAs (hok : OkD q) (m u : Nat) (hm8 : m < 120) (hu : u ≤ 4) : Act l yX3_sizeAs cX3_sizeAs 3 [.int (nI m), .int (nI u)] q (siz (qr q) m (-6) ((u : Nat) : Int)) q := by
  obtain ⟨r, c, hr, sv, sr, p, n⟩ := q
  obtain ⟨hDv, hc, hn, hPg, hH, hS⟩ := id hok
  have hDv : Dv r := hDv
  have hc : c ≤ 6 := hc
  have hn : n ≤ 80 := hn
  have hCv : Cv r := hDv.1
  obtain ⟨h0r, htr, -⟩ := id hCv.1.1
  intro G me sz ws hw
  exact c_MD (fun o ou oh os op ab af an aw => c_X3_sizeAs_k l G me o ou oh os op (nI c) sv ab af an aw r m u (hCv.2.2.1) (hm8) (hu)) hw sz
theorem a_workOf (hok : OkD q) (f t : Nat) (hft : f ≤ t) (ht : t < 3650) : Act l yX3_workOf cX3_workOf 4 [.int (nI f), .int (nI t)] q ((lkk (qr q) (mot f) (mot t + 1 - mot f)) 3 - qr q 3) q := by
  obtain ⟨r, c, hr, sv, sr, p, n⟩ := q
  obtain ⟨hDv, hc, hn, hPg, hH, hS⟩ := id hok
  have hDv : Dv r := hDv
  have hc : c ≤ 6 := hc
  have hn : n ≤ 80 := hn
  have hCv : Cv r := hDv.1
  obtain ⟨h0r, htr, -⟩ := id hCv.1.1
  intro G me sz ws hw
  exact c_D1 (fun sz o ou oh os op ab af an aw ub uf un uw rt => c_X3_workOf_k l G sz me o ou oh os op (nI c) sv ab af an aw r ub uf un uw rt f t (hCv) (hft) (ht)) hw sz
theorem a_bestOpen (hok : OkD q) (f t : Nat) (hft : f ≤ t) (ht : t < 3650) : Act l yX3_bestOpen cX3_bestOpen 8 [.int (nI f), .int (nI t)] q (nI (bob (qr q) f t 6)) q := by
  obtain ⟨r, c, hr, sv, sr, p, n⟩ := q
  obtain ⟨hDv, hc, hn, hPg, hH, hS⟩ := id hok
  have hDv : Dv r := hDv
  have hc : c ≤ 6 := hc
  have hn : n ≤ 80 := hn
  have hCv : Cv r := hDv.1
  obtain ⟨h0r, htr, -⟩ := id hCv.1.1
  intro G me sz ws hw
  exact c_D1 (fun sz o ou oh os op ab af an aw ub uf un uw rt => c_X3_bestOpen_k l G sz me o ou oh os op (nI c) sv ab af an aw r ub uf un uw rt f t (hCv) (hft) (ht)) hw sz
theorem a_marks (hok : OkD q) (s f t : Nat) (hs : s < 16) (hft : f ≤ t) (ht : t < 3650) : Act l yX3_marks cX3_marks 9 [.int (nI s), .int (nI f), .int (nI t)] q (nI (ctm (qr q) s f t (mot f) (mot t + 1 - mot f))) (mks (qr q) f t (mot f) (mot t + 1 - mot f), q.2) := by
  obtain ⟨r, c, hr, sv, sr, p, n⟩ := q
  obtain ⟨hDv, hc, hn, hPg, hH, hS⟩ := id hok
  have hDv : Dv r := hDv
  have hc : c ≤ 6 := hc
  have hn : n ≤ 80 := hn
  have hCv : Cv r := hDv.1
  obtain ⟨h0r, htr, -⟩ := id hCv.1.1
  intro G me sz ws hw
  exact c_D (fun sz o ou oh os op ab af an aw => c_X3_marks_k l G sz me o ou oh os op (nI c) sv ab af an aw r s f t (hCv) (hs) (hft) (ht)) hw sz
theorem a_isMarked (hok : OkD q) (s d : Nat) (hs : s < 16) (hd : d < 3650) : Act l yX3_isMarked cX3_isMarked 4 [.int (nI s), .int (nI d)] q (nI (bn (qr q (255 + 16 * mot d + s)) (d - fdy (mot d)))) (lok (qr q) (mot d), q.2) := by
  obtain ⟨r, c, hr, sv, sr, p, n⟩ := q
  obtain ⟨hDv, hc, hn, hPg, hH, hS⟩ := id hok
  have hDv : Dv r := hDv
  have hc : c ≤ 6 := hc
  have hn : n ≤ 80 := hn
  have hCv : Cv r := hDv.1
  obtain ⟨h0r, htr, -⟩ := id hCv.1.1
  intro G me sz ws hw
  exact c_D (fun sz o ou oh os op ab af an aw => c_X3_isMarked_k l G sz me o ou oh os op (nI c) sv ab af an aw r s d (hCv) (hs) (hd)) hw sz
theorem a_nextMark (hok : OkD q) (s d : Nat) (hs : s < 16) (hd : d < 3650) : Act l yX3_nextMark cX3_nextMark 6 [.int (nI s), .int (nI d)] q (nxr (qr q) s d) (lmk (qr q) s (mot d) (nxc (qr q) s d), q.2) := by
  obtain ⟨r, c, hr, sv, sr, p, n⟩ := q
  obtain ⟨hDv, hc, hn, hPg, hH, hS⟩ := id hok
  have hDv : Dv r := hDv
  have hc : c ≤ 6 := hc
  have hn : n ≤ 80 := hn
  have hCv : Cv r := hDv.1
  obtain ⟨h0r, htr, -⟩ := id hCv.1.1
  intro G me sz ws hw
  exact c_D (fun sz o ou oh os op ab af an aw => c_X3_nextMark_k l G sz me o ou oh os op (nI c) sv ab af an aw r s d (hCv) (hs) (hd)) hw sz
theorem a_both (hok : OkD q) (s s2 f t : Nat) (hs : s < 16) (hs2 : s2 < 16) (hft : f ≤ t) (ht : t < 3650) : Act l yX3_both cX3_both 10 [.int (nI s), .int (nI s2), .int (nI f), .int (nI t)] q (nI (ctb (qr q) s s2 f t (mot f) (mot t + 1 - mot f))) (lkk (qr q) (mot f) (mot t + 1 - mot f), q.2) := by
  obtain ⟨r, c, hr, sv, sr, p, n⟩ := q
  obtain ⟨hDv, hc, hn, hPg, hH, hS⟩ := id hok
  have hDv : Dv r := hDv
  have hc : c ≤ 6 := hc
  have hn : n ≤ 80 := hn
  have hCv : Cv r := hDv.1
  obtain ⟨h0r, htr, -⟩ := id hCv.1.1
  intro G me sz ws hw
  exact c_D (fun sz o ou oh os op ab af an aw => c_X3_both_k l G sz me o ou oh os op (nI c) sv ab af an aw r s s2 f t (hCv) (hs) (hs2) (hft) (ht)) hw sz
theorem a_crowded (hok : OkD q) (s f t : Nat) (hL : 1 ≤ s ∧ s ≤ 16) (hft : f ≤ t) (ht : t < 3650) : Act l yX3_crowded cX3_crowded 8 [.int (nI s), .int (nI f), .int (nI t)] q (nI (ctc (qr q) ((s : Nat) : Int) f t (mot f) (mot t + 1 - mot f))) (lkk (qr q) (mot f) (mot t + 1 - mot f), q.2) := by
  obtain ⟨r, c, hr, sv, sr, p, n⟩ := q
  obtain ⟨hDv, hc, hn, hPg, hH, hS⟩ := id hok
  have hDv : Dv r := hDv
  have hc : c ≤ 6 := hc
  have hn : n ≤ 80 := hn
  have hCv : Cv r := hDv.1
  obtain ⟨h0r, htr, -⟩ := id hCv.1.1
  intro G me sz ws hw
  exact c_D (fun sz o ou oh os op ab af an aw => c_X3_crowded_k l G sz me o ou oh os op (nI c) sv ab af an aw r s f t (hCv) (hL) (hft) (ht)) hw sz
theorem a_longest (hok : OkD q) (s f t u : Nat) (hs : s < 16) (hu : u ≤ 1) (hft : f ≤ t) (ht : t < 3650) : Act l yX3_longest cX3_longest 10 [.int (nI s), .int (nI f), .int (nI t), .int (nI u)] q (lgs (qr q) s f t u) (lmk (qr q) s (mot f) (mot t + 1 - mot f), q.2) := by
  obtain ⟨r, c, hr, sv, sr, p, n⟩ := q
  obtain ⟨hDv, hc, hn, hPg, hH, hS⟩ := id hok
  have hDv : Dv r := hDv
  have hc : c ≤ 6 := hc
  have hn : n ≤ 80 := hn
  have hCv : Cv r := hDv.1
  obtain ⟨h0r, htr, -⟩ := id hCv.1.1
  intro G me sz ws hw
  exact c_D (fun sz o ou oh os op ab af an aw => c_X3_longest_k l G sz me o ou oh os op (nI c) sv ab af an aw r s f t u (hCv) (hs) (hft) (ht) (hu)) hw sz
set_option maxHeartbeats 4000000 in
theorem x_open (hok : OkD q) (v : Nat) (hv2 : v ≤ 6) : ∃ (res : Int32) (q2 : Sx), OkD q2 ∧ Act l yX3_set cX3_set 3 [.int (nI 1), .int (nI v)] q res q2 := by
  obtain ⟨r, c, hr, sv, sr, p, n⟩ := q
  obtain ⟨hDv, hc, hn, hPg, hH, hS⟩ := id hok
  have hDv : Dv r := hDv
  have hc : c ≤ 6 := hc
  have hn : n ≤ 80 := hn
  have hCv : Cv r := hDv.1
  obtain ⟨h0r, htr, -⟩ := id hCv.1.1
  exact ⟨_, _, (show OkD (fga (upd r 2 (nI v)), rch c + 1, recH c hr r, sv, sr, p, n) from OkE_rec hok (Dv_open hDv hv2)), fun G me sz ws hw => rec_lift (fun sz me o ou oh os op c sv ab af an aw hf o2 b2 f2 n2 w2 r2 hc ho2 => c_X3_set_ok l G sz me o ou oh os op c sv ab af an aw hf r o2 b2 f2 n2 w2 r2 v (hc) (ho2) (hv2) (hCv)) (fun sz me o ou oh os op sv ab af an aw h0 h1 h2 h3 h4 h5 b2 f2 n2 w2 r2 v1 v2 v3 v4 v5 => c_X3_set_o6 l G sz me o ou oh os op sv ab af an aw h0 h1 h2 h3 h4 h5 r b2 f2 n2 w2 r2 v1 v2 v3 v4 v5 v (hv2) (hCv)) hc hw sz⟩
set_option maxHeartbeats 4000000 in
theorem x_pass (hok : OkD q) (d : Nat) (hd1 : 1 ≤ d ∧ d ≤ 400) (hd : td (qr q) + d < 3650) : ∃ (res : Int32) (q2 : Sx), OkD q2 ∧ Act l yX3_pass cX3_pass 3 [.int (nI d)] q res q2 := by
  obtain ⟨r, c, hr, sv, sr, p, n⟩ := q
  obtain ⟨hDv, hc, hn, hPg, hH, hS⟩ := id hok
  have hDv : Dv r := hDv
  have hc : c ≤ 6 := hc
  have hn : n ≤ 80 := hn
  have hCv : Cv r := hDv.1
  obtain ⟨h0r, htr, -⟩ := id hCv.1.1
  exact ⟨_, _, (show OkD (psk r d 120, rch c + 1, recH c hr r, sv, sr, p, n) from OkE_rec hok (Dv_psk hDv hd)), fun G me sz ws hw => rec_lift (fun sz me o ou oh os op c sv ab af an aw hf o2 b2 f2 n2 w2 r2 hc ho2 => c_X3_pass_kk l G sz me o ou oh os op c sv ab af an aw hf r o2 b2 f2 n2 w2 r2 d (hc) (ho2) (hCv) (hd1) (hd)) (fun sz me o ou oh os op sv ab af an aw h0 h1 h2 h3 h4 h5 b2 f2 n2 w2 r2 v1 v2 v3 v4 v5 => c_X3_pass_k6 l G sz me o ou oh os op sv ab af an aw h0 h1 h2 h3 h4 h5 r b2 f2 n2 w2 r2 v1 v2 v3 v4 v5 d (hCv) (hd1) (hd)) hc hw sz⟩
set_option maxHeartbeats 4000000 in
theorem x_mark (hok : OkD q) (s f t : Nat) (hs : s < 16) (hft : f ≤ t) (ht : t ≤ td (qr q)) : ∃ (res : Int32) (q2 : Sx), OkD q2 ∧ Act l yX3_mark cX3_mark 4 [.int (nI s), .int (nI f), .int (nI t)] q res q2 := by
  obtain ⟨r, c, hr, sv, sr, p, n⟩ := q
  obtain ⟨hDv, hc, hn, hPg, hH, hS⟩ := id hok
  have hDv : Dv r := hDv
  have hc : c ≤ 6 := hc
  have hn : n ≤ 80 := hn
  have hCv : Cv r := hDv.1
  obtain ⟨h0r, htr, -⟩ := id hCv.1.1
  have ht : t ≤ td r := ht
  have hmf := mot_mono (a := f) (b := t) (by omega) (by omega)
  have hmt := mot_mono (a := t) (b := td r) htr ht
  have hmd := mot_row htr
  exact ⟨_, _, (show OkD (mko r s f t (mot f) True (mot t + 1 - mot f), rch c + 1, recH c hr r, sv, sr, p, n) from OkE_rec hok ((Dv_mko hDv hs hmd.1 _ (by omega)).1)), fun G me sz ws hw => rec_lift (fun sz me o ou oh os op c sv ab af an aw hf o2 b2 f2 n2 w2 r2 hc ho2 => c_X3_mark_kk l G sz me o ou oh os op c sv ab af an aw hf r o2 b2 f2 n2 w2 r2 s f t (hc) (ho2) (hCv) (hs) (hft) (ht)) (fun sz me o ou oh os op sv ab af an aw h0 h1 h2 h3 h4 h5 b2 f2 n2 w2 r2 v1 v2 v3 v4 v5 => c_X3_mark_k6 l G sz me o ou oh os op sv ab af an aw h0 h1 h2 h3 h4 h5 r b2 f2 n2 w2 r2 v1 v2 v3 v4 v5 s f t (hCv) (hs) (hft) (ht)) hc hw sz⟩
set_option maxHeartbeats 4000000 in
theorem x_clear (hok : OkD q) (s f t : Nat) (hs : s < 16) (hft : f ≤ t) (ht : t ≤ td (qr q)) : ∃ (res : Int32) (q2 : Sx), OkD q2 ∧ Act l yX3_clear cX3_clear 4 [.int (nI s), .int (nI f), .int (nI t)] q res q2 := by
  obtain ⟨r, c, hr, sv, sr, p, n⟩ := q
  obtain ⟨hDv, hc, hn, hPg, hH, hS⟩ := id hok
  have hDv : Dv r := hDv
  have hc : c ≤ 6 := hc
  have hn : n ≤ 80 := hn
  have hCv : Cv r := hDv.1
  obtain ⟨h0r, htr, -⟩ := id hCv.1.1
  have ht : t ≤ td r := ht
  have hmf := mot_mono (a := f) (b := t) (by omega) (by omega)
  have hmt := mot_mono (a := t) (b := td r) htr ht
  have hmd := mot_row htr
  exact ⟨_, _, (show OkD (mko r s f t (mot f) False (mot t + 1 - mot f), rch c + 1, recH c hr r, sv, sr, p, n) from OkE_rec hok ((Dv_mko hDv hs hmd.1 _ (by omega)).1)), fun G me sz ws hw => rec_lift (fun sz me o ou oh os op c sv ab af an aw hf o2 b2 f2 n2 w2 r2 hc ho2 => c_X3_clear_kk l G sz me o ou oh os op c sv ab af an aw hf r o2 b2 f2 n2 w2 r2 s f t (hc) (ho2) (hCv) (hs) (hft) (ht)) (fun sz me o ou oh os op sv ab af an aw h0 h1 h2 h3 h4 h5 b2 f2 n2 w2 r2 v1 v2 v3 v4 v5 => c_X3_clear_k6 l G sz me o ou oh os op sv ab af an aw h0 h1 h2 h3 h4 h5 r b2 f2 n2 w2 r2 v1 v2 v3 v4 v5 s f t (hCv) (hs) (hft) (ht)) hc hw sz⟩
set_option maxHeartbeats 4000000 in
theorem x_put (hok : OkD q) (w : Int64) : ∃ (res : Int32) (q2 : Sx), OkD q2 ∧ Act l yX3_put cX3_put 4 [.long w] q res q2 := by
  obtain ⟨r, c, hr, sv, sr, p, n⟩ := q
  obtain ⟨hDv, hc, hn, hPg, hH, hS⟩ := id hok
  have hDv : Dv r := hDv
  have hc : c ≤ 6 := hc
  have hn : n ≤ 80 := hn
  have hCv : Cv r := hDv.1
  obtain ⟨h0r, htr, -⟩ := id hCv.1.1
  obtain ⟨Wd, hW, rfl⟩ := lw_ex w
  by_cases hc0 : chN Wd = 0
  · exact ⟨_, _, hok, fun G me sz ws hw => c_M (fun o ou oh os op => c_X3_put_e l G me o ou oh os op (nI c) sv 0 0 0 0 Wd (hW) (hc0)) hw sz⟩
  · by_cases hnc : n + chN Wd ≤ 80
    · exact ⟨_, _, (show OkD (r, c, hr, sv, sr, apk p n Wd (chN Wd) (chN Wd), n + chN Wd) from OkE_put hok hc0 hnc), fun G me sz ws hw => c_put (fun sz o ou oh os op pa pt i k3 k4 => c_X3_put_k l G sz me o ou oh os op (nI c) sv 0 0 0 0 pa pt n i k3 k4 p Wd (hW) (hc0) (hnc)) hw sz⟩
    · exact ⟨_, _, hok, fun G me sz ws hw => c_MP (fun o ou oh os op pa pt i k3 k4 => c_X3_put_e2 l G me o ou oh os op (nI c) sv 0 0 0 0 pa pt n i k3 k4 p Wd (hW) (hn) (hc0) (hnc)) hw sz⟩
set_option maxHeartbeats 4000000 in
theorem x_wipe (hok : OkD q)  : ∃ (res : Int32) (q2 : Sx), OkD q2 ∧ Act l yX3_wipe cX3_wipe 2 [] q res q2 := by
  obtain ⟨r, c, hr, sv, sr, p, n⟩ := q
  obtain ⟨hDv, hc, hn, hPg, hH, hS⟩ := id hok
  have hDv : Dv r := hDv
  have hc : c ≤ 6 := hc
  have hn : n ≤ 80 := hn
  have hCv : Cv r := hDv.1
  obtain ⟨h0r, htr, -⟩ := id hCv.1.1
  exact ⟨_, _, (show OkD (r, c, hr, sv, sr, p, 0) from OkE_n hok), fun G me sz ws hw => c_wipe (n' := 0) (fun sz o ou oh os op pa pt i k3 k4 => c_X3_wipe l G sz me o ou oh os op (nI c) sv 0 0 0 0 pa pt (nI n) i k3 k4) hw sz⟩
set_option maxHeartbeats 4000000 in
theorem x_carryOut (hok : OkD q)  : ∃ (res : Int32) (q2 : Sx), OkD q2 ∧ Act l yX3_carryOut cX3_carryOut 4 [] q res q2 := by
  obtain ⟨r, c, hr, sv, sr, p, n⟩ := q
  obtain ⟨hDv, hc, hn, hPg, hH, hS⟩ := id hok
  have hDv : Dv r := hDv
  have hc : c ≤ 6 := hc
  have hn : n ≤ 80 := hn
  have hCv : Cv r := hDv.1
  obtain ⟨h0r, htr, -⟩ := id hCv.1.1
  by_cases hV6 : (fV p n 0).toInt = -6
  · have hV : fV p n 0 = -6 := Int32.toInt_inj.mp (hV6.trans rfl)
    exact ⟨_, _, (show OkD (run p n r (fe p n r (alN p n 0) 0), rch c + 1, recH c hr r, sv, sr, p, 0) from OkE_n (OkE_rec hok (Dv_run hDv _))), fun G me sz ws hw => c_co (fun sz o ou oh os op ab af an aw hf o2 b2 f2 n2 w2 r2 pa pt i k3 k4 f hs T hc ho2 hfp => c_X3_carryOut_k l G sz me o ou oh os op c sv ab af an aw hf r o2 b2 f2 n2 w2 r2 pa pt n p i k3 k4 f hs T (fW p n 0) (alN p n 0) (alO p n 0) (fe p n r (alN p n 0) 0) (hc) (ho2) (hn) (hPg) (hfp) (hV) (rfl) (rfl) (rfl) (rfl) (hCv)) (fun sz o ou oh os op ab af an aw h0 h1 h2 h3 h4 h5 b2 f2 n2 w2 r2 v1 v2 v3 v4 v5 pa pt i k3 k4 f hs T hfp => c_X3_carryOut_6 l G sz me o ou oh os op sv ab af an aw h0 h1 h2 h3 h4 h5 r b2 f2 n2 w2 r2 v1 v2 v3 v4 v5 pa pt n p i k3 k4 f hs T (fW p n 0) (alN p n 0) (alO p n 0) (fe p n r (alN p n 0) 0) (hn) (hPg) (hfp) (hV) (rfl) (rfl) (rfl) (rfl) (hCv)) hc hw sz⟩
  · exact ⟨_, _, hok, fun G me sz ws hw => c_txt (fun sz o ou oh os op pa pt i k3 k4 f hs T hfp => c_X3_carryOut_t l G sz me o ou oh os op (nI c) sv 0 0 0 0 pa pt n p i k3 k4 f hs T (fV p n 0) (fW p n 0) (alN p n 0) (alO p n 0) (hn) (hPg) (hfp) (rfl) (rfl) (rfl) (rfl) (hV6)) hw sz⟩
set_option maxHeartbeats 4000000 in
theorem x_undo (hok : OkD q)  : ∃ (res : Int32) (q2 : Sx), OkD q2 ∧ Act l yX3_undo cX3_undo 1 [] q res q2 := by
  obtain ⟨r, c, hr, sv, sr, p, n⟩ := q
  obtain ⟨hDv, hc, hn, hPg, hH, hS⟩ := id hok
  have hDv : Dv r := hDv
  have hc : c ≤ 6 := hc
  have hn : n ≤ 80 := hn
  have hCv : Cv r := hDv.1
  obtain ⟨h0r, htr, -⟩ := id hCv.1.1
  by_cases hc0 : c = 0
  · subst hc0
    exact ⟨_, _, hok, fun G me sz ws hw => c_M (fun o ou oh os op => c_X3_undo_e l G me o ou oh os op sv 0 0 0 0) hw sz⟩
  · have hc1 : 1 ≤ c ∧ c ≤ 6 := by omega
    exact ⟨_, _, (show OkD (hr (c - 1), c - 1, hr, sv, sr, p, n) from OkE_undo hok hc1.1), fun G me sz ws hw => c_undo (fun sz o ou oh os op ab af an aw hf o2 b2 f2 n2 w2 ho2 => c_X3_undo_k l G sz me o ou oh os op c sv ab af an aw hf r o2 b2 f2 n2 w2 (hr (c - 1)) (hc1) (ho2)) hc1 hw sz⟩
set_option maxHeartbeats 4000000 in
theorem x_save (hok : OkD q) (v : Nat) (hv : v ≤ 1) : ∃ (res : Int32) (q2 : Sx), OkD q2 ∧ Act l yX3_save cX3_save 2 [.int (nI v)] q res q2 := by
  obtain ⟨r, c, hr, sv, sr, p, n⟩ := q
  obtain ⟨hDv, hc, hn, hPg, hH, hS⟩ := id hok
  have hDv : Dv r := hDv
  have hc : c ≤ 6 := hc
  have hn : n ≤ 80 := hn
  have hCv : Cv r := hDv.1
  obtain ⟨h0r, htr, -⟩ := id hCv.1.1
  exact ⟨_, _, (show OkD (r, c, hr, sv ||| (nI 1 <<< (nI v &&& 31)), uph v sr r, p, n) from OkE_save hok hv), fun G me sz ws hw => c_save (fun sz o ou oh os op ab af an aw fs o2 b2 f2 n2 w2 r2 ho2 => c_X3_save_k l G sz me o ou oh os op (nI c) sv ab af an aw fs r o2 b2 f2 n2 w2 r2 v (hv) (ho2)) hv hw sz⟩
set_option maxHeartbeats 4000000 in
theorem x_restore (hok : OkD q) (v : Nat) (hv : v ≤ 1) : ∃ (res : Int32) (q2 : Sx), OkD q2 ∧ Act l yX3_restore cX3_restore 2 [.int (nI v)] q res q2 := by
  obtain ⟨r, c, hr, sv, sr, p, n⟩ := q
  obtain ⟨hDv, hc, hn, hPg, hH, hS⟩ := id hok
  have hDv : Dv r := hDv
  have hc : c ≤ 6 := hc
  have hn : n ≤ 80 := hn
  have hCv : Cv r := hDv.1
  obtain ⟨h0r, htr, -⟩ := id hCv.1.1
  by_cases hi : bt sv v = true
  · exact ⟨_, _, (show OkD (sr v, rch c + 1, recH c hr r, sv, sr, p, n) from OkE_rec hok (hS v hv hi)), fun G me sz ws hw => c_res (fun sz o ou oh os op ab af an aw hf o2 b2 f2 n2 w2 r2 fs o3 b3 f3 n3 w3 hc ho2 ho3 => c_X3_restore_kk l G sz me o ou oh os op c sv ab af an aw hf r o2 b2 f2 n2 w2 r2 fs o3 b3 f3 n3 w3 (sr v) v (hc) (ho2) (hv) (hi) (ho3)) (fun sz o ou oh os op ab af an aw h0 h1 h2 h3 h4 h5 b2 f2 n2 w2 r2 v1 v2 v3 v4 v5 fs o3 b3 f3 n3 w3 ho3 => c_X3_restore_k6 l G sz me o ou oh os op sv ab af an aw h0 h1 h2 h3 h4 h5 r b2 f2 n2 w2 r2 v1 v2 v3 v4 v5 fs o3 b3 f3 n3 w3 (sr v) v (hv) (hi) (ho3)) hc hv hw sz⟩
  · exact ⟨_, _, hok, fun G me sz ws hw => c_M (fun o ou oh os op => c_X3_restore_e2 l G me o ou oh os op (nI c) sv 0 0 0 0 v (hv) (hi)) hw sz⟩
end ACT
