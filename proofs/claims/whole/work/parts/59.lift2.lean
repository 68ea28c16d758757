/-! ===== the reference's whole world ===== -/
def HHr (c : Nat) (hh : Nat → Int32) (hr : Nat → Nat → Int32) : Prop := ∀ k, k < c → ∀ j, j < 2175 → hh (2175 * k + j) = hr k j
def KKr (sv : Int32) (kk ik : Nat → Int32) (sr : Nat → Nat → Int32) : Prop := ∀ v, v ≤ 1 → (bt sv v = true → ¬ (ik v).toInt = 0 ∧ ∀ j, j < 2175 → kk (2175 * v + j) = sr v j) ∧ (¬ bt sv v = true → (ik v).toInt = 0)
theorem HHr_rec {c : Nat} {hh r : Nat → Int32} {hr : Nat → Nat → Int32} (hc : c ≤ 6) (h : HHr c hh hr) : HHr (rch c + 1) (va_cpy r (rhh c hh) 0 (2175 * rch c) 2175) (recH c hr r) := by
  intro k hk j hj
  unfold va_cpy
  by_cases q : c = 6
  · subst q
    rw [rch_6 rfl] at hk ⊢
    rw [recH_6 rfl, rhh_6 rfl]
    unfold rotH
    by_cases e : k < 5
    · rw [if_pos e, if_neg (by omega)]
      show shk hh 10875 (2175 * k + j) = hr (k + 1) j
      unfold shk
      rw [if_pos (by omega), show 2175 * k + j + 2175 = 2175 * (k + 1) + j by omega]
      exact h (k + 1) (by omega) j hj
    · rw [if_neg e, if_pos (by omega)]
      exact congrArg r (by omega)
  · rw [rch_n q] at hk ⊢
    rw [recH_n q, rhh_n q]
    unfold uph
    by_cases e : k = c
    · rw [if_pos e, if_pos (by subst e; omega)]
      exact congrArg r (by subst e; omega)
    · rw [if_neg e, if_neg (by omega)]
      exact h k (by omega) j hj
theorem KKr_save {sv : Int32} {kk ik r : Nat → Int32} {sr : Nat → Nat → Int32} {v : Nat} (hv : v ≤ 1) (h : KKr sv kk ik sr) : KKr (sv ||| (nI 1 <<< (nI v &&& 31))) (va_cpy r kk 0 (2175 * v) 2175) (upd ik v (nI 1)) (uph v sr r) := by
  intro w hw
  have e1 : bt (sv ||| (nI 1 <<< (nI v &&& 31))) w = (bt sv w || decide (w = v)) := by rw [b_or, b_one v (by omega) (by omega)]
  unfold va_cpy uph upd
  by_cases q : w = v
  · have e2 : bt (sv ||| (nI 1 <<< (nI v &&& 31))) w = true := by rw [e1, decide_eq_true q, Bool.or_true]
    refine ⟨fun _ => ⟨by rw [if_pos q]; decide, fun j hj => ?_⟩, fun z => absurd e2 z⟩
    rw [if_pos (by omega), if_pos q]
    exact congrArg r (by omega)
  · have e2 : bt (sv ||| (nI 1 <<< (nI v &&& 31))) w = bt sv w := by rw [e1, decide_eq_false q, Bool.or_false]
    rw [e2]
    refine ⟨fun z => ⟨by rw [if_neg q]; exact ((h w hw).1 z).1, fun j hj => ?_⟩, fun z => by rw [if_neg q]; exact (h w hw).2 z⟩
    rw [if_neg (by omega), if_neg q]
    exact ((h w hw).1 z).2 j hj
abbrev mO (an tr ah : Nat) (c : Int32) (ak ai ap : Nat) (n : Int32) (af : Nat) (sp : Int32) : va_E := .inr (4, [.ref an, .ref tr, .ref ah, .int c, .ref ak, .ref ai, .ref ap, .int n, .ref af, .int sp])
abbrev mF (G : gT) (af : Nat) : Nat × va_E := (af, .inl (gI G, 121, .inl (fun q9 => nI (fdy q9))))
abbrev mN (G : gT) (an : Nat) (r : Nat → Int32) : Nat × va_E := (an, .inl (gI G, 2175, .inl r))
abbrev mH (G : gT) (ah : Nat) (hh : Nat → Int32) : Nat × va_E := (ah, .inl (gI G, 13050, .inl hh))
abbrev mK (G : gT) (ak : Nat) (kk : Nat → Int32) : Nat × va_E := (ak, .inl (gI G, 4350, .inl kk))
abbrev mI (G : gT) (ai : Nat) (ik : Nat → Int32) : Nat × va_E := (ai, .inl (gZ G, 2, .inl ik))
abbrev mP (G : gT) (ap : Nat) (p : Nat → Int32) : Nat × va_E := (ap, .inl (gI G, 80, .inl p))
def MP (G : gT) (hm : Nat) (r : Nat → Int32) (c : Nat) (hr : Nat → Nat → Int32) (sv : Int32) (sr : Nat → Nat → Int32) (p : Nat → Int32) (n : Nat) (ws : va_W) : Prop :=
  ∃ (an tr ah ak ai ap af : Nat) (rt hh kk ik : Nat → Int32) (sp : Nat), HHr c hh hr ∧ KKr sv kk ik sr ∧
    ws = [(hm, mO an tr ah (nI c) ak ai ap (nI n) af (nI sp)), mN G an r, mN G tr rt, mH G ah hh, mK G ak kk, mI G ai ik, mP G ap p, mF G af]
theorem MP.recv {G : gT} {hm c n : Nat} {r p : Nat → Int32} {hr sr : Nat → Nat → Int32} {sv : Int32} {ws : va_W} (h : MP G hm r c hr sv sr p n ws) : ∃ (fs : List Value), (hm, (.inr (4, fs) : va_E)) ∈ ws := by
  obtain ⟨an, tr, ah, ak, ai, ap, af, rt, hh, kk, ik, sp, h1, h2, rfl⟩ := h
  exact ⟨_, List.mem_cons_self⟩
theorem memI {ws wc : va_W} (is : List Nat) (h : is.map (fun i => ws[i]?) = wc.map some) : ∀ q, q ∈ wc → q ∈ ws := fun q hq => by
  have h1 : some q ∈ is.map (fun i => ws[i]?) := by rw [h]; exact List.mem_map.mpr ⟨q, hq, rfl⟩
  obtain ⟨i, -, hi⟩ := List.mem_map.mp h1
  exact List.mem_of_getElem? hi
section LFM
variable {l : Launch} {G : gT} {y : MethodName} {bytes : ByteArray} {maxL d : Nat} {ret : Option FieldType} {As : List Value} {res : Int32} {r r' rr : Nat → Int32} {hm c n : Nat} {hr sr : Nat → Nat → Int32} {sv : Int32} {p p' : Nat → Int32} {ws : va_W}
theorem m_0 (hk : ∀ (an tr ah ak ai ap af : Nat) (sp : Int32), Ro l G y bytes maxL ret d [] (.ref hm :: As) res) (h : MP G hm r c hr sv sr p n ws) (sz : Nat) : Ru l G y bytes maxL ret d sz ws (.ref hm :: As) res (MP G hm r c hr sv sr p n) :=
  Ru.ofRo (hk 0 0 0 0 0 0 0 0) (fun q hq => absurd hq List.not_mem_nil) h
theorem m_h (hk : ∀ (an tr ah ak ai ap af sp : Nat), Ro l G y bytes maxL ret d [(hm, mO an tr ah (nI c) ak ai ap (nI n) af (nI sp))] (.ref hm :: As) res) (h : MP G hm r c hr sv sr p n ws) (sz : Nat) : Ru l G y bytes maxL ret d sz ws (.ref hm :: As) res (MP G hm r c hr sv sr p n) := by
  obtain ⟨an, tr, ah, ak, ai, ap, af, rt, hh, kk, ik, sp, h1, h2, rfl⟩ := h
  exact Ru.ofRo (hk an tr ah ak ai ap af sp) (memI [0] rfl) ⟨an, tr, ah, ak, ai, ap, af, rt, hh, kk, ik, sp, h1, h2, rfl⟩
theorem m_hF (hk : ∀ (an tr ah ak ai ap af : Nat) (sp : Int32), Ro l G y bytes maxL ret d [(hm, mO an tr ah (nI c) ak ai ap (nI n) af sp), mF G af] (.ref hm :: As) res) (h : MP G hm r c hr sv sr p n ws) (sz : Nat) : Ru l G y bytes maxL ret d sz ws (.ref hm :: As) res (MP G hm r c hr sv sr p n) := by
  obtain ⟨an, tr, ah, ak, ai, ap, af, rt, hh, kk, ik, sp, h1, h2, rfl⟩ := h
  exact Ru.ofRo (hk an tr ah ak ai ap af (nI sp)) (memI [0, 7] rfl) ⟨an, tr, ah, ak, ai, ap, af, rt, hh, kk, ik, sp, h1, h2, rfl⟩
theorem m_hN (hk : ∀ (an tr ah ak ai ap af : Nat) (sp : Int32), Ro l G y bytes maxL ret d [(hm, mO an tr ah (nI c) ak ai ap (nI n) af sp), mN G an r] (.ref hm :: As) res) (h : MP G hm r c hr sv sr p n ws) (sz : Nat) : Ru l G y bytes maxL ret d sz ws (.ref hm :: As) res (MP G hm r c hr sv sr p n) := by
  obtain ⟨an, tr, ah, ak, ai, ap, af, rt, hh, kk, ik, sp, h1, h2, rfl⟩ := h
  exact Ru.ofRo (hk an tr ah ak ai ap af (nI sp)) (memI [0, 1] rfl) ⟨an, tr, ah, ak, ai, ap, af, rt, hh, kk, ik, sp, h1, h2, rfl⟩
theorem m_hFN (hk : ∀ (an tr ah ak ai ap af : Nat) (sp : Int32), Ro l G y bytes maxL ret d [(hm, mO an tr ah (nI c) ak ai ap (nI n) af sp), mF G af, mN G an r] (.ref hm :: As) res) (h : MP G hm r c hr sv sr p n ws) (sz : Nat) : Ru l G y bytes maxL ret d sz ws (.ref hm :: As) res (MP G hm r c hr sv sr p n) := by
  obtain ⟨an, tr, ah, ak, ai, ap, af, rt, hh, kk, ik, sp, h1, h2, rfl⟩ := h
  exact Ru.ofRo (hk an tr ah ak ai ap af (nI sp)) (memI [0, 7, 1] rfl) ⟨an, tr, ah, ak, ai, ap, af, rt, hh, kk, ik, sp, h1, h2, rfl⟩
theorem m_hI (v : Nat) (hv : v ≤ 1) (hb : ¬ bt sv v = true) (hk : ∀ (an tr ah ak ai ap af : Nat) (sp : Int32) (ik : Nat → Int32), (ik v).toInt = 0 → Ro l G y bytes maxL ret d [(hm, mO an tr ah (nI c) ak ai ap (nI n) af sp), mI G ai ik] (.ref hm :: As) res) (h : MP G hm r c hr sv sr p n ws) (sz : Nat) : Ru l G y bytes maxL ret d sz ws (.ref hm :: As) res (MP G hm r c hr sv sr p n) := by
  obtain ⟨an, tr, ah, ak, ai, ap, af, rt, hh, kk, ik, sp, h1, h2, rfl⟩ := h
  exact Ru.ofRo (hk an tr ah ak ai ap af (nI sp) ik ((h2 v hv).2 hb)) (memI [0, 5] rfl) ⟨an, tr, ah, ak, ai, ap, af, rt, hh, kk, ik, sp, h1, h2, rfl⟩
theorem m_N (hk : ∀ (sz an tr ah ak ai ap af : Nat) (sp : Int32), Rw l G y bytes maxL ret d sz [(hm, mO an tr ah (nI c) ak ai ap (nI n) af sp), mF G af, mN G an r] (.ref hm :: As) res [(hm, mO an tr ah (nI c) ak ai ap (nI n) af sp), mF G af, mN G an r']) (h : MP G hm r c hr sv sr p n ws) (sz : Nat) : Ru l G y bytes maxL ret d sz ws (.ref hm :: As) res (MP G hm r' c hr sv sr p n) := by
  obtain ⟨an, tr, ah, ak, ai, ap, af, rt, hh, kk, ik, sp, h1, h2, rfl⟩ := h
  exact Ru.ofRw' (hk sz an tr ah ak ai ap af (nI sp)) (pmI (wr := [mN G tr rt, mH G ah hh, mK G ak kk, mI G ai ik, mP G ap p]) [2, 3, 4, 5, 6, 0, 7, 1] (by decide) rfl rfl) rfl (pmI [2, 3, 4, 5, 6, 0, 7, 1] (by decide) rfl rfl) ⟨an, tr, ah, ak, ai, ap, af, rt, hh, kk, ik, sp, h1, h2, rfl⟩
theorem m_T (hk : ∀ (sz an tr ah ak ai ap af : Nat) (sp : Int32) (rt : Nat → Int32), Rw l G y bytes maxL ret d sz [(hm, mO an tr ah (nI c) ak ai ap (nI n) af sp), mF G af, mN G an r, mN G tr rt] (.ref hm :: As) res [(hm, mO an tr ah (nI c) ak ai ap (nI n) af sp), mF G af, mN G an r, mN G tr rr]) (h : MP G hm r c hr sv sr p n ws) (sz : Nat) : Ru l G y bytes maxL ret d sz ws (.ref hm :: As) res (MP G hm r c hr sv sr p n) := by
  obtain ⟨an, tr, ah, ak, ai, ap, af, rt, hh, kk, ik, sp, h1, h2, rfl⟩ := h
  exact Ru.ofRw' (hk sz an tr ah ak ai ap af (nI sp) rt) (pmI (wr := [mH G ah hh, mK G ak kk, mI G ai ik, mP G ap p]) [3, 4, 5, 6, 0, 7, 1, 2] (by decide) rfl rfl) rfl (pmI [3, 4, 5, 6, 0, 7, 1, 2] (by decide) rfl rfl) ⟨an, tr, ah, ak, ai, ap, af, rr, hh, kk, ik, sp, h1, h2, rfl⟩
theorem m_rec (hk : ∀ (sz an tr ah ak ai ap af : Nat) (sp : Int32) (hh : Nat → Int32), Rw l G y bytes maxL ret d sz [(hm, mO an tr ah (nI c) ak ai ap (nI n) af sp), mF G af, mN G an r, mH G ah hh] (.ref hm :: As) res [(hm, mO an tr ah (nI (rch c + 1)) ak ai ap (nI n) af sp), mF G af, mN G an r', mH G ah (va_cpy r (rhh c hh) 0 (2175 * rch c) 2175)]) (hc : c ≤ 6) (h : MP G hm r c hr sv sr p n ws) (sz : Nat) : Ru l G y bytes maxL ret d sz ws (.ref hm :: As) res (MP G hm r' (rch c + 1) (recH c hr r) sv sr p n) := by
  obtain ⟨an, tr, ah, ak, ai, ap, af, rt, hh, kk, ik, sp, h1, h2, rfl⟩ := h
  exact Ru.ofRw' (hk sz an tr ah ak ai ap af (nI sp) hh) (pmI (wr := [mN G tr rt, mK G ak kk, mI G ai ik, mP G ap p]) [2, 4, 5, 6, 0, 7, 1, 3] (by decide) rfl rfl) rfl (pmI [2, 4, 5, 6, 0, 7, 1, 3] (by decide) rfl rfl) ⟨an, tr, ah, ak, ai, ap, af, rt, _, kk, ik, sp, HHr_rec hc h1, h2, rfl⟩
theorem m_put {n' : Nat} (hk : ∀ (sz an tr ah ak ai ap af sp : Nat), Rw l G y bytes maxL ret d sz [(hm, mO an tr ah (nI c) ak ai ap (nI n) af (nI sp)), mP G ap p] (.ref hm :: As) res [(hm, mO an tr ah (nI c) ak ai ap (nI n') af (nI sp)), mP G ap p']) (h : MP G hm r c hr sv sr p n ws) (sz : Nat) : Ru l G y bytes maxL ret d sz ws (.ref hm :: As) res (MP G hm r c hr sv sr p' n') := by
  obtain ⟨an, tr, ah, ak, ai, ap, af, rt, hh, kk, ik, sp, h1, h2, rfl⟩ := h
  exact Ru.ofRw' (hk sz an tr ah ak ai ap af sp) (pmI (wr := [mN G an r, mN G tr rt, mH G ah hh, mK G ak kk, mI G ai ik, mF G af]) [1, 2, 3, 4, 5, 7, 0, 6] (by decide) rfl rfl) rfl (pmI [1, 2, 3, 4, 5, 7, 0, 6] (by decide) rfl rfl) ⟨an, tr, ah, ak, ai, ap, af, rt, hh, kk, ik, sp, h1, h2, rfl⟩
theorem m_wipe {n' : Nat} (hk : ∀ (sz an tr ah ak ai ap af : Nat) (sp : Int32), Rw l G y bytes maxL ret d sz [(hm, mO an tr ah (nI c) ak ai ap (nI n) af sp)] (.ref hm :: As) res [(hm, mO an tr ah (nI c) ak ai ap (nI n') af sp)]) (h : MP G hm r c hr sv sr p n ws) (sz : Nat) : Ru l G y bytes maxL ret d sz ws (.ref hm :: As) res (MP G hm r c hr sv sr p n') := by
  obtain ⟨an, tr, ah, ak, ai, ap, af, rt, hh, kk, ik, sp, h1, h2, rfl⟩ := h
  exact Ru.ofRw' (hk sz an tr ah ak ai ap af (nI sp)) (pmI (wr := [mN G an r, mN G tr rt, mH G ah hh, mK G ak kk, mI G ai ik, mP G ap p, mF G af]) [1, 2, 3, 4, 5, 6, 7, 0] (by decide) rfl rfl) rfl (pmI [1, 2, 3, 4, 5, 6, 7, 0] (by decide) rfl rfl) ⟨an, tr, ah, ak, ai, ap, af, rt, hh, kk, ik, sp, h1, h2, rfl⟩
theorem m_txt {W0 : Nat} (hk : ∀ (sz an tr ah ak ai ap af : Nat) (sp : Int32), Rw l G y bytes maxL ret d sz [(hm, mO an tr ah (nI c) ak ai ap (nI n) af sp), mP G ap p] (.ref hm :: As) res [(hm, mO an tr ah (nI c) ak ai ap (nI n) af (nI W0)), mP G ap p]) (h : MP G hm r c hr sv sr p n ws) (sz : Nat) : Ru l G y bytes maxL ret d sz ws (.ref hm :: As) res (MP G hm r c hr sv sr p n) := by
  obtain ⟨an, tr, ah, ak, ai, ap, af, rt, hh, kk, ik, sp, h1, h2, rfl⟩ := h
  exact Ru.ofRw' (hk sz an tr ah ak ai ap af (nI sp)) (pmI (wr := [mN G an r, mN G tr rt, mH G ah hh, mK G ak kk, mI G ai ik, mF G af]) [1, 2, 3, 4, 5, 7, 0, 6] (by decide) rfl rfl) rfl (pmI [1, 2, 3, 4, 5, 7, 0, 6] (by decide) rfl rfl) ⟨an, tr, ah, ak, ai, ap, af, rt, hh, kk, ik, W0, h1, h2, rfl⟩
theorem m_co {W0 : Nat} (hk : ∀ (sz an tr ah ak ai ap af : Nat) (sp : Int32) (hh : Nat → Int32), Rw l G y bytes maxL ret d sz [(hm, mO an tr ah (nI c) ak ai ap (nI n) af sp), mP G ap p, mN G an r, mH G ah hh, mF G af] (.ref hm :: As) res [(hm, mO an tr ah (nI (rch c + 1)) ak ai ap (nI 0) af (nI W0)), mP G ap p, mN G an r', mH G ah (va_cpy r (rhh c hh) 0 (2175 * rch c) 2175), mF G af]) (hc : c ≤ 6) (h : MP G hm r c hr sv sr p n ws) (sz : Nat) : Ru l G y bytes maxL ret d sz ws (.ref hm :: As) res (MP G hm r' (rch c + 1) (recH c hr r) sv sr p 0) := by
  obtain ⟨an, tr, ah, ak, ai, ap, af, rt, hh, kk, ik, sp, h1, h2, rfl⟩ := h
  exact Ru.ofRw' (hk sz an tr ah ak ai ap af (nI sp) hh) (pmI (wr := [mN G tr rt, mK G ak kk, mI G ai ik]) [2, 4, 5, 0, 6, 1, 3, 7] (by decide) rfl rfl) rfl (pmI [2, 4, 5, 0, 6, 1, 3, 7] (by decide) rfl rfl) ⟨an, tr, ah, ak, ai, ap, af, rt, _, kk, ik, W0, HHr_rec hc h1, h2, rfl⟩
theorem m_undo (hk : ∀ (sz an tr ah ak ai ap af : Nat) (sp : Int32) (hh : Nat → Int32), Rw l G y bytes maxL ret d sz [(hm, mO an tr ah (nI c) ak ai ap (nI n) af sp), mN G an r, mH G ah hh] (.ref hm :: As) res [(hm, mO an tr ah (nI (c - 1)) ak ai ap (nI n) af sp), mN G an (fun q9 => hh (2175 * (c - 1) + q9)), mH G ah hh]) (hc : 1 ≤ c ∧ c ≤ 6) (h : MP G hm r c hr sv sr p n ws) (sz : Nat) : Ru l G y bytes maxL ret d sz ws (.ref hm :: As) res (MP G hm (hr (c - 1)) (c - 1) hr sv sr p n) := by
  obtain ⟨an, tr, ah, ak, ai, ap, af, rt, hh, kk, ik, sp, h1, h2, rfl⟩ := h
  refine Ru.ofRw (w3 := [(hm, mO an tr ah (nI (c - 1)) ak ai ap (nI n) af (nI sp)), mN G an (hr (c - 1)), mN G tr rt, mH G ah hh, mK G ak kk, mI G ai ik, mP G ap p, mF G af]) (hk sz an tr ah ak ai ap af (nI sp) hh) (pmI (wr := [mN G tr rt, mK G ak kk, mI G ai ik, mP G ap p, mF G af]) [2, 4, 5, 6, 7, 0, 1, 3] (by decide) rfl rfl) rfl (fun A H g1 g2 => ?_) ⟨an, tr, ah, ak, ai, ap, af, rt, hh, kk, ik, sp, fun k hk2 j hj => h1 k (by omega) j hj, h2, rfl⟩
  have hpm := pmI (wl := [(hm, mO an tr ah (nI (c - 1)) ak ai ap (nI n) af (nI sp)), mN G an (fun q9 => hh (2175 * (c - 1) + q9)), mN G tr rt, mH G ah hh, mK G ak kk, mI G ai ik, mP G ap p, mF G af]) (wr := [mN G tr rt, mK G ak kk, mI G ai ik, mP G ap p, mF G af]) (wc := [(hm, mO an tr ah (nI (c - 1)) ak ai ap (nI n) af (nI sp)), mN G an (fun q9 => hh (2175 * (c - 1) + q9)), mH G ah hh]) [2, 4, 5, 6, 7, 0, 1, 3] (by decide) rfl rfl
  exact va_nrm (g1.pm hpm.symm) (g2.pm hpm.symm) 1 (hr (c - 1)) rfl (fun k hk2 => h1 (c - 1) (by omega) k hk2)
theorem m_save {v : Nat} (hk : ∀ (sz an tr ah ak ai ap af : Nat) (sp : Int32) (kk ik : Nat → Int32), Rw l G y bytes maxL ret d sz [(hm, mO an tr ah (nI c) ak ai ap (nI n) af sp), mN G an r, mK G ak kk, mI G ai ik] (.ref hm :: As) res [(hm, mO an tr ah (nI c) ak ai ap (nI n) af sp), mN G an r, mK G ak (va_cpy r kk 0 (2175 * v) 2175), mI G ai (upd ik v (nI 1))]) (hv : v ≤ 1) (h : MP G hm r c hr sv sr p n ws) (sz : Nat) : Ru l G y bytes maxL ret d sz ws (.ref hm :: As) res (MP G hm r c hr (sv ||| (nI 1 <<< (nI v &&& 31))) (uph v sr r) p n) := by
  obtain ⟨an, tr, ah, ak, ai, ap, af, rt, hh, kk, ik, sp, h1, h2, rfl⟩ := h
  exact Ru.ofRw' (hk sz an tr ah ak ai ap af (nI sp) kk ik) (pmI (wr := [mN G tr rt, mH G ah hh, mP G ap p, mF G af]) [2, 3, 6, 7, 0, 1, 4, 5] (by decide) rfl rfl) rfl (pmI [2, 3, 6, 7, 0, 1, 4, 5] (by decide) rfl rfl) ⟨an, tr, ah, ak, ai, ap, af, rt, hh, _, _, sp, h1, KKr_save hv h2, rfl⟩
theorem m_res {v : Nat} (hk : ∀ (sz an tr ah ak ai ap af : Nat) (sp : Int32) (hh kk ik : Nat → Int32), ¬ (ik v).toInt = 0 → kk (2175 * v + 0) = res → Rw l G y bytes maxL ret d sz [(hm, mO an tr ah (nI c) ak ai ap (nI n) af sp), mN G an r, mH G ah hh, mK G ak kk, mI G ai ik] (.ref hm :: As) res [(hm, mO an tr ah (nI (rch c + 1)) ak ai ap (nI n) af sp), mN G an (fun q9 => kk (2175 * v + q9)), mH G ah (va_cpy r (rhh c hh) 0 (2175 * rch c) 2175), mK G ak kk, mI G ai ik]) (hc : c ≤ 6) (hv : v ≤ 1) (hb : bt sv v = true) (hres : sr v 0 = res) (h : MP G hm r c hr sv sr p n ws) (sz : Nat) : Ru l G y bytes maxL ret d sz ws (.ref hm :: As) res (MP G hm (sr v) (rch c + 1) (recH c hr r) sv sr p n) := by
  obtain ⟨an, tr, ah, ak, ai, ap, af, rt, hh, kk, ik, sp, h1, h2, rfl⟩ := h
  obtain ⟨z1, z2⟩ := (h2 v hv).1 hb
  refine Ru.ofRw (w3 := [(hm, mO an tr ah (nI (rch c + 1)) ak ai ap (nI n) af (nI sp)), mN G an (sr v), mN G tr rt, mH G ah (va_cpy r (rhh c hh) 0 (2175 * rch c) 2175), mK G ak kk, mI G ai ik, mP G ap p, mF G af]) (hk sz an tr ah ak ai ap af (nI sp) hh kk ik z1 ((z2 0 (by omega)).trans hres)) (pmI (wr := [mN G tr rt, mP G ap p, mF G af]) [2, 6, 7, 0, 1, 3, 4, 5] (by decide) rfl rfl) rfl (fun A H g1 g2 => ?_) ⟨an, tr, ah, ak, ai, ap, af, rt, _, kk, ik, sp, HHr_rec hc h1, h2, rfl⟩
  have hpm := pmI (wl := [(hm, mO an tr ah (nI (rch c + 1)) ak ai ap (nI n) af (nI sp)), mN G an (fun q9 => kk (2175 * v + q9)), mN G tr rt, mH G ah (va_cpy r (rhh c hh) 0 (2175 * rch c) 2175), mK G ak kk, mI G ai ik, mP G ap p, mF G af]) (wr := [mN G tr rt, mP G ap p, mF G af]) (wc := [(hm, mO an tr ah (nI (rch c + 1)) ak ai ap (nI n) af (nI sp)), mN G an (fun q9 => kk (2175 * v + q9)), mH G ah (va_cpy r (rhh c hh) 0 (2175 * rch c) 2175), mK G ak kk, mI G ai ik]) [2, 6, 7, 0, 1, 3, 4, 5] (by decide) rfl rfl
  exact va_nrm (g1.pm hpm.symm) (g2.pm hpm.symm) 1 (sr v) rfl (fun k hk2 => z2 k hk2)
end LFM
