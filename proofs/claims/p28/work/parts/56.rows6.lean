/-! ===== contracts over whole objects ===== -/
theorem Met.cq {l : Launch} {y : MethodName} {ws : List Cond} {rm : Room} {Pc Pc' : Array Value → State → Prop} {Qc Qc' : Array Value → State → Outcome → State → Prop} {mc ms : Nat} {free free' : Addr → Prop} (h : Met l y ws rm Pc Qc mc ms free) (h1 : ∀ a s, Pc' a s → Pc a s) (h2 : ∀ a s o t, Pc' a s → Qc a s o t → Qc' a s o t) (h3 : ∀ q, free q → free' q) : Met l y ws rm Pc' Qc' mc ms free' := by
  intro p e ha hb hc s m args below hf happ hP hK
  obtain ⟨n, o, k1, k2, k3, hQ, L, hL, hLf⟩ := h p e ha hb hc s m args below hf happ (h1 _ _ hP) hK
  exact ⟨n, o, k1, k2, k3, h2 _ _ _ _ hP hQ, L, hL, fun q hq => h3 _ (hLf q hq)⟩
theorem Zs.nar {A B : Nat → Prop} {U : State} (h : Zs A U) (hB : ∀ q, B q → A q) : Zs B U := by
  obtain ⟨t, h1, h2⟩ := h
  exact ⟨t, h1.narrow hB, h2.narrow hB⟩
/-- answers res; its world becomes one that Φ names -/
def Ru (l : Launch) (G : gT) (y : MethodName) (bytes : ByteArray) (maxL : Nat) (ret : Option FieldType) (d sz : Nat) (ws : va_W) (As : List Value) (res : Int32) (Φ : va_W → Prop) : Prop := Met l y (Cond.code y bytes maxL ret :: GW) (rmL d) (va_Pc As (Pw G sz ws)) (va_Qi (fun r (_ : Unit) => r = res) (fun _ t => ∃ ws', Φ ws' ∧ va_P G.1 vwCl ws' t.heap ∧ va_D (va_A ws sz) ws') (va_A ws sz)) 0 0 (va_A ws sz)
theorem va_A_sub {ws wc : va_W} {sz : Nat} (hs : ∀ q, q ∈ wc → q ∈ ws) : ∀ q, va_A wc sz q → va_A ws sz q := by
  intro q h
  rcases h with ⟨k, e, h⟩ | h
  · obtain ⟨j, hj⟩ := List.mem_iff_getElem?.mp (hs _ (List.mem_of_getElem? h))
    exact Or.inl ⟨j, e, hj⟩
  · exact Or.inr h
section RUS
variable {l : Launch} {G : gT} {y : MethodName} {bytes : ByteArray} {maxL d sz : Nat} {ret : Option FieldType} {ws wc wr wc' w3 : va_W} {As : List Value} {res : Int32} {Φ : va_W → Prop}
theorem Ru.ofRo (h : Ro l G y bytes maxL ret d wc As res) (hs : ∀ q, q ∈ wc → q ∈ ws) (hΦ : Φ ws) : Ru l G y bytes maxL ret d sz ws As res Φ := by
  refine Met.cq h (fun a s hv => ?_) (fun a s o t hv hq => ?_) (fun q h => h.elim)
  · obtain ⟨h1, h2, h3, h4, h5, h6⟩ := hv
    exact ⟨h1, h3, h4.nar (fun _ h => h.elim), h5.mem hs⟩
  · obtain ⟨r, ho, hr, hh⟩ := hq
    obtain ⟨h1, h2, h3, h4, h5, h6⟩ := hv
    exact ⟨⟨r, (), ho, hr, ws, hΦ, by rw [hh]; exact h5, h6.self⟩, by rw [hh]; exact Nat.le_refl _, fun q _ _ => by rw [hh]⟩
theorem Ru.ofRw (h : Rw l G y bytes maxL ret d sz wc As res wc') (hpm : ws.Perm (wr ++ wc)) (hadr : wc'.map (·.1) = wc.map (·.1)) (hn : ∀ (A : Nat → Prop) (H : Heap), va_P G.1 vwCl (wr ++ wc') H → va_D A (wr ++ wc') → va_P G.1 vwCl w3 H ∧ va_D A w3) (hΦ : Φ w3) : Ru l G y bytes maxL ret d sz ws As res Φ := by
  have hs : ∀ q, q ∈ wc → q ∈ ws := fun q hq => hpm.mem_iff.mpr (List.mem_append_right _ hq)
  have hA := va_A_sub (sz := sz) hs
  refine Met.cq h (fun a s hv => ?_) (fun a s o t hv hq => ?_) hA
  · obtain ⟨h1, h2, h3, h4, h5, h6⟩ := hv
    exact ⟨h1, h2, h3, h4.nar hA, h5.mem hs, (h6.pm hpm).right⟩
  · obtain ⟨⟨r, u, ho, hr, hB⟩, hz, hk⟩ := hq
    obtain ⟨h1, rfl, h3, h4, h5, h6⟩ := hv
    have hPp := h5.pm hpm
    have hDp := (h6.self (sz := s.heap.size)).pm hpm
    obtain ⟨g1, g2⟩ := va_join hPp hDp _ _ (app_C wr wc) (app_R wr wc) (app_nR wr) (app_dis wr wc) hk hA hB ((h6.pm hpm).right.self.adr hadr)
    obtain ⟨g3, g4⟩ := hn _ _ g1 g2
    exact ⟨⟨r, (), ho, hr, w3, hΦ, g3, g4⟩, hz, fun q hq hn2 => hk q hq (fun z => hn2 (hA q z))⟩
theorem Ru.ofRw' (h : Rw l G y bytes maxL ret d sz wc As res wc') (hpm : ws.Perm (wr ++ wc)) (hadr : wc'.map (·.1) = wc.map (·.1)) (hpm2 : w3.Perm (wr ++ wc')) (hΦ : Φ w3) : Ru l G y bytes maxL ret d sz ws As res Φ :=
  Ru.ofRw h hpm hadr (fun _ _ g1 g2 => ⟨g1.pm hpm2.symm, g2.pm hpm2.symm⟩) hΦ
end RUS
section CALX
variable {p : Program} {l : Launch} {e : Env} {R : Room} {s : State} {m : MethodId} {args : Array Value} {below : List Frame} {meth : Method} {c : Code} {H : Heap} {locs : List Loc} {cells slots : Nat} {Q : State → Prop}
variable {pc : Nat} {ls : Array Slot} {rest st : List Value} {cc bytes : ByteArray} {own C : String} {index maxL nL n d : Nat} {y : MethodName} {ret : Option FieldType} {G : gT} {ws wc wr : va_W} {As : List Value} {res : Int32} {b ci : Nat} {fs : List Value} {A : Nat → Prop} {Φ : va_W → Prop}
theorem k_rxV (F : CallFix p m c cc nL s args GW own) (hM : Ru l G y bytes maxL ret d H.size wc (.ref b :: As) res Φ) (hc : ∃ q, vwCl[ci]? = some q ∧ q.1 = C) (he : ∃ q0 : Nat, ws[q0]? = some (b, .inr (ci, fs))) (hyC : y.cls = C) (h1 : Cond.methodLink own index y ∈ GW) (h2 : Cond.instanceMethod y ∈ GW) (h3 : Cond.selects C y y ∈ GW) (h4 : Cond.initialized C ∈ GW) (h5 : Cond.code y bytes maxL ret ∈ GW) (hd : hdY y n) (hR : d + 1 ≤ R.frames ∧ 8 + (maxL + 11) + 40 * d ≤ R.locals)
    (hK : Kx G s) (hZ : Zs A s) (hS : va_S A s.heap H locs) (hP : va_P G.1 vwCl ws H) (hD : va_D A ws) (hA : ∀ q, s.heap.size ≤ q → A q) (hpm : ws.Perm (wr ++ wc))
    (hn : As.length = n) (hsize : ls.size = nL) (hst : st = As.reverse ++ .ref b :: rest) (hW : (rest.map fun v => v.category).sum ≤ 8) (hdg : decode cc pc = .ok (.invokevirtual index, 3)) (hf : cells ≤ R.cells ∧ slots ≤ R.slots)
    (kk : ∀ (ws' : va_W) (H1 : Heap) (locs1 : List Loc), Φ ws' → va_P G.1 vwCl (wr ++ ws') H1 → va_D A (wr ++ ws') → va_S A s.heap H1 locs1 → W p l e R s m args below meth c H1 locs1 cells slots Q (F0 m (pc + 3) ls (.int res :: rest))) : W p l e R s m args below meth c H locs cells slots Q (F0 m pc ls st) := by
  obtain ⟨q0, he⟩ := he
  obtain ⟨j, hj⟩ := pm_he hpm he
  obtain ⟨q, hq, rfl⟩ := hc
  have hP := hP.pm hpm
  have hD := hD.pm hpm
  have hFc := va_free hD hS hA _ (app_C wr wc)
  refine va_calli (va_runV F hM (cwV n F.2.2.2.2 (gw_v h1 h2 h3 h4 h5) rfl rfl rfl ⟨hyC, hd⟩ hR) ⟨Pw.fb, k_recv hK hP hq hj, fun U hU hW => ⟨rfl, k_pw hK hZ hS hP hD hA _ (app_C wr wc) (app_nC wr wc) U hU hW⟩⟩ rfl hn hsize hst (lv_room hW) hdg hf) hS (fun q _ h => hFc q h) hFc (fun r u t H1 locs1 ht hvm hw hB hz hk hS1 => ?_)
  obtain ⟨ws', hΦ, hP1, hD1⟩ := hB
  rw [ht] at hP1
  obtain ⟨hP2, hD2⟩ := va_join hP hD _ _ (app_C wr wc) (app_R wr wc) (app_nR wr) (app_dis wr wc) hk hFc hP1 hD1
  rw [hw]
  exact kk ws' H1 locs1 hΦ hP2 hD2 hS1
end CALX
/-! ===== whole worlds: the class's, the reference's ===== -/
abbrev Ad : Type := Nat × Nat × Nat × Nat × Nat
def dia (G : gT) (r : Nat → Int32) (a : Ad) : va_W := [(a.1, dO r a.2.1 a.2.2.1 a.2.2.2.1 a.2.2.2.2), (a.2.1, .inl (gI G, 1920, .inl (dB r))), (a.2.2.1, .inl (gI G, 120, .inl (dF r))), (a.2.2.2.1, .inl (gI G, 120, .inl (dN r))), (a.2.2.2.2, .inl (gI G, 7, .inl (dW r)))]
/-- the class's world, of its blocks -/
def cB (F M R0 D0 D1 X S0 Y P0 P1 P2 : va_W) : va_W := F ++ (M ++ (R0 ++ (D0 ++ (D1 ++ (X ++ (S0 ++ (Y ++ (P0 ++ (P1 ++ P2)))))))))
/-- blocks, turned -/
theorem pmB (B : List va_W) (is : List Nat) (h : is.Perm (List.range is.length)) (hl : B.length = is.length) : B.flatten.Perm ((is.map (fun i => B.getD i [])).flatten) := by
  have e2 : (List.range B.length).map (fun i => B.getD i []) = B := by
    apply List.ext_getElem?
    intro i
    rw [List.getElem?_map]
    by_cases h : i < B.length
    · rw [List.getElem?_range h]
      simp [h]
    · simp [h]
  have h1 := (h.map (fun i => B.getD i [])).symm
  rw [← hl, e2] at h1
  exact h1.flatten
theorem pmB2 {w1 w2 : va_W} (B : List va_W) (is : List Nat) (h : is.Perm (List.range is.length)) (hl : B.length = is.length) (e1 : w1 = B.flatten) (e2 : w2 = (is.map (fun i => B.getD i [])).flatten) : w1.Perm w2 := by
  rw [e1, e2]
  exact pmB B is h hl
section SHP
variable {F M R0 D0 D1 X S0 Y P0 P1 P2 Xr Xc Yr Yc : va_W}
theorem cB_e : cB F M R0 D0 D1 X S0 Y P0 P1 P2 = [F, M, R0, D0, D1, X, S0, Y, P0, P1, P2].flatten := by
  simp only [List.flatten_cons, List.flatten_nil, List.append_nil]
  rfl
theorem sh_2 : (cB F M R0 D0 D1 X S0 Y P0 P1 P2).Perm ((F ++ (R0 ++ (D1 ++ (X ++ (S0 ++ (Y ++ (P0 ++ (P1 ++ P2)))))))) ++ (M ++ D0)) :=
  pmB2 [F, M, R0, D0, D1, X, S0, Y, P0, P1, P2] [0, 2, 4, 5, 6, 7, 8, 9, 10, 1, 3] (by decide) rfl cB_e (by simp [List.append_assoc])
theorem sh_4 : (cB F M R0 D0 D1 X S0 Y P0 P1 P2).Perm ((F ++ (R0 ++ (X ++ (S0 ++ (Y ++ (P0 ++ (P1 ++ P2))))))) ++ (M ++ (D0 ++ D1))) :=
  pmB2 [F, M, R0, D0, D1, X, S0, Y, P0, P1, P2] [0, 2, 5, 6, 7, 8, 9, 10, 1, 3, 4] (by decide) rfl cB_e (by simp [List.append_assoc])
theorem sh_5 : (cB F M R0 D0 D1 X S0 Y P0 P1 P2).Perm ((F ++ (R0 ++ (D0 ++ (D1 ++ (X ++ (S0 ++ (Y ++ P2))))))) ++ (M ++ (P0 ++ P1))) :=
  pmB2 [F, M, R0, D0, D1, X, S0, Y, P0, P1, P2] [0, 2, 3, 4, 5, 6, 7, 10, 1, 8, 9] (by decide) rfl cB_e (by simp [List.append_assoc])
theorem sh_6 : (cB F M R0 D0 D1 X S0 Y P0 P1 P2).Perm ((F ++ (R0 ++ (D0 ++ (D1 ++ (X ++ (S0 ++ (Y ++ (P1 ++ P2)))))))) ++ (M ++ P0)) :=
  pmB2 [F, M, R0, D0, D1, X, S0, Y, P0, P1, P2] [0, 2, 3, 4, 5, 6, 7, 9, 10, 1, 8] (by decide) rfl cB_e (by simp [List.append_assoc])
theorem sh_7 : (cB F M R0 D0 D1 X S0 Y P0 P1 P2).Perm ((R0 ++ (D0 ++ (D1 ++ (X ++ (S0 ++ Y))))) ++ (F ++ (M ++ (P0 ++ (P1 ++ P2))))) :=
  pmB2 [F, M, R0, D0, D1, X, S0, Y, P0, P1, P2] [2, 3, 4, 5, 6, 7, 0, 1, 8, 9, 10] (by decide) rfl cB_e (by simp [List.append_assoc])
theorem cB_x {X2 : va_W} (h : X.Perm X2) : (cB F M R0 D0 D1 X S0 Y P0 P1 P2).Perm (cB F M R0 D0 D1 X2 S0 Y P0 P1 P2) :=
  List.Perm.append_left _ (List.Perm.append_left _ (List.Perm.append_left _ (List.Perm.append_left _ (List.Perm.append_left _ (h.append_right _)))))
theorem cB_y {Y2 : va_W} (h : Y.Perm Y2) : (cB F M R0 D0 D1 X S0 Y P0 P1 P2).Perm (cB F M R0 D0 D1 X S0 Y2 P0 P1 P2) :=
  List.Perm.append_left _ (List.Perm.append_left _ (List.Perm.append_left _ (List.Perm.append_left _ (List.Perm.append_left _ (List.Perm.append_left _ (List.Perm.append_left _ (h.append_right _)))))))
theorem sh_8 (h : X.Perm (Xr ++ Xc)) : (cB F M R0 D0 D1 X S0 Y P0 P1 P2).Perm ((F ++ (D1 ++ (Xr ++ (S0 ++ (Y ++ (P0 ++ (P1 ++ P2))))))) ++ (M ++ (R0 ++ (D0 ++ Xc)))) :=
  (cB_x h).trans (pmB2 [F, M, R0, D0, D1, Xr, Xc, S0, Y, P0, P1, P2] [0, 4, 5, 7, 8, 9, 10, 11, 1, 2, 3, 6] (by decide) rfl (by simp [cB, List.append_assoc]) (by simp [List.append_assoc]))
theorem sh_10 (h : X.Perm (Xr ++ Xc)) : (cB F M R0 D0 D1 X S0 Y P0 P1 P2).Perm ((D1 ++ (Xr ++ (S0 ++ Y))) ++ (F ++ (M ++ (R0 ++ (D0 ++ (Xc ++ (P0 ++ (P1 ++ P2)))))))) :=
  (cB_x h).trans (pmB2 [F, M, R0, D0, D1, Xr, Xc, S0, Y, P0, P1, P2] [4, 5, 7, 8, 0, 1, 2, 3, 6, 9, 10, 11] (by decide) rfl (by simp [cB, List.append_assoc]) (by simp [List.append_assoc]))
theorem sh_12 (h : Y.Perm (Yr ++ Yc)) : (cB F M R0 D0 D1 X S0 Y P0 P1 P2).Perm ((F ++ (R0 ++ (D1 ++ (X ++ (Yr ++ (P0 ++ (P1 ++ P2))))))) ++ (M ++ (S0 ++ (D0 ++ Yc)))) :=
  (cB_y h).trans (pmB2 [F, M, R0, D0, D1, X, S0, Yr, Yc, P0, P1, P2] [0, 2, 4, 5, 7, 9, 10, 11, 1, 6, 3, 8] (by decide) rfl (by simp [cB, List.append_assoc]) (by simp [List.append_assoc]))
theorem sh_13 (h : X.Perm (Xr ++ Xc)) (h2 : Y.Perm (Yr ++ Yc)) : (cB F M R0 D0 D1 X S0 Y P0 P1 P2).Perm ((F ++ (D1 ++ (Xr ++ (Yr ++ (P0 ++ (P1 ++ P2)))))) ++ (M ++ (R0 ++ (D0 ++ (Xc ++ (S0 ++ Yc)))))) :=
  ((cB_x h).trans (cB_y h2)).trans (pmB2 [F, M, R0, D0, D1, Xr, Xc, S0, Yr, Yc, P0, P1, P2] [0, 4, 5, 8, 10, 11, 12, 1, 2, 3, 6, 7, 9] (by decide) rfl (by simp [cB, List.append_assoc]) (by simp [List.append_assoc]))
theorem in_M {q : Nat × va_E} (h : q ∈ M) : q ∈ cB F M R0 D0 D1 X S0 Y P0 P1 P2 := List.mem_append_right _ (List.mem_append_left _ h)
theorem in_MD {q : Nat × va_E} (h : q ∈ M ++ D0) : q ∈ cB F M R0 D0 D1 X S0 Y P0 P1 P2 := sh_2.mem_iff.mpr (List.mem_append_right _ h)
theorem in_MP {q : Nat × va_E} (h : q ∈ M ++ (P0 ++ P1)) : q ∈ cB F M R0 D0 D1 X S0 Y P0 P1 P2 := sh_5.mem_iff.mpr (List.mem_append_right _ h)
theorem in_MPD {q : Nat × va_E} (h : q ∈ M ++ (P0 ++ D0)) : q ∈ cB F M R0 D0 D1 X S0 Y P0 P1 P2 := by
  rcases List.mem_append.mp h with h | h
  · exact in_M h
  · rcases List.mem_append.mp h with h | h
    · exact in_MP (List.mem_append_right _ (List.mem_append_left _ h))
    · exact in_MD (List.mem_append_right _ h)
end SHP
