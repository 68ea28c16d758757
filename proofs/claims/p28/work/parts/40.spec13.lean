/-! ===== worlds, turned round ===== -/
theorem va_P.mem {D : va_G} {cl : List vw_C} {ws ws' : va_W} {H : Heap} (h : va_P D cl ws H) (hs : ∀ q, q ∈ ws' → q ∈ ws) : va_P D cl ws' H := fun k q hk => by
  obtain ⟨j, hj⟩ := List.mem_iff_getElem?.mp (hs q (List.mem_of_getElem? hk))
  exact h j q hj
theorem va_P.pm {D : va_G} {cl : List vw_C} {ws ws' : va_W} {H : Heap} (h : va_P D cl ws H) (hp : ws.Perm ws') : va_P D cl ws' H := h.mem (fun q hq => hp.mem_iff.mpr hq)
theorem va_P.left {D : va_G} {cl : List vw_C} {u w : va_W} {H : Heap} (h : va_P D cl (u ++ w) H) : va_P D cl u H := h.mem (fun _ hq => List.mem_append_left _ hq)
theorem va_P.right {D : va_G} {cl : List vw_C} {u w : va_W} {H : Heap} (h : va_P D cl (u ++ w) H) : va_P D cl w H := h.mem (fun _ hq => List.mem_append_right _ hq)
theorem va_D_iff {A : Nat → Prop} {ws : va_W} : va_D A ws ↔ (ws.map (·.1)).Nodup ∧ ∀ q, q ∈ ws → A q.1 := by
  constructor
  · intro h
    refine ⟨?_, fun q hq => ?_⟩
    · rw [List.nodup_iff_pairwise_ne, List.pairwise_iff_getElem]
      intro i j hi hj hij he
      rw [List.length_map] at hi hj
      rw [List.getElem_map, List.getElem_map] at he
      have := h.1 i j ws[i] ws[j] (List.getElem?_eq_getElem hi) (List.getElem?_eq_getElem hj) he
      omega
    · obtain ⟨j, hj⟩ := List.mem_iff_getElem?.mp hq
      exact h.2 j q hj
  · intro h
    refine ⟨fun i j x y hi hj hxy => ?_, fun k q hk => h.2 q (List.mem_of_getElem? hk)⟩
    have h1 : (ws.map (·.1))[i]? = some x.1 := by rw [List.getElem?_map, hi]; rfl
    have h2 : (ws.map (·.1))[j]? = some y.1 := by rw [List.getElem?_map, hj]; rfl
    have hl : i < (ws.map (·.1)).length := (List.getElem?_eq_some_iff.mp h1).1
    exact (List.getElem?_inj hl h.1).mp (by rw [h1, h2, hxy])
theorem va_D.pm {A : Nat → Prop} {ws ws' : va_W} (h : va_D A ws) (hp : ws.Perm ws') : va_D A ws' := by
  rw [va_D_iff] at h ⊢
  exact ⟨(hp.map (·.1)).nodup h.1, fun q hq => h.2 q (hp.mem_iff.mpr hq)⟩
theorem nd_of : ∀ (l : List Nat), l.Nodup → va_nd l = true
  | [], _ => rfl
  | a :: l, h => by
    rw [List.nodup_cons] at h
    simp only [va_nd, Bool.and_eq_true, decide_eq_true_eq]
    exact ⟨h.1, nd_of l h.2⟩
theorem app_C (wr wc : va_W) : ((List.range wc.length).map (fun i => wr.length + i)).map (fun i => (wr ++ wc)[i]?) = wc.map some := by
  apply List.ext_getElem?
  intro i
  simp only [List.getElem?_map, List.map_map]
  by_cases h : i < wc.length
  · rw [List.getElem?_range h]
    simp [List.getElem?_append_right, h]
  · simp [h]
theorem app_R (wr wc : va_W) : (List.range wr.length).map (fun i => (wr ++ wc)[i]?) = wr.map some := by
  apply List.ext_getElem?
  intro i
  simp only [List.getElem?_map]
  by_cases h : i < wr.length
  · rw [List.getElem?_range h]
    simp [List.getElem?_append_left, h]
  · simp [h]
theorem app_nC (wr wc : va_W) : va_nd ((List.range wc.length).map (fun i => wr.length + i)) = true := by
  refine nd_of _ ?_
  rw [List.nodup_iff_pairwise_ne, List.pairwise_map]
  exact List.Pairwise.imp (fun h e => h (by omega)) (List.nodup_iff_pairwise_ne.mp List.nodup_range)
theorem app_nR (wr : va_W) : va_nd (List.range wr.length) = true := nd_of _ List.nodup_range
theorem app_dis (wr wc : va_W) : ∀ i ∈ List.range wr.length, i ∉ (List.range wc.length).map (fun i => wr.length + i) := by
  intro i hi h
  obtain ⟨j, -, e⟩ := List.mem_map.mp h
  have := List.mem_range.mp hi
  omega
theorem pm_he {ws ws' : va_W} (hp : ws.Perm ws') {q0 : Nat} {x : Nat × va_E} (he : ws[q0]? = some x) : ∃ j : Nat, ws'[j]? = some x := List.mem_iff_getElem?.mp (hp.mem_iff.mp (List.mem_of_getElem? he))
section CALP
variable {p : Program} {l : Launch} {e : Env} {R : Room} {s : State} {m : MethodId} {args : Array Value} {below : List Frame} {meth : Method} {c : Code} {H : Heap} {locs : List Loc} {cells slots : Nat} {Q : State → Prop}
variable {pc : Nat} {ls : Array Slot} {rest st : List Value} {cc bytes : ByteArray} {own host C : String} {index maxL nL n d : Nat} {y : MethodName} {ret : Option FieldType} {G : gT} {ws wc wr wc' w2 : va_W} {As : List Value} {res : Int32} {rq : Option Nat} {b q0 ci : Nat} {fs : List Value} {A : Nat → Prop}
theorem Kk.pm {cells slots : Nat} {g : JFrame} {w w2 : va_W} (hp : w.Perm w2) (kk : Kk p l e R s m args below meth c cells slots Q G A w2 g) : Kk p l e R s m args below meth c cells slots Q G A w g := fun H1 locs1 h1 h2 h3 => kk H1 locs1 (h1.pm hp) (h2.pm hp) h3
theorem k_rwSp (F : CallFix p m c cc nL s args GW own) (hM : Rw l G y bytes maxL ret d H.size wc As res wc') (h1 : Cond.methodLink own index y ∈ GW) (h2 : Cond.static y ∈ GW) (h3 : Cond.initialized y.cls ∈ GW) (h4 : Cond.code y bytes maxL ret ∈ GW) (hd : hdY y n) (hR : d + 1 ≤ R.frames ∧ 8 + (maxL + 11) + 40 * d ≤ R.locals)
    (hK : Kx G s) (hZ : Zs A s) (hS : va_S A s.heap H locs) (hP : va_P G.1 vwCl ws H) (hD : va_D A ws) (hA : ∀ q, s.heap.size ≤ q → A q) (hpm : ws.Perm (wr ++ wc)) (hpm2 : (wr ++ wc').Perm w2) (hadr : wc'.map (·.1) = wc.map (·.1))
    (hn : As.length = n) (hsize : ls.size = nL) (hst : st = As.reverse ++ rest) (hW : (rest.map fun v => v.category).sum ≤ 8) (hdg : decode cc pc = .ok (.invokestatic index, 3)) (hf : cells ≤ R.cells ∧ slots ≤ R.slots)
    (kk : Kk p l e R s m args below meth c cells slots Q G A w2 (F0 m (pc + 3) ls (.int res :: rest))) : W p l e R s m args below meth c H locs cells slots Q (F0 m pc ls st) :=
  k_rwS F hM h1 h2 h3 h4 hd hR hK hZ hS (hP.pm hpm) (hD.pm hpm) hA _ _ (app_C wr wc) (app_R wr wc) (app_nC wr wc) (app_nR wr) (app_dis wr wc) hadr hn hsize hst hW hdg hf (Kk.pm hpm2 kk)
theorem k_rvSp (F : CallFix p m c cc nL s args GW own) (hM : Rv l G y bytes maxL ret d H.size wc As wc') (h1 : Cond.methodLink own index y ∈ GW) (h2 : Cond.static y ∈ GW) (h3 : Cond.initialized y.cls ∈ GW) (h4 : Cond.code y bytes maxL ret ∈ GW) (hd : hdY y n) (hR : d + 1 ≤ R.frames ∧ 8 + (maxL + 11) + 40 * d ≤ R.locals)
    (hK : Kx G s) (hZ : Zs A s) (hS : va_S A s.heap H locs) (hP : va_P G.1 vwCl ws H) (hD : va_D A ws) (hA : ∀ q, s.heap.size ≤ q → A q) (hpm : ws.Perm (wr ++ wc)) (hpm2 : (wr ++ wc').Perm w2) (hadr : wc'.map (·.1) = wc.map (·.1))
    (hn : As.length = n) (hsize : ls.size = nL) (hst : st = As.reverse ++ rest) (hW : (rest.map fun v => v.category).sum ≤ 8) (hdg : decode cc pc = .ok (.invokestatic index, 3)) (hf : cells ≤ R.cells ∧ slots ≤ R.slots)
    (kk : Kk p l e R s m args below meth c cells slots Q G A w2 (F0 m (pc + 3) ls rest)) : W p l e R s m args below meth c H locs cells slots Q (F0 m pc ls st) :=
  k_rvS F hM h1 h2 h3 h4 hd hR hK hZ hS (hP.pm hpm) (hD.pm hpm) hA _ _ (app_C wr wc) (app_R wr wc) (app_nC wr wc) (app_nR wr) (app_dis wr wc) hadr hn hsize hst hW hdg hf (Kk.pm hpm2 kk)
theorem k_rwVp (F : CallFix p m c cc nL s args GW own) (hM : Rw l G y bytes maxL ret d H.size wc (.ref b :: As) res wc') (hc : ∃ q, vwCl[ci]? = some q ∧ q.1 = C) (he : ∃ q0 : Nat, ws[q0]? = some (b, .inr (ci, fs))) (hyC : y.cls = C) (h1 : Cond.methodLink own index y ∈ GW) (h2 : Cond.instanceMethod y ∈ GW) (h3 : Cond.selects C y y ∈ GW) (h4 : Cond.initialized C ∈ GW) (h5 : Cond.code y bytes maxL ret ∈ GW) (hd : hdY y n) (hR : d + 1 ≤ R.frames ∧ 8 + (maxL + 11) + 40 * d ≤ R.locals)
    (hK : Kx G s) (hZ : Zs A s) (hS : va_S A s.heap H locs) (hP : va_P G.1 vwCl ws H) (hD : va_D A ws) (hA : ∀ q, s.heap.size ≤ q → A q) (hpm : ws.Perm (wr ++ wc)) (hpm2 : (wr ++ wc').Perm w2) (hadr : wc'.map (·.1) = wc.map (·.1))
    (hn : As.length = n) (hsize : ls.size = nL) (hst : st = As.reverse ++ .ref b :: rest) (hW : (rest.map fun v => v.category).sum ≤ 8) (hdg : decode cc pc = .ok (.invokevirtual index, 3)) (hf : cells ≤ R.cells ∧ slots ≤ R.slots)
    (kk : Kk p l e R s m args below meth c cells slots Q G A w2 (F0 m (pc + 3) ls (.int res :: rest))) : W p l e R s m args below meth c H locs cells slots Q (F0 m pc ls st) := by
  obtain ⟨q0, he⟩ := he
  obtain ⟨j, hj⟩ := pm_he hpm he
  exact k_rwV F hM hc hj hyC h1 h2 h3 h4 h5 hd hR hK hZ hS (hP.pm hpm) (hD.pm hpm) hA _ _ (app_C wr wc) (app_R wr wc) (app_nC wr wc) (app_nR wr) (app_dis wr wc) hadr hn hsize hst hW hdg hf (Kk.pm hpm2 kk)
theorem k_rvVp (F : CallFix p m c cc nL s args GW own) (hM : Rv l G y bytes maxL ret d H.size wc (.ref b :: As) wc') (hc : ∃ q, vwCl[ci]? = some q ∧ q.1 = C) (he : ∃ q0 : Nat, ws[q0]? = some (b, .inr (ci, fs))) (hyC : y.cls = C) (h1 : Cond.methodLink own index y ∈ GW) (h2 : Cond.instanceMethod y ∈ GW) (h3 : Cond.selects C y y ∈ GW) (h4 : Cond.initialized C ∈ GW) (h5 : Cond.code y bytes maxL ret ∈ GW) (hd : hdY y n) (hR : d + 1 ≤ R.frames ∧ 8 + (maxL + 11) + 40 * d ≤ R.locals)
    (hK : Kx G s) (hZ : Zs A s) (hS : va_S A s.heap H locs) (hP : va_P G.1 vwCl ws H) (hD : va_D A ws) (hA : ∀ q, s.heap.size ≤ q → A q) (hpm : ws.Perm (wr ++ wc)) (hpm2 : (wr ++ wc').Perm w2) (hadr : wc'.map (·.1) = wc.map (·.1))
    (hn : As.length = n) (hsize : ls.size = nL) (hst : st = As.reverse ++ .ref b :: rest) (hW : (rest.map fun v => v.category).sum ≤ 8) (hdg : decode cc pc = .ok (.invokevirtual index, 3)) (hf : cells ≤ R.cells ∧ slots ≤ R.slots)
    (kk : Kk p l e R s m args below meth c cells slots Q G A w2 (F0 m (pc + 3) ls rest)) : W p l e R s m args below meth c H locs cells slots Q (F0 m pc ls st) := by
  obtain ⟨q0, he⟩ := he
  obtain ⟨j, hj⟩ := pm_he hpm he
  exact k_rvV F hM hc hj hyC h1 h2 h3 h4 h5 hd hR hK hZ hS (hP.pm hpm) (hD.pm hpm) hA _ _ (app_C wr wc) (app_R wr wc) (app_nC wr wc) (app_nR wr) (app_dis wr wc) hadr hn hsize hst hW hdg hf (Kk.pm hpm2 kk)
end CALP
/-- worlds that are written out: the places say how they are turned -/
theorem pmI {wl wr wc : va_W} (is : List Nat) (h : is.Perm (List.range is.length)) (hl : wl.length = is.length) (e : is.map (fun i => wl[i]?) = (wr ++ wc).map some) : wl.Perm (wr ++ wc) := by
  have e2 : (List.range wl.length).map (fun i => wl[i]?) = wl.map some := by
    have := app_R wl []
    rwa [List.append_nil] at this
  have h1 : (wl.map some).Perm ((wr ++ wc).map some) := by
    rw [← e, ← e2, hl]
    exact (h.map _).symm
  have h2 := h1.filterMap id
  have e3 : ∀ w : va_W, (w.map some).filterMap id = w := fun w => by
    rw [List.filterMap_map]
    exact List.filterMap_some
  rwa [e3, e3] at h2
theorem pmF {F wl wr wc : va_W} (h : wl.Perm (wr ++ wc)) : (F ++ wl).Perm ((F ++ wr) ++ wc) := by
  rw [List.append_assoc]
  exact h.append_left F
theorem pmF' {F wr wc : va_W} : ((F ++ wr) ++ wc).Perm (F ++ (wr ++ wc)) := by
  rw [List.append_assoc]
theorem pmG {F wl wr wc : va_W} (h : wl.Perm (wr ++ wc)) : (F ++ wl).Perm (wr ++ (F ++ wc)) := by
  refine (h.append_left F).trans ?_
  rw [← List.append_assoc, ← List.append_assoc]
  exact List.perm_append_comm.append_right wc
theorem pmG' {F wr wc : va_W} : (wr ++ (F ++ wc)).Perm (F ++ (wr ++ wc)) := (pmG (List.Perm.refl _)).symm
/-! a part of a world behind a family -/
theorem subP {D : va_G} {cl : List vw_C} {F wl wl' : va_W} {H : Heap} (h : va_P D cl (F ++ wl) H) (is : List Nat) (hs : is.map (fun i => wl[i]?) = wl'.map some) : va_P D cl (F ++ wl') H := by
  refine h.mem (fun q hq => ?_)
  rcases List.mem_append.mp hq with z | z
  · exact List.mem_append_left _ z
  · refine List.mem_append_right _ ?_
    have h1 : some q ∈ is.map (fun i => wl[i]?) := by rw [hs]; exact List.mem_map.mpr ⟨q, z, rfl⟩
    obtain ⟨i, -, hi⟩ := List.mem_map.mp h1
    exact List.mem_of_getElem? hi
theorem va_D.left {A : Nat → Prop} {u w : va_W} (h : va_D A (u ++ w)) : va_D A u := by
  rw [va_D_iff] at h ⊢
  rw [List.map_append] at h
  exact ⟨(List.nodup_append.mp h.1).1, fun q hq => h.2 q (List.mem_append_left _ hq)⟩
theorem va_D.right {A : Nat → Prop} {u w : va_W} (h : va_D A (u ++ w)) : va_D A w := by
  rw [va_D_iff] at h ⊢
  rw [List.map_append] at h
  exact ⟨(List.nodup_append.mp h.1).2.1, fun q hq => h.2 q (List.mem_append_right _ hq)⟩
theorem subD {A : Nat → Prop} {F wl wl' : va_W} (h : va_D A (F ++ wl)) (is : List Nat) (hn : va_nd is = true) (hs : is.map (fun i => wl[i]?) = wl'.map some) : va_D A (F ++ wl') := by
  have h2 := h.right.sub is hn hs
  have hm : ∀ q, q ∈ wl' → q ∈ wl := fun q hq => by
    have h1 : some q ∈ is.map (fun i => wl[i]?) := by rw [hs]; exact List.mem_map.mpr ⟨q, hq, rfl⟩
    obtain ⟨i, -, hi⟩ := List.mem_map.mp h1
    exact List.mem_of_getElem? hi
  rw [va_D_iff] at h h2 ⊢
  rw [List.map_append] at h ⊢
  obtain ⟨g1, g2, g3⟩ := List.nodup_append.mp h.1
  refine ⟨List.nodup_append.mpr ⟨g1, h2.1, fun a ha b hb => g3 a ha b ?_⟩, fun q hq => ?_⟩
  · obtain ⟨q, hq, e⟩ := List.mem_map.mp hb
    exact List.mem_map.mpr ⟨q, hm q hq, e⟩
  · rcases List.mem_append.mp hq with z | z
    · exact h.2 q (List.mem_append_left _ z)
    · exact h2.2 q z
/-- a written cell behind a family -/
theorem setF {F wl : va_W} {i : Nat} {x : Nat × va_E} : (F ++ wl).set (F.length + i) x = F ++ wl.set i x := by
  rw [List.set_append_right _ _ (Nat.le_add_right _ _), Nat.add_sub_cancel_left]
theorem getF {F wl : va_W} {i : Nat} {x : Nat × va_E} (h : wl[i]? = some x) : (F ++ wl)[F.length + i]? = some x := by
  rw [List.getElem?_append_right (Nat.le_add_right _ _), Nat.add_sub_cancel_left]; exact h
/-! ===== the steps' family ===== -/
abbrev sc (hs : Nat → Nat) (T : Nat → Nat → Int32) (k : Nat) : Nat × va_E := (hs k, .inr (2, [.int (T k 0), .int (T k 1), .int (T k 2), .int (T k 3), .int (T k 4)]))
def sW (hs : Nat → Nat) (T : Nat → Nat → Int32) : va_W := (List.range 40).map (sc hs T)
def sR (hs : Nat → Nat) (T : Nat → Nat → Int32) (q : Nat) : va_W := ((List.range 40).erase q).map (sc hs T)
theorem sW_out {hs : Nat → Nat} {T : Nat → Nat → Int32} {q : Nat} {wl : va_W} (hq : q < 40) : (sW hs T ++ wl).Perm (sR hs T q ++ (wl ++ [sc hs T q])) := by
  have h1 : (sW hs T).Perm (sc hs T q :: sR hs T q) := (List.perm_cons_erase (List.mem_range.mpr hq)).map (sc hs T)
  have h2 : (sW hs T ++ wl).Perm ((sc hs T q :: sR hs T q) ++ wl) := h1.append_right wl
  refine h2.trans ?_
  rw [← List.append_assoc]
  show (sc hs T q :: (sR hs T q ++ wl)).Perm _
  exact (List.perm_append_singleton _ _).symm
theorem sR_c {hs : Nat → Nat} {T T' : Nat → Nat → Int32} {q : Nat} (h : ∀ k, k ≠ q → ∀ a, a < 5 → T k a = T' k a) : sR hs T q = sR hs T' q := by
  unfold sR
  refine List.map_congr_left (fun k hk => ?_)
  have hk2 : k ≠ q := ((List.Nodup.mem_erase_iff List.nodup_range).mp hk).1
  unfold sc
  rw [h k hk2 0 (by omega), h k hk2 1 (by omega), h k hk2 2 (by omega), h k hk2 3 (by omega), h k hk2 4 (by omega)]
theorem sW_in {hs : Nat → Nat} {T T' : Nat → Nat → Int32} {q : Nat} {wl : va_W} (hq : q < 40) (h : ∀ k, k ≠ q → ∀ a, a < 5 → T k a = T' k a) {v0 v1 v2 v3 v4 : Int32} (e : T' q 0 = v0 ∧ T' q 1 = v1 ∧ T' q 2 = v2 ∧ T' q 3 = v3 ∧ T' q 4 = v4) :
    (sR hs T q ++ (wl ++ [(hs q, (.inr (2, [.int v0, .int v1, .int v2, .int v3, .int v4]) : va_E))])).Perm (sW hs T' ++ wl) := by
  obtain ⟨rfl, rfl, rfl, rfl, rfl⟩ := e
  rw [sR_c h]
  exact (sW_out hq).symm
/-! ===== a loop over places, as a value ===== -/
noncomputable def itr {α : Type} (C : Nat → Prop) (nx : Nat → Nat) (K : Nat → α → α) (Z : Nat → α) : Nat → Nat → α
  | 0, j => Z j
  | f + 1, j => cI (C j) (K j (itr C nx K Z f (nx j))) (Z j)
theorem itr_m {α : Type} {C : Nat → Prop} {nx : Nat → Nat} {K : Nat → α → α} {Z : Nat → α} {n : Nat} (hC : ∀ j, j ≤ n → C j → j < nx j ∧ nx j ≤ n) : ∀ f g j, j ≤ n → n + 1 - j ≤ f → n + 1 - j ≤ g → itr C nx K Z f j = itr C nx K Z g j
  | 0, g, j, h, hf, hg => by omega
  | f + 1, 0, j, h, hf, hg => by omega
  | f + 1, g + 1, j, h, hf, hg => by
    by_cases q : C j
    · have h1 := hC j h q
      have e1 : itr C nx K Z (f + 1) j = K j (itr C nx K Z f (nx j)) := cI_t q
      have e2 : itr C nx K Z (g + 1) j = K j (itr C nx K Z g (nx j)) := cI_t q
      rw [e1, e2, itr_m hC f g (nx j) h1.2 (by omega) (by omega)]
    · exact (cI_f q).trans (cI_f q).symm
theorem itr_t {α : Type} {C : Nat → Prop} {nx : Nat → Nat} {K : Nat → α → α} {Z : Nat → α} {n j : Nat} (hn : n ≤ 80) (hC : ∀ j, j ≤ n → C j → j < nx j ∧ nx j ≤ n) (hj : j ≤ n) (h : C j) : itr C nx K Z (82 - j) j = K j (itr C nx K Z (82 - nx j) (nx j)) := by
  have h1 := hC j hj h
  have e1 : itr C nx K Z ((82 - j - 1) + 1) j = K j (itr C nx K Z (82 - j - 1) (nx j)) := cI_t h
  rw [show 82 - j = (82 - j - 1) + 1 by omega, e1, itr_m hC (82 - j - 1) (82 - nx j) (nx j) h1.2 (by omega) (by omega)]
theorem itr_f {α : Type} {C : Nat → Prop} {nx : Nat → Nat} {K : Nat → α → α} {Z : Nat → α} {f j : Nat} (h : ¬ C j) : itr C nx K Z f j = Z j := by
  cases f with
  | zero => rfl
  | succ f => exact cI_f h
/-! ===== a text's steps: a cursor is a place, a kind, a subject, an order's number ===== -/
abbrev crs : Type := Nat × Nat × Nat × Nat
noncomputable def ent (p : Nat → Int32) (n i o : Nat) : crs := cI (sg p n i = 112) (i + 1, 112, 0, o) (i + 3, (sg p n i).toNat, (sg p n (i + 1) - 97).toNat, o)
noncomputable def sTo (p : Nat → Int32) (n j : Nat) : Nat := cI (sg p n (nE p n j) = 45) (nuV p n (nE p n j + 1)) (nuV p n j)
noncomputable def cE (p : Nat → Int32) (n : Nat) (c : crs) : Nat := cI (c.2.1 = 112) (nE p n c.1) (rL p n c.1)
noncomputable def nxt (p : Nat → Int32) (n : Nat) (c : crs) : crs := cI (¬ c.2.1 = 112 ∧ sg p n (cE p n c) = 44) (cE p n c + 1, c.2.1, c.2.2.1, c.2.2.2) (ent p n (cE p n c + 1) (c.2.2.2 + 1))
noncomputable def cur (p : Nat → Int32) (n : Nat) : Nat → crs
  | 0 => ent p n 0 0
  | q + 1 => nxt p n (cur p n q)
def tvl (K s f t o : Nat) : Nat → Int32 := fun a => match a with
  | 0 => nI K
  | 1 => nI s
  | 2 => nI f
  | 3 => nI t
  | _ => nI o
noncomputable def stv (p : Nat → Int32) (n : Nat) (c : crs) : Nat → Int32 := tvl c.2.1 c.2.2.1 (nuV p n c.1) (cI (c.2.1 = 112) (nuV p n c.1) (sTo p n c.1)) c.2.2.2
noncomputable def tS (p : Nat → Int32) (n : Nat) (T : Nat → Nat → Int32) (q : Nat) : Nat → Nat → Int32 := fun k => cI (k < q) (stv p n (cur p n k)) (T k)
theorem tS_0 {p : Nat → Int32} {n : Nat} {T : Nat → Nat → Int32} : tS p n T 0 = T := by
  funext k
  exact cI_f (Nat.not_lt_zero k)
theorem tS_s {p : Nat → Int32} {n : Nat} {T : Nat → Nat → Int32} {q : Nat} : ∀ k, k ≠ q → ∀ a, a < 5 → tS p n T q k a = tS p n T (q + 1) k a := by
  intro k hk a _
  show cI (k < q) (stv p n (cur p n k)) (T k) a = cI (k < q + 1) (stv p n (cur p n k)) (T k) a
  rw [cI_c (P := k < q) (P' := k < q + 1) (by omega) rfl rfl]
theorem tS_q {p : Nat → Int32} {n : Nat} {T : Nat → Nat → Int32} {q j K s o : Nat} (h : cur p n q = (j, K, s, o)) (hK : ¬ K = 112) : tS p n T (q + 1) q 0 = nI K ∧ tS p n T (q + 1) q 1 = nI s ∧ tS p n T (q + 1) q 2 = nI (nuV p n j) ∧ tS p n T (q + 1) q 3 = nI (sTo p n j) ∧ tS p n T (q + 1) q 4 = nI o := by
  have e : tS p n T (q + 1) q = stv p n (cur p n q) := cI_t (Nat.lt_succ_self q)
  rw [e, h]
  refine ⟨rfl, rfl, rfl, ?_, rfl⟩
  show nI (cI (K = 112) (nuV p n j) (sTo p n j)) = nI (sTo p n j)
  rw [cI_f hK]
theorem tS_qp {p : Nat → Int32} {n : Nat} {T : Nat → Nat → Int32} {q j s o : Nat} (h : cur p n q = (j, 112, s, o)) : tS p n T (q + 1) q 0 = nI 112 ∧ tS p n T (q + 1) q 1 = nI s ∧ tS p n T (q + 1) q 2 = nI (nuV p n j) ∧ tS p n T (q + 1) q 3 = nI (nuV p n j) ∧ tS p n T (q + 1) q 4 = nI o := by
  have e : tS p n T (q + 1) q = stv p n (cur p n q) := cI_t (Nat.lt_succ_self q)
  rw [e, h]
  refine ⟨rfl, rfl, rfl, ?_, rfl⟩
  show nI (cI (112 = 112) (nuV p n j) (sTo p n j)) = nI (nuV p n j)
  rw [cI_t rfl]
/-! the numbers of steps: of ranges, of an order, of a text; a text's orders -/
theorem rC_in {p : Nat → Int32} {n : Nat} : ∀ j, j ≤ n → (rF p n j ∧ sg p n (rL p n j) = 44) → j < rL p n j + 1 ∧ rL p n j + 1 ≤ n := fun j hj h => by
  have h1 := rL_in (p := p) hj
  have h2 := sg_lt (p := p) (n := n) (i := rL p n j) (by omega)
  omega
noncomputable def rgN (p : Nat → Int32) (n j : Nat) : Nat := itr (fun j => rF p n j ∧ sg p n (rL p n j) = 44) (fun j => rL p n j + 1) (fun _ x => x + 1) (fun j => cI (rF p n j) 1 0) (82 - j) j
theorem rgN_t {p : Nat → Int32} {n j : Nat} (hn : n ≤ 80) (hj : j ≤ n) (h : rF p n j ∧ sg p n (rL p n j) = 44) : rgN p n j = rgN p n (rL p n j + 1) + 1 := itr_t (C := fun j => rF p n j ∧ sg p n (rL p n j) = 44) (nx := fun j => rL p n j + 1) hn rC_in hj h
theorem rgN_f {p : Nat → Int32} {n j : Nat} (h : ¬ (rF p n j ∧ sg p n (rL p n j) = 44)) : rgN p n j = cI (rF p n j) 1 0 := itr_f (C := fun j => rF p n j ∧ sg p n (rL p n j) = 44) h
def oM (p : Nat → Int32) (n i : Nat) : Prop := (sg p n i = 109 ∨ sg p n i = 99) ∧ (97 ≤ sg p n (i + 1) ∧ sg p n (i + 1) ≤ 112) ∧ sg p n (i + 2) = 58
noncomputable def odN (p : Nat → Int32) (n i : Nat) : Nat := cI (sg p n i = 112) (cI (dgP p n (i + 1)) 1 0) (cI (oM p n i) (rgN p n (i + 3)) 0)
theorem oC_in {p : Nat → Int32} {n : Nat} : ∀ i, i ≤ n → (oF p n i ∧ sg p n (oE p n i) = 59) → i < oE p n i + 1 ∧ oE p n i + 1 ≤ n := fun j hj h => by
  have h1 := oE_in (p := p) hj
  have h2 := sg_lt (p := p) (n := n) (i := oE p n j) (by omega)
  omega
noncomputable def alN (p : Nat → Int32) (n i : Nat) : Nat := itr (fun i => oF p n i ∧ sg p n (oE p n i) = 59) (fun i => oE p n i + 1) (fun i x => odN p n i + x) (fun i => odN p n i) (82 - i) i
theorem alN_t {p : Nat → Int32} {n i : Nat} (hn : n ≤ 80) (hi : i ≤ n) (h : oF p n i ∧ sg p n (oE p n i) = 59) : alN p n i = odN p n i + alN p n (oE p n i + 1) := itr_t (C := fun i => oF p n i ∧ sg p n (oE p n i) = 59) (nx := fun i => oE p n i + 1) hn oC_in hi h
theorem alN_f {p : Nat → Int32} {n i : Nat} (h : ¬ (oF p n i ∧ sg p n (oE p n i) = 59)) : alN p n i = odN p n i := itr_f (C := fun i => oF p n i ∧ sg p n (oE p n i) = 59) h
noncomputable def alO (p : Nat → Int32) (n i : Nat) : Nat := itr (fun i => oF p n i ∧ sg p n (oE p n i) = 59) (fun i => oE p n i + 1) (fun _ x => x + 1) (fun i => cI (oF p n i) 1 0) (82 - i) i
theorem alO_t {p : Nat → Int32} {n i : Nat} (hn : n ≤ 80) (hi : i ≤ n) (h : oF p n i ∧ sg p n (oE p n i) = 59) : alO p n i = alO p n (oE p n i + 1) + 1 := itr_t (C := fun i => oF p n i ∧ sg p n (oE p n i) = 59) (nx := fun i => oE p n i + 1) hn oC_in hi h
theorem alO_f {p : Nat → Int32} {n i : Nat} (h : ¬ (oF p n i ∧ sg p n (oE p n i) = 59)) : alO p n i = cI (oF p n i) 1 0 := itr_f (C := fun i => oF p n i ∧ sg p n (oE p n i) = 59) h
/-- the k-th range behind a place -/
noncomputable def rs (p : Nat → Int32) (n i : Nat) : Nat → Nat
  | 0 => i
  | k + 1 => rL p n (rs p n i k) + 1
/-- the o-th order's place, and the number of its first step -/
noncomputable def os (p : Nat → Int32) (n : Nat) : Nat → Nat
  | 0 => 0
  | o + 1 => oE p n (os p n o) + 1
noncomputable def oq (p : Nat → Int32) (n : Nat) : Nat → Nat
  | 0 => 0
  | o + 1 => oq p n o + odN p n (os p n o)
theorem rL_gt {p : Nat → Int32} {n j : Nat} (h : dgP p n j) : j < rL p n j := by
  have h1 := nE_gt h
  unfold rL
  rw [cI_t h]
  by_cases q2 : sg p n (nE p n j) = 45
  · have h2 := sg_lt (p := p) (n := n) (i := nE p n j) (by omega)
    have h3 := nE_in (p := p) (n := n) (i := nE p n j + 1) (by omega)
    rw [cI_t q2]; omega
  · rw [cI_f q2]; exact h1
theorem cur_rn {p : Nat → Int32} {n q j K s o : Nat} (h : cur p n q = (j, K, s, o)) (hK : ¬ K = 112) (h44 : sg p n (rL p n j) = 44) : cur p n (q + 1) = (rL p n j + 1, K, s, o) := by
  show nxt p n (cur p n q) = _
  have e : cE p n (j, K, s, o) = rL p n j := cI_f hK
  rw [h]
  unfold nxt
  rw [e]
  exact cI_t ⟨hK, h44⟩
theorem cur_re {p : Nat → Int32} {n q j K s o : Nat} (h : cur p n q = (j, K, s, o)) (hK : ¬ K = 112) (h44 : ¬ sg p n (rL p n j) = 44) : cur p n (q + 1) = ent p n (rL p n j + 1) (o + 1) := by
  show nxt p n (cur p n q) = _
  have e : cE p n (j, K, s, o) = rL p n j := cI_f hK
  rw [h]
  unfold nxt
  rw [e]
  exact cI_f (fun z => h44 z.2)
theorem cur_pe {p : Nat → Int32} {n q j s o : Nat} (h : cur p n q = (j, 112, s, o)) : cur p n (q + 1) = ent p n (nE p n j + 1) (o + 1) := by
  show nxt p n (cur p n q) = _
  have e : cE p n (j, 112, s, o) = nE p n j := cI_t rfl
  rw [h]
  unfold nxt
  rw [e]
  exact cI_f (fun z => z.1 rfl)
/-- behind ranges that can stand where they do -/
theorem cur_rg {p : Nat → Int32} {n K s o : Nat} (hn : n ≤ 80) (hK : ¬ K = 112) : ∀ d j q, n + 1 - j ≤ d → j ≤ n → cur p n q = (j, K, s, o) → 2 * q + 1 ≤ j → rgO p n j → cur p n (q + rgN p n j) = ent p n (rgE p n j + 1) (o + 1) ∧ 2 * (q + rgN p n j) ≤ rgE p n j
  | 0, j, q, hd, hj, hc, hq, hO => by omega
  | d + 1, j, q, hd, hj, hc, hq, hO => by
    by_cases z : rF p n j ∧ sg p n (rL p n j) = 44
    · have h1 := rg_t hn hj z
      have h2 := rC_in j hj z
      have h3 := rL_gt z.1.1
      have ih := cur_rg hn hK d (rL p n j + 1) (q + 1) (by omega) h2.2 (cur_rn hc hK z.2) (by omega) (h1.2.mp hO)
      rw [rgN_t hn hj z, h1.1, show q + (rgN p n (rL p n j + 1) + 1) = q + 1 + rgN p n (rL p n j + 1) by omega]
      exact ih
    · have h1 := rg_f (p := p) (n := n) (j := j) (by omega) z
      have hrF := h1.2.mp hO
      have h3 := rL_gt hrF.1
      rw [rgN_f z, cI_t hrF, h1.1]
      exact ⟨cur_re hc hK (fun y => z ⟨hrF, y⟩), by omega⟩
theorem ent_p {p : Nat → Int32} {n i o : Nat} (h : sg p n i = 112) : ent p n i o = (i + 1, 112, 0, o) := cI_t h
theorem ent_m {p : Nat → Int32} {n i o : Nat} (h : sg p n i = 109 ∨ sg p n i = 99) : ent p n i o = (i + 3, (sg p n i).toNat, (sg p n (i + 1) - 97).toNat, o) := cI_f (by omega)
theorem odN_p {p : Nat → Int32} {n i : Nat} (h : sg p n i = 112) : odN p n i = cI (dgP p n (i + 1)) 1 0 := cI_t h
theorem odN_m {p : Nat → Int32} {n i : Nat} (h : oM p n i) : odN p n i = rgN p n (i + 3) := (cI_f (by have := h.1; omega)).trans (cI_t h)
theorem odN_0 {p : Nat → Int32} {n i : Nat} (h : ¬ sg p n i = 112) (h2 : ¬ oM p n i) : odN p n i = 0 := (cI_f h).trans (cI_f h2)
theorem oF_m {p : Nat → Int32} {n i : Nat} (h : oF p n i) (h2 : ¬ sg p n i = 112) : oM p n i := by
  by_cases q2 : sg p n i = 109 ∨ sg p n i = 99
  · by_cases q3 : 97 ≤ sg p n (i + 1) ∧ sg p n (i + 1) ≤ 112
    · by_cases q4 : sg p n (i + 2) = 58
      · exact ⟨q2, q3, q4⟩
      · exact absurd h (o_c q2 q3 q4).2
    · exact absurd h (o_s q2 q3).2
  · exact absurd h (o_n h2 q2).2
/-- behind an order that can stand where it does -/
theorem cur_o {p : Nat → Int32} {n i q o : Nat} (hn : n ≤ 80) (hi : i ≤ n) (hc : cur p n q = ent p n i o) (hq : 2 * q ≤ i) (hO : oF p n i) : cur p n (q + odN p n i) = ent p n (oE p n i + 1) (o + 1) ∧ 2 * (q + odN p n i) ≤ oE p n i := by
  by_cases h : sg p n i = 112
  · have h1 := o_p h
    have hd := h1.2.mp hO
    have h2 := nE_gt hd
    rw [odN_p h, cI_t hd, h1.1]
    exact ⟨cur_pe (by rw [hc, ent_p h]), by omega⟩
  · have hm := oF_m hO h
    have h1 := o_r hm.1 hm.2.1 hm.2.2
    have h3 := sg_lt (p := p) (n := n) (i := i + 2) (by have := hm.2.2; omega)
    rw [odN_m hm, h1.1]
    exact cur_rg (K := (sg p n i).toNat) (s := (sg p n (i + 1) - 97).toNat) hn (by have := hm.1; omega) (n + 1) (i + 3) q (by omega) (by omega) (by rw [hc, ent_m hm.1]) (by omega) (h1.2.mp hO)
theorem cgn_n {p : Nat → Int32} {n i : Nat} (h : Pg p n) : cgn p n i = nI (sg p n i).toNat := by
  unfold cgn sg sgn
  by_cases q : i < n
  · have := h i q
    rw [if_pos q, if_pos q]
    exact nI_iN (by omega)
  · rw [if_neg q, if_neg q]
    rfl
theorem apc {F F' w w' : va_W} (h : F = F') (h2 : w = w') : F ++ w = F' ++ w' := by rw [h, h2]
theorem adrF {F F' w w' : va_W} (h : F'.map (·.1) = F.map (·.1)) (h2 : w'.map (·.1) = w.map (·.1)) : (F' ++ w').map (·.1) = (F ++ w).map (·.1) := by rw [List.map_append, List.map_append, h, h2]
theorem sW_adr {hs : Nat → Nat} {T T' : Nat → Nat → Int32} : (sW hs T').map (·.1) = (sW hs T).map (·.1) := by
  unfold sW
  rw [List.map_map, List.map_map]
  rfl
theorem sg_b {p : Nat → Int32} {n i : Nat} (h : Pg p n) : (sg p n i).toNat ≤ 126 := by
  unfold sg sgn
  by_cases q : i < n
  · have := h i q
    rw [if_pos q]; omega
  · rw [if_neg q]; decide
theorem os_0 {p : Nat → Int32} {n : Nat} : os p n 0 = 0 := rfl
theorem oq_0 {p : Nat → Int32} {n : Nat} : oq p n 0 = 0 := rfl
theorem os_s {p : Nat → Int32} {n o : Nat} : os p n (o + 1) = oE p n (os p n o) + 1 := rfl
theorem oq_s {p : Nat → Int32} {n o : Nat} : oq p n (o + 1) = oq p n o + odN p n (os p n o) := rfl
theorem rgN_1 {p : Nat → Int32} {n j : Nat} (hn : n ≤ 80) (hj : j ≤ n) (hO : rgO p n j) : 1 ≤ rgN p n j := by
  by_cases z : rF p n j ∧ sg p n (rL p n j) = 44
  · rw [rgN_t hn hj z]; omega
  · have h1 := rg_f (p := p) (n := n) (j := j) (by omega) z
    rw [rgN_f z, cI_t (h1.2.mp hO)]
    exact Nat.le_refl 1
theorem odN_1 {p : Nat → Int32} {n i : Nat} (hn : n ≤ 80) (hi : i ≤ n) (hO : oF p n i) : 1 ≤ odN p n i := by
  by_cases h : sg p n i = 112
  · rw [odN_p h, cI_t ((o_p h).2.mp hO)]
    exact Nat.le_refl 1
  · have hm := oF_m hO h
    have h1 := o_r hm.1 hm.2.1 hm.2.2
    have h3 := sg_lt (p := p) (n := n) (i := i + 2) (by have := hm.2.2; omega)
    rw [odN_m hm]
    exact rgN_1 hn (by omega) (h1.2.mp hO)
