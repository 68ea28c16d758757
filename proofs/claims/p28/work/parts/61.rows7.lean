/-! ===== the law's own methods: contracts, ends, calls ===== -/
theorem CS.recv {G : gT} {me : Nat} {q : Sx} {ws : va_W} (h : CS G me q ws) : ∃ (fs : List Value), (me, (.inr (3, fs) : va_E)) ∈ ws := CP.recv h
section MKU
variable {l : Launch} {y : MethodName} {bytes : ByteArray} {maxL d sz : Nat} {ret : Option FieldType} {G : gT} {ws : va_W} {As : List Value} {res : Int32} {Φ : va_W → Prop}
abbrev Qu (G : gT) (A : Nat → Prop) (res : Int32) (Φ : va_W → Prop) : Array Value → State → Outcome → State → Prop := va_Qi (fun r (_ : Unit) => r = res) (fun _ t => ∃ ws', Φ ws' ∧ va_P G.1 vwCl ws' t.heap ∧ va_D A ws') A
theorem Ru.mk (hy : plainName y.cls = true) (hlen : (lg_sl As).length ≤ maxL)
    (body : ∀ (p : Program) (e : Env) (s : State) (m : MethodId) (below : List Frame) (meth : Method) (c : Code) (ls : Array Slot) (A : Nat → Prop), meth.sig.returnType = ret → meth.locks = false → CallFix p m c bytes maxL s As.toArray GW y.cls → Kx G s → Zs A s → (∀ q, s.heap.size ≤ q → A q) → va_P G.1 vwCl ws s.heap → va_D A ws → va_S A s.heap s.heap [] → lv_has ls maxL (lv_args 0 As) → W p l e (rmL d) s m As.toArray below meth c s.heap [] 0 0 (MQ below (Qu G A res Φ) As.toArray s 0 0 A) (F0 m 0 ls [])) :
    Ru l G y bytes maxL ret d sz ws As res Φ := Met.mk0 hy hlen (fun p e s m below meth c ls h1 h2 h3 h4 h5 => by
      obtain ⟨rfl, hK, hZ, hP, hD⟩ := h4
      exact body p e s m below meth c ls _ h1 h2 h3 hK hZ (fun q h => Or.inr h) hP hD.self va_S.rf h5)
end MKU
section RWU
variable {p : Program} {l : Launch} {e : Env} {R : Room} {s : State} {m : MethodId} {args : Array Value} {below : List Frame} {meth : Method} {c : Code} {H : Heap} {locs : List Loc} {cells slots : Nat} {Q : State → Prop}
variable {pc : Nat} {ls : Array Slot} {rest st : List Value} {cc bytes : ByteArray} {own : String} {index maxL nL n d : Nat} {y : MethodName} {ret : Option FieldType} {G : gT} {ws wc wr : va_W} {As : List Value} {res v : Int32} {b : Nat} {A : Nat → Prop} {Φ : va_W → Prop} {ty : FieldType} {q q2 : Sx}
theorem e_ui (hx : p.tables.exec = Jvm.exec) (hb : c.code = cc) (hr : meth.sig.returnType = some .int) (hlk : meth.locks = false) (hP : va_P G.1 vwCl ws H) (hD : va_D A ws) (hS : va_S A s.heap H locs) (hΦ : Φ ws) (hv : v = res) (hdg : decode cc pc = .ok (.ireturn, 1)) : W p l e R s m args below meth c H locs 0 0 (MQ below (Qu G A res Φ) args s 0 0 A) (F0 m pc ls [.int v]) :=
  W.iret hx hb hr (fun t ht hW => ⟨⟨v, (), rfl, hv, ws, hΦ, by subst ht; exact hP, hD⟩, hS.F ht⟩) hS.2.2 hdg hlk
theorem e_uz (hx : p.tables.exec = Jvm.exec) (hb : c.code = cc) (hr : meth.sig.returnType = some ty) (hlk : meth.locks = false) (hn : narrow ty (.int v) = .int v) (hP : va_P G.1 vwCl ws H) (hD : va_D A ws) (hS : va_S A s.heap H locs) (hΦ : Φ ws) (hv : v = res) (hdg : decode cc pc = .ok (.ireturn, 1)) : W p l e R s m args below meth c H locs 0 0 (MQ below (Qu G A res Φ) args s 0 0 A) (F0 m pc ls [.int v]) :=
  W.zret hx hb hr hn (fun t ht hW => ⟨⟨v, (), rfl, hv, ws, hΦ, by subst ht; exact hP, hD⟩, hS.F ht⟩) hS.2.2 hdg hlk
/-- a call of the class -/
theorem kA (F : CallFix p m c cc nL s args GW own) (hM : Act l y bytes maxL As q res q2) (hC : CS G b q wc) (hyC : y.cls = "FoldedMonths") (h1 : Cond.methodLink own index y ∈ GW) (h2 : Cond.instanceMethod y ∈ GW) (h3 : Cond.selects "FoldedMonths" y y ∈ GW) (h4 : Cond.initialized "FoldedMonths" ∈ GW) (h5 : Cond.code y bytes maxL (some .int) ∈ GW) (hd : hdY y n) (hR : 9 + 1 ≤ R.frames ∧ 8 + (maxL + 11) + 40 * 9 ≤ R.locals)
    (hK : Kx G s) (hZ : Zs A s) (hS : va_S A s.heap H locs) (hP : va_P G.1 vwCl (wr ++ wc) H) (hD : va_D A (wr ++ wc)) (hA : ∀ q, s.heap.size ≤ q → A q)
    (hn : As.length = n) (hsize : ls.size = nL) (hst : st = As.reverse ++ .ref b :: rest) (hW : (rest.map fun v => v.category).sum ≤ 8) (hdg : decode cc pc = .ok (.invokevirtual index, 3)) (hf : cells ≤ R.cells ∧ slots ≤ R.slots)
    (kk : ∀ (w' : va_W) (H1 : Heap) (locs1 : List Loc), CS G b q2 w' → va_P G.1 vwCl (wr ++ w') H1 → va_D A (wr ++ w') → va_S A s.heap H1 locs1 → W p l e R s m args below meth c H1 locs1 cells slots Q (F0 m (pc + 3) ls (.int res :: rest))) : W p l e R s m args below meth c H locs cells slots Q (F0 m pc ls st) := by
  obtain ⟨fs, hfs⟩ := hC.recv
  exact k_rxV (ci := 3) (fs := fs) (wr := wr) F (hM G b H.size wc hC) ⟨_, rfl, rfl⟩ (List.mem_iff_getElem?.mp (List.mem_append_right _ hfs)) hyC h1 h2 h3 h4 h5 hd hR hK hZ hS hP hD hA (List.Perm.refl _) hn hsize hst hW hdg hf kk
/-- a static call of the law's own -/
theorem k_rxS (F : CallFix p m c cc nL s args GW own) (hM : Ru l G y bytes maxL ret d H.size wc As res Φ) (h1 : Cond.methodLink own index y ∈ GW) (h2 : Cond.static y ∈ GW) (h3 : Cond.initialized y.cls ∈ GW) (h4 : Cond.code y bytes maxL ret ∈ GW) (hd : hdY y n) (hR : d + 1 ≤ R.frames ∧ 8 + (maxL + 11) + 40 * d ≤ R.locals)
    (hK : Kx G s) (hZ : Zs A s) (hS : va_S A s.heap H locs) (hP : va_P G.1 vwCl (wr ++ wc) H) (hD : va_D A (wr ++ wc)) (hA : ∀ q, s.heap.size ≤ q → A q)
    (hn : As.length = n) (hsize : ls.size = nL) (hst : st = As.reverse ++ rest) (hW : (rest.map fun v => v.category).sum ≤ 8) (hdg : decode cc pc = .ok (.invokestatic index, 3)) (hf : cells ≤ R.cells ∧ slots ≤ R.slots)
    (kk : ∀ (w' : va_W) (H1 : Heap) (locs1 : List Loc), Φ w' → va_P G.1 vwCl (wr ++ w') H1 → va_D A (wr ++ w') → va_S A s.heap H1 locs1 → W p l e R s m args below meth c H1 locs1 cells slots Q (F0 m (pc + 3) ls (.int res :: rest))) : W p l e R s m args below meth c H locs cells slots Q (F0 m pc ls st) := by
  have hFc := va_free hD hS hA _ (app_C wr wc)
  refine va_calli (va_runS F hM (va_cwS n F.2.2.2.2 (gw_s h1 h2 h3 h4) rfl rfl rfl hd hR) ⟨Pw.fb, fun U hU hW => ⟨rfl, k_pw hK hZ hS hP hD hA _ (app_C wr wc) (app_nC wr wc) U hU hW⟩⟩ rfl hn hsize hst (lv_room hW) hdg hf) hS (fun q _ h => hFc q h) hFc (fun r u t H1 locs1 ht hvm hw hB hz hk hS1 => ?_)
  obtain ⟨ws', hΦ, hP1, hD1⟩ := hB
  rw [ht] at hP1
  obtain ⟨hP2, hD2⟩ := va_join hP hD _ _ (app_C wr wc) (app_R wr wc) (app_nR wr) (app_dis wr wc) hk hFc hP1 hD1
  rw [hw]
  exact kk ws' H1 locs1 hΦ hP2 hD2 hS1
/-- the law's cell: the script's number, or a made one -/
abbrev Pcl (b L : Nat) (xs : Nat → Int32) (U : State) : Prop := va_X b L xs U U.heap ∧ b < U.heap.size
theorem Pcl.fb {b L : Nat} {xs : Nat → Int32} {As : List Value} : FrameBlind (va_Pc As (Pcl b L xs)) := fun a U g mk q => ⟨q.1, va_X.moved (u := U) (U := U.calling g mk a) (Vm.Alike.refl U.vm) q.2.1, q.2.2⟩
def Rcl (l : Launch) (b L : Nat) (xs : Nat → Int32) (As : List Value) (res : Int32) : Prop := Met l yL_cell (Cond.code yL_cell cL_cell 2 (some .int) :: GW) (rmL 0) (va_Pc As (Pcl b L xs)) (vp_Si (fun r => r = res)) 0 0 (fun _ => False)
theorem k_cell {L : Nat} {xs : Nat → Int32} (F : CallFix p m c cc nL s args GW own) (hM : Rcl l b L xs As res) (h1 : Cond.methodLink own index yL_cell ∈ GW) (h2 : Cond.static yL_cell ∈ GW) (h3 : Cond.initialized yL_cell.cls ∈ GW) (h4 : Cond.code yL_cell cL_cell 2 (some .int) ∈ GW) (hd : hdY yL_cell n) (hR : 0 + 1 ≤ R.frames ∧ 8 + (2 + 11) + 40 * 0 ≤ R.locals)
    (hS : va_S A s.heap H locs) (hX : va_X b L xs s s.heap) (hbl : b < s.heap.size) (hbA : ¬ A b)
    (hn : As.length = n) (hsize : ls.size = nL) (hst : st = As.reverse ++ rest) (hW : (rest.map fun v => v.category).sum ≤ 8) (hdg : decode cc pc = .ok (.invokestatic index, 3)) (hf : cells ≤ R.cells ∧ slots ≤ R.slots)
    (kk : W p l e R s m args below meth c H locs cells slots Q (F0 m (pc + 3) ls (.int res :: rest))) : W p l e R s m args below meth c H locs cells slots Q (F0 m pc ls st) :=
  vp_callSi (va_Run.run (va_runS F hM (va_cwS n F.2.2.2.2 (gw_s h1 h2 h3 h4) rfl rfl rfl hd hR) ⟨Pcl.fb, fun U hU hW => ⟨rfl, by rw [hU]; exact (va_X.kept hX (hS.2.1 b hbl hbA)).moved hW.alike, by rw [hU]; exact Nat.lt_of_lt_of_le hbl hS.1⟩⟩ rfl hn hsize hst (lv_room hW) hdg hf)) (fun r hr => by rw [hr]; exact kk)
end RWU
/-! errors' values -/
theorem eDy_1 {P : Prop} {F T : Int} (h : ¬ P ∨ ¬ (0 ≤ F ∧ F ≤ 3649) ∨ ¬ (0 ≤ T ∧ T ≤ 3649)) : eDy P F T = -1 := cI_t h
theorem eDy_2 {P : Prop} {F T : Int} (h : P) (h1 : 0 ≤ F ∧ F ≤ 3649) (h2 : 0 ≤ T ∧ T ≤ 3649) (h3 : T < F) : eDy P F T = -2 := (cI_f (fun z => by
  rcases z with z | z | z
  · exact z h
  · exact z h1
  · exact z h2)).trans (cI_t h3)
theorem eMk_1 {P : Prop} {F T D : Int} (h : ¬ P ∨ ¬ (0 ≤ F ∧ F ≤ 3649) ∨ ¬ (0 ≤ T ∧ T ≤ 3649)) : eMk P F T D = -1 := by rw [eMk_d (by rw [eDy_1 h]; decide), eDy_1 h]
theorem eMk_2 {P : Prop} {F T D : Int} (h : P) (h1 : 0 ≤ F ∧ F ≤ 3649) (h2 : 0 ≤ T ∧ T ≤ 3649) (h3 : T < F) : eMk P F T D = -2 := by rw [eMk_d (by rw [eDy_2 h h1 h2 h3]; decide), eDy_2 h h1 h2 h3]
theorem eMk_5 {P : Prop} {F T D : Int} (h : P) (h1 : 0 ≤ F ∧ F ≤ 3649) (h2 : 0 ≤ T ∧ T ≤ 3649) (h3 : F ≤ T) (h4 : D < T) : eMk P F T D = -5 := eMk_l (by rw [eDy_0 h ⟨h1, h2, h3⟩]; rfl) h4
theorem ePs_2 {X D : Int} (h : ¬ (1 ≤ X ∧ X ≤ 400)) : ePs X D = -2 := cI_t h
theorem chs_0 {W : Nat} (h : W < 256) (h2 : ¬ (33 ≤ W ∧ W ≤ 126)) : chN W = 0 := by
  show chk W (7 + 1) 0 = 0
  by_cases q : W / 256 ^ 0 = 0
  · exact cI_t q
  · refine (cI_f q).trans (cI_f (fun z => h2 ?_))
    have e : byt W 0 = W := by unfold byt; rw [Nat.pow_zero, Nat.div_one]; exact Nat.mod_eq_of_lt h
    unfold gdB at z
    rw [e] at z
    exact z
theorem m1_sub : ∀ k, k < 9 → ((-1 : Int32) - nI k).toInt = -1 - (k : Int) := by decide +kernel
theorem a_put_s {l : Launch} {q : Sx} (hok : OkD q) (n : Nat) (h : n < 33) : Act l yX3_put cX3_put 4 [.long (nI n).toInt64] q (-2) q := by
  rw [lw_nI (by omega)]
  exact a_put_e l hok n (by omega) (chs_0 (W := n) (by omega) (by omega))
theorem a_put_127 {l : Launch} {q : Sx} (hok : OkD q) : Act l yX3_put cX3_put 4 [.long 127] q (-2) q := a_put_e l hok 127 (by omega) (chs_0 (W := 127) (by omega) (by omega))
theorem a_today {l : Launch} {q : Sx} (hok : OkD q) : Act l yX3_count cX3_count 2 [.int (nI 0)] q (nI (td (qr q))) q := by
  have h := a_count l hok (nI 0) (X := 0) rfl
  have e : cov (qr q) (nI (qc q)) (nI (qn q)) 0 = nI (td (qr q)) := by
    unfold cov
    rw [if_pos rfl]
    exact hok.1.1.1.1.1
  rw [e] at h
  exact h
theorem a_ofMonth_e2 {l : Launch} {q : Sx} (hok : OkD q) (m : Nat) (x : Int32) {X : Int} (hm8 : m < 120) (hx1 : x.toInt = X) (h : 10 ≤ X) : Act l yX3_ofMonth cX3_ofMonth 3 [.int (nI m), .int x] q (-2) q := by
  have g := a_ofMonth l hok m x hm8 hx1
  have e : omv (qr q) m X = -2 := by
    unfold omv
    rw [if_neg (by omega), if_neg (by omega), if_neg (by omega), if_neg (by omega), if_neg (by omega), if_neg (by omega), if_neg (by omega), if_neg (by omega), if_neg (by omega), if_neg (by omega)]
  rw [e] at g
  exact g
theorem a_count_e {l : Launch} {q : Sx} (hok : OkD q) (x : Int32) {X : Int} (hx1 : x.toInt = X) (h : 13 ≤ X) : Act l yX3_count cX3_count 2 [.int x] q (-2) q := by
  have g := a_count l hok x hx1
  have e : cov (qr q) (nI (qc q)) (nI (qn q)) X = -2 := by
    unfold cov
    rw [if_neg (by omega), if_neg (by omega), if_neg (by omega), if_neg (by omega), if_neg (by omega), if_neg (by omega), if_neg (by omega), if_neg (by omega), if_neg (by omega), if_neg (by omega), if_neg (by omega), if_neg (by omega), if_neg (by omega)]
  rw [e] at g
  exact g
