/-! ===== constructors ===== -/
def Ky (G : gT) (U : State) : Prop := Kx G U ∧ va_AO RX0 U ∧ va_AO RX2 U
theorem Ky.calling {G : gT} {U : State} (g : JFrame) (mk : MethodId) (a : Array Value) (h : Ky G U) : Ky G (U.calling g mk a) := ⟨h.1.calling g mk a, va_AO.moved (u := U) (U := U.calling g mk a) (Vm.Alike.refl U.vm) h.2.1, va_AO.moved (u := U) (U := U.calling g mk a) (Vm.Alike.refl U.vm) h.2.2⟩
theorem Ky.warm {G : gT} {s U : State} (hW : s.WarmedH U.vm) (h : Ky G s) : Ky G U := ⟨h.1.warm hW, va_AO.moved hW.alike h.2.1, va_AO.moved hW.alike h.2.2⟩
def Pn (G : gT) (sz : Nat) (ws : va_W) (U : State) : Prop := U.heap.size = sz ∧ Ky G U ∧ Zs (va_A ws sz) U ∧ va_P G.1 vwCl ws U.heap ∧ va_D (fun _ => True) ws
theorem Pn.fb {G : gT} {sz : Nat} {ws : va_W} {As : List Value} : FrameBlind (va_Pc As (Pn G sz ws)) := fun a U g mk q => ⟨q.1, q.2.1, q.2.2.1.calling g mk a, Zs.moved (u := U) (U := U.calling g mk a) rfl (Vm.Alike.refl U.vm) q.2.2.2.1, q.2.2.2.2⟩
/-- depth, cells, slots -/
abbrev rmN (d mc ms : Nat) : Room := { frames := d, cells := mc, slots := ms, locals := 40 * d }
abbrev Qn (G : gT) (A : Nat → Prop) (Φ : va_W → Prop) : Array Value → State → Outcome → State → Prop := va_Qv (fun (_ : Unit) => True) (fun _ t => ∃ ws', Φ ws' ∧ va_P G.1 vwCl ws' t.heap ∧ va_D A ws') A
/-- a constructor: its world grows into one that Φ names -/
def Rn (l : Launch) (G : gT) (y : MethodName) (bytes : ByteArray) (maxL d mc ms sz : Nat) (ws : va_W) (As : List Value) (Φ : va_W → Prop) : Prop := Met l y (Cond.code y bytes maxL none :: GW) (rmN d mc ms) (va_Pc As (Pn G sz ws)) (Qn G (va_A ws sz) Φ) mc ms (va_A ws sz)
section MKN
variable {l : Launch} {y : MethodName} {bytes : ByteArray} {maxL d mc ms sz : Nat} {G : gT} {ws : va_W} {As : List Value} {Φ : va_W → Prop}
theorem Rn.mk (hy : plainName y.cls = true) (hyn : y.name = "<init>") (hlen : (lg_sl As).length ≤ maxL)
    (body : ∀ (p : Program) (e : Env) (s : State) (m : MethodId) (below : List Frame) (meth : Method) (c : Code) (ls : Array Slot) (A : Nat → Prop), meth.sig.returnType = none → meth.locks = false → meth.name = "<init>" → CallFix p m c bytes maxL s As.toArray GW y.cls → Ky G s → Zs A s → (∀ q, s.heap.size ≤ q → A q) → va_P G.1 vwCl ws s.heap → va_D A ws → va_S A s.heap s.heap [] → lv_has ls maxL (lv_args 0 As) → W p l e (rmN d mc ms) s m As.toArray below meth c s.heap [] 0 0 (MQ below (Qn G A Φ) As.toArray s mc ms A) (F0 m 0 ls [])) :
    Rn l G y bytes maxL d mc ms sz ws As Φ := by
  refine Met.ofW (cc := bytes) (maxL := maxL) (ret := none) hy rfl ?_
  intro p e s m args below meth c s₁ B hml hv
  obtain ⟨rfl, rfl, hK, hZ, hP, hD⟩ := hv
  have hts := atoms_spec (ws := Cond.code y bytes maxL none :: GW) B.pre
  have hl := lv_entry As (n := maxL) hlen
  rw [lg_entry_eq]
  exact body p e s m below meth c _ _ B.returns B.notSynchronized ((name_of_methodNamed B.named B.method).1.trans hyn) ⟨B.exec, B.bytes, hml, findClass_of_methodNamed B.named, fun w h => hts w (List.mem_cons_of_mem _ h)⟩ hK hZ (fun q h => Or.inr h) hP hD.self va_S.rf hl
end MKN
section RWN
variable {p : Program} {l : Launch} {e : Env} {R : Room} {s : State} {m : MethodId} {args : Array Value} {below : List Frame} {meth : Method} {c : Code} {H : Heap} {locs : List Loc} {cells slots mc ms : Nat} {Q : State → Prop}
variable {pc : Nat} {ls : Array Slot} {rest st : List Value} {cc bytes : ByteArray} {own : String} {index maxL nL n d : Nat} {y : MethodName} {G : gT} {ws wc wr : va_W} {As : List Value} {b : Nat} {A : Nat → Prop} {H0 : Heap} {Φ : va_W → Prop}
theorem e_nv (hx : p.tables.exec = Jvm.exec) (hb : c.code = cc) (hr : meth.sig.returnType = none) (hlk : meth.locks = false) (hP : va_P G.1 vwCl ws H) (hD : va_D A ws) (hS : va_S A s.heap H locs) (hΦ : Φ ws) (h1 : cells ≤ mc) (h2 : slots ≤ ms) (hdg : decode cc pc = .ok (.return_, 1)) : W p l e R s m args below meth c H locs cells slots (MQ below (Qn G A Φ) args s mc ms A) (F0 m pc ls []) :=
  W.widen h1 h2 (W.vret hx hb hr (fun t ht hW => ⟨⟨(), rfl, trivial, ws, hΦ, by rw [ht]; exact hP, hD⟩, hS.F ht⟩) hS.2.2 hdg hlk)
theorem k_pn (hK : Ky G s) (hZ : Zs A s) (hS : va_S A s.heap H locs) (hP : va_P G.1 vwCl ws H) (hD : va_D A ws) (hA : ∀ q, s.heap.size ≤ q → A q) (isC : List Nat) (hC : isC.map (fun i => ws[i]?) = wc.map some) (hnC : va_nd isC = true) (U : State) (hU : U.heap = H) (hW : s.WarmedH U.vm) : Pn G H.size wc U := by
  obtain ⟨q1, -, q3, q4, q5⟩ := k_pw hK.1 hZ hS hP hD hA isC hC hnC U hU hW
  exact ⟨q1, hK.warm hW, q3, q4, q5⟩
theorem k_rnI (F : CallFix p m c cc nL s args GW own) (hM : Rn l G y bytes maxL d mc ms H.size wc (.ref b :: As) Φ) (hyn : y.name = "<init>") (h1 : Cond.methodLink own index y ∈ GW) (h2 : Cond.instanceMethod y ∈ GW) (h3 : Cond.initialized y.cls ∈ GW) (h4 : Cond.code y bytes maxL none ∈ GW) (hd : hdY y n) (hR : d + 1 ≤ R.frames ∧ 8 + (maxL + 11) + 40 * d ≤ R.locals)
    (hK : Ky G s) (hZ : Zs A s) (hS : va_S A s.heap H locs) (hP : va_P G.1 vwCl ws H) (hD : va_D A ws) (hA : ∀ q, s.heap.size ≤ q → A q) (hpm : ws.Perm (wr ++ wc))
    (hn : As.length = n) (hsize : ls.size = nL) (hst : st = As.reverse ++ .ref b :: rest) (hW : (rest.map fun v => v.category).sum ≤ 8) (hdg : decode cc pc = .ok (.invokespecial index, 3)) (hf : cells + mc ≤ R.cells ∧ slots + ms ≤ R.slots)
    (kk : ∀ (ws' : va_W) (H1 : Heap) (locs1 : List Loc), Φ ws' → va_P G.1 vwCl (wr ++ ws') H1 → va_D A (wr ++ ws') → va_S A s.heap H1 locs1 → W p l e R s m args below meth c H1 locs1 (cells + mc) (slots + ms) Q (F0 m (pc + 3) ls rest)) : W p l e R s m args below meth c H locs cells slots Q (F0 m pc ls st) := by
  have hP := hP.pm hpm
  have hD := hD.pm hpm
  have hFc := va_free hD hS hA _ (app_C wr wc)
  refine va_callv (va_runI F hM (cwI n F.2.2.2.2 (gw_c h4) rfl rfl rfl (F.2.2.2.2 _ h3) (F.2.2.2.2 _ h1) (F.2.2.2.2 _ h2) hyn hd hR) ⟨Pn.fb, fun U hU hW => ⟨rfl, k_pn hK hZ hS hP hD hA _ (app_C wr wc) (app_nC wr wc) U hU hW⟩⟩ rfl hn hsize hst (lv_room hW) hdg hf) hS (fun q _ h => hFc q h) hFc (fun u t H1 locs1 ht hvm hw hB hz hk hS1 => ?_)
  obtain ⟨ws', hΦ, hP1, hD1⟩ := hB
  rw [ht] at hP1
  obtain ⟨hP2, hD2⟩ := va_join hP hD _ _ (app_C wr wc) (app_R wr wc) (app_nR wr) (app_dis wr wc) hk hFc hP1 hD1
  exact kk ws' H1 locs1 hΦ hP2 hD2 hS1
/-- the class of an array that is made is the one that the tables name -/
theorem tyE {D : va_G} {tys : List (ClassId × FieldType)} {k : Nat} {cA cB : ClassId} {ty : FieldType} (h : va_K D vwCl tys s) (h2 : ∀ T : List (ClassId × FieldType), T = tys ++ [(cA, ty)] → va_K D vwCl T s) (hk : tys[k]? = some (cB, ty)) : cA = cB := by
  have g1 := ((h2 _ rfl).2 tys.length (cA, ty) (by rw [List.getElem?_append_right (Nat.le_refl _), Nat.sub_self]; rfl)).2
  have g2 := (h.2 k (cB, ty) hk).2
  cases ty with
  | object C =>
    obtain ⟨_, _, -, -, -, a4⟩ := g1
    obtain ⟨_, _, -, -, -, b4⟩ := g2
    exact Option.some.inj (a4.symm.trans b4)
  | _ => exact Option.some.inj (g1.symm.trans g2)
theorem n_newI (hx : p.tables.exec = Jvm.exec) (hb : c.code = cc) (hK : Ky G s) (harr : (Cond.arrayClass .int).before args s = true) (hP : va_P G.1 vwCl ws H) (hD : va_D A ws) (hS : va_S A H0 H locs) (hA : ∀ q, H0.size ≤ q → A q) {N : Nat} (hN : N ≤ 100000) (hcells : cells + 1 ≤ R.cells) (hslots : slots + N ≤ R.slots) (hdg : decode cc pc = .ok (.newarray .int, 2))
    (kk : ∀ (q : Nat) (H1 : Heap), va_P G.1 vwCl (ws ++ [(q, .inl (gI G, N, .inl (fun _ => 0)))]) H1 → va_D A (ws ++ [(q, .inl (gI G, N, .inl (fun _ => 0)))]) → va_S A H0 H1 locs → W p l e R s m args below meth c H1 locs (cells + 1) (slots + N) Q (F0 m (pc + 2) ls (.ref q :: rest))) : W p l e R s m args below meth c H locs cells slots Q (F0 m pc ls (.int (nI N) :: rest)) := by
  refine va_newa (atype := .int) (ty := .int) (a0 := (N, .inl (fun _ => 0))) (N' := N) hx hb harr rfl hK.1.1 hP hD hS hA (fun _ => rfl) (fun h => by rw [Int32.lt_iff_toInt_lt, toI (by omega), show (0 : Int32).toInt = 0 from rfl] at h; omega) (nI_clamp (by omega)) (by show N * 4 ≤ _; omega) hcells hslots hdg (fun q cA H1 hK1 hP1 hD1 hS1 => ?_)
  have e1 : cA = gI G := tyE (k := 0) hK.1.1 (fun _ hT => hT ▸ hK1) rfl
  subst e1
  exact kk q H1 hP1 hD1 hS1
theorem n_newC (hx : p.tables.exec = Jvm.exec) (hb : c.code = cc) (hK : Ky G s) (harr : (Cond.arrayClass .char).before args s = true) (hP : va_P G.1 vwCl ws H) (hD : va_D A ws) (hS : va_S A H0 H locs) (hA : ∀ q, H0.size ≤ q → A q) {N : Nat} (hN : N ≤ 100000) (hcells : cells + 1 ≤ R.cells) (hslots : slots + N ≤ R.slots) (hdg : decode cc pc = .ok (.newarray .char, 2))
    (kk : ∀ (q : Nat) (H1 : Heap), va_P G.1 vwCl (ws ++ [(q, .inl (gC G, N, .inl (fun _ => 0)))]) H1 → va_D A (ws ++ [(q, .inl (gC G, N, .inl (fun _ => 0)))]) → va_S A H0 H1 locs → W p l e R s m args below meth c H1 locs (cells + 1) (slots + N) Q (F0 m (pc + 2) ls (.ref q :: rest))) : W p l e R s m args below meth c H locs cells slots Q (F0 m pc ls (.int (nI N) :: rest)) := by
  refine va_newa (atype := .char) (ty := .char) (a0 := (N, .inl (fun _ => 0))) (N' := N) hx hb harr rfl hK.1.1 hP hD hS hA (fun _ => rfl) (fun h => by rw [Int32.lt_iff_toInt_lt, toI (by omega), show (0 : Int32).toInt = 0 from rfl] at h; omega) (nI_clamp (by omega)) (by show N * 2 ≤ _; omega) hcells hslots hdg (fun q cA H1 hK1 hP1 hD1 hS1 => ?_)
  have e1 : cA = gC G := tyE (k := 1) hK.1.1 (fun _ hT => hT ▸ hK1) rfl
  subst e1
  exact kk q H1 hP1 hD1 hS1
theorem n_newD (hx : p.tables.exec = Jvm.exec) (hb : c.code = cc) (hown : s.vm.findClass own = some m.cls) (hcl : (Cond.classLink own index RX0).before args s = true) (hK : Ky G s) (hP : va_P G.1 vwCl ws H) (hD : va_D A ws) (hS : va_S A H0 H locs) (hA : ∀ q, H0.size ≤ q → A q) {N : Nat} (hN : N ≤ 100000) (hcells : cells + 1 ≤ R.cells) (hslots : slots + N ≤ R.slots) (hdg : decode cc pc = .ok (.anewarray index, 3))
    (kk : ∀ (q : Nat) (H1 : Heap), va_P G.1 vwCl (ws ++ [(q, .inl (gD G, N, .inr (.inr (.inr (.inr (fun _ => none))))))]) H1 → va_D A (ws ++ [(q, .inl (gD G, N, .inr (.inr (.inr (.inr (fun _ => none))))))]) → va_S A H0 H1 locs → W p l e R s m args below meth c H1 locs (cells + 1) (slots + N) Q (F0 m (pc + 3) ls (.ref q :: rest))) : W p l e R s m args below meth c H locs cells slots Q (F0 m pc ls (.int (nI N) :: rest)) := by
  refine va_newq hx hb hown hcl hK.2.1 hK.1.1 hP hD hS hA (N' := N) (fun h => by rw [Int32.lt_iff_toInt_lt, toI (by omega), show (0 : Int32).toInt = 0 from rfl] at h; omega) (nI_clamp (by omega)) (by omega) hcells hslots hdg (fun q cA H1 hK1 hP1 hD1 hS1 => ?_)
  have e1 : cA = gD G := tyE (k := 3) hK.1.1 (fun _ hT => hT ▸ hK1) rfl
  subst e1
  exact kk q H1 hP1 hD1 hS1
theorem n_newS (hx : p.tables.exec = Jvm.exec) (hb : c.code = cc) (hown : s.vm.findClass own = some m.cls) (hcl : (Cond.classLink own index RX2).before args s = true) (hK : Ky G s) (hP : va_P G.1 vwCl ws H) (hD : va_D A ws) (hS : va_S A H0 H locs) (hA : ∀ q, H0.size ≤ q → A q) {N : Nat} (hN : N ≤ 100000) (hcells : cells + 1 ≤ R.cells) (hslots : slots + N ≤ R.slots) (hdg : decode cc pc = .ok (.anewarray index, 3))
    (kk : ∀ (q : Nat) (H1 : Heap), va_P G.1 vwCl (ws ++ [(q, .inl (gS G, N, .inr (.inr (.inr (.inr (fun _ => none))))))]) H1 → va_D A (ws ++ [(q, .inl (gS G, N, .inr (.inr (.inr (.inr (fun _ => none))))))]) → va_S A H0 H1 locs → W p l e R s m args below meth c H1 locs (cells + 1) (slots + N) Q (F0 m (pc + 3) ls (.ref q :: rest))) : W p l e R s m args below meth c H locs cells slots Q (F0 m pc ls (.int (nI N) :: rest)) := by
  refine va_newq hx hb hown hcl hK.2.2 hK.1.1 hP hD hS hA (N' := N) (fun h => by rw [Int32.lt_iff_toInt_lt, toI (by omega), show (0 : Int32).toInt = 0 from rfl] at h; omega) (nI_clamp (by omega)) (by omega) hcells hslots hdg (fun q cA H1 hK1 hP1 hD1 hS1 => ?_)
  have e1 : cA = gS G := tyE (k := 4) hK.1.1 (fun _ hT => hT ▸ hK1) rfl
  subst e1
  exact kk q H1 hP1 hD1 hS1
/-- a loop that makes cells: its states are counted, so are its cells -/
theorem wloopN (N : Nat) (I : Nat → Heap → List Loc → Array Slot → Prop) (cf sf : Nat → Nat)
    (hstep : ∀ x, x < N → (∀ (H' : Heap) (locs' : List Loc) (ls' : Array Slot), I (x + 1) H' locs' ls' → W p l e R s m args below meth c H' locs' (cf (x + 1)) (sf (x + 1)) Q (F0 m pc ls' [])) → ∀ (H : Heap) (locs : List Loc) (ls : Array Slot), I x H locs ls → W p l e R s m args below meth c H locs (cf x) (sf x) Q (F0 m pc ls []))
    (hend : ∀ (H : Heap) (locs : List Loc) (ls : Array Slot), I N H locs ls → W p l e R s m args below meth c H locs (cf N) (sf N) Q (F0 m pc ls [])) :
    ∀ x, x ≤ N → ∀ (H : Heap) (locs : List Loc) (ls : Array Slot), I x H locs ls → W p l e R s m args below meth c H locs (cf x) (sf x) Q (F0 m pc ls []) := by
  have key : ∀ k x, x + k = N → ∀ (H : Heap) (locs : List Loc) (ls : Array Slot), I x H locs ls → W p l e R s m args below meth c H locs (cf x) (sf x) Q (F0 m pc ls []) := by
    intro k
    induction k with
    | zero => intro x hx H locs ls hI; rw [Nat.add_zero] at hx; subst hx; exact hend H locs ls hI
    | succ k ih => intro x hx H locs ls hI; exact hstep x (by omega) (fun H' locs' ls' hI' => ih (x + 1) (by omega) H' locs' ls' hI') H locs ls hI
  intro x hx
  exact key (N - x) x (by omega)
end RWN
/-! a new diary -/
def ini : Nat → Int32 := upd (upd (fun _ => 0) 1 (nI 2)) 2 (nI 2)
theorem ini_o {j : Nat} (h1 : j ≠ 1) (h2 : j ≠ 2) : ini j = 0 := by
  unfold ini
  rw [upd_n h2, upd_n h1]
theorem dB_ini : dB ini = fun _ => 0 := by
  funext k
  unfold dB
  by_cases q : k < 1920
  · rw [if_pos q, ini_o (by omega) (by omega)]
  · rw [if_neg q]
theorem dW_ini : dW ini = fun _ => 0 := by
  funext k
  unfold dW
  by_cases q : k < 7
  · rw [if_pos q, ini_o (by omega) (by omega)]
  · rw [if_neg q]
def uqk (v : Int32) (k : Nat) : Nat → Int32 := fun j => if j < k then v else 0
theorem uqk_0 {v : Int32} : uqk v 0 = fun _ => 0 := by funext j; exact if_neg (Nat.not_lt_zero j)
theorem uqk_s {v : Int32} {k : Nat} : upd (uqk v k) k v = uqk v (k + 1) := by
  funext j
  unfold uqk upd
  by_cases q : j = k
  · rw [if_pos q, if_pos (by omega)]
  · rw [if_neg q]
    dsimp only
    by_cases q2 : j < k
    · rw [if_pos q2, if_pos (by omega)]
    · rw [if_neg q2, if_neg (by omega)]
theorem dF_ini : dF ini = uqk (nI 5) 120 := by
  funext m
  unfold dF uqk
  by_cases q : m < 120
  · rw [if_pos q, if_pos q, ini_o (by omega) (by omega)]
    rfl
  · rw [if_neg q, if_neg q]
theorem dN_ini : dN ini = uqk (-6) 120 := by
  funext m
  unfold dN uqk
  by_cases q : m < 120
  · rw [if_pos q, if_pos q, ini_o (by omega) (by omega), ini_o (by omega) (by omega)]
    rfl
  · rw [if_neg q, if_neg q]
theorem dO_ini {ab af an aw : Nat} : dO ini ab af an aw = .inr (0, [.int 0, .int (nI 2), .int (nI 2), .int 0, .int 0, .int 0, .int 0, .ref ab, .ref af, .ref an, .ref aw]) := rfl
