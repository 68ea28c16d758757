/-! ===== the pad's steps as they are made; months' first days; rows ===== -/
def zT : Nat → Nat → Int32 := fun _ _ => 0
def sWk (hs : Nat → Nat) (k : Nat) : va_W := (List.range k).map (sc hs zT)
def fk (hs : Nat → Nat) (k : Nat) : Nat → Option Nat := fun j => if j < k then some (hs j) else none
def upn (hs : Nat → Nat) (k q : Nat) : Nat → Nat := fun j => if j = k then q else hs j
theorem fk_0 {hs : Nat → Nat} : fk hs 0 = fun _ => none := by funext j; exact if_neg (Nat.not_lt_zero j)
theorem fk_s {hs : Nat → Nat} {k q : Nat} : va_up (fk hs k) k (some q) = fk (upn hs k q) (k + 1) := by
  funext j
  unfold va_up fk upn
  by_cases h : j = k
  · rw [if_pos h, if_pos (by omega), if_pos h]
  · rw [if_neg h, if_neg h]
    by_cases h2 : j < k
    · rw [if_pos h2, if_pos (by omega)]
    · rw [if_neg h2, if_neg (by omega)]
theorem sWk_s {hs : Nat → Nat} {k q : Nat} : sWk (upn hs k q) (k + 1) = sWk hs k ++ [(q, (.inr (2, [.int 0, .int 0, .int 0, .int 0, .int 0]) : va_E))] := by
  unfold sWk
  rw [List.range_succ, List.map_append]
  have e1 : (List.range k).map (sc (upn hs k q) zT) = (List.range k).map (sc hs zT) := by
    refine List.map_congr_left (fun j hj => ?_)
    have : j < k := List.mem_range.mp hj
    unfold sc upn
    rw [if_neg (by omega)]
  have e2 : [k].map (sc (upn hs k q) zT) = [(q, (.inr (2, [.int 0, .int 0, .int 0, .int 0, .int 0]) : va_E))] := by
    show [sc (upn hs k q) zT k] = _
    unfold sc upn
    rw [if_pos rfl]
    rfl
  rw [e1, e2]
theorem sWk_in {hs : Nat → Nat} {k q : Nat} {wl : va_W} : (sWk hs k ++ (wl ++ [(q, (.inr (2, [.int 0, .int 0, .int 0, .int 0, .int 0]) : va_E))])).Perm (sWk (upn hs k q) (k + 1) ++ wl) := by
  rw [sWk_s, List.append_assoc]
  exact List.perm_append_comm.append_left _
def ffk (m : Nat) : Nat → Int32 := fun q => if q ≤ m then nI (fdy q) else 0
theorem ffk_0 : ffk 0 = fun _ => 0 := by
  funext q
  unfold ffk
  by_cases h : q ≤ 0
  · rw [if_pos h, show q = 0 by omega]; rfl
  · rw [if_neg h]
theorem ffk_m {m : Nat} : ffk m m = nI (fdy m) := if_pos (Nat.le_refl m)
theorem ffk_s {m : Nat} : upd (ffk m) (m + 1) (nI (fdy (m + 1))) = ffk (m + 1) := by
  funext q
  unfold ffk upd
  by_cases h : q = m + 1
  · rw [if_pos h, if_pos (by omega), h]
  · rw [if_neg h]
    dsimp only
    by_cases h2 : q ≤ m
    · rw [if_pos h2, if_pos (by omega)]
    · rw [if_neg h2, if_neg (by omega)]
theorem dys_t (m : Nat) : (m % 12 = 1 → dys m = 28) ∧ ((m % 12 = 3 ∨ m % 12 = 5 ∨ m % 12 = 8 ∨ m % 12 = 10) → dys m = 30) ∧ (¬ (m % 12 = 1 ∨ m % 12 = 3 ∨ m % 12 = 5 ∨ m % 12 = 8 ∨ m % 12 = 10) → dys m = 31) := by
  have key : ∀ k, k < 12 → (k = 1 → mst (k + 1) - mst k = 28) ∧ ((k = 3 ∨ k = 5 ∨ k = 8 ∨ k = 10) → mst (k + 1) - mst k = 30) ∧ (¬ (k = 1 ∨ k = 3 ∨ k = 5 ∨ k = 8 ∨ k = 10) → mst (k + 1) - mst k = 31) := by decide
  exact key (m % 12) (Nat.mod_lt _ (by decide))
theorem lis6_up {h0 h1 h2 h3 h4 h5 : Nat} : va_up (va_up (va_up (va_up (va_up (va_up (fun _ => none) 0 (some h0)) 1 (some h1)) 2 (some h2)) 3 (some h3)) 4 (some h4)) 5 (some h5) = lis6 h0 h1 h2 h3 h4 h5 := by
  funext k
  rcases k with _ | _ | _ | _ | _ | _ | k
  · rfl
  · rfl
  · rfl
  · rfl
  · rfl
  · rfl
  · unfold va_up
    iterate 6 rw [if_neg (by omega)]
    rfl
def lis2 (h0 h1 : Nat) : Nat → Option Nat := fun k => match k with
  | 0 => some h0
  | 1 => some h1
  | _ => none
theorem lis2_up {h0 h1 : Nat} : va_up (va_up (fun _ => none) 0 (some h0)) 1 (some h1) = lis2 h0 h1 := by
  funext k
  rcases k with _ | _ | k
  · rfl
  · rfl
  · unfold va_up
    iterate 2 rw [if_neg (by omega)]
    rfl
section RNN
variable {p : Program} {l : Launch} {e : Env} {R : Room} {s : State} {m : MethodId} {args : Array Value} {below : List Frame} {meth : Method} {c : Code} {H : Heap} {locs : List Loc} {cells slots mc ms : Nat} {Q : State → Prop}
variable {pc : Nat} {ls : Array Slot} {rest st : List Value} {cc bytes : ByteArray} {own host : String} {index maxL nL n d : Nat} {y : MethodName} {G : gT} {ws wc wr : va_W} {As : List Value} {b : Nat} {A : Nat → Prop} {Φ : va_W → Prop}
theorem k_rnIN (F : CallFix p m c cc nL s args GW own) (hM : Rn l G y bytes maxL d mc ms H.size wc (.ref b :: As) Φ) (hyn : y.name = "<init>") (h1 : va_Nw (.methodLinkNest own index y host) s) (h2 : Cond.instanceMethod y ∈ GW) (h3 : Cond.initialized y.cls ∈ GW) (h4 : Cond.code y bytes maxL none ∈ GW) (hd : hdY y n) (hR : d + 1 ≤ R.frames ∧ 8 + (maxL + 11) + 40 * d ≤ R.locals)
    (hK : Ky G s) (hZ : Zs A s) (hS : va_S A s.heap H locs) (hP : va_P G.1 vwCl ws H) (hD : va_D A ws) (hA : ∀ q, s.heap.size ≤ q → A q) (hpm : ws.Perm (wr ++ wc))
    (hn : As.length = n) (hsize : ls.size = nL) (hst : st = As.reverse ++ .ref b :: rest) (hW : (rest.map fun v => v.category).sum ≤ 8) (hdg : decode cc pc = .ok (.invokespecial index, 3)) (hf : cells + mc ≤ R.cells ∧ slots + ms ≤ R.slots)
    (kk : ∀ (ws' : va_W) (H1 : Heap) (locs1 : List Loc), Φ ws' → va_P G.1 vwCl (wr ++ ws') H1 → va_D A (wr ++ ws') → va_S A s.heap H1 locs1 → W p l e R s m args below meth c H1 locs1 (cells + mc) (slots + ms) Q (F0 m (pc + 3) ls rest)) : W p l e R s m args below meth c H locs cells slots Q (F0 m pc ls st) := by
  have hP := hP.pm hpm
  have hD := hD.pm hpm
  have hFc := va_free hD hS hA _ (app_C wr wc)
  refine va_callv (va_runIN F hM ⟨va_cnB n F.2.2.2.2 (gw_c h4) rfl rfl rfl h1 (F.2.2.2.2 _ h3) hd hR, hyn, F.2.2.2.2 _ h2⟩ ⟨Pn.fb, fun U hU hW => ⟨rfl, k_pn hK hZ hS hP hD hA _ (app_C wr wc) (app_nC wr wc) U hU hW⟩⟩ rfl hn hsize hst (lv_room hW) hdg hf) hS (fun q _ h => hFc q h) hFc (fun u t H1 locs1 ht hvm hw hB hz hk hS1 => ?_)
  obtain ⟨ws', hΦ, hP1, hD1⟩ := hB
  rw [ht] at hP1
  obtain ⟨hP2, hD2⟩ := va_join hP hD _ _ (app_C wr wc) (app_R wr wc) (app_nR wr) (app_dis wr wc) hk hFc hP1 hD1
  exact kk ws' H1 locs1 hΦ hP2 hD2 hS1
end RNN
