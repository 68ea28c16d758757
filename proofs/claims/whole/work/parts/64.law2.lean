/-! ===== the law's loop, and its start ===== -/
section LP
variable {p : Program} {l : Launch} {e : Env} {s : State} {m : MethodId} {below : List Frame} {meth : Method} {c : Code} {H : Heap} {locs : List Loc} {cells slots : Nat} {ls : Array Slot} {G : gT} {me hm b L : Nat} {xs : Nat → Int32} {A : Nat → Prop}
set_option maxHeartbeats 4000000 in
set_option maxRecDepth 100000 in
theorem law_lp (F : CallFix p m c code 4 s #[Value.ref b] GW R_law) (hr : meth.sig.returnType = ret) (hlocks : meth.locks = false) (hKx : Kx G s) (hZ : Zs A s) (hA : ∀ q : Nat, s.heap.size ≤ q → A q) (hA2 : ∀ q : Nat, A q → s.heap.size ≤ q) (hX : va_X b L xs s s.heap) (hbl : b < s.heap.size) (hbA : ¬ A b) (hL : L ≤ 2560) (hf : cells ≤ room_1.cells ∧ slots ≤ room_1.slots) (h0 : LI G me hm s A b 0 H locs ls) : W p l e room_1 s m #[Value.ref b] below meth c H locs cells slots (lw_Z below #[Value.ref b] s) (F0 m 18 ls []) := by
  refine wloopH [] (fun x H locs ls => x ≤ L ∧ LI G me hm s A b x H locs ls) (fun x => 2600 - x) ?_ 0 ⟨Nat.zero_le _, h0⟩
  intro x ih
  intro H locs ls ⟨hxL, hI⟩
  have hx := F.1
  have hb := F.2.1
  have hl := hI.1
  have hS : va_S A s.heap H locs := by
    obtain ⟨-, w1, w2, r1, c1, g1, v1, t1, p1, n1, hok, hCP, hMP, hP, hD, hS⟩ := hI
    exact hS
  have hJ : x + 5 ≤ L → ∀ (H : Heap) (locs : List Loc) (ls : Array Slot), LI G me hm s A b x H locs ls → W p l e room_1 s m #[Value.ref b] below meth c H locs cells slots (lw_Z below #[Value.ref b] s) (F0 m 963 ls []) := by
    intro hx5 H locs ls hI
    obtain ⟨hl, hrest⟩ := hI
    refine lv_iinc (v := nI (x + 5)) (lv' := [(3, .int (nI (x + 5))), (2, .ref hm), (1, .ref me), (0, .ref b)]) hx hb dL_law_963 hl (k := 0) rfl (nI_add _ _) (by decide) rfl (fun ls hl => ?_)
    refine lv_goto (tgt := 18) hx hb dL_law_966 (by decide) ?_
    exact ih (x + 5) H locs ls (by omega) ⟨hx5, hl, hrest⟩
  refine lv_iload_n hx hb dL_law_18 rfl (lv_at hl 0 rfl) ?_
  refine lv_aload_n hx hb dL_law_19 rfl (lv_at hl 3 rfl) ?_
  refine va_slen hx hb hX hbl hbA hS dL_law_20 ?_
  refine lv_iconst (v := nI 5) hx hb dL_law_21 (by decide) ?_
  refine lv_isub hx hb dL_law_22 ?_
  refine z_gt hx hb (tgt := 969) ((x : Nat) : Int) (((L : Nat) : Int) - ((5 : Nat) : Int)) dL_law_23 (by decide) (toI (by omega)) (pk_sub_toInt (a := L) (b := 5) (by omega) (by omega)) (fun c_23 => ?_) (fun c_23 => ?_)
  · refine lv_iconst (v := 1) hx hb dL_law_969 (by decide) ?_
    refine va_forget (fun q hq => hA2 _ (hS.2.2 q hq)) ?_
    refine W.widen (k := 600000) (n := 7302250) hf.1 hf.2 ?_
    exact lw_ret hx hb hr hlocks dL_law_970
  · have hx5 : x + 5 ≤ L := by omega
    have hJ := hJ hx5
    refine lv_aload_n hx hb dL_law_26 rfl (lv_at hl 3 rfl) ?_
    refine lv_iload_n hx hb dL_law_27 rfl (lv_at hl 0 rfl) ?_
    refine n_sld hx hb hX hbl hbA hS (k := x) (by omega) hL dL_law_28 ?_
    refine lv_bipush (v := nI 31) hx hb dL_law_29 (by decide) ?_
    refine lv_iand hx hb dL_law_31 ?_
    rcases (show ((xs x &&& nI 31).toInt < 0 ∨ 24 < (xs x &&& nI 31).toInt) ∨ (xs x &&& nI 31).toInt = 0 ∨ (xs x &&& nI 31).toInt = 1 ∨ (xs x &&& nI 31).toInt = 2 ∨ (xs x &&& nI 31).toInt = 3 ∨ (xs x &&& nI 31).toInt = 4 ∨ (xs x &&& nI 31).toInt = 5 ∨ (xs x &&& nI 31).toInt = 6 ∨ (xs x &&& nI 31).toInt = 7 ∨ (xs x &&& nI 31).toInt = 8 ∨ (xs x &&& nI 31).toInt = 9 ∨ (xs x &&& nI 31).toInt = 10 ∨ (xs x &&& nI 31).toInt = 11 ∨ (xs x &&& nI 31).toInt = 12 ∨ (xs x &&& nI 31).toInt = 13 ∨ (xs x &&& nI 31).toInt = 14 ∨ (xs x &&& nI 31).toInt = 15 ∨ (xs x &&& nI 31).toInt = 16 ∨ (xs x &&& nI 31).toInt = 17 ∨ (xs x &&& nI 31).toInt = 18 ∨ (xs x &&& nI 31).toInt = 19 ∨ (xs x &&& nI 31).toInt = 20 ∨ (xs x &&& nI 31).toInt = 21 ∨ (xs x &&& nI 31).toInt = 22 ∨ (xs x &&& nI 31).toInt = 23 ∨ (xs x &&& nI 31).toInt = 24 by omega) with c_32 | c_32 | c_32 | c_32 | c_32 | c_32 | c_32 | c_32 | c_32 | c_32 | c_32 | c_32 | c_32 | c_32 | c_32 | c_32 | c_32 | c_32 | c_32 | c_32 | c_32 | c_32 | c_32 | c_32 | c_32 | c_32
    · refine lv_tableOut (tgt := 963) hx hb dL_law_32 c_32 (by decide) ?_
      exact hJ H locs ls hI
    · refine lv_tableIn (tgt := 148) hx hb dL_law_32 (by rw [c_32]; decide) (by rw [c_32]; decide) (by rw [c_32]; rfl) (by decide) ?_
      exact law_c0 F hKx hZ hA hX hbl hbA hL hx5 hf hJ hI
    · refine lv_tableIn (tgt := 181) hx hb dL_law_32 (by rw [c_32]; decide) (by rw [c_32]; decide) (by rw [c_32]; rfl) (by decide) ?_
      exact law_c1 F hKx hZ hA hX hbl hbA hL hx5 hf hJ hI
    · refine lv_tableIn (tgt := 204) hx hb dL_law_32 (by rw [c_32]; decide) (by rw [c_32]; decide) (by rw [c_32]; rfl) (by decide) ?_
      exact law_c2 F hKx hZ hA hX hbl hbA hL hx5 hf hJ hI
    · refine lv_tableIn (tgt := 247) hx hb dL_law_32 (by rw [c_32]; decide) (by rw [c_32]; decide) (by rw [c_32]; rfl) (by decide) ?_
      exact law_c3 F hKx hZ hA hX hbl hbA hL hx5 hf hJ hI
    · refine lv_tableIn (tgt := 290) hx hb dL_law_32 (by rw [c_32]; decide) (by rw [c_32]; decide) (by rw [c_32]; rfl) (by decide) ?_
      exact law_c4 F hKx hZ hA hX hbl hbA hL hx5 hf hJ hI
    · refine lv_tableIn (tgt := 333) hx hb dL_law_32 (by rw [c_32]; decide) (by rw [c_32]; decide) (by rw [c_32]; rfl) (by decide) ?_
      exact law_c5 F hKx hZ hA hX hbl hbA hL hx5 hf hJ hI
    · refine lv_tableIn (tgt := 366) hx hb dL_law_32 (by rw [c_32]; decide) (by rw [c_32]; decide) (by rw [c_32]; rfl) (by decide) ?_
      exact law_c6 F hKx hZ hA hX hbl hbA hL hx5 hf hJ hI
    · refine lv_tableIn (tgt := 419) hx hb dL_law_32 (by rw [c_32]; decide) (by rw [c_32]; decide) (by rw [c_32]; rfl) (by decide) ?_
      exact law_c7 F hKx hZ hA hX hbl hbA hL hx5 hf hJ hI
    · refine lv_tableIn (tgt := 462) hx hb dL_law_32 (by rw [c_32]; decide) (by rw [c_32]; decide) (by rw [c_32]; rfl) (by decide) ?_
      exact law_c8 F hKx hZ hA hX hbl hbA hL hx5 hf hJ hI
    · refine lv_tableIn (tgt := 515) hx hb dL_law_32 (by rw [c_32]; decide) (by rw [c_32]; decide) (by rw [c_32]; rfl) (by decide) ?_
      exact law_c9 F hKx hZ hA hX hbl hbA hL hx5 hf hJ hI
    · refine lv_tableIn (tgt := 548) hx hb dL_law_32 (by rw [c_32]; decide) (by rw [c_32]; decide) (by rw [c_32]; rfl) (by decide) ?_
      exact law_c10 F hKx hZ hA hX hbl hbA hL hx5 hf hJ hI
    · refine lv_tableIn (tgt := 581) hx hb dL_law_32 (by rw [c_32]; decide) (by rw [c_32]; decide) (by rw [c_32]; rfl) (by decide) ?_
      exact law_c11 F hKx hZ hA hX hbl hbA hL hx5 hf hJ hI
    · refine lv_tableIn (tgt := 614) hx hb dL_law_32 (by rw [c_32]; decide) (by rw [c_32]; decide) (by rw [c_32]; rfl) (by decide) ?_
      exact law_c12 F hKx hZ hA hX hbl hbA hL hx5 hf hJ hI
    · refine lv_tableIn (tgt := 657) hx hb dL_law_32 (by rw [c_32]; decide) (by rw [c_32]; decide) (by rw [c_32]; rfl) (by decide) ?_
      exact law_c13 F hKx hZ hA hX hbl hbA hL hx5 hf hJ hI
    · refine lv_tableIn (tgt := 690) hx hb dL_law_32 (by rw [c_32]; decide) (by rw [c_32]; decide) (by rw [c_32]; rfl) (by decide) ?_
      exact law_c14 F hKx hZ hA hX hbl hbA hL hx5 hf hJ hI
    · refine lv_tableIn (tgt := 713) hx hb dL_law_32 (by rw [c_32]; decide) (by rw [c_32]; decide) (by rw [c_32]; rfl) (by decide) ?_
      exact law_c15 F hKx hZ hA hX hbl hbA hL hx5 hf hJ hI
    · refine lv_tableIn (tgt := 746) hx hb dL_law_32 (by rw [c_32]; decide) (by rw [c_32]; decide) (by rw [c_32]; rfl) (by decide) ?_
      exact law_c16 F hKx hZ hA hX hbl hbA hL hx5 hf hJ hI
    · refine lv_tableIn (tgt := 779) hx hb dL_law_32 (by rw [c_32]; decide) (by rw [c_32]; decide) (by rw [c_32]; rfl) (by decide) ?_
      exact law_c17 F hKx hZ hA hX hbl hbA hL hx5 hf hJ hI
    · refine lv_tableIn (tgt := 812) hx hb dL_law_32 (by rw [c_32]; decide) (by rw [c_32]; decide) (by rw [c_32]; rfl) (by decide) ?_
      exact law_c18 F hKx hZ hA hX hbl hbA hL hx5 hf hJ hI
    · refine lv_tableIn (tgt := 865) hx hb dL_law_32 (by rw [c_32]; decide) (by rw [c_32]; decide) (by rw [c_32]; rfl) (by decide) ?_
      exact law_c19 F hKx hZ hA hX hbl hbA hL hx5 hf hJ hI
    · refine lv_tableIn (tgt := 878) hx hb dL_law_32 (by rw [c_32]; decide) (by rw [c_32]; decide) (by rw [c_32]; rfl) (by decide) ?_
      exact law_c20 F hKx hZ hA hX hbl hbA hL hx5 hf hJ hI
    · refine lv_tableIn (tgt := 891) hx hb dL_law_32 (by rw [c_32]; decide) (by rw [c_32]; decide) (by rw [c_32]; rfl) (by decide) ?_
      exact law_c21 F hKx hZ hA hX hbl hbA hL hx5 hf hJ hI
    · refine lv_tableIn (tgt := 904) hx hb dL_law_32 (by rw [c_32]; decide) (by rw [c_32]; decide) (by rw [c_32]; rfl) (by decide) ?_
      exact law_c22 F hKx hZ hA hX hbl hbA hL hx5 hf hJ hI
    · refine lv_tableIn (tgt := 917) hx hb dL_law_32 (by rw [c_32]; decide) (by rw [c_32]; decide) (by rw [c_32]; rfl) (by decide) ?_
      exact law_c23 F hKx hZ hA hX hbl hbA hL hx5 hf hJ hI
    · refine lv_tableIn (tgt := 940) hx hb dL_law_32 (by rw [c_32]; decide) (by rw [c_32]; decide) (by rw [c_32]; rfl) (by decide) ?_
      exact law_c24 F hKx hZ hA hX hbl hbA hL hx5 hf hJ hI
end LP
/-! a new diary is in order -/
theorem Cv_ini : Cv ini := by
  have e0 : td ini = 0 := by decide +kernel
  have e1 : kpn ini = 2 := by decide +kernel
  have e2 : opn ini = 2 := by decide +kernel
  have e6 : ny ini = 0 := by decide +kernel
  have m0 : mot 0 = 0 := by decide +kernel
  refine ⟨⟨⟨by decide +kernel, by omega, by decide +kernel, by omega, by decide +kernel, by omega, by decide +kernel, by omega, fun i hi => absurd hi (by omega)⟩, by omega⟩, by omega, ⟨fun q hq => ⟨0, by omega, ini_o (by omega) (by omega)⟩, fun k hk => by rw [ini_o (by omega) (by omega)]; exact b_0 31, fun q hq h => ?_⟩, fun q hq => ⟨fun h => ?_, fun h => ?_⟩, fun q hq _ => by rw [ini_o (by omega) (by omega)]; rfl, fun i j hij hj => absurd hj (by omega)⟩
  · rw [ini_o (by omega) (by omega)] at h
    exact absurd h (by decide)
  · obtain ⟨i, hi, -⟩ := h
    exact absurd hi (by omega)
  · have h1 := h.1
    rw [e0, e1, m0] at h1
    exact absurd h1 (by omega)
theorem Ok_ini : Ok ini 0 (fun _ => ini) 0 (fun _ => ini) (fun _ => 0) 0 := ⟨Cv_ini, by omega, by omega, fun i hi => absurd hi (Nat.not_lt_zero i), fun k hk => absurd hk (Nat.not_lt_zero k), fun v _ _ => Cv_ini⟩
set_option maxHeartbeats 4000000 in
set_option maxRecDepth 100000 in
theorem CP_ini {G : gT} {me : Nat} {ws9 : va_W} (hq : ∃ (o : Nat) (ab : Nat) (af : Nat) (an : Nat) (aw : Nat) (ou : Nat) (ub : Nat) (uf : Nat) (un : Nat) (uw : Nat) (oh : Nat) (h0 : Nat) (hb0 : Nat) (hf0 : Nat) (hn0 : Nat) (hw0 : Nat) (h1 : Nat) (hb1 : Nat) (hf1 : Nat) (hn1 : Nat) (hw1 : Nat) (h2 : Nat) (hb2 : Nat) (hf2 : Nat) (hn2 : Nat) (hw2 : Nat) (h3 : Nat) (hb3 : Nat) (hf3 : Nat) (hn3 : Nat) (hw3 : Nat) (h4 : Nat) (hb4 : Nat) (hf4 : Nat) (hn4 : Nat) (hw4 : Nat) (h5 : Nat) (hb5 : Nat) (hf5 : Nat) (hn5 : Nat) (hw5 : Nat) (os : Nat) (t0 : Nat) (tb0 : Nat) (tf0 : Nat) (tn0 : Nat) (tw0 : Nat) (t1 : Nat) (tb1 : Nat) (tf1 : Nat) (tn1 : Nat) (tw1 : Nat) (op : Nat) (hs : Nat → Nat) (pa : Nat) (pt : Nat) (f : Nat → Option Nat), (∀ k, k < 40 → f k = some (hs k)) ∧ ws9 = (sW hs zT ++ [(me, .inr (3, [.ref o, .ref ou, .ref oh, .ref os, .ref op, .int 0, .int 0])), (o, dO ini ab af an aw), (ab, .inl (gI G, 1920, .inl (dB ini))), (af, .inl (gI G, 120, .inl (dF ini))), (an, .inl (gI G, 120, .inl (dN ini))), (aw, .inl (gI G, 7, .inl (dW ini))), (ou, dO ini ub uf un uw), (ub, .inl (gI G, 1920, .inl (dB ini))), (uf, .inl (gI G, 120, .inl (dF ini))), (un, .inl (gI G, 120, .inl (dN ini))), (uw, .inl (gI G, 7, .inl (dW ini))), (oh, .inl (gD G, 6, .inr (.inr (.inr (.inr (lis6 h0 h1 h2 h3 h4 h5)))))), (h0, dO ini hb0 hf0 hn0 hw0), (hb0, .inl (gI G, 1920, .inl (dB ini))), (hf0, .inl (gI G, 120, .inl (dF ini))), (hn0, .inl (gI G, 120, .inl (dN ini))), (hw0, .inl (gI G, 7, .inl (dW ini))), (h1, dO ini hb1 hf1 hn1 hw1), (hb1, .inl (gI G, 1920, .inl (dB ini))), (hf1, .inl (gI G, 120, .inl (dF ini))), (hn1, .inl (gI G, 120, .inl (dN ini))), (hw1, .inl (gI G, 7, .inl (dW ini))), (h2, dO ini hb2 hf2 hn2 hw2), (hb2, .inl (gI G, 1920, .inl (dB ini))), (hf2, .inl (gI G, 120, .inl (dF ini))), (hn2, .inl (gI G, 120, .inl (dN ini))), (hw2, .inl (gI G, 7, .inl (dW ini))), (h3, dO ini hb3 hf3 hn3 hw3), (hb3, .inl (gI G, 1920, .inl (dB ini))), (hf3, .inl (gI G, 120, .inl (dF ini))), (hn3, .inl (gI G, 120, .inl (dN ini))), (hw3, .inl (gI G, 7, .inl (dW ini))), (h4, dO ini hb4 hf4 hn4 hw4), (hb4, .inl (gI G, 1920, .inl (dB ini))), (hf4, .inl (gI G, 120, .inl (dF ini))), (hn4, .inl (gI G, 120, .inl (dN ini))), (hw4, .inl (gI G, 7, .inl (dW ini))), (h5, dO ini hb5 hf5 hn5 hw5), (hb5, .inl (gI G, 1920, .inl (dB ini))), (hf5, .inl (gI G, 120, .inl (dF ini))), (hn5, .inl (gI G, 120, .inl (dN ini))), (hw5, .inl (gI G, 7, .inl (dW ini))), (os, .inl (gD G, 2, .inr (.inr (.inr (.inr (lis2 t0 t1)))))), (t0, dO ini tb0 tf0 tn0 tw0), (tb0, .inl (gI G, 1920, .inl (dB ini))), (tf0, .inl (gI G, 120, .inl (dF ini))), (tn0, .inl (gI G, 120, .inl (dN ini))), (tw0, .inl (gI G, 7, .inl (dW ini))), (t1, dO ini tb1 tf1 tn1 tw1), (tb1, .inl (gI G, 1920, .inl (dB ini))), (tf1, .inl (gI G, 120, .inl (dF ini))), (tn1, .inl (gI G, 120, .inl (dN ini))), (tw1, .inl (gI G, 7, .inl (dW ini))), (op, .inr (1, [.ref pa, .ref pt, .int 0, .int 0, .int 0, .int 0])), (pa, .inl (gC G, 80, .inl (fun _ => 0))), (pt, .inl (gS G, 40, .inr (.inr (.inr (.inr f)))))])) : ∃ w, ws9.Perm w ∧ CP G me ini 0 (fun _ => ini) 0 (fun _ => ini) (fun _ => 0) 0 w := by
  obtain ⟨o, ab, af, an, aw, ou, ub, uf, un, uw, oh, h0, hb0, hf0, hn0, hw0, h1, hb1, hf1, hn1, hw1, h2, hb2, hf2, hn2, hw2, h3, hb3, hf3, hn3, hw3, h4, hb4, hf4, hn4, hw4, h5, hb5, hf5, hn5, hw5, os, t0, tb0, tf0, tn0, tw0, t1, tb1, tf1, tn1, tw1, op, hs, pa, pt, f, hq8, rfl⟩ := hq
  refine ⟨_, ?_, (o, ab, af, an, aw), (ou, ub, uf, un, uw), oh, (fun k => match k with | 0 => (h0, hb0, hf0, hn0, hw0) | 1 => (h1, hb1, hf1, hn1, hw1) | 2 => (h2, hb2, hf2, hn2, hw2) | 3 => (h3, hb3, hf3, hn3, hw3) | 4 => (h4, hb4, hf4, hn4, hw4) | _ => (h5, hb5, hf5, hn5, hw5)), os, (fun k => match k with | 0 => (t0, tb0, tf0, tn0, tw0) | _ => (t1, tb1, tf1, tn1, tw1)), op, pa, pt, hs, f, ini, 0, 0, 0, zT, hq8, rfl⟩
  exact pmB2 [sW hs zT, cM me o ou oh os op (nI 0) 0, dia G ini (o, ab, af, an, aw), dia G ini (ou, ub, uf, un, uw), cR G oh (rowH (fun k => match k with | 0 => (h0, hb0, hf0, hn0, hw0) | 1 => (h1, hb1, hf1, hn1, hw1) | 2 => (h2, hb2, hf2, hn2, hw2) | 3 => (h3, hb3, hf3, hn3, hw3) | 4 => (h4, hb4, hf4, hn4, hw4) | _ => (h5, hb5, hf5, hn5, hw5))), hW G (fun k => match k with | 0 => (h0, hb0, hf0, hn0, hw0) | 1 => (h1, hb1, hf1, hn1, hw1) | 2 => (h2, hb2, hf2, hn2, hw2) | 3 => (h3, hb3, hf3, hn3, hw3) | 4 => (h4, hb4, hf4, hn4, hw4) | _ => (h5, hb5, hf5, hn5, hw5)) (fun _ => ini), cS2 G os (rowS (fun k => match k with | 0 => (t0, tb0, tf0, tn0, tw0) | _ => (t1, tb1, tf1, tn1, tw1))), tW G (fun k => match k with | 0 => (t0, tb0, tf0, tn0, tw0) | _ => (t1, tb1, tf1, tn1, tw1)) (fun _ => ini), cP0 op pa pt 0 (nI 0) 0 0, cP1 G pa (fun _ => 0), cP2 G pt f] [0, 1, 4, 2, 3, 5, 6, 7, 8, 9, 10] (by decide) rfl rfl cB_e
theorem MP_ini {G : gT} {h : Nat} {ws9 : va_W} (hq : ∃ (an : Nat) (tr : Nat) (ah : Nat) (ak : Nat) (ai : Nat) (ap : Nat) (af : Nat), ws9 = [(h, .inr (4, [.ref an, .ref tr, .ref ah, .int 0, .ref ak, .ref ai, .ref ap, .int 0, .ref af, .int 0])), (an, .inl (gI G, 2175, .inl ini)), (tr, .inl (gI G, 2175, .inl (fun _ => 0))), (ah, .inl (gI G, 13050, .inl (fun _ => 0))), (ak, .inl (gI G, 4350, .inl (fun _ => 0))), (ai, .inl (gZ G, 2, .inl (fun _ => 0))), (ap, .inl (gI G, 80, .inl (fun _ => 0))), (af, .inl (gI G, 121, .inl (fun q9 => nI (fdy q9))))]) : MP G h ini 0 (fun _ => ini) 0 (fun _ => ini) (fun _ => 0) 0 ws9 := by
  obtain ⟨an, tr, ah, ak, ai, ap, af, rfl⟩ := hq
  exact ⟨an, tr, ah, ak, ai, ap, af, fun _ => 0, fun _ => 0, fun _ => 0, fun _ => 0, 0, fun k hk => absurd hk (Nat.not_lt_zero k), fun v hv => ⟨fun hb => (by rw [b_0] at hb; cases hb), fun _ => rfl⟩, rfl⟩
set_option maxHeartbeats 4000000 in
set_option maxRecDepth 100000 in
theorem whole_start {p : Program} {e : Env} {s : State} {m : MethodId} {below : List Frame} {meth : Method} {c : Code} (l : Launch) (hflags : l.flags = flags0) {b L : Nat} {xs : Nat → Int32} (hL : L ≤ 2560) (C0 : lw_At p s m meth c b L xs) : W p l e room_1 s m #[Value.ref b] below meth c s.heap [] 0 0 (lw_Z below #[Value.ref b] s) (entryFrame m ([Value.ref b] : List Value).toArray 4) := by
  obtain ⟨hx, hb, hr, hml, hown, hts0, hX, hbl, hlocks, hgv⟩ := C0
  obtain ⟨A, hAe⟩ : ∃ A : Nat → Prop, A = fun q => s.heap.size ≤ q := ⟨_, rfl⟩
  have hA : ∀ q : Nat, s.heap.size ≤ q → A q := fun q h => by rw [hAe]; exact h
  have hA2 : ∀ q : Nat, A q → s.heap.size ≤ q := fun q h => by rw [hAe] at h; exact h
  have hbA : ¬ A b := fun h => absurd (hA2 b h) (Nat.not_le.mpr hbl)
  obtain ⟨G, hKy⟩ := law_K hts0
  have hKx := hKy.1
  have hK := hKx.1
  have hZ : Zs A s := law_Z hts0 hgv (fun a ha h => absurd (hA2 a h) (Nat.not_le.mpr ha))
  have hts : ∀ w ∈ GW, w.before #[Value.ref b] s = true := fun w h => hts0 w (gw_tbl w h)
  have hF : CallFix p m c code 4 s #[Value.ref b] GW R_law := ⟨hx, hb, hml, hown, hts⟩
  have hl := lv_entry ([.ref b]) (n := 4) (Nat.le_of_ble_eq_true rfl)
  rw [lg_entry_eq]
  generalize (lg_sl ([.ref b]) ++ List.replicate (4 - (lg_sl ([.ref b])).length) Slot.unset).toArray = ls at hl ⊢
  have hl : lv_has ls 4 [(0, .ref b)] := hl
  have hS : va_S A s.heap s.heap [] := va_S.rf
  have hP : va_P G.1 vwCl [] s.heap := fun k q hk => (by cases hk)
  have hD : va_D A [] := ⟨fun i j x y hi _ _ => (by cases hi), fun k q hk => (by cases hk)⟩
  refine va_new (ci := 3) (fs := [.null, .null, .null, .null, .null, .int 0, .int 0]) (C := RX3) (T := TX3) (N := 7) hx hb hts inGX3 tyX3 tyX3_ok hown (hts _ mw_1_9) (hts _ mw_1_10) (hts _ mw_1_1) hK hP hD hS hA rfl (fun j hj => by rcases (show j = 0 ∨ j = 1 ∨ j = 2 ∨ j = 3 ∨ j = 4 ∨ j = 5 ∨ j = 6 by omega) with rfl | rfl | rfl | rfl | rfl | rfl | rfl <;> rfl) (Nat.le_of_ble_eq_true rfl) (Nat.le_of_ble_eq_true rfl) dL_law_0 (fun me H hP hD hS => ?_)
  have hP : va_P G.1 vwCl [(me, .inr (3, [.null, .null, .null, .null, .null, .int 0, .int 0]))] H := hP
  have hD : va_D A [(me, .inr (3, [.null, .null, .null, .null, .null, .int 0, .int 0]))] := hD
  refine lv_dup hx hb dL_law_3 rfl ?_
  refine k_rnI (As := []) (rest := [.ref me]) (wr := []) hF (c_X3_init l G _ me) rfl mw_1_11 mw_1_12 mw_1_1 mw_1_13 hd_X3_init ⟨Nat.le_of_ble_eq_true rfl, Nat.le_of_ble_eq_true rfl⟩ hKy hZ hS hP hD hA (List.Perm.refl _) rfl hl.1 rfl (Nat.le_of_ble_eq_true rfl) dL_law_4 ⟨Nat.le_of_ble_eq_true rfl, Nat.le_of_ble_eq_true rfl⟩ (fun w0 H locs hq1 hP hD hS => ?_)
  obtain ⟨w1, hpm1, hCP⟩ := CP_ini hq1
  have hP : va_P G.1 vwCl w1 H := va_P.pm (ws := w0) hP hpm1
  have hD : va_D A w1 := va_D.pm (ws := w0) hD hpm1
  refine lv_astore_n (lv' := [(1, .ref me), (0, .ref b)]) hx hb dL_law_7 rfl hl (by decide) rfl (fun ls hl => ?_)
  refine va_new (ci := 4) (fs := [.null, .null, .null, .int 0, .null, .null, .null, .int 0, .null, .int 0]) (C := RX4) (T := TX4) (N := 10) hx hb hts inGX4 tyX4 tyX4_ok hown (hts _ mw_3_48) (hts _ mw_3_49) (hts _ mw_1_5) hK hP hD hS hA rfl (fun j hj => by rcases (show j = 0 ∨ j = 1 ∨ j = 2 ∨ j = 3 ∨ j = 4 ∨ j = 5 ∨ j = 6 ∨ j = 7 ∨ j = 8 ∨ j = 9 by omega) with rfl | rfl | rfl | rfl | rfl | rfl | rfl | rfl | rfl | rfl <;> rfl) (Nat.le_of_ble_eq_true rfl) (Nat.le_of_ble_eq_true rfl) dL_law_8 (fun hm H hP hD hS => ?_)
  refine lv_dup hx hb dL_law_11 rfl ?_
  refine k_rnI (As := []) (rest := [.ref hm]) (wr := w1) hF (c_X4_init l G _ hm) rfl mw_3_50 mw_3_51 mw_1_5 mw_3_52 hd_X4_init ⟨Nat.le_of_ble_eq_true rfl, Nat.le_of_ble_eq_true rfl⟩ hKy hZ hS hP hD hA (List.Perm.refl _) rfl hl.1 rfl (Nat.le_of_ble_eq_true rfl) dL_law_12 ⟨Nat.le_of_ble_eq_true rfl, Nat.le_of_ble_eq_true rfl⟩ (fun w2 H locs hq2 hP hD hS => ?_)
  have hMP := MP_ini hq2
  refine lv_astore_n (lv' := [(2, .ref hm), (1, .ref me), (0, .ref b)]) hx hb dL_law_15 rfl hl (by decide) rfl (fun ls hl => ?_)
  refine lv_iconst (v := nI 0) hx hb dL_law_16 (by decide) ?_
  refine lv_istore_n (lv' := [(3, .int (nI 0)), (2, .ref hm), (1, .ref me), (0, .ref b)]) hx hb dL_law_17 rfl hl (by decide) rfl (fun ls hl => ?_)
  exact law_lp hF hr hlocks hKx hZ hA hA2 hX hbl hbA hL ⟨Nat.le_of_ble_eq_true rfl, Nat.le_of_ble_eq_true rfl⟩ ⟨hl, w1, w2, ini, 0, fun _ => ini, 0, fun _ => ini, fun _ => 0, 0, Ok_ini, hCP, hMP, hP, hD, hS⟩
