theorem hd_X1_init : hdY yX1_init 0 := ⟨by decide +kernel, by decide +kernel, by decide +kernel⟩
set_option maxHeartbeats 4000000 in
set_option maxRecDepth 100000 in
theorem c_X1_init (l : Launch) (G : gT) (sz : Nat) (op : Nat)  : Rn l G yX1_init cX1_init 2 2 42 320 sz [(op, .inr (1, [.null, .null, .int 0, .int 0, .int 0, .int 0]))] [.ref op] (fun ws9 => ∃ (hs : Nat → Nat) (pa : Nat) (pt : Nat) (f : Nat → Option Nat), (∀ k, k < 40 → f k = some (hs k)) ∧ ws9 = (sW hs zT ++ [(op, .inr (1, [.ref pa, .ref pt, .int 0, .int 0, .int 0, .int 0])), (pa, .inl (gC G, 80, .inl (fun _ => 0))), (pt, .inl (gS G, 40, .inr (.inr (.inr (.inr f)))))])) := by
  refine Rn.mk (by decide) rfl (Nat.le_of_ble_eq_true rfl) (fun pq eq sq mq bq tq cq ls A hr hlk hini hF hKy hZ hA hP hD hS hl => ?_)
  have hKx := hKy.1
  have hx := hF.1
  have hb := hF.2.1
  have hml := hF.2.2.1
  have hown : sq.vm.findClass RX1 = some mq.cls := hF.2.2.2.1
  have hts : ∀ w ∈ GW, w.before _ sq = true := hF.2.2.2.2
  have hK := hKx.1
  have hl : lv_has ls 2 [(0, .ref op)] := hl
  have hP : va_P G.1 vwCl [(op, .inr (1, [.null, .null, .int 0, .int 0, .int 0, .int 0]))] sq.heap := hP
  have hD : va_D A [(op, .inr (1, [.null, .null, .int 0, .int 0, .int 0, .int 0]))] := hD
  refine lv_aload_n hx hb dX1_init_0 rfl (lv_at hl 0 rfl) ?_
  refine W.objInit hx hb hown (hts _ mw_1_74) (hts _ mw_1_14) (hts _ mw_1_15) rfl (hml.trans hl.1.symm).symm rfl dX1_init_1 (Nat.le_of_ble_eq_true rfl) (Nat.le_of_ble_eq_true rfl) ?_
  refine W.eq (g2 := F0 mq 4 ls []) rfl ?_
  refine lv_aload_n hx hb dX1_init_4 rfl (lv_at hl 0 rfl) ?_
  refine lv_bipush (v := nI 80) hx hb dX1_init_5 (by decide) ?_
  refine n_newC hx hb hKy (hts _ mw_1_103) hP hD hS hA (N := 80) (by decide) (Nat.le_of_ble_eq_true rfl) (Nat.le_of_ble_eq_true rfl) dX1_init_7 (fun a1 H hP hD hS => ?_)
  have hP : va_P G.1 vwCl [(op, .inr (1, [.null, .null, .int 0, .int 0, .int 0, .int 0])), (a1, .inl (gC G, 80, .inl (fun _ => 0)))] H := hP
  have hD : va_D A [(op, .inr (1, [.null, .null, .int 0, .int 0, .int 0, .int 0])), (a1, .inl (gC G, 80, .inl (fun _ => 0)))] := hD
  refine va_putF (ci := 1) (v := .ref a1) (ty := .array .char) (C := RX1) (T := TX1) (N := 6) hx hb hts inGX1 tyX1 tyX1_ok nmX1 hown hK hP hD hS 0 rfl rfl 0 (by decide) (hts _ mw_1_104) (fun _ h9 => h9) rfl hini rfl (by decide +kernel) rfl rfl (Nat.le_of_ble_eq_true rfl) dX1_init_9 (fun H locs hP hD hS => ?_)
  have hP : va_P G.1 vwCl [(op, .inr (1, [.ref a1, .null, .int 0, .int 0, .int 0, .int 0])), (a1, .inl (gC G, 80, .inl (fun _ => 0)))] H := hP
  have hD : va_D A [(op, .inr (1, [.ref a1, .null, .int 0, .int 0, .int 0, .int 0])), (a1, .inl (gC G, 80, .inl (fun _ => 0)))] := hD
  refine lv_aload_n hx hb dX1_init_12 rfl (lv_at hl 0 rfl) ?_
  refine lv_bipush (v := nI 40) hx hb dX1_init_13 (by decide) ?_
  refine n_newS hx hb hown (hts _ mw_1_75) hKy hP hD hS hA (N := 40) (by decide) (Nat.le_of_ble_eq_true rfl) (Nat.le_of_ble_eq_true rfl) dX1_init_15 (fun a2 H hP hD hS => ?_)
  have hP : va_P G.1 vwCl [(op, .inr (1, [.ref a1, .null, .int 0, .int 0, .int 0, .int 0])), (a1, .inl (gC G, 80, .inl (fun _ => 0))), (a2, .inl (gS G, 40, .inr (.inr (.inr (.inr (fun _ => none))))))] H := hP
  have hD : va_D A [(op, .inr (1, [.ref a1, .null, .int 0, .int 0, .int 0, .int 0])), (a1, .inl (gC G, 80, .inl (fun _ => 0))), (a2, .inl (gS G, 40, .inr (.inr (.inr (.inr (fun _ => none))))))] := hD
  refine va_putF (ci := 1) (v := .ref a2) (ty := .array (.object "FoldedMonths$Step")) (C := RX1) (T := TX1) (N := 6) hx hb hts inGX1 tyX1 tyX1_ok nmX1 hown hK hP hD hS 0 rfl rfl 1 (by decide) (hts _ mw_1_105) (fun _ h9 => h9) rfl hini rfl (by decide +kernel) rfl rfl (Nat.le_of_ble_eq_true rfl) dX1_init_18 (fun H locs hP hD hS => ?_)
  have hP : va_P G.1 vwCl [(op, .inr (1, [.ref a1, .ref a2, .int 0, .int 0, .int 0, .int 0])), (a1, .inl (gC G, 80, .inl (fun _ => 0))), (a2, .inl (gS G, 40, .inr (.inr (.inr (.inr (fun _ => none))))))] H := hP
  have hD : va_D A [(op, .inr (1, [.ref a1, .ref a2, .int 0, .int 0, .int 0, .int 0])), (a1, .inl (gC G, 80, .inl (fun _ => 0))), (a2, .inl (gS G, 40, .inr (.inr (.inr (.inr (fun _ => none))))))] := hD
  refine lv_iconst (v := nI 0) hx hb dX1_init_21 (by decide) ?_
  refine lv_istore_n (lv' := [(1, .int (nI 0)), (0, .ref op)]) hx hb dX1_init_22 rfl hl (by decide) rfl (fun ls hl => ?_)
  refine wloopN 40 (fun k H locs ls => ∃ hs : Nat → Nat, lv_has ls 2 [(1, .int (nI k)), (0, .ref op)] ∧ va_P G.1 vwCl (sWk hs k ++ [(op, .inr (1, [.ref a1, .ref a2, .int 0, .int 0, .int 0, .int 0])), (a1, .inl (gC G, 80, .inl (fun _ => 0))), (a2, .inl (gS G, 40, .inr (.inr (.inr (.inr (fk hs k))))))]) H ∧ va_D A (sWk hs k ++ [(op, .inr (1, [.ref a1, .ref a2, .int 0, .int 0, .int 0, .int 0])), (a1, .inl (gC G, 80, .inl (fun _ => 0))), (a2, .inl (gS G, 40, .inr (.inr (.inr (.inr (fk hs k))))))]) ∧ va_S A sq.heap H locs) (fun k => 0 + 1 + 1 + k) (fun k => 0 + 80 + 40 + 5 * k) ?_ ?_ 0 (Nat.zero_le _) _ _ _ ⟨fun _ => 0, hl, by rw [fk_0]; exact hP, by rw [fk_0]; exact hD, hS⟩
  · intro x hx9 ih H locs ls hI
    obtain ⟨hs, hl, hP, hD, hS⟩ := hI
    refine lv_iload_n hx hb dX1_init_23 rfl (lv_at hl 0 rfl) ?_
    refine lv_aload_n hx hb dX1_init_24 rfl (lv_at hl 1 rfl) ?_
    refine va_get (ci := 1) (v := .ref a2) (C := RX1) (T := TX1) (N := 6) hx hb hts inGX1 hown hK hP.right 0 rfl rfl 1 (by decide) (hts _ mw_1_105) (fun _ h9 => h9) rfl dX1_init_25 ?_
    refine va_alen (v := nI 40) hx hb hK hP.right 2 4 rfl rfl rfl dX1_init_28 ?_
    refine z_ge hx hb (tgt := 51) ((x : Nat) : Int) 40 dX1_init_29 (by decide) (toI (by omega)) (by decide) (fun c_29 => absurd c_29 (by omega)) (fun c_29 => ?_)
    refine lv_aload_n hx hb dX1_init_32 rfl (lv_at hl 1 rfl) ?_
    refine va_get (ci := 1) (v := .ref a2) (C := RX1) (T := TX1) (N := 6) hx hb hts inGX1 hown hK hP.right 0 rfl rfl 1 (by decide) (hts _ mw_1_105) (fun _ h9 => h9) rfl dX1_init_33 ?_
    refine lv_iload_n hx hb dX1_init_36 rfl (lv_at hl 0 rfl) ?_
    refine va_new (ci := 2) (fs := [.int 0, .int 0, .int 0, .int 0, .int 0]) (C := RX2) (T := TX2) (N := 5) hx hb hts inGX2 tyX2 tyX2_ok hown (hts _ mw_1_75) (hts _ mw_1_77) (hts _ mw_1_4) hK hP hD hS hA rfl (fun j hj => by rcases (show j = 0 ∨ j = 1 ∨ j = 2 ∨ j = 3 ∨ j = 4 by omega) with rfl | rfl | rfl | rfl | rfl <;> rfl) (by show 0 + 1 + 1 + x + 1 ≤ 42; omega) (by show 0 + 80 + 40 + 5 * x + 5 ≤ 320; omega) dX1_init_37 (fun q H hP hD hS => ?_)
    rw [List.append_assoc] at hP hD
    have hP : va_P G.1 vwCl (sWk hs x ++ [(op, .inr (1, [.ref a1, .ref a2, .int 0, .int 0, .int 0, .int 0])), (a1, .inl (gC G, 80, .inl (fun _ => 0))), (a2, .inl (gS G, 40, .inr (.inr (.inr (.inr (fk hs x)))))), (q, .inr (2, [.int 0, .int 0, .int 0, .int 0, .int 0]))]) H := hP
    have hD : va_D A (sWk hs x ++ [(op, .inr (1, [.ref a1, .ref a2, .int 0, .int 0, .int 0, .int 0])), (a1, .inl (gC G, 80, .inl (fun _ => 0))), (a2, .inl (gS G, 40, .inr (.inr (.inr (.inr (fk hs x)))))), (q, .inr (2, [.int 0, .int 0, .int 0, .int 0, .int 0]))]) := hD
    refine lv_dup hx hb dX1_init_40 rfl ?_
    refine k_rnIN (As := []) (rest := [.ref q, .int (nI x), .ref a2]) (wr := sWk hs x ++ [(op, .inr (1, [.ref a1, .ref a2, .int 0, .int 0, .int 0, .int 0])), (a1, .inl (gC G, 80, .inl (fun _ => 0))), (a2, .inl (gS G, 40, .inr (.inr (.inr (.inr (fk hs x))))))]) hF (c_X2_init l G _ q) rfl hKx.2.1 mw_1_79 mw_1_4 mw_1_80 hd_X2_init ⟨Nat.le_of_ble_eq_true rfl, Nat.le_of_ble_eq_true rfl⟩ hKy hZ hS hP hD hA (pmF (F := sWk hs x) (pmI (wl := [(op, .inr (1, [.ref a1, .ref a2, .int 0, .int 0, .int 0, .int 0])), (a1, .inl (gC G, 80, .inl (fun _ => 0))), (a2, .inl (gS G, 40, .inr (.inr (.inr (.inr (fk hs x)))))), (q, .inr (2, [.int 0, .int 0, .int 0, .int 0, .int 0]))]) (wr := [(op, .inr (1, [.ref a1, .ref a2, .int 0, .int 0, .int 0, .int 0])), (a1, .inl (gC G, 80, .inl (fun _ => 0))), (a2, .inl (gS G, 40, .inr (.inr (.inr (.inr (fk hs x))))))]) (wc := [(q, .inr (2, [.int 0, .int 0, .int 0, .int 0, .int 0]))]) [0, 1, 2, 3] (by decide) rfl rfl)) rfl hl.1 rfl (Nat.le_of_ble_eq_true rfl) dX1_init_41 ⟨by show 0 + 1 + 1 + x + 1 + 0 ≤ 42; omega, by show 0 + 80 + 40 + 5 * x + 5 + 0 ≤ 320; omega⟩ (fun ws9 H locs hq9 hP hD hS => ?_)
    subst hq9
    rw [List.append_assoc] at hP hD
    have hP : va_P G.1 vwCl (sWk hs x ++ [(op, .inr (1, [.ref a1, .ref a2, .int 0, .int 0, .int 0, .int 0])), (a1, .inl (gC G, 80, .inl (fun _ => 0))), (a2, .inl (gS G, 40, .inr (.inr (.inr (.inr (fk hs x)))))), (q, .inr (2, [.int 0, .int 0, .int 0, .int 0, .int 0]))]) H := hP
    have hD : va_D A (sWk hs x ++ [(op, .inr (1, [.ref a1, .ref a2, .int 0, .int 0, .int 0, .int 0])), (a1, .inl (gC G, 80, .inl (fun _ => 0))), (a2, .inl (gS G, 40, .inr (.inr (.inr (.inr (fk hs x)))))), (q, .inr (2, [.int 0, .int 0, .int 0, .int 0, .int 0]))]) := hD
    refine n_aast hx hb hK hP hD hS ((sWk hs x).length + 2) 4 ((sWk hs x).length + 3) 2 (getF rfl) rfl (getF rfl) rfl (by omega) (by omega) dX1_init_44 (fun H locs hP hD hS => ?_)
    rw [setF] at hP hD
    have hP : va_P G.1 vwCl (sWk hs x ++ ([(op, .inr (1, [.ref a1, .ref a2, .int 0, .int 0, .int 0, .int 0])), (a1, .inl (gC G, 80, .inl (fun _ => 0))), (a2, .inl (gS G, 40, .inr (.inr (.inr (.inr (va_up (fk hs x) x (some q)))))))] ++ [(q, .inr (2, [.int 0, .int 0, .int 0, .int 0, .int 0]))])) H := hP
    have hD : va_D A (sWk hs x ++ ([(op, .inr (1, [.ref a1, .ref a2, .int 0, .int 0, .int 0, .int 0])), (a1, .inl (gC G, 80, .inl (fun _ => 0))), (a2, .inl (gS G, 40, .inr (.inr (.inr (.inr (va_up (fk hs x) x (some q)))))))] ++ [(q, .inr (2, [.int 0, .int 0, .int 0, .int 0, .int 0]))])) := hD
    rw [fk_s] at hP hD
    refine lv_iinc (v := nI (x + 1)) (lv' := [(1, .int (nI (x + 1))), (0, .ref op)]) hx hb dX1_init_45 hl (k := 0) rfl (nI_add _ _) (by decide) rfl (fun ls hl => ?_)
    refine lv_goto (tgt := 23) hx hb dX1_init_48 (by decide) ?_
    refine W.widen ?_ ?_ (ih H locs ls ⟨upn hs x q, hl, hP.pm sWk_in, hD.pm sWk_in, hS⟩)
    · show 0 + 1 + 1 + x + 1 + 0 ≤ 0 + 1 + 1 + (x + 1)
      omega
    · show 0 + 80 + 40 + 5 * x + 5 + 0 ≤ 0 + 80 + 40 + 5 * (x + 1)
      omega
  · intro H locs ls hI
    obtain ⟨hs, hl, hP, hD, hS⟩ := hI
    refine lv_iload_n hx hb dX1_init_23 rfl (lv_at hl 0 rfl) ?_
    refine lv_aload_n hx hb dX1_init_24 rfl (lv_at hl 1 rfl) ?_
    refine va_get (ci := 1) (v := .ref a2) (C := RX1) (T := TX1) (N := 6) hx hb hts inGX1 hown hK hP.right 0 rfl rfl 1 (by decide) (hts _ mw_1_105) (fun _ h9 => h9) rfl dX1_init_25 ?_
    refine va_alen (v := nI 40) hx hb hK hP.right 2 4 rfl rfl rfl dX1_init_28 ?_
    refine z_ge hx hb (tgt := 51) ((40 : Nat) : Int) 40 dX1_init_29 (by decide) (toI (by omega)) (by decide) (fun c_29 => ?_) (fun c_29 => absurd c_29 (by omega))
    exact e_nv hx hb hr hlk hP hD hS ⟨hs, a1, a2, fk hs 40, fun k hk => if_pos hk, rfl⟩ (Nat.le_of_ble_eq_true rfl) (Nat.le_of_ble_eq_true rfl) dX1_init_51
