/-! ===== the law's cases ===== -/
/-- between two calls -/
def LI (G : gT) (me hm : Nat) (s : State) (A : Nat → Prop) (b x : Nat) (H : Heap) (locs : List Loc) (ls : Array Slot) : Prop :=
  lv_has ls 4 [(3, .int (nI x)), (2, .ref hm), (1, .ref me), (0, .ref b)] ∧ ∃ (w1 w2 : va_W) (r : Nat → Int32) (c : Nat) (hr : Nat → Nat → Int32) (sv : Int32) (sr : Nat → Nat → Int32) (p : Nat → Int32) (n : Nat), Ok r c hr sv sr p n ∧ CP G me r c hr sv sr p n w1 ∧ MP G hm r c hr sv sr p n w2 ∧ va_P G.1 vwCl (w1 ++ w2) H ∧ va_D A (w1 ++ w2) ∧ va_S A s.heap H locs
section LAW
variable {p : Program} {l : Launch} {e : Env} {s : State} {m : MethodId} {below : List Frame} {meth : Method} {c : Code} {H : Heap} {locs : List Loc} {cells slots : Nat} {Q : State → Prop} {ls : Array Slot} {G : gT} {me hm b L x : Nat} {xs : Nat → Int32} {A : Nat → Prop}
theorem n_sld {R : Room} {args : Array Value} {rest : List Value} {pc k : Nat} {cc : ByteArray} (hx : p.tables.exec = Jvm.exec) (hb : c.code = cc) {H0 : Heap} (hX : va_X b L xs s H0) (hbl : b < H0.size) (hbA : ¬ A b) (hS : va_S A H0 H locs) (hk : k < L) (hL : L ≤ 2560) (hdg : decode cc pc = .ok (.iaload, 1))
    (kk : W p l e R s m args below meth c H locs cells slots Q (F0 m (pc + 1) ls (.int (xs k) :: rest))) : W p l e R s m args below meth c H locs cells slots Q (F0 m pc ls (.int (nI k) :: .ref b :: rest)) :=
  va_sld hx hb hX hbl hbA hS (vp_in_nI hk (by omega)) hdg (by rw [nI_clamp (by omega)]; exact kk)
set_option maxHeartbeats 4000000 in
set_option maxRecDepth 100000 in
theorem law_c0 (F : CallFix p m c code 4 s #[Value.ref b] GW R_law) (hKx : Kx G s) (hZ : Zs A s) (hA : ∀ q : Nat, s.heap.size ≤ q → A q) (hX : va_X b L xs s s.heap) (hbl : b < s.heap.size) (hbA : ¬ A b) (hL : L ≤ 2560) (hx5 : x + 5 ≤ L) (hf : cells ≤ room_1.cells ∧ slots ≤ room_1.slots) (hJ : ∀ (H : Heap) (locs : List Loc) (ls : Array Slot), LI G me hm s A b x H locs ls → W p l e room_1 s m #[Value.ref b] below meth c H locs cells slots Q (F0 m 963 ls [])) (hI : LI G me hm s A b x H locs ls) : W p l e room_1 s m #[Value.ref b] below meth c H locs cells slots Q (F0 m 148 ls []) := by
  obtain ⟨hl, w1, w2, r1, c1, g1, v1, t1, p1, n1, hok, hCP, hMP, hP, hD, hS⟩ := hI
  have hx := F.1
  have hb := F.2.1
  have hown : s.vm.findClass "FoldedMonthsLaw" = some m.cls := F.2.2.2.1
  have hts := F.2.2.2.2
  refine lv_aload_n hx hb dL_law_148 rfl (lv_at hl 2 rfl) ?_
  refine lv_aload_n hx hb dL_law_149 rfl (lv_at hl 3 rfl) ?_
  refine lv_iload_n hx hb dL_law_150 rfl (lv_at hl 0 rfl) ?_
  refine lv_iconst (v := nI 1) hx hb dL_law_151 (by decide) ?_
  refine n_iadd hx hb dL_law_152 ?_
  refine n_sld hx hb hX hbl hbA hS (k := x + 1) (by omega) hL dL_law_153 ?_
  refine lv_aload_n hx hb dL_law_154 rfl (lv_at hl 3 rfl) ?_
  refine lv_iload_n hx hb dL_law_155 rfl (lv_at hl 0 rfl) ?_
  refine lv_iconst (v := nI 2) hx hb dL_law_156 (by decide) ?_
  refine n_iadd hx hb dL_law_157 ?_
  refine n_sld hx hb hX hbl hbA hS (k := x + 2) (by omega) hL dL_law_158 ?_
  obtain ⟨res, r2, c2, g2, v2, t2, p2, n2, hok2, ⟨d1, hd1, hc1⟩, ⟨d2, hd2, hc2⟩⟩ := s_set l G me hm hok (xs (x + 1)) (xs (x + 2))
  obtain ⟨fs1, hf1⟩ := hCP.recv
  obtain ⟨fs2, hf2⟩ := hMP.recv
  refine k_rxV (ci := 3) (fs := fs1) (As := [.int (xs (x + 1)), .int (xs (x + 2))]) (rest := []) (wr := w2) F (hc1 _ _ hCP) ⟨_, rfl, rfl⟩ (List.mem_iff_getElem?.mp (List.mem_append_left _ hf1)) rfl mw_1_149 mw_1_150 mw_1_151 mw_1_1 mw_1_152 hd_X3_set ⟨by show d1 + 1 ≤ 13; omega, by show 8 + (3 + 11) + 40 * d1 ≤ 528; omega⟩ hKx hZ hS hP hD hA List.perm_append_comm rfl hl.1 rfl (Nat.le_of_ble_eq_true rfl) dL_law_159 hf (fun w3 H locs hCP2 hP hD hS => ?_)
  refine lv_aload_n hx hb dL_law_162 rfl (lv_at hl 1 rfl) ?_
  refine lv_aload_n hx hb dL_law_163 rfl (lv_at hl 3 rfl) ?_
  refine lv_iload_n hx hb dL_law_164 rfl (lv_at hl 0 rfl) ?_
  refine lv_iconst (v := nI 1) hx hb dL_law_165 (by decide) ?_
  refine n_iadd hx hb dL_law_166 ?_
  refine n_sld hx hb hX hbl hbA hS (k := x + 1) (by omega) hL dL_law_167 ?_
  refine lv_aload_n hx hb dL_law_168 rfl (lv_at hl 3 rfl) ?_
  refine lv_iload_n hx hb dL_law_169 rfl (lv_at hl 0 rfl) ?_
  refine lv_iconst (v := nI 2) hx hb dL_law_170 (by decide) ?_
  refine n_iadd hx hb dL_law_171 ?_
  refine n_sld hx hb hX hbl hbA hS (k := x + 2) (by omega) hL dL_law_172 ?_
  refine k_rxV (ci := 4) (fs := fs2) (As := [.int (xs (x + 1)), .int (xs (x + 2))]) (rest := [.int res]) (wr := w3) F (hc2 _ _ hMP) ⟨_, rfl, rfl⟩ (List.mem_iff_getElem?.mp (List.mem_append_left _ hf2)) rfl mw_3_86 mw_3_87 mw_3_88 mw_1_5 mw_3_89 hd_X4_set ⟨by show d2 + 1 ≤ 13; omega, by show 8 + (5 + 11) + 40 * d2 ≤ 528; omega⟩ hKx hZ hS hP hD hA List.perm_append_comm rfl hl.1 rfl (Nat.le_of_ble_eq_true rfl) dL_law_173 hf (fun w4 H locs hMP2 hP hD hS => ?_)
  refine z_eq hx hb (tgt := 963) res.toInt res.toInt dL_law_176 (by decide) rfl rfl (fun _ => ?_) (fun h9 => absurd rfl h9)
  exact hJ H locs ls ⟨hl, w3, w4, r2, c2, g2, v2, t2, p2, n2, hok2, hCP2, hMP2, hP, hD, hS⟩
set_option maxHeartbeats 4000000 in
set_option maxRecDepth 100000 in
theorem law_c1 (F : CallFix p m c code 4 s #[Value.ref b] GW R_law) (hKx : Kx G s) (hZ : Zs A s) (hA : ∀ q : Nat, s.heap.size ≤ q → A q) (hX : va_X b L xs s s.heap) (hbl : b < s.heap.size) (hbA : ¬ A b) (hL : L ≤ 2560) (hx5 : x + 5 ≤ L) (hf : cells ≤ room_1.cells ∧ slots ≤ room_1.slots) (hJ : ∀ (H : Heap) (locs : List Loc) (ls : Array Slot), LI G me hm s A b x H locs ls → W p l e room_1 s m #[Value.ref b] below meth c H locs cells slots Q (F0 m 963 ls [])) (hI : LI G me hm s A b x H locs ls) : W p l e room_1 s m #[Value.ref b] below meth c H locs cells slots Q (F0 m 181 ls []) := by
  obtain ⟨hl, w1, w2, r1, c1, g1, v1, t1, p1, n1, hok, hCP, hMP, hP, hD, hS⟩ := hI
  have hx := F.1
  have hb := F.2.1
  have hown : s.vm.findClass "FoldedMonthsLaw" = some m.cls := F.2.2.2.1
  have hts := F.2.2.2.2
  refine lv_aload_n hx hb dL_law_181 rfl (lv_at hl 2 rfl) ?_
  refine lv_aload_n hx hb dL_law_182 rfl (lv_at hl 3 rfl) ?_
  refine lv_iload_n hx hb dL_law_183 rfl (lv_at hl 0 rfl) ?_
  refine lv_iconst (v := nI 1) hx hb dL_law_184 (by decide) ?_
  refine n_iadd hx hb dL_law_185 ?_
  refine n_sld hx hb hX hbl hbA hS (k := x + 1) (by omega) hL dL_law_186 ?_
  obtain ⟨res, r2, c2, g2, v2, t2, p2, n2, hok2, ⟨d1, hd1, hc1⟩, ⟨d2, hd2, hc2⟩⟩ := s_pass l G me hm hok (xs (x + 1))
  obtain ⟨fs1, hf1⟩ := hCP.recv
  obtain ⟨fs2, hf2⟩ := hMP.recv
  refine k_rxV (ci := 3) (fs := fs1) (As := [.int (xs (x + 1))]) (rest := []) (wr := w2) F (hc1 _ _ hCP) ⟨_, rfl, rfl⟩ (List.mem_iff_getElem?.mp (List.mem_append_left _ hf1)) rfl mw_1_232 mw_1_233 mw_1_234 mw_1_1 mw_1_235 hd_X3_pass ⟨by show d1 + 1 ≤ 13; omega, by show 8 + (3 + 11) + 40 * d1 ≤ 528; omega⟩ hKx hZ hS hP hD hA List.perm_append_comm rfl hl.1 rfl (Nat.le_of_ble_eq_true rfl) dL_law_187 hf (fun w3 H locs hCP2 hP hD hS => ?_)
  refine lv_aload_n hx hb dL_law_190 rfl (lv_at hl 1 rfl) ?_
  refine lv_aload_n hx hb dL_law_191 rfl (lv_at hl 3 rfl) ?_
  refine lv_iload_n hx hb dL_law_192 rfl (lv_at hl 0 rfl) ?_
  refine lv_iconst (v := nI 1) hx hb dL_law_193 (by decide) ?_
  refine n_iadd hx hb dL_law_194 ?_
  refine n_sld hx hb hX hbl hbA hS (k := x + 1) (by omega) hL dL_law_195 ?_
  refine k_rxV (ci := 4) (fs := fs2) (As := [.int (xs (x + 1))]) (rest := [.int res]) (wr := w3) F (hc2 _ _ hMP) ⟨_, rfl, rfl⟩ (List.mem_iff_getElem?.mp (List.mem_append_left _ hf2)) rfl mw_3_135 mw_3_136 mw_3_137 mw_1_5 mw_3_138 hd_X4_pass ⟨by show d2 + 1 ≤ 13; omega, by show 8 + (3 + 11) + 40 * d2 ≤ 528; omega⟩ hKx hZ hS hP hD hA List.perm_append_comm rfl hl.1 rfl (Nat.le_of_ble_eq_true rfl) dL_law_196 hf (fun w4 H locs hMP2 hP hD hS => ?_)
  refine z_eq hx hb (tgt := 963) res.toInt res.toInt dL_law_199 (by decide) rfl rfl (fun _ => ?_) (fun h9 => absurd rfl h9)
  exact hJ H locs ls ⟨hl, w3, w4, r2, c2, g2, v2, t2, p2, n2, hok2, hCP2, hMP2, hP, hD, hS⟩
set_option maxHeartbeats 4000000 in
set_option maxRecDepth 100000 in
theorem law_c2 (F : CallFix p m c code 4 s #[Value.ref b] GW R_law) (hKx : Kx G s) (hZ : Zs A s) (hA : ∀ q : Nat, s.heap.size ≤ q → A q) (hX : va_X b L xs s s.heap) (hbl : b < s.heap.size) (hbA : ¬ A b) (hL : L ≤ 2560) (hx5 : x + 5 ≤ L) (hf : cells ≤ room_1.cells ∧ slots ≤ room_1.slots) (hJ : ∀ (H : Heap) (locs : List Loc) (ls : Array Slot), LI G me hm s A b x H locs ls → W p l e room_1 s m #[Value.ref b] below meth c H locs cells slots Q (F0 m 963 ls [])) (hI : LI G me hm s A b x H locs ls) : W p l e room_1 s m #[Value.ref b] below meth c H locs cells slots Q (F0 m 204 ls []) := by
  obtain ⟨hl, w1, w2, r1, c1, g1, v1, t1, p1, n1, hok, hCP, hMP, hP, hD, hS⟩ := hI
  have hx := F.1
  have hb := F.2.1
  have hown : s.vm.findClass "FoldedMonthsLaw" = some m.cls := F.2.2.2.1
  have hts := F.2.2.2.2
  refine lv_aload_n hx hb dL_law_204 rfl (lv_at hl 2 rfl) ?_
  refine lv_aload_n hx hb dL_law_205 rfl (lv_at hl 3 rfl) ?_
  refine lv_iload_n hx hb dL_law_206 rfl (lv_at hl 0 rfl) ?_
  refine lv_iconst (v := nI 1) hx hb dL_law_207 (by decide) ?_
  refine n_iadd hx hb dL_law_208 ?_
  refine n_sld hx hb hX hbl hbA hS (k := x + 1) (by omega) hL dL_law_209 ?_
  refine lv_aload_n hx hb dL_law_210 rfl (lv_at hl 3 rfl) ?_
  refine lv_iload_n hx hb dL_law_211 rfl (lv_at hl 0 rfl) ?_
  refine lv_iconst (v := nI 2) hx hb dL_law_212 (by decide) ?_
  refine n_iadd hx hb dL_law_213 ?_
  refine n_sld hx hb hX hbl hbA hS (k := x + 2) (by omega) hL dL_law_214 ?_
  refine lv_aload_n hx hb dL_law_215 rfl (lv_at hl 3 rfl) ?_
  refine lv_iload_n hx hb dL_law_216 rfl (lv_at hl 0 rfl) ?_
  refine lv_iconst (v := nI 3) hx hb dL_law_217 (by decide) ?_
  refine n_iadd hx hb dL_law_218 ?_
  refine n_sld hx hb hX hbl hbA hS (k := x + 3) (by omega) hL dL_law_219 ?_
  obtain ⟨res, r2, c2, g2, v2, t2, p2, n2, hok2, ⟨d1, hd1, hc1⟩, ⟨d2, hd2, hc2⟩⟩ := s_mark l G me hm hok (xs (x + 1)) (xs (x + 2)) (xs (x + 3))
  obtain ⟨fs1, hf1⟩ := hCP.recv
  obtain ⟨fs2, hf2⟩ := hMP.recv
  refine k_rxV (ci := 3) (fs := fs1) (As := [.int (xs (x + 1)), .int (xs (x + 2)), .int (xs (x + 3))]) (rest := []) (wr := w2) F (hc1 _ _ hCP) ⟨_, rfl, rfl⟩ (List.mem_iff_getElem?.mp (List.mem_append_left _ hf1)) rfl mw_2_16 mw_2_17 mw_2_18 mw_1_1 mw_2_19 hd_X3_mark ⟨by show d1 + 1 ≤ 13; omega, by show 8 + (4 + 11) + 40 * d1 ≤ 528; omega⟩ hKx hZ hS hP hD hA List.perm_append_comm rfl hl.1 rfl (Nat.le_of_ble_eq_true rfl) dL_law_220 hf (fun w3 H locs hCP2 hP hD hS => ?_)
  refine lv_aload_n hx hb dL_law_223 rfl (lv_at hl 1 rfl) ?_
  refine lv_aload_n hx hb dL_law_224 rfl (lv_at hl 3 rfl) ?_
  refine lv_iload_n hx hb dL_law_225 rfl (lv_at hl 0 rfl) ?_
  refine lv_iconst (v := nI 1) hx hb dL_law_226 (by decide) ?_
  refine n_iadd hx hb dL_law_227 ?_
  refine n_sld hx hb hX hbl hbA hS (k := x + 1) (by omega) hL dL_law_228 ?_
  refine lv_aload_n hx hb dL_law_229 rfl (lv_at hl 3 rfl) ?_
  refine lv_iload_n hx hb dL_law_230 rfl (lv_at hl 0 rfl) ?_
  refine lv_iconst (v := nI 2) hx hb dL_law_231 (by decide) ?_
  refine n_iadd hx hb dL_law_232 ?_
  refine n_sld hx hb hX hbl hbA hS (k := x + 2) (by omega) hL dL_law_233 ?_
  refine lv_aload_n hx hb dL_law_234 rfl (lv_at hl 3 rfl) ?_
  refine lv_iload_n hx hb dL_law_235 rfl (lv_at hl 0 rfl) ?_
  refine lv_iconst (v := nI 3) hx hb dL_law_236 (by decide) ?_
  refine n_iadd hx hb dL_law_237 ?_
  refine n_sld hx hb hX hbl hbA hS (k := x + 3) (by omega) hL dL_law_238 ?_
  refine k_rxV (ci := 4) (fs := fs2) (As := [.int (xs (x + 1)), .int (xs (x + 2)), .int (xs (x + 3))]) (rest := [.int res]) (wr := w3) F (hc2 _ _ hMP) ⟨_, rfl, rfl⟩ (List.mem_iff_getElem?.mp (List.mem_append_left _ hf2)) rfl mw_3_156 mw_3_157 mw_3_158 mw_1_5 mw_3_159 hd_X4_mark ⟨by show d2 + 1 ≤ 13; omega, by show 8 + (5 + 11) + 40 * d2 ≤ 528; omega⟩ hKx hZ hS hP hD hA List.perm_append_comm rfl hl.1 rfl (Nat.le_of_ble_eq_true rfl) dL_law_239 hf (fun w4 H locs hMP2 hP hD hS => ?_)
  refine z_eq hx hb (tgt := 963) res.toInt res.toInt dL_law_242 (by decide) rfl rfl (fun _ => ?_) (fun h9 => absurd rfl h9)
  exact hJ H locs ls ⟨hl, w3, w4, r2, c2, g2, v2, t2, p2, n2, hok2, hCP2, hMP2, hP, hD, hS⟩
set_option maxHeartbeats 4000000 in
set_option maxRecDepth 100000 in
theorem law_c3 (F : CallFix p m c code 4 s #[Value.ref b] GW R_law) (hKx : Kx G s) (hZ : Zs A s) (hA : ∀ q : Nat, s.heap.size ≤ q → A q) (hX : va_X b L xs s s.heap) (hbl : b < s.heap.size) (hbA : ¬ A b) (hL : L ≤ 2560) (hx5 : x + 5 ≤ L) (hf : cells ≤ room_1.cells ∧ slots ≤ room_1.slots) (hJ : ∀ (H : Heap) (locs : List Loc) (ls : Array Slot), LI G me hm s A b x H locs ls → W p l e room_1 s m #[Value.ref b] below meth c H locs cells slots Q (F0 m 963 ls [])) (hI : LI G me hm s A b x H locs ls) : W p l e room_1 s m #[Value.ref b] below meth c H locs cells slots Q (F0 m 247 ls []) := by
  obtain ⟨hl, w1, w2, r1, c1, g1, v1, t1, p1, n1, hok, hCP, hMP, hP, hD, hS⟩ := hI
  have hx := F.1
  have hb := F.2.1
  have hown : s.vm.findClass "FoldedMonthsLaw" = some m.cls := F.2.2.2.1
  have hts := F.2.2.2.2
  refine lv_aload_n hx hb dL_law_247 rfl (lv_at hl 2 rfl) ?_
  refine lv_aload_n hx hb dL_law_248 rfl (lv_at hl 3 rfl) ?_
  refine lv_iload_n hx hb dL_law_249 rfl (lv_at hl 0 rfl) ?_
  refine lv_iconst (v := nI 1) hx hb dL_law_250 (by decide) ?_
  refine n_iadd hx hb dL_law_251 ?_
  refine n_sld hx hb hX hbl hbA hS (k := x + 1) (by omega) hL dL_law_252 ?_
  refine lv_aload_n hx hb dL_law_253 rfl (lv_at hl 3 rfl) ?_
  refine lv_iload_n hx hb dL_law_254 rfl (lv_at hl 0 rfl) ?_
  refine lv_iconst (v := nI 2) hx hb dL_law_255 (by decide) ?_
  refine n_iadd hx hb dL_law_256 ?_
  refine n_sld hx hb hX hbl hbA hS (k := x + 2) (by omega) hL dL_law_257 ?_
  refine lv_aload_n hx hb dL_law_258 rfl (lv_at hl 3 rfl) ?_
  refine lv_iload_n hx hb dL_law_259 rfl (lv_at hl 0 rfl) ?_
  refine lv_iconst (v := nI 3) hx hb dL_law_260 (by decide) ?_
  refine n_iadd hx hb dL_law_261 ?_
  refine n_sld hx hb hX hbl hbA hS (k := x + 3) (by omega) hL dL_law_262 ?_
  obtain ⟨res, r2, c2, g2, v2, t2, p2, n2, hok2, ⟨d1, hd1, hc1⟩, ⟨d2, hd2, hc2⟩⟩ := s_clear l G me hm hok (xs (x + 1)) (xs (x + 2)) (xs (x + 3))
  obtain ⟨fs1, hf1⟩ := hCP.recv
  obtain ⟨fs2, hf2⟩ := hMP.recv
  refine k_rxV (ci := 3) (fs := fs1) (As := [.int (xs (x + 1)), .int (xs (x + 2)), .int (xs (x + 3))]) (rest := []) (wr := w2) F (hc1 _ _ hCP) ⟨_, rfl, rfl⟩ (List.mem_iff_getElem?.mp (List.mem_append_left _ hf1)) rfl mw_2_90 mw_2_91 mw_2_92 mw_1_1 mw_2_93 hd_X3_clear ⟨by show d1 + 1 ≤ 13; omega, by show 8 + (4 + 11) + 40 * d1 ≤ 528; omega⟩ hKx hZ hS hP hD hA List.perm_append_comm rfl hl.1 rfl (Nat.le_of_ble_eq_true rfl) dL_law_263 hf (fun w3 H locs hCP2 hP hD hS => ?_)
  refine lv_aload_n hx hb dL_law_266 rfl (lv_at hl 1 rfl) ?_
  refine lv_aload_n hx hb dL_law_267 rfl (lv_at hl 3 rfl) ?_
  refine lv_iload_n hx hb dL_law_268 rfl (lv_at hl 0 rfl) ?_
  refine lv_iconst (v := nI 1) hx hb dL_law_269 (by decide) ?_
  refine n_iadd hx hb dL_law_270 ?_
  refine n_sld hx hb hX hbl hbA hS (k := x + 1) (by omega) hL dL_law_271 ?_
  refine lv_aload_n hx hb dL_law_272 rfl (lv_at hl 3 rfl) ?_
  refine lv_iload_n hx hb dL_law_273 rfl (lv_at hl 0 rfl) ?_
  refine lv_iconst (v := nI 2) hx hb dL_law_274 (by decide) ?_
  refine n_iadd hx hb dL_law_275 ?_
  refine n_sld hx hb hX hbl hbA hS (k := x + 2) (by omega) hL dL_law_276 ?_
  refine lv_aload_n hx hb dL_law_277 rfl (lv_at hl 3 rfl) ?_
  refine lv_iload_n hx hb dL_law_278 rfl (lv_at hl 0 rfl) ?_
  refine lv_iconst (v := nI 3) hx hb dL_law_279 (by decide) ?_
  refine n_iadd hx hb dL_law_280 ?_
  refine n_sld hx hb hX hbl hbA hS (k := x + 3) (by omega) hL dL_law_281 ?_
  refine k_rxV (ci := 4) (fs := fs2) (As := [.int (xs (x + 1)), .int (xs (x + 2)), .int (xs (x + 3))]) (rest := [.int res]) (wr := w3) F (hc2 _ _ hMP) ⟨_, rfl, rfl⟩ (List.mem_iff_getElem?.mp (List.mem_append_left _ hf2)) rfl mw_3_200 mw_3_201 mw_3_202 mw_1_5 mw_3_203 hd_X4_clear ⟨by show d2 + 1 ≤ 13; omega, by show 8 + (5 + 11) + 40 * d2 ≤ 528; omega⟩ hKx hZ hS hP hD hA List.perm_append_comm rfl hl.1 rfl (Nat.le_of_ble_eq_true rfl) dL_law_282 hf (fun w4 H locs hMP2 hP hD hS => ?_)
  refine z_eq hx hb (tgt := 963) res.toInt res.toInt dL_law_285 (by decide) rfl rfl (fun _ => ?_) (fun h9 => absurd rfl h9)
  exact hJ H locs ls ⟨hl, w3, w4, r2, c2, g2, v2, t2, p2, n2, hok2, hCP2, hMP2, hP, hD, hS⟩
set_option maxHeartbeats 4000000 in
set_option maxRecDepth 100000 in
theorem law_c4 (F : CallFix p m c code 4 s #[Value.ref b] GW R_law) (hKx : Kx G s) (hZ : Zs A s) (hA : ∀ q : Nat, s.heap.size ≤ q → A q) (hX : va_X b L xs s s.heap) (hbl : b < s.heap.size) (hbA : ¬ A b) (hL : L ≤ 2560) (hx5 : x + 5 ≤ L) (hf : cells ≤ room_1.cells ∧ slots ≤ room_1.slots) (hJ : ∀ (H : Heap) (locs : List Loc) (ls : Array Slot), LI G me hm s A b x H locs ls → W p l e room_1 s m #[Value.ref b] below meth c H locs cells slots Q (F0 m 963 ls [])) (hI : LI G me hm s A b x H locs ls) : W p l e room_1 s m #[Value.ref b] below meth c H locs cells slots Q (F0 m 290 ls []) := by
  obtain ⟨hl, w1, w2, r1, c1, g1, v1, t1, p1, n1, hok, hCP, hMP, hP, hD, hS⟩ := hI
  have hx := F.1
  have hb := F.2.1
  have hown : s.vm.findClass "FoldedMonthsLaw" = some m.cls := F.2.2.2.1
  have hts := F.2.2.2.2
  refine lv_aload_n hx hb dL_law_290 rfl (lv_at hl 2 rfl) ?_
  refine lv_aload_n hx hb dL_law_291 rfl (lv_at hl 3 rfl) ?_
  refine lv_iload_n hx hb dL_law_292 rfl (lv_at hl 0 rfl) ?_
  refine lv_iconst (v := nI 1) hx hb dL_law_293 (by decide) ?_
  refine n_iadd hx hb dL_law_294 ?_
  refine n_sld hx hb hX hbl hbA hS (k := x + 1) (by omega) hL dL_law_295 ?_
  refine lv_aload_n hx hb dL_law_296 rfl (lv_at hl 3 rfl) ?_
  refine lv_iload_n hx hb dL_law_297 rfl (lv_at hl 0 rfl) ?_
  refine lv_iconst (v := nI 2) hx hb dL_law_298 (by decide) ?_
  refine n_iadd hx hb dL_law_299 ?_
  refine n_sld hx hb hX hbl hbA hS (k := x + 2) (by omega) hL dL_law_300 ?_
  refine lv_aload_n hx hb dL_law_301 rfl (lv_at hl 3 rfl) ?_
  refine lv_iload_n hx hb dL_law_302 rfl (lv_at hl 0 rfl) ?_
  refine lv_iconst (v := nI 3) hx hb dL_law_303 (by decide) ?_
  refine n_iadd hx hb dL_law_304 ?_
  refine n_sld hx hb hX hbl hbA hS (k := x + 3) (by omega) hL dL_law_305 ?_
  obtain ⟨res, r2, c2, g2, v2, t2, p2, n2, hok2, ⟨d1, hd1, hc1⟩, ⟨d2, hd2, hc2⟩⟩ := s_marks l G me hm hok (xs (x + 1)) (xs (x + 2)) (xs (x + 3))
  obtain ⟨fs1, hf1⟩ := hCP.recv
  obtain ⟨fs2, hf2⟩ := hMP.recv
  refine k_rxV (ci := 3) (fs := fs1) (As := [.int (xs (x + 1)), .int (xs (x + 2)), .int (xs (x + 3))]) (rest := []) (wr := w2) F (hc1 _ _ hCP) ⟨_, rfl, rfl⟩ (List.mem_iff_getElem?.mp (List.mem_append_left _ hf1)) rfl mw_2_94 mw_2_95 mw_2_96 mw_1_1 mw_2_97 hd_X3_marks ⟨by show d1 + 1 ≤ 13; omega, by show 8 + (9 + 11) + 40 * d1 ≤ 528; omega⟩ hKx hZ hS hP hD hA List.perm_append_comm rfl hl.1 rfl (Nat.le_of_ble_eq_true rfl) dL_law_306 hf (fun w3 H locs hCP2 hP hD hS => ?_)
  refine lv_aload_n hx hb dL_law_309 rfl (lv_at hl 1 rfl) ?_
  refine lv_aload_n hx hb dL_law_310 rfl (lv_at hl 3 rfl) ?_
  refine lv_iload_n hx hb dL_law_311 rfl (lv_at hl 0 rfl) ?_
  refine lv_iconst (v := nI 1) hx hb dL_law_312 (by decide) ?_
  refine n_iadd hx hb dL_law_313 ?_
  refine n_sld hx hb hX hbl hbA hS (k := x + 1) (by omega) hL dL_law_314 ?_
  refine lv_aload_n hx hb dL_law_315 rfl (lv_at hl 3 rfl) ?_
  refine lv_iload_n hx hb dL_law_316 rfl (lv_at hl 0 rfl) ?_
  refine lv_iconst (v := nI 2) hx hb dL_law_317 (by decide) ?_
  refine n_iadd hx hb dL_law_318 ?_
  refine n_sld hx hb hX hbl hbA hS (k := x + 2) (by omega) hL dL_law_319 ?_
  refine lv_aload_n hx hb dL_law_320 rfl (lv_at hl 3 rfl) ?_
  refine lv_iload_n hx hb dL_law_321 rfl (lv_at hl 0 rfl) ?_
  refine lv_iconst (v := nI 3) hx hb dL_law_322 (by decide) ?_
  refine n_iadd hx hb dL_law_323 ?_
  refine n_sld hx hb hX hbl hbA hS (k := x + 3) (by omega) hL dL_law_324 ?_
  refine k_rxV (ci := 4) (fs := fs2) (As := [.int (xs (x + 1)), .int (xs (x + 2)), .int (xs (x + 3))]) (rest := [.int res]) (wr := w3) F (hc2 _ _ hMP) ⟨_, rfl, rfl⟩ (List.mem_iff_getElem?.mp (List.mem_append_left _ hf2)) rfl mw_3_204 mw_3_205 mw_3_206 mw_1_5 mw_3_207 hd_X4_marks ⟨by show d2 + 1 ≤ 13; omega, by show 8 + (8 + 11) + 40 * d2 ≤ 528; omega⟩ hKx hZ hS hP hD hA List.perm_append_comm rfl hl.1 rfl (Nat.le_of_ble_eq_true rfl) dL_law_325 hf (fun w4 H locs hMP2 hP hD hS => ?_)
  refine z_eq hx hb (tgt := 963) res.toInt res.toInt dL_law_328 (by decide) rfl rfl (fun _ => ?_) (fun h9 => absurd rfl h9)
  exact hJ H locs ls ⟨hl, w3, w4, r2, c2, g2, v2, t2, p2, n2, hok2, hCP2, hMP2, hP, hD, hS⟩
set_option maxHeartbeats 4000000 in
set_option maxRecDepth 100000 in
theorem law_c5 (F : CallFix p m c code 4 s #[Value.ref b] GW R_law) (hKx : Kx G s) (hZ : Zs A s) (hA : ∀ q : Nat, s.heap.size ≤ q → A q) (hX : va_X b L xs s s.heap) (hbl : b < s.heap.size) (hbA : ¬ A b) (hL : L ≤ 2560) (hx5 : x + 5 ≤ L) (hf : cells ≤ room_1.cells ∧ slots ≤ room_1.slots) (hJ : ∀ (H : Heap) (locs : List Loc) (ls : Array Slot), LI G me hm s A b x H locs ls → W p l e room_1 s m #[Value.ref b] below meth c H locs cells slots Q (F0 m 963 ls [])) (hI : LI G me hm s A b x H locs ls) : W p l e room_1 s m #[Value.ref b] below meth c H locs cells slots Q (F0 m 333 ls []) := by
  obtain ⟨hl, w1, w2, r1, c1, g1, v1, t1, p1, n1, hok, hCP, hMP, hP, hD, hS⟩ := hI
  have hx := F.1
  have hb := F.2.1
  have hown : s.vm.findClass "FoldedMonthsLaw" = some m.cls := F.2.2.2.1
  have hts := F.2.2.2.2
  refine lv_aload_n hx hb dL_law_333 rfl (lv_at hl 2 rfl) ?_
  refine lv_aload_n hx hb dL_law_334 rfl (lv_at hl 3 rfl) ?_
  refine lv_iload_n hx hb dL_law_335 rfl (lv_at hl 0 rfl) ?_
  refine lv_iconst (v := nI 1) hx hb dL_law_336 (by decide) ?_
  refine n_iadd hx hb dL_law_337 ?_
  refine n_sld hx hb hX hbl hbA hS (k := x + 1) (by omega) hL dL_law_338 ?_
  refine lv_aload_n hx hb dL_law_339 rfl (lv_at hl 3 rfl) ?_
  refine lv_iload_n hx hb dL_law_340 rfl (lv_at hl 0 rfl) ?_
  refine lv_iconst (v := nI 2) hx hb dL_law_341 (by decide) ?_
  refine n_iadd hx hb dL_law_342 ?_
  refine n_sld hx hb hX hbl hbA hS (k := x + 2) (by omega) hL dL_law_343 ?_
  obtain ⟨res, r2, c2, g2, v2, t2, p2, n2, hok2, ⟨d1, hd1, hc1⟩, ⟨d2, hd2, hc2⟩⟩ := s_isMarked l G me hm hok (xs (x + 1)) (xs (x + 2))
  obtain ⟨fs1, hf1⟩ := hCP.recv
  obtain ⟨fs2, hf2⟩ := hMP.recv
  refine k_rxV (ci := 3) (fs := fs1) (As := [.int (xs (x + 1)), .int (xs (x + 2))]) (rest := []) (wr := w2) F (hc1 _ _ hCP) ⟨_, rfl, rfl⟩ (List.mem_iff_getElem?.mp (List.mem_append_left _ hf1)) rfl mw_2_109 mw_2_110 mw_2_111 mw_1_1 mw_2_112 hd_X3_isMarked ⟨by show d1 + 1 ≤ 13; omega, by show 8 + (4 + 11) + 40 * d1 ≤ 528; omega⟩ hKx hZ hS hP hD hA List.perm_append_comm rfl hl.1 rfl (Nat.le_of_ble_eq_true rfl) dL_law_344 hf (fun w3 H locs hCP2 hP hD hS => ?_)
  refine lv_aload_n hx hb dL_law_347 rfl (lv_at hl 1 rfl) ?_
  refine lv_aload_n hx hb dL_law_348 rfl (lv_at hl 3 rfl) ?_
  refine lv_iload_n hx hb dL_law_349 rfl (lv_at hl 0 rfl) ?_
  refine lv_iconst (v := nI 1) hx hb dL_law_350 (by decide) ?_
  refine n_iadd hx hb dL_law_351 ?_
  refine n_sld hx hb hX hbl hbA hS (k := x + 1) (by omega) hL dL_law_352 ?_
  refine lv_aload_n hx hb dL_law_353 rfl (lv_at hl 3 rfl) ?_
  refine lv_iload_n hx hb dL_law_354 rfl (lv_at hl 0 rfl) ?_
  refine lv_iconst (v := nI 2) hx hb dL_law_355 (by decide) ?_
  refine n_iadd hx hb dL_law_356 ?_
  refine n_sld hx hb hX hbl hbA hS (k := x + 2) (by omega) hL dL_law_357 ?_
  refine k_rxV (ci := 4) (fs := fs2) (As := [.int (xs (x + 1)), .int (xs (x + 2))]) (rest := [.int res]) (wr := w3) F (hc2 _ _ hMP) ⟨_, rfl, rfl⟩ (List.mem_iff_getElem?.mp (List.mem_append_left _ hf2)) rfl mw_3_216 mw_3_217 mw_3_218 mw_1_5 mw_3_219 hd_X4_isMarked ⟨by show d2 + 1 ≤ 13; omega, by show 8 + (4 + 11) + 40 * d2 ≤ 528; omega⟩ hKx hZ hS hP hD hA List.perm_append_comm rfl hl.1 rfl (Nat.le_of_ble_eq_true rfl) dL_law_358 hf (fun w4 H locs hMP2 hP hD hS => ?_)
  refine z_eq hx hb (tgt := 963) res.toInt res.toInt dL_law_361 (by decide) rfl rfl (fun _ => ?_) (fun h9 => absurd rfl h9)
  exact hJ H locs ls ⟨hl, w3, w4, r2, c2, g2, v2, t2, p2, n2, hok2, hCP2, hMP2, hP, hD, hS⟩
set_option maxHeartbeats 4000000 in
set_option maxRecDepth 100000 in
theorem law_c6 (F : CallFix p m c code 4 s #[Value.ref b] GW R_law) (hKx : Kx G s) (hZ : Zs A s) (hA : ∀ q : Nat, s.heap.size ≤ q → A q) (hX : va_X b L xs s s.heap) (hbl : b < s.heap.size) (hbA : ¬ A b) (hL : L ≤ 2560) (hx5 : x + 5 ≤ L) (hf : cells ≤ room_1.cells ∧ slots ≤ room_1.slots) (hJ : ∀ (H : Heap) (locs : List Loc) (ls : Array Slot), LI G me hm s A b x H locs ls → W p l e room_1 s m #[Value.ref b] below meth c H locs cells slots Q (F0 m 963 ls [])) (hI : LI G me hm s A b x H locs ls) : W p l e room_1 s m #[Value.ref b] below meth c H locs cells slots Q (F0 m 366 ls []) := by
  obtain ⟨hl, w1, w2, r1, c1, g1, v1, t1, p1, n1, hok, hCP, hMP, hP, hD, hS⟩ := hI
  have hx := F.1
  have hb := F.2.1
  have hown : s.vm.findClass "FoldedMonthsLaw" = some m.cls := F.2.2.2.1
  have hts := F.2.2.2.2
  refine lv_aload_n hx hb dL_law_366 rfl (lv_at hl 2 rfl) ?_
  refine lv_aload_n hx hb dL_law_367 rfl (lv_at hl 3 rfl) ?_
  refine lv_iload_n hx hb dL_law_368 rfl (lv_at hl 0 rfl) ?_
  refine lv_iconst (v := nI 1) hx hb dL_law_369 (by decide) ?_
  refine n_iadd hx hb dL_law_370 ?_
  refine n_sld hx hb hX hbl hbA hS (k := x + 1) (by omega) hL dL_law_371 ?_
  refine lv_aload_n hx hb dL_law_372 rfl (lv_at hl 3 rfl) ?_
  refine lv_iload_n hx hb dL_law_373 rfl (lv_at hl 0 rfl) ?_
  refine lv_iconst (v := nI 2) hx hb dL_law_374 (by decide) ?_
  refine n_iadd hx hb dL_law_375 ?_
  refine n_sld hx hb hX hbl hbA hS (k := x + 2) (by omega) hL dL_law_376 ?_
  refine lv_aload_n hx hb dL_law_377 rfl (lv_at hl 3 rfl) ?_
  refine lv_iload_n hx hb dL_law_378 rfl (lv_at hl 0 rfl) ?_
  refine lv_iconst (v := nI 3) hx hb dL_law_379 (by decide) ?_
  refine n_iadd hx hb dL_law_380 ?_
  refine n_sld hx hb hX hbl hbA hS (k := x + 3) (by omega) hL dL_law_381 ?_
  refine lv_aload_n hx hb dL_law_382 rfl (lv_at hl 3 rfl) ?_
  refine lv_iload_n hx hb dL_law_383 rfl (lv_at hl 0 rfl) ?_
  refine lv_iconst (v := nI 4) hx hb dL_law_384 (by decide) ?_
  refine n_iadd hx hb dL_law_385 ?_
  refine n_sld hx hb hX hbl hbA hS (k := x + 4) (by omega) hL dL_law_386 ?_
  obtain ⟨res, r2, c2, g2, v2, t2, p2, n2, hok2, ⟨d1, hd1, hc1⟩, ⟨d2, hd2, hc2⟩⟩ := s_both l G me hm hok (xs (x + 1)) (xs (x + 2)) (xs (x + 3)) (xs (x + 4))
  obtain ⟨fs1, hf1⟩ := hCP.recv
  obtain ⟨fs2, hf2⟩ := hMP.recv
  refine k_rxV (ci := 3) (fs := fs1) (As := [.int (xs (x + 1)), .int (xs (x + 2)), .int (xs (x + 3)), .int (xs (x + 4))]) (rest := []) (wr := w2) F (hc1 _ _ hCP) ⟨_, rfl, rfl⟩ (List.mem_iff_getElem?.mp (List.mem_append_left _ hf1)) rfl mw_2_116 mw_2_117 mw_2_118 mw_1_1 mw_2_119 hd_X3_both ⟨by show d1 + 1 ≤ 13; omega, by show 8 + (10 + 11) + 40 * d1 ≤ 528; omega⟩ hKx hZ hS hP hD hA List.perm_append_comm rfl hl.1 rfl (Nat.le_of_ble_eq_true rfl) dL_law_387 hf (fun w3 H locs hCP2 hP hD hS => ?_)
  refine lv_aload_n hx hb dL_law_390 rfl (lv_at hl 1 rfl) ?_
  refine lv_aload_n hx hb dL_law_391 rfl (lv_at hl 3 rfl) ?_
  refine lv_iload_n hx hb dL_law_392 rfl (lv_at hl 0 rfl) ?_
  refine lv_iconst (v := nI 1) hx hb dL_law_393 (by decide) ?_
  refine n_iadd hx hb dL_law_394 ?_
  refine n_sld hx hb hX hbl hbA hS (k := x + 1) (by omega) hL dL_law_395 ?_
  refine lv_aload_n hx hb dL_law_396 rfl (lv_at hl 3 rfl) ?_
  refine lv_iload_n hx hb dL_law_397 rfl (lv_at hl 0 rfl) ?_
  refine lv_iconst (v := nI 2) hx hb dL_law_398 (by decide) ?_
  refine n_iadd hx hb dL_law_399 ?_
  refine n_sld hx hb hX hbl hbA hS (k := x + 2) (by omega) hL dL_law_400 ?_
  refine lv_aload_n hx hb dL_law_401 rfl (lv_at hl 3 rfl) ?_
  refine lv_iload_n hx hb dL_law_402 rfl (lv_at hl 0 rfl) ?_
  refine lv_iconst (v := nI 3) hx hb dL_law_403 (by decide) ?_
  refine n_iadd hx hb dL_law_404 ?_
  refine n_sld hx hb hX hbl hbA hS (k := x + 3) (by omega) hL dL_law_405 ?_
  refine lv_aload_n hx hb dL_law_406 rfl (lv_at hl 3 rfl) ?_
  refine lv_iload_n hx hb dL_law_407 rfl (lv_at hl 0 rfl) ?_
  refine lv_iconst (v := nI 4) hx hb dL_law_408 (by decide) ?_
  refine n_iadd hx hb dL_law_409 ?_
  refine n_sld hx hb hX hbl hbA hS (k := x + 4) (by omega) hL dL_law_410 ?_
  refine k_rxV (ci := 4) (fs := fs2) (As := [.int (xs (x + 1)), .int (xs (x + 2)), .int (xs (x + 3)), .int (xs (x + 4))]) (rest := [.int res]) (wr := w3) F (hc2 _ _ hMP) ⟨_, rfl, rfl⟩ (List.mem_iff_getElem?.mp (List.mem_append_left _ hf2)) rfl mw_3_220 mw_3_221 mw_3_222 mw_1_5 mw_3_223 hd_X4_both ⟨by show d2 + 1 ≤ 13; omega, by show 8 + (8 + 11) + 40 * d2 ≤ 528; omega⟩ hKx hZ hS hP hD hA List.perm_append_comm rfl hl.1 rfl (Nat.le_of_ble_eq_true rfl) dL_law_411 hf (fun w4 H locs hMP2 hP hD hS => ?_)
  refine z_eq hx hb (tgt := 963) res.toInt res.toInt dL_law_414 (by decide) rfl rfl (fun _ => ?_) (fun h9 => absurd rfl h9)
  exact hJ H locs ls ⟨hl, w3, w4, r2, c2, g2, v2, t2, p2, n2, hok2, hCP2, hMP2, hP, hD, hS⟩
set_option maxHeartbeats 4000000 in
set_option maxRecDepth 100000 in
theorem law_c7 (F : CallFix p m c code 4 s #[Value.ref b] GW R_law) (hKx : Kx G s) (hZ : Zs A s) (hA : ∀ q : Nat, s.heap.size ≤ q → A q) (hX : va_X b L xs s s.heap) (hbl : b < s.heap.size) (hbA : ¬ A b) (hL : L ≤ 2560) (hx5 : x + 5 ≤ L) (hf : cells ≤ room_1.cells ∧ slots ≤ room_1.slots) (hJ : ∀ (H : Heap) (locs : List Loc) (ls : Array Slot), LI G me hm s A b x H locs ls → W p l e room_1 s m #[Value.ref b] below meth c H locs cells slots Q (F0 m 963 ls [])) (hI : LI G me hm s A b x H locs ls) : W p l e room_1 s m #[Value.ref b] below meth c H locs cells slots Q (F0 m 419 ls []) := by
  obtain ⟨hl, w1, w2, r1, c1, g1, v1, t1, p1, n1, hok, hCP, hMP, hP, hD, hS⟩ := hI
  have hx := F.1
  have hb := F.2.1
  have hown : s.vm.findClass "FoldedMonthsLaw" = some m.cls := F.2.2.2.1
  have hts := F.2.2.2.2
  refine lv_aload_n hx hb dL_law_419 rfl (lv_at hl 2 rfl) ?_
  refine lv_aload_n hx hb dL_law_420 rfl (lv_at hl 3 rfl) ?_
  refine lv_iload_n hx hb dL_law_421 rfl (lv_at hl 0 rfl) ?_
  refine lv_iconst (v := nI 1) hx hb dL_law_422 (by decide) ?_
  refine n_iadd hx hb dL_law_423 ?_
  refine n_sld hx hb hX hbl hbA hS (k := x + 1) (by omega) hL dL_law_424 ?_
  refine lv_aload_n hx hb dL_law_425 rfl (lv_at hl 3 rfl) ?_
  refine lv_iload_n hx hb dL_law_426 rfl (lv_at hl 0 rfl) ?_
  refine lv_iconst (v := nI 2) hx hb dL_law_427 (by decide) ?_
  refine n_iadd hx hb dL_law_428 ?_
  refine n_sld hx hb hX hbl hbA hS (k := x + 2) (by omega) hL dL_law_429 ?_
  refine lv_aload_n hx hb dL_law_430 rfl (lv_at hl 3 rfl) ?_
  refine lv_iload_n hx hb dL_law_431 rfl (lv_at hl 0 rfl) ?_
  refine lv_iconst (v := nI 3) hx hb dL_law_432 (by decide) ?_
  refine n_iadd hx hb dL_law_433 ?_
  refine n_sld hx hb hX hbl hbA hS (k := x + 3) (by omega) hL dL_law_434 ?_
  obtain ⟨res, r2, c2, g2, v2, t2, p2, n2, hok2, ⟨d1, hd1, hc1⟩, ⟨d2, hd2, hc2⟩⟩ := s_crowded l G me hm hok (xs (x + 1)) (xs (x + 2)) (xs (x + 3))
  obtain ⟨fs1, hf1⟩ := hCP.recv
  obtain ⟨fs2, hf2⟩ := hMP.recv
  refine k_rxV (ci := 3) (fs := fs1) (As := [.int (xs (x + 1)), .int (xs (x + 2)), .int (xs (x + 3))]) (rest := []) (wr := w2) F (hc1 _ _ hCP) ⟨_, rfl, rfl⟩ (List.mem_iff_getElem?.mp (List.mem_append_left _ hf1)) rfl mw_2_125 mw_2_126 mw_2_127 mw_1_1 mw_2_128 hd_X3_crowded ⟨by show d1 + 1 ≤ 13; omega, by show 8 + (8 + 11) + 40 * d1 ≤ 528; omega⟩ hKx hZ hS hP hD hA List.perm_append_comm rfl hl.1 rfl (Nat.le_of_ble_eq_true rfl) dL_law_435 hf (fun w3 H locs hCP2 hP hD hS => ?_)
  refine lv_aload_n hx hb dL_law_438 rfl (lv_at hl 1 rfl) ?_
  refine lv_aload_n hx hb dL_law_439 rfl (lv_at hl 3 rfl) ?_
  refine lv_iload_n hx hb dL_law_440 rfl (lv_at hl 0 rfl) ?_
  refine lv_iconst (v := nI 1) hx hb dL_law_441 (by decide) ?_
  refine n_iadd hx hb dL_law_442 ?_
  refine n_sld hx hb hX hbl hbA hS (k := x + 1) (by omega) hL dL_law_443 ?_
  refine lv_aload_n hx hb dL_law_444 rfl (lv_at hl 3 rfl) ?_
  refine lv_iload_n hx hb dL_law_445 rfl (lv_at hl 0 rfl) ?_
  refine lv_iconst (v := nI 2) hx hb dL_law_446 (by decide) ?_
  refine n_iadd hx hb dL_law_447 ?_
  refine n_sld hx hb hX hbl hbA hS (k := x + 2) (by omega) hL dL_law_448 ?_
  refine lv_aload_n hx hb dL_law_449 rfl (lv_at hl 3 rfl) ?_
  refine lv_iload_n hx hb dL_law_450 rfl (lv_at hl 0 rfl) ?_
  refine lv_iconst (v := nI 3) hx hb dL_law_451 (by decide) ?_
  refine n_iadd hx hb dL_law_452 ?_
  refine n_sld hx hb hX hbl hbA hS (k := x + 3) (by omega) hL dL_law_453 ?_
  refine k_rxV (ci := 4) (fs := fs2) (As := [.int (xs (x + 1)), .int (xs (x + 2)), .int (xs (x + 3))]) (rest := [.int res]) (wr := w3) F (hc2 _ _ hMP) ⟨_, rfl, rfl⟩ (List.mem_iff_getElem?.mp (List.mem_append_left _ hf2)) rfl mw_3_224 mw_3_225 mw_3_226 mw_1_5 mw_3_227 hd_X4_crowded ⟨by show d2 + 1 ≤ 13; omega, by show 8 + (10 + 11) + 40 * d2 ≤ 528; omega⟩ hKx hZ hS hP hD hA List.perm_append_comm rfl hl.1 rfl (Nat.le_of_ble_eq_true rfl) dL_law_454 hf (fun w4 H locs hMP2 hP hD hS => ?_)
  refine z_eq hx hb (tgt := 963) res.toInt res.toInt dL_law_457 (by decide) rfl rfl (fun _ => ?_) (fun h9 => absurd rfl h9)
  exact hJ H locs ls ⟨hl, w3, w4, r2, c2, g2, v2, t2, p2, n2, hok2, hCP2, hMP2, hP, hD, hS⟩
set_option maxHeartbeats 4000000 in
set_option maxRecDepth 100000 in
theorem law_c8 (F : CallFix p m c code 4 s #[Value.ref b] GW R_law) (hKx : Kx G s) (hZ : Zs A s) (hA : ∀ q : Nat, s.heap.size ≤ q → A q) (hX : va_X b L xs s s.heap) (hbl : b < s.heap.size) (hbA : ¬ A b) (hL : L ≤ 2560) (hx5 : x + 5 ≤ L) (hf : cells ≤ room_1.cells ∧ slots ≤ room_1.slots) (hJ : ∀ (H : Heap) (locs : List Loc) (ls : Array Slot), LI G me hm s A b x H locs ls → W p l e room_1 s m #[Value.ref b] below meth c H locs cells slots Q (F0 m 963 ls [])) (hI : LI G me hm s A b x H locs ls) : W p l e room_1 s m #[Value.ref b] below meth c H locs cells slots Q (F0 m 462 ls []) := by
  obtain ⟨hl, w1, w2, r1, c1, g1, v1, t1, p1, n1, hok, hCP, hMP, hP, hD, hS⟩ := hI
  have hx := F.1
  have hb := F.2.1
  have hown : s.vm.findClass "FoldedMonthsLaw" = some m.cls := F.2.2.2.1
  have hts := F.2.2.2.2
  refine lv_aload_n hx hb dL_law_462 rfl (lv_at hl 2 rfl) ?_
  refine lv_aload_n hx hb dL_law_463 rfl (lv_at hl 3 rfl) ?_
  refine lv_iload_n hx hb dL_law_464 rfl (lv_at hl 0 rfl) ?_
  refine lv_iconst (v := nI 1) hx hb dL_law_465 (by decide) ?_
  refine n_iadd hx hb dL_law_466 ?_
  refine n_sld hx hb hX hbl hbA hS (k := x + 1) (by omega) hL dL_law_467 ?_
  refine lv_aload_n hx hb dL_law_468 rfl (lv_at hl 3 rfl) ?_
  refine lv_iload_n hx hb dL_law_469 rfl (lv_at hl 0 rfl) ?_
  refine lv_iconst (v := nI 2) hx hb dL_law_470 (by decide) ?_
  refine n_iadd hx hb dL_law_471 ?_
  refine n_sld hx hb hX hbl hbA hS (k := x + 2) (by omega) hL dL_law_472 ?_
  refine lv_aload_n hx hb dL_law_473 rfl (lv_at hl 3 rfl) ?_
  refine lv_iload_n hx hb dL_law_474 rfl (lv_at hl 0 rfl) ?_
  refine lv_iconst (v := nI 3) hx hb dL_law_475 (by decide) ?_
  refine n_iadd hx hb dL_law_476 ?_
  refine n_sld hx hb hX hbl hbA hS (k := x + 3) (by omega) hL dL_law_477 ?_
  refine lv_aload_n hx hb dL_law_478 rfl (lv_at hl 3 rfl) ?_
  refine lv_iload_n hx hb dL_law_479 rfl (lv_at hl 0 rfl) ?_
  refine lv_iconst (v := nI 4) hx hb dL_law_480 (by decide) ?_
  refine n_iadd hx hb dL_law_481 ?_
  refine n_sld hx hb hX hbl hbA hS (k := x + 4) (by omega) hL dL_law_482 ?_
  obtain ⟨res, r2, c2, g2, v2, t2, p2, n2, hok2, ⟨d1, hd1, hc1⟩, ⟨d2, hd2, hc2⟩⟩ := s_longest l G me hm hok (xs (x + 1)) (xs (x + 2)) (xs (x + 3)) (xs (x + 4))
  obtain ⟨fs1, hf1⟩ := hCP.recv
  obtain ⟨fs2, hf2⟩ := hMP.recv
  refine k_rxV (ci := 3) (fs := fs1) (As := [.int (xs (x + 1)), .int (xs (x + 2)), .int (xs (x + 3)), .int (xs (x + 4))]) (rest := []) (wr := w2) F (hc1 _ _ hCP) ⟨_, rfl, rfl⟩ (List.mem_iff_getElem?.mp (List.mem_append_left _ hf1)) rfl mw_2_138 mw_2_139 mw_2_140 mw_1_1 mw_2_141 hd_X3_longest ⟨by show d1 + 1 ≤ 13; omega, by show 8 + (10 + 11) + 40 * d1 ≤ 528; omega⟩ hKx hZ hS hP hD hA List.perm_append_comm rfl hl.1 rfl (Nat.le_of_ble_eq_true rfl) dL_law_483 hf (fun w3 H locs hCP2 hP hD hS => ?_)
  refine lv_aload_n hx hb dL_law_486 rfl (lv_at hl 1 rfl) ?_
  refine lv_aload_n hx hb dL_law_487 rfl (lv_at hl 3 rfl) ?_
  refine lv_iload_n hx hb dL_law_488 rfl (lv_at hl 0 rfl) ?_
  refine lv_iconst (v := nI 1) hx hb dL_law_489 (by decide) ?_
  refine n_iadd hx hb dL_law_490 ?_
  refine n_sld hx hb hX hbl hbA hS (k := x + 1) (by omega) hL dL_law_491 ?_
  refine lv_aload_n hx hb dL_law_492 rfl (lv_at hl 3 rfl) ?_
  refine lv_iload_n hx hb dL_law_493 rfl (lv_at hl 0 rfl) ?_
  refine lv_iconst (v := nI 2) hx hb dL_law_494 (by decide) ?_
  refine n_iadd hx hb dL_law_495 ?_
  refine n_sld hx hb hX hbl hbA hS (k := x + 2) (by omega) hL dL_law_496 ?_
  refine lv_aload_n hx hb dL_law_497 rfl (lv_at hl 3 rfl) ?_
  refine lv_iload_n hx hb dL_law_498 rfl (lv_at hl 0 rfl) ?_
  refine lv_iconst (v := nI 3) hx hb dL_law_499 (by decide) ?_
  refine n_iadd hx hb dL_law_500 ?_
  refine n_sld hx hb hX hbl hbA hS (k := x + 3) (by omega) hL dL_law_501 ?_
  refine lv_aload_n hx hb dL_law_502 rfl (lv_at hl 3 rfl) ?_
  refine lv_iload_n hx hb dL_law_503 rfl (lv_at hl 0 rfl) ?_
  refine lv_iconst (v := nI 4) hx hb dL_law_504 (by decide) ?_
  refine n_iadd hx hb dL_law_505 ?_
  refine n_sld hx hb hX hbl hbA hS (k := x + 4) (by omega) hL dL_law_506 ?_
  refine k_rxV (ci := 4) (fs := fs2) (As := [.int (xs (x + 1)), .int (xs (x + 2)), .int (xs (x + 3)), .int (xs (x + 4))]) (rest := [.int res]) (wr := w3) F (hc2 _ _ hMP) ⟨_, rfl, rfl⟩ (List.mem_iff_getElem?.mp (List.mem_append_left _ hf2)) rfl mw_3_229 mw_3_230 mw_3_231 mw_1_5 mw_3_232 hd_X4_longest ⟨by show d2 + 1 ≤ 13; omega, by show 8 + (11 + 11) + 40 * d2 ≤ 528; omega⟩ hKx hZ hS hP hD hA List.perm_append_comm rfl hl.1 rfl (Nat.le_of_ble_eq_true rfl) dL_law_507 hf (fun w4 H locs hMP2 hP hD hS => ?_)
  refine z_eq hx hb (tgt := 963) res.toInt res.toInt dL_law_510 (by decide) rfl rfl (fun _ => ?_) (fun h9 => absurd rfl h9)
  exact hJ H locs ls ⟨hl, w3, w4, r2, c2, g2, v2, t2, p2, n2, hok2, hCP2, hMP2, hP, hD, hS⟩
set_option maxHeartbeats 4000000 in
set_option maxRecDepth 100000 in
theorem law_c9 (F : CallFix p m c code 4 s #[Value.ref b] GW R_law) (hKx : Kx G s) (hZ : Zs A s) (hA : ∀ q : Nat, s.heap.size ≤ q → A q) (hX : va_X b L xs s s.heap) (hbl : b < s.heap.size) (hbA : ¬ A b) (hL : L ≤ 2560) (hx5 : x + 5 ≤ L) (hf : cells ≤ room_1.cells ∧ slots ≤ room_1.slots) (hJ : ∀ (H : Heap) (locs : List Loc) (ls : Array Slot), LI G me hm s A b x H locs ls → W p l e room_1 s m #[Value.ref b] below meth c H locs cells slots Q (F0 m 963 ls [])) (hI : LI G me hm s A b x H locs ls) : W p l e room_1 s m #[Value.ref b] below meth c H locs cells slots Q (F0 m 515 ls []) := by
  obtain ⟨hl, w1, w2, r1, c1, g1, v1, t1, p1, n1, hok, hCP, hMP, hP, hD, hS⟩ := hI
  have hx := F.1
  have hb := F.2.1
  have hown : s.vm.findClass "FoldedMonthsLaw" = some m.cls := F.2.2.2.1
  have hts := F.2.2.2.2
  refine lv_aload_n hx hb dL_law_515 rfl (lv_at hl 2 rfl) ?_
  refine lv_aload_n hx hb dL_law_516 rfl (lv_at hl 3 rfl) ?_
  refine lv_iload_n hx hb dL_law_517 rfl (lv_at hl 0 rfl) ?_
  refine lv_iconst (v := nI 1) hx hb dL_law_518 (by decide) ?_
  refine n_iadd hx hb dL_law_519 ?_
  refine n_sld hx hb hX hbl hbA hS (k := x + 1) (by omega) hL dL_law_520 ?_
  refine lv_aload_n hx hb dL_law_521 rfl (lv_at hl 3 rfl) ?_
  refine lv_iload_n hx hb dL_law_522 rfl (lv_at hl 0 rfl) ?_
  refine lv_iconst (v := nI 2) hx hb dL_law_523 (by decide) ?_
  refine n_iadd hx hb dL_law_524 ?_
  refine n_sld hx hb hX hbl hbA hS (k := x + 2) (by omega) hL dL_law_525 ?_
  obtain ⟨res, r2, c2, g2, v2, t2, p2, n2, hok2, ⟨d1, hd1, hc1⟩, ⟨d2, hd2, hc2⟩⟩ := s_nextMark l G me hm hok (xs (x + 1)) (xs (x + 2))
  obtain ⟨fs1, hf1⟩ := hCP.recv
  obtain ⟨fs2, hf2⟩ := hMP.recv
  refine k_rxV (ci := 3) (fs := fs1) (As := [.int (xs (x + 1)), .int (xs (x + 2))]) (rest := []) (wr := w2) F (hc1 _ _ hCP) ⟨_, rfl, rfl⟩ (List.mem_iff_getElem?.mp (List.mem_append_left _ hf1)) rfl mw_2_151 mw_2_152 mw_2_153 mw_1_1 mw_2_154 hd_X3_nextMark ⟨by show d1 + 1 ≤ 13; omega, by show 8 + (6 + 11) + 40 * d1 ≤ 528; omega⟩ hKx hZ hS hP hD hA List.perm_append_comm rfl hl.1 rfl (Nat.le_of_ble_eq_true rfl) dL_law_526 hf (fun w3 H locs hCP2 hP hD hS => ?_)
  refine lv_aload_n hx hb dL_law_529 rfl (lv_at hl 1 rfl) ?_
  refine lv_aload_n hx hb dL_law_530 rfl (lv_at hl 3 rfl) ?_
  refine lv_iload_n hx hb dL_law_531 rfl (lv_at hl 0 rfl) ?_
  refine lv_iconst (v := nI 1) hx hb dL_law_532 (by decide) ?_
  refine n_iadd hx hb dL_law_533 ?_
  refine n_sld hx hb hX hbl hbA hS (k := x + 1) (by omega) hL dL_law_534 ?_
  refine lv_aload_n hx hb dL_law_535 rfl (lv_at hl 3 rfl) ?_
  refine lv_iload_n hx hb dL_law_536 rfl (lv_at hl 0 rfl) ?_
  refine lv_iconst (v := nI 2) hx hb dL_law_537 (by decide) ?_
  refine n_iadd hx hb dL_law_538 ?_
  refine n_sld hx hb hX hbl hbA hS (k := x + 2) (by omega) hL dL_law_539 ?_
  refine k_rxV (ci := 4) (fs := fs2) (As := [.int (xs (x + 1)), .int (xs (x + 2))]) (rest := [.int res]) (wr := w3) F (hc2 _ _ hMP) ⟨_, rfl, rfl⟩ (List.mem_iff_getElem?.mp (List.mem_append_left _ hf2)) rfl mw_3_233 mw_3_234 mw_3_235 mw_1_5 mw_3_236 hd_X4_nextMark ⟨by show d2 + 1 ≤ 13; omega, by show 8 + (6 + 11) + 40 * d2 ≤ 528; omega⟩ hKx hZ hS hP hD hA List.perm_append_comm rfl hl.1 rfl (Nat.le_of_ble_eq_true rfl) dL_law_540 hf (fun w4 H locs hMP2 hP hD hS => ?_)
  refine z_eq hx hb (tgt := 963) res.toInt res.toInt dL_law_543 (by decide) rfl rfl (fun _ => ?_) (fun h9 => absurd rfl h9)
  exact hJ H locs ls ⟨hl, w3, w4, r2, c2, g2, v2, t2, p2, n2, hok2, hCP2, hMP2, hP, hD, hS⟩
set_option maxHeartbeats 4000000 in
set_option maxRecDepth 100000 in
theorem law_c10 (F : CallFix p m c code 4 s #[Value.ref b] GW R_law) (hKx : Kx G s) (hZ : Zs A s) (hA : ∀ q : Nat, s.heap.size ≤ q → A q) (hX : va_X b L xs s s.heap) (hbl : b < s.heap.size) (hbA : ¬ A b) (hL : L ≤ 2560) (hx5 : x + 5 ≤ L) (hf : cells ≤ room_1.cells ∧ slots ≤ room_1.slots) (hJ : ∀ (H : Heap) (locs : List Loc) (ls : Array Slot), LI G me hm s A b x H locs ls → W p l e room_1 s m #[Value.ref b] below meth c H locs cells slots Q (F0 m 963 ls [])) (hI : LI G me hm s A b x H locs ls) : W p l e room_1 s m #[Value.ref b] below meth c H locs cells slots Q (F0 m 548 ls []) := by
  obtain ⟨hl, w1, w2, r1, c1, g1, v1, t1, p1, n1, hok, hCP, hMP, hP, hD, hS⟩ := hI
  have hx := F.1
  have hb := F.2.1
  have hown : s.vm.findClass "FoldedMonthsLaw" = some m.cls := F.2.2.2.1
  have hts := F.2.2.2.2
  refine lv_aload_n hx hb dL_law_548 rfl (lv_at hl 2 rfl) ?_
  refine lv_aload_n hx hb dL_law_549 rfl (lv_at hl 3 rfl) ?_
  refine lv_iload_n hx hb dL_law_550 rfl (lv_at hl 0 rfl) ?_
  refine lv_iconst (v := nI 1) hx hb dL_law_551 (by decide) ?_
  refine n_iadd hx hb dL_law_552 ?_
  refine n_sld hx hb hX hbl hbA hS (k := x + 1) (by omega) hL dL_law_553 ?_
  refine lv_aload_n hx hb dL_law_554 rfl (lv_at hl 3 rfl) ?_
  refine lv_iload_n hx hb dL_law_555 rfl (lv_at hl 0 rfl) ?_
  refine lv_iconst (v := nI 2) hx hb dL_law_556 (by decide) ?_
  refine n_iadd hx hb dL_law_557 ?_
  refine n_sld hx hb hX hbl hbA hS (k := x + 2) (by omega) hL dL_law_558 ?_
  obtain ⟨res, r2, c2, g2, v2, t2, p2, n2, hok2, ⟨d1, hd1, hc1⟩, ⟨d2, hd2, hc2⟩⟩ := s_ofMonth l G me hm hok (xs (x + 1)) (xs (x + 2))
  obtain ⟨fs1, hf1⟩ := hCP.recv
  obtain ⟨fs2, hf2⟩ := hMP.recv
  refine k_rxV (ci := 3) (fs := fs1) (As := [.int (xs (x + 1)), .int (xs (x + 2))]) (rest := []) (wr := w2) F (hc1 _ _ hCP) ⟨_, rfl, rfl⟩ (List.mem_iff_getElem?.mp (List.mem_append_left _ hf1)) rfl mw_2_155 mw_2_156 mw_2_157 mw_1_1 mw_2_158 hd_X3_ofMonth ⟨by show d1 + 1 ≤ 13; omega, by show 8 + (3 + 11) + 40 * d1 ≤ 528; omega⟩ hKx hZ hS hP hD hA List.perm_append_comm rfl hl.1 rfl (Nat.le_of_ble_eq_true rfl) dL_law_559 hf (fun w3 H locs hCP2 hP hD hS => ?_)
  refine lv_aload_n hx hb dL_law_562 rfl (lv_at hl 1 rfl) ?_
  refine lv_aload_n hx hb dL_law_563 rfl (lv_at hl 3 rfl) ?_
  refine lv_iload_n hx hb dL_law_564 rfl (lv_at hl 0 rfl) ?_
  refine lv_iconst (v := nI 1) hx hb dL_law_565 (by decide) ?_
  refine n_iadd hx hb dL_law_566 ?_
  refine n_sld hx hb hX hbl hbA hS (k := x + 1) (by omega) hL dL_law_567 ?_
  refine lv_aload_n hx hb dL_law_568 rfl (lv_at hl 3 rfl) ?_
  refine lv_iload_n hx hb dL_law_569 rfl (lv_at hl 0 rfl) ?_
  refine lv_iconst (v := nI 2) hx hb dL_law_570 (by decide) ?_
  refine n_iadd hx hb dL_law_571 ?_
  refine n_sld hx hb hX hbl hbA hS (k := x + 2) (by omega) hL dL_law_572 ?_
  refine k_rxV (ci := 4) (fs := fs2) (As := [.int (xs (x + 1)), .int (xs (x + 2))]) (rest := [.int res]) (wr := w3) F (hc2 _ _ hMP) ⟨_, rfl, rfl⟩ (List.mem_iff_getElem?.mp (List.mem_append_left _ hf2)) rfl mw_3_237 mw_3_238 mw_3_239 mw_1_5 mw_4_0 hd_X4_ofMonth ⟨by show d2 + 1 ≤ 13; omega, by show 8 + (3 + 11) + 40 * d2 ≤ 528; omega⟩ hKx hZ hS hP hD hA List.perm_append_comm rfl hl.1 rfl (Nat.le_of_ble_eq_true rfl) dL_law_573 hf (fun w4 H locs hMP2 hP hD hS => ?_)
  refine z_eq hx hb (tgt := 963) res.toInt res.toInt dL_law_576 (by decide) rfl rfl (fun _ => ?_) (fun h9 => absurd rfl h9)
  exact hJ H locs ls ⟨hl, w3, w4, r2, c2, g2, v2, t2, p2, n2, hok2, hCP2, hMP2, hP, hD, hS⟩
set_option maxHeartbeats 4000000 in
set_option maxRecDepth 100000 in
theorem law_c11 (F : CallFix p m c code 4 s #[Value.ref b] GW R_law) (hKx : Kx G s) (hZ : Zs A s) (hA : ∀ q : Nat, s.heap.size ≤ q → A q) (hX : va_X b L xs s s.heap) (hbl : b < s.heap.size) (hbA : ¬ A b) (hL : L ≤ 2560) (hx5 : x + 5 ≤ L) (hf : cells ≤ room_1.cells ∧ slots ≤ room_1.slots) (hJ : ∀ (H : Heap) (locs : List Loc) (ls : Array Slot), LI G me hm s A b x H locs ls → W p l e room_1 s m #[Value.ref b] below meth c H locs cells slots Q (F0 m 963 ls [])) (hI : LI G me hm s A b x H locs ls) : W p l e room_1 s m #[Value.ref b] below meth c H locs cells slots Q (F0 m 581 ls []) := by
  obtain ⟨hl, w1, w2, r1, c1, g1, v1, t1, p1, n1, hok, hCP, hMP, hP, hD, hS⟩ := hI
  have hx := F.1
  have hb := F.2.1
  have hown : s.vm.findClass "FoldedMonthsLaw" = some m.cls := F.2.2.2.1
  have hts := F.2.2.2.2
  refine lv_aload_n hx hb dL_law_581 rfl (lv_at hl 2 rfl) ?_
  refine lv_aload_n hx hb dL_law_582 rfl (lv_at hl 3 rfl) ?_
  refine lv_iload_n hx hb dL_law_583 rfl (lv_at hl 0 rfl) ?_
  refine lv_iconst (v := nI 1) hx hb dL_law_584 (by decide) ?_
  refine n_iadd hx hb dL_law_585 ?_
  refine n_sld hx hb hX hbl hbA hS (k := x + 1) (by omega) hL dL_law_586 ?_
  refine lv_aload_n hx hb dL_law_587 rfl (lv_at hl 3 rfl) ?_
  refine lv_iload_n hx hb dL_law_588 rfl (lv_at hl 0 rfl) ?_
  refine lv_iconst (v := nI 2) hx hb dL_law_589 (by decide) ?_
  refine n_iadd hx hb dL_law_590 ?_
  refine n_sld hx hb hX hbl hbA hS (k := x + 2) (by omega) hL dL_law_591 ?_
  obtain ⟨res, r2, c2, g2, v2, t2, p2, n2, hok2, ⟨d1, hd1, hc1⟩, ⟨d2, hd2, hc2⟩⟩ := s_inMonth l G me hm hok (xs (x + 1)) (xs (x + 2))
  obtain ⟨fs1, hf1⟩ := hCP.recv
  obtain ⟨fs2, hf2⟩ := hMP.recv
  refine k_rxV (ci := 3) (fs := fs1) (As := [.int (xs (x + 1)), .int (xs (x + 2))]) (rest := []) (wr := w2) F (hc1 _ _ hCP) ⟨_, rfl, rfl⟩ (List.mem_iff_getElem?.mp (List.mem_append_left _ hf1)) rfl mw_2_170 mw_2_171 mw_2_172 mw_1_1 mw_2_173 hd_X3_inMonth ⟨by show d1 + 1 ≤ 13; omega, by show 8 + (3 + 11) + 40 * d1 ≤ 528; omega⟩ hKx hZ hS hP hD hA List.perm_append_comm rfl hl.1 rfl (Nat.le_of_ble_eq_true rfl) dL_law_592 hf (fun w3 H locs hCP2 hP hD hS => ?_)
  refine lv_aload_n hx hb dL_law_595 rfl (lv_at hl 1 rfl) ?_
  refine lv_aload_n hx hb dL_law_596 rfl (lv_at hl 3 rfl) ?_
  refine lv_iload_n hx hb dL_law_597 rfl (lv_at hl 0 rfl) ?_
  refine lv_iconst (v := nI 1) hx hb dL_law_598 (by decide) ?_
  refine n_iadd hx hb dL_law_599 ?_
  refine n_sld hx hb hX hbl hbA hS (k := x + 1) (by omega) hL dL_law_600 ?_
  refine lv_aload_n hx hb dL_law_601 rfl (lv_at hl 3 rfl) ?_
  refine lv_iload_n hx hb dL_law_602 rfl (lv_at hl 0 rfl) ?_
  refine lv_iconst (v := nI 2) hx hb dL_law_603 (by decide) ?_
  refine n_iadd hx hb dL_law_604 ?_
  refine n_sld hx hb hX hbl hbA hS (k := x + 2) (by omega) hL dL_law_605 ?_
  refine k_rxV (ci := 4) (fs := fs2) (As := [.int (xs (x + 1)), .int (xs (x + 2))]) (rest := [.int res]) (wr := w3) F (hc2 _ _ hMP) ⟨_, rfl, rfl⟩ (List.mem_iff_getElem?.mp (List.mem_append_left _ hf2)) rfl mw_4_8 mw_4_9 mw_4_10 mw_1_5 mw_4_11 hd_X4_inMonth ⟨by show d2 + 1 ≤ 13; omega, by show 8 + (3 + 11) + 40 * d2 ≤ 528; omega⟩ hKx hZ hS hP hD hA List.perm_append_comm rfl hl.1 rfl (Nat.le_of_ble_eq_true rfl) dL_law_606 hf (fun w4 H locs hMP2 hP hD hS => ?_)
  refine z_eq hx hb (tgt := 963) res.toInt res.toInt dL_law_609 (by decide) rfl rfl (fun _ => ?_) (fun h9 => absurd rfl h9)
  exact hJ H locs ls ⟨hl, w3, w4, r2, c2, g2, v2, t2, p2, n2, hok2, hCP2, hMP2, hP, hD, hS⟩
set_option maxHeartbeats 4000000 in
set_option maxRecDepth 100000 in
theorem law_c12 (F : CallFix p m c code 4 s #[Value.ref b] GW R_law) (hKx : Kx G s) (hZ : Zs A s) (hA : ∀ q : Nat, s.heap.size ≤ q → A q) (hX : va_X b L xs s s.heap) (hbl : b < s.heap.size) (hbA : ¬ A b) (hL : L ≤ 2560) (hx5 : x + 5 ≤ L) (hf : cells ≤ room_1.cells ∧ slots ≤ room_1.slots) (hJ : ∀ (H : Heap) (locs : List Loc) (ls : Array Slot), LI G me hm s A b x H locs ls → W p l e room_1 s m #[Value.ref b] below meth c H locs cells slots Q (F0 m 963 ls [])) (hI : LI G me hm s A b x H locs ls) : W p l e room_1 s m #[Value.ref b] below meth c H locs cells slots Q (F0 m 614 ls []) := by
  obtain ⟨hl, w1, w2, r1, c1, g1, v1, t1, p1, n1, hok, hCP, hMP, hP, hD, hS⟩ := hI
  have hx := F.1
  have hb := F.2.1
  have hown : s.vm.findClass "FoldedMonthsLaw" = some m.cls := F.2.2.2.1
  have hts := F.2.2.2.2
  refine lv_aload_n hx hb dL_law_614 rfl (lv_at hl 2 rfl) ?_
  refine lv_aload_n hx hb dL_law_615 rfl (lv_at hl 3 rfl) ?_
  refine lv_iload_n hx hb dL_law_616 rfl (lv_at hl 0 rfl) ?_
  refine lv_iconst (v := nI 1) hx hb dL_law_617 (by decide) ?_
  refine n_iadd hx hb dL_law_618 ?_
  refine n_sld hx hb hX hbl hbA hS (k := x + 1) (by omega) hL dL_law_619 ?_
  refine lv_aload_n hx hb dL_law_620 rfl (lv_at hl 3 rfl) ?_
  refine lv_iload_n hx hb dL_law_621 rfl (lv_at hl 0 rfl) ?_
  refine lv_iconst (v := nI 2) hx hb dL_law_622 (by decide) ?_
  refine n_iadd hx hb dL_law_623 ?_
  refine n_sld hx hb hX hbl hbA hS (k := x + 2) (by omega) hL dL_law_624 ?_
  refine lv_aload_n hx hb dL_law_625 rfl (lv_at hl 3 rfl) ?_
  refine lv_iload_n hx hb dL_law_626 rfl (lv_at hl 0 rfl) ?_
  refine lv_iconst (v := nI 3) hx hb dL_law_627 (by decide) ?_
  refine n_iadd hx hb dL_law_628 ?_
  refine n_sld hx hb hX hbl hbA hS (k := x + 3) (by omega) hL dL_law_629 ?_
  obtain ⟨res, r2, c2, g2, v2, t2, p2, n2, hok2, ⟨d1, hd1, hc1⟩, ⟨d2, hd2, hc2⟩⟩ := s_dayOf l G me hm hok (xs (x + 1)) (xs (x + 2)) (xs (x + 3))
  obtain ⟨fs1, hf1⟩ := hCP.recv
  obtain ⟨fs2, hf2⟩ := hMP.recv
  refine k_rxV (ci := 3) (fs := fs1) (As := [.int (xs (x + 1)), .int (xs (x + 2)), .int (xs (x + 3))]) (rest := []) (wr := w2) F (hc1 _ _ hCP) ⟨_, rfl, rfl⟩ (List.mem_iff_getElem?.mp (List.mem_append_left _ hf1)) rfl mw_2_174 mw_2_175 mw_2_176 mw_1_1 mw_2_177 hd_X3_dayOf ⟨by show d1 + 1 ≤ 13; omega, by show 8 + (5 + 11) + 40 * d1 ≤ 528; omega⟩ hKx hZ hS hP hD hA List.perm_append_comm rfl hl.1 rfl (Nat.le_of_ble_eq_true rfl) dL_law_630 hf (fun w3 H locs hCP2 hP hD hS => ?_)
  refine lv_aload_n hx hb dL_law_633 rfl (lv_at hl 1 rfl) ?_
  refine lv_aload_n hx hb dL_law_634 rfl (lv_at hl 3 rfl) ?_
  refine lv_iload_n hx hb dL_law_635 rfl (lv_at hl 0 rfl) ?_
  refine lv_iconst (v := nI 1) hx hb dL_law_636 (by decide) ?_
  refine n_iadd hx hb dL_law_637 ?_
  refine n_sld hx hb hX hbl hbA hS (k := x + 1) (by omega) hL dL_law_638 ?_
  refine lv_aload_n hx hb dL_law_639 rfl (lv_at hl 3 rfl) ?_
  refine lv_iload_n hx hb dL_law_640 rfl (lv_at hl 0 rfl) ?_
  refine lv_iconst (v := nI 2) hx hb dL_law_641 (by decide) ?_
  refine n_iadd hx hb dL_law_642 ?_
  refine n_sld hx hb hX hbl hbA hS (k := x + 2) (by omega) hL dL_law_643 ?_
  refine lv_aload_n hx hb dL_law_644 rfl (lv_at hl 3 rfl) ?_
  refine lv_iload_n hx hb dL_law_645 rfl (lv_at hl 0 rfl) ?_
  refine lv_iconst (v := nI 3) hx hb dL_law_646 (by decide) ?_
  refine n_iadd hx hb dL_law_647 ?_
  refine n_sld hx hb hX hbl hbA hS (k := x + 3) (by omega) hL dL_law_648 ?_
  refine k_rxV (ci := 4) (fs := fs2) (As := [.int (xs (x + 1)), .int (xs (x + 2)), .int (xs (x + 3))]) (rest := [.int res]) (wr := w3) F (hc2 _ _ hMP) ⟨_, rfl, rfl⟩ (List.mem_iff_getElem?.mp (List.mem_append_left _ hf2)) rfl mw_4_12 mw_4_13 mw_4_14 mw_1_5 mw_4_15 hd_X4_dayOf ⟨by show d2 + 1 ≤ 13; omega, by show 8 + (5 + 11) + 40 * d2 ≤ 528; omega⟩ hKx hZ hS hP hD hA List.perm_append_comm rfl hl.1 rfl (Nat.le_of_ble_eq_true rfl) dL_law_649 hf (fun w4 H locs hMP2 hP hD hS => ?_)
  refine z_eq hx hb (tgt := 963) res.toInt res.toInt dL_law_652 (by decide) rfl rfl (fun _ => ?_) (fun h9 => absurd rfl h9)
  exact hJ H locs ls ⟨hl, w3, w4, r2, c2, g2, v2, t2, p2, n2, hok2, hCP2, hMP2, hP, hD, hS⟩
set_option maxHeartbeats 4000000 in
set_option maxRecDepth 100000 in
theorem law_c13 (F : CallFix p m c code 4 s #[Value.ref b] GW R_law) (hKx : Kx G s) (hZ : Zs A s) (hA : ∀ q : Nat, s.heap.size ≤ q → A q) (hX : va_X b L xs s s.heap) (hbl : b < s.heap.size) (hbA : ¬ A b) (hL : L ≤ 2560) (hx5 : x + 5 ≤ L) (hf : cells ≤ room_1.cells ∧ slots ≤ room_1.slots) (hJ : ∀ (H : Heap) (locs : List Loc) (ls : Array Slot), LI G me hm s A b x H locs ls → W p l e room_1 s m #[Value.ref b] below meth c H locs cells slots Q (F0 m 963 ls [])) (hI : LI G me hm s A b x H locs ls) : W p l e room_1 s m #[Value.ref b] below meth c H locs cells slots Q (F0 m 657 ls []) := by
  obtain ⟨hl, w1, w2, r1, c1, g1, v1, t1, p1, n1, hok, hCP, hMP, hP, hD, hS⟩ := hI
  have hx := F.1
  have hb := F.2.1
  have hown : s.vm.findClass "FoldedMonthsLaw" = some m.cls := F.2.2.2.1
  have hts := F.2.2.2.2
  refine lv_aload_n hx hb dL_law_657 rfl (lv_at hl 2 rfl) ?_
  refine lv_aload_n hx hb dL_law_658 rfl (lv_at hl 3 rfl) ?_
  refine lv_iload_n hx hb dL_law_659 rfl (lv_at hl 0 rfl) ?_
  refine lv_iconst (v := nI 1) hx hb dL_law_660 (by decide) ?_
  refine n_iadd hx hb dL_law_661 ?_
  refine n_sld hx hb hX hbl hbA hS (k := x + 1) (by omega) hL dL_law_662 ?_
  refine lv_aload_n hx hb dL_law_663 rfl (lv_at hl 3 rfl) ?_
  refine lv_iload_n hx hb dL_law_664 rfl (lv_at hl 0 rfl) ?_
  refine lv_iconst (v := nI 2) hx hb dL_law_665 (by decide) ?_
  refine n_iadd hx hb dL_law_666 ?_
  refine n_sld hx hb hX hbl hbA hS (k := x + 2) (by omega) hL dL_law_667 ?_
  obtain ⟨res, r2, c2, g2, v2, t2, p2, n2, hok2, ⟨d1, hd1, hc1⟩, ⟨d2, hd2, hc2⟩⟩ := s_dateOf l G me hm hok (xs (x + 1)) (xs (x + 2))
  obtain ⟨fs1, hf1⟩ := hCP.recv
  obtain ⟨fs2, hf2⟩ := hMP.recv
  refine k_rxV (ci := 3) (fs := fs1) (As := [.int (xs (x + 1)), .int (xs (x + 2))]) (rest := []) (wr := w2) F (hc1 _ _ hCP) ⟨_, rfl, rfl⟩ (List.mem_iff_getElem?.mp (List.mem_append_left _ hf1)) rfl mw_2_178 mw_2_179 mw_2_180 mw_1_1 mw_2_181 hd_X3_dateOf ⟨by show d1 + 1 ≤ 13; omega, by show 8 + (4 + 11) + 40 * d1 ≤ 528; omega⟩ hKx hZ hS hP hD hA List.perm_append_comm rfl hl.1 rfl (Nat.le_of_ble_eq_true rfl) dL_law_668 hf (fun w3 H locs hCP2 hP hD hS => ?_)
  refine lv_aload_n hx hb dL_law_671 rfl (lv_at hl 1 rfl) ?_
  refine lv_aload_n hx hb dL_law_672 rfl (lv_at hl 3 rfl) ?_
  refine lv_iload_n hx hb dL_law_673 rfl (lv_at hl 0 rfl) ?_
  refine lv_iconst (v := nI 1) hx hb dL_law_674 (by decide) ?_
  refine n_iadd hx hb dL_law_675 ?_
  refine n_sld hx hb hX hbl hbA hS (k := x + 1) (by omega) hL dL_law_676 ?_
  refine lv_aload_n hx hb dL_law_677 rfl (lv_at hl 3 rfl) ?_
  refine lv_iload_n hx hb dL_law_678 rfl (lv_at hl 0 rfl) ?_
  refine lv_iconst (v := nI 2) hx hb dL_law_679 (by decide) ?_
  refine n_iadd hx hb dL_law_680 ?_
  refine n_sld hx hb hX hbl hbA hS (k := x + 2) (by omega) hL dL_law_681 ?_
  refine k_rxV (ci := 4) (fs := fs2) (As := [.int (xs (x + 1)), .int (xs (x + 2))]) (rest := [.int res]) (wr := w3) F (hc2 _ _ hMP) ⟨_, rfl, rfl⟩ (List.mem_iff_getElem?.mp (List.mem_append_left _ hf2)) rfl mw_4_17 mw_4_18 mw_4_19 mw_1_5 mw_4_20 hd_X4_dateOf ⟨by show d2 + 1 ≤ 13; omega, by show 8 + (4 + 11) + 40 * d2 ≤ 528; omega⟩ hKx hZ hS hP hD hA List.perm_append_comm rfl hl.1 rfl (Nat.le_of_ble_eq_true rfl) dL_law_682 hf (fun w4 H locs hMP2 hP hD hS => ?_)
  refine z_eq hx hb (tgt := 963) res.toInt res.toInt dL_law_685 (by decide) rfl rfl (fun _ => ?_) (fun h9 => absurd rfl h9)
  exact hJ H locs ls ⟨hl, w3, w4, r2, c2, g2, v2, t2, p2, n2, hok2, hCP2, hMP2, hP, hD, hS⟩
set_option maxHeartbeats 4000000 in
set_option maxRecDepth 100000 in
theorem law_c14 (F : CallFix p m c code 4 s #[Value.ref b] GW R_law) (hKx : Kx G s) (hZ : Zs A s) (hA : ∀ q : Nat, s.heap.size ≤ q → A q) (hX : va_X b L xs s s.heap) (hbl : b < s.heap.size) (hbA : ¬ A b) (hL : L ≤ 2560) (hx5 : x + 5 ≤ L) (hf : cells ≤ room_1.cells ∧ slots ≤ room_1.slots) (hJ : ∀ (H : Heap) (locs : List Loc) (ls : Array Slot), LI G me hm s A b x H locs ls → W p l e room_1 s m #[Value.ref b] below meth c H locs cells slots Q (F0 m 963 ls [])) (hI : LI G me hm s A b x H locs ls) : W p l e room_1 s m #[Value.ref b] below meth c H locs cells slots Q (F0 m 690 ls []) := by
  obtain ⟨hl, w1, w2, r1, c1, g1, v1, t1, p1, n1, hok, hCP, hMP, hP, hD, hS⟩ := hI
  have hx := F.1
  have hb := F.2.1
  have hown : s.vm.findClass "FoldedMonthsLaw" = some m.cls := F.2.2.2.1
  have hts := F.2.2.2.2
  refine lv_aload_n hx hb dL_law_690 rfl (lv_at hl 2 rfl) ?_
  refine lv_aload_n hx hb dL_law_691 rfl (lv_at hl 3 rfl) ?_
  refine lv_iload_n hx hb dL_law_692 rfl (lv_at hl 0 rfl) ?_
  refine lv_iconst (v := nI 1) hx hb dL_law_693 (by decide) ?_
  refine n_iadd hx hb dL_law_694 ?_
  refine n_sld hx hb hX hbl hbA hS (k := x + 1) (by omega) hL dL_law_695 ?_
  obtain ⟨res, r2, c2, g2, v2, t2, p2, n2, hok2, ⟨d1, hd1, hc1⟩, ⟨d2, hd2, hc2⟩⟩ := s_count l G me hm hok (xs (x + 1))
  obtain ⟨fs1, hf1⟩ := hCP.recv
  obtain ⟨fs2, hf2⟩ := hMP.recv
  refine k_rxV (ci := 3) (fs := fs1) (As := [.int (xs (x + 1))]) (rest := []) (wr := w2) F (hc1 _ _ hCP) ⟨_, rfl, rfl⟩ (List.mem_iff_getElem?.mp (List.mem_append_left _ hf1)) rfl mw_2_182 mw_2_183 mw_2_184 mw_1_1 mw_2_185 hd_X3_count ⟨by show d1 + 1 ≤ 13; omega, by show 8 + (2 + 11) + 40 * d1 ≤ 528; omega⟩ hKx hZ hS hP hD hA List.perm_append_comm rfl hl.1 rfl (Nat.le_of_ble_eq_true rfl) dL_law_696 hf (fun w3 H locs hCP2 hP hD hS => ?_)
  refine lv_aload_n hx hb dL_law_699 rfl (lv_at hl 1 rfl) ?_
  refine lv_aload_n hx hb dL_law_700 rfl (lv_at hl 3 rfl) ?_
  refine lv_iload_n hx hb dL_law_701 rfl (lv_at hl 0 rfl) ?_
  refine lv_iconst (v := nI 1) hx hb dL_law_702 (by decide) ?_
  refine n_iadd hx hb dL_law_703 ?_
  refine n_sld hx hb hX hbl hbA hS (k := x + 1) (by omega) hL dL_law_704 ?_
  refine k_rxV (ci := 4) (fs := fs2) (As := [.int (xs (x + 1))]) (rest := [.int res]) (wr := w3) F (hc2 _ _ hMP) ⟨_, rfl, rfl⟩ (List.mem_iff_getElem?.mp (List.mem_append_left _ hf2)) rfl mw_4_22 mw_4_23 mw_4_24 mw_1_5 mw_4_25 hd_X4_count ⟨by show d2 + 1 ≤ 13; omega, by show 8 + (5 + 11) + 40 * d2 ≤ 528; omega⟩ hKx hZ hS hP hD hA List.perm_append_comm rfl hl.1 rfl (Nat.le_of_ble_eq_true rfl) dL_law_705 hf (fun w4 H locs hMP2 hP hD hS => ?_)
  refine z_eq hx hb (tgt := 963) res.toInt res.toInt dL_law_708 (by decide) rfl rfl (fun _ => ?_) (fun h9 => absurd rfl h9)
  exact hJ H locs ls ⟨hl, w3, w4, r2, c2, g2, v2, t2, p2, n2, hok2, hCP2, hMP2, hP, hD, hS⟩
set_option maxHeartbeats 4000000 in
set_option maxRecDepth 100000 in
theorem law_c15 (F : CallFix p m c code 4 s #[Value.ref b] GW R_law) (hKx : Kx G s) (hZ : Zs A s) (hA : ∀ q : Nat, s.heap.size ≤ q → A q) (hX : va_X b L xs s s.heap) (hbl : b < s.heap.size) (hbA : ¬ A b) (hL : L ≤ 2560) (hx5 : x + 5 ≤ L) (hf : cells ≤ room_1.cells ∧ slots ≤ room_1.slots) (hJ : ∀ (H : Heap) (locs : List Loc) (ls : Array Slot), LI G me hm s A b x H locs ls → W p l e room_1 s m #[Value.ref b] below meth c H locs cells slots Q (F0 m 963 ls [])) (hI : LI G me hm s A b x H locs ls) : W p l e room_1 s m #[Value.ref b] below meth c H locs cells slots Q (F0 m 713 ls []) := by
  obtain ⟨hl, w1, w2, r1, c1, g1, v1, t1, p1, n1, hok, hCP, hMP, hP, hD, hS⟩ := hI
  have hx := F.1
  have hb := F.2.1
  have hown : s.vm.findClass "FoldedMonthsLaw" = some m.cls := F.2.2.2.1
  have hts := F.2.2.2.2
  refine lv_aload_n hx hb dL_law_713 rfl (lv_at hl 2 rfl) ?_
  refine lv_aload_n hx hb dL_law_714 rfl (lv_at hl 3 rfl) ?_
  refine lv_iload_n hx hb dL_law_715 rfl (lv_at hl 0 rfl) ?_
  refine lv_iconst (v := nI 1) hx hb dL_law_716 (by decide) ?_
  refine n_iadd hx hb dL_law_717 ?_
  refine n_sld hx hb hX hbl hbA hS (k := x + 1) (by omega) hL dL_law_718 ?_
  refine lv_aload_n hx hb dL_law_719 rfl (lv_at hl 3 rfl) ?_
  refine lv_iload_n hx hb dL_law_720 rfl (lv_at hl 0 rfl) ?_
  refine lv_iconst (v := nI 2) hx hb dL_law_721 (by decide) ?_
  refine n_iadd hx hb dL_law_722 ?_
  refine n_sld hx hb hX hbl hbA hS (k := x + 2) (by omega) hL dL_law_723 ?_
  obtain ⟨res, r2, c2, g2, v2, t2, p2, n2, hok2, ⟨d1, hd1, hc1⟩, ⟨d2, hd2, hc2⟩⟩ := s_sizeAs l G me hm hok (xs (x + 1)) (xs (x + 2))
  obtain ⟨fs1, hf1⟩ := hCP.recv
  obtain ⟨fs2, hf2⟩ := hMP.recv
  refine k_rxV (ci := 3) (fs := fs1) (As := [.int (xs (x + 1)), .int (xs (x + 2))]) (rest := []) (wr := w2) F (hc1 _ _ hCP) ⟨_, rfl, rfl⟩ (List.mem_iff_getElem?.mp (List.mem_append_left _ hf1)) rfl mw_2_195 mw_2_196 mw_2_197 mw_1_1 mw_2_198 hd_X3_sizeAs ⟨by show d1 + 1 ≤ 13; omega, by show 8 + (3 + 11) + 40 * d1 ≤ 528; omega⟩ hKx hZ hS hP hD hA List.perm_append_comm rfl hl.1 rfl (Nat.le_of_ble_eq_true rfl) dL_law_724 hf (fun w3 H locs hCP2 hP hD hS => ?_)
  refine lv_aload_n hx hb dL_law_727 rfl (lv_at hl 1 rfl) ?_
  refine lv_aload_n hx hb dL_law_728 rfl (lv_at hl 3 rfl) ?_
  refine lv_iload_n hx hb dL_law_729 rfl (lv_at hl 0 rfl) ?_
  refine lv_iconst (v := nI 1) hx hb dL_law_730 (by decide) ?_
  refine n_iadd hx hb dL_law_731 ?_
  refine n_sld hx hb hX hbl hbA hS (k := x + 1) (by omega) hL dL_law_732 ?_
  refine lv_aload_n hx hb dL_law_733 rfl (lv_at hl 3 rfl) ?_
  refine lv_iload_n hx hb dL_law_734 rfl (lv_at hl 0 rfl) ?_
  refine lv_iconst (v := nI 2) hx hb dL_law_735 (by decide) ?_
  refine n_iadd hx hb dL_law_736 ?_
  refine n_sld hx hb hX hbl hbA hS (k := x + 2) (by omega) hL dL_law_737 ?_
  refine k_rxV (ci := 4) (fs := fs2) (As := [.int (xs (x + 1)), .int (xs (x + 2))]) (rest := [.int res]) (wr := w3) F (hc2 _ _ hMP) ⟨_, rfl, rfl⟩ (List.mem_iff_getElem?.mp (List.mem_append_left _ hf2)) rfl mw_4_26 mw_4_27 mw_4_28 mw_1_5 mw_4_29 hd_X4_sizeAs ⟨by show d2 + 1 ≤ 13; omega, by show 8 + (3 + 11) + 40 * d2 ≤ 528; omega⟩ hKx hZ hS hP hD hA List.perm_append_comm rfl hl.1 rfl (Nat.le_of_ble_eq_true rfl) dL_law_738 hf (fun w4 H locs hMP2 hP hD hS => ?_)
  refine z_eq hx hb (tgt := 963) res.toInt res.toInt dL_law_741 (by decide) rfl rfl (fun _ => ?_) (fun h9 => absurd rfl h9)
  exact hJ H locs ls ⟨hl, w3, w4, r2, c2, g2, v2, t2, p2, n2, hok2, hCP2, hMP2, hP, hD, hS⟩
set_option maxHeartbeats 4000000 in
set_option maxRecDepth 100000 in
theorem law_c16 (F : CallFix p m c code 4 s #[Value.ref b] GW R_law) (hKx : Kx G s) (hZ : Zs A s) (hA : ∀ q : Nat, s.heap.size ≤ q → A q) (hX : va_X b L xs s s.heap) (hbl : b < s.heap.size) (hbA : ¬ A b) (hL : L ≤ 2560) (hx5 : x + 5 ≤ L) (hf : cells ≤ room_1.cells ∧ slots ≤ room_1.slots) (hJ : ∀ (H : Heap) (locs : List Loc) (ls : Array Slot), LI G me hm s A b x H locs ls → W p l e room_1 s m #[Value.ref b] below meth c H locs cells slots Q (F0 m 963 ls [])) (hI : LI G me hm s A b x H locs ls) : W p l e room_1 s m #[Value.ref b] below meth c H locs cells slots Q (F0 m 746 ls []) := by
  obtain ⟨hl, w1, w2, r1, c1, g1, v1, t1, p1, n1, hok, hCP, hMP, hP, hD, hS⟩ := hI
  have hx := F.1
  have hb := F.2.1
  have hown : s.vm.findClass "FoldedMonthsLaw" = some m.cls := F.2.2.2.1
  have hts := F.2.2.2.2
  refine lv_aload_n hx hb dL_law_746 rfl (lv_at hl 2 rfl) ?_
  refine lv_aload_n hx hb dL_law_747 rfl (lv_at hl 3 rfl) ?_
  refine lv_iload_n hx hb dL_law_748 rfl (lv_at hl 0 rfl) ?_
  refine lv_iconst (v := nI 1) hx hb dL_law_749 (by decide) ?_
  refine n_iadd hx hb dL_law_750 ?_
  refine n_sld hx hb hX hbl hbA hS (k := x + 1) (by omega) hL dL_law_751 ?_
  refine lv_aload_n hx hb dL_law_752 rfl (lv_at hl 3 rfl) ?_
  refine lv_iload_n hx hb dL_law_753 rfl (lv_at hl 0 rfl) ?_
  refine lv_iconst (v := nI 2) hx hb dL_law_754 (by decide) ?_
  refine n_iadd hx hb dL_law_755 ?_
  refine n_sld hx hb hX hbl hbA hS (k := x + 2) (by omega) hL dL_law_756 ?_
  obtain ⟨res, r2, c2, g2, v2, t2, p2, n2, hok2, ⟨d1, hd1, hc1⟩, ⟨d2, hd2, hc2⟩⟩ := s_workOf l G me hm hok (xs (x + 1)) (xs (x + 2))
  obtain ⟨fs1, hf1⟩ := hCP.recv
  obtain ⟨fs2, hf2⟩ := hMP.recv
  refine k_rxV (ci := 3) (fs := fs1) (As := [.int (xs (x + 1)), .int (xs (x + 2))]) (rest := []) (wr := w2) F (hc1 _ _ hCP) ⟨_, rfl, rfl⟩ (List.mem_iff_getElem?.mp (List.mem_append_left _ hf1)) rfl mw_2_201 mw_2_202 mw_2_203 mw_1_1 mw_2_204 hd_X3_workOf ⟨by show d1 + 1 ≤ 13; omega, by show 8 + (4 + 11) + 40 * d1 ≤ 528; omega⟩ hKx hZ hS hP hD hA List.perm_append_comm rfl hl.1 rfl (Nat.le_of_ble_eq_true rfl) dL_law_757 hf (fun w3 H locs hCP2 hP hD hS => ?_)
  refine lv_aload_n hx hb dL_law_760 rfl (lv_at hl 1 rfl) ?_
  refine lv_aload_n hx hb dL_law_761 rfl (lv_at hl 3 rfl) ?_
  refine lv_iload_n hx hb dL_law_762 rfl (lv_at hl 0 rfl) ?_
  refine lv_iconst (v := nI 1) hx hb dL_law_763 (by decide) ?_
  refine n_iadd hx hb dL_law_764 ?_
  refine n_sld hx hb hX hbl hbA hS (k := x + 1) (by omega) hL dL_law_765 ?_
  refine lv_aload_n hx hb dL_law_766 rfl (lv_at hl 3 rfl) ?_
  refine lv_iload_n hx hb dL_law_767 rfl (lv_at hl 0 rfl) ?_
  refine lv_iconst (v := nI 2) hx hb dL_law_768 (by decide) ?_
  refine n_iadd hx hb dL_law_769 ?_
  refine n_sld hx hb hX hbl hbA hS (k := x + 2) (by omega) hL dL_law_770 ?_
  refine k_rxV (ci := 4) (fs := fs2) (As := [.int (xs (x + 1)), .int (xs (x + 2))]) (rest := [.int res]) (wr := w3) F (hc2 _ _ hMP) ⟨_, rfl, rfl⟩ (List.mem_iff_getElem?.mp (List.mem_append_left _ hf2)) rfl mw_4_31 mw_4_32 mw_4_33 mw_1_5 mw_4_34 hd_X4_workOf ⟨by show d2 + 1 ≤ 13; omega, by show 8 + (4 + 11) + 40 * d2 ≤ 528; omega⟩ hKx hZ hS hP hD hA List.perm_append_comm rfl hl.1 rfl (Nat.le_of_ble_eq_true rfl) dL_law_771 hf (fun w4 H locs hMP2 hP hD hS => ?_)
  refine z_eq hx hb (tgt := 963) res.toInt res.toInt dL_law_774 (by decide) rfl rfl (fun _ => ?_) (fun h9 => absurd rfl h9)
  exact hJ H locs ls ⟨hl, w3, w4, r2, c2, g2, v2, t2, p2, n2, hok2, hCP2, hMP2, hP, hD, hS⟩
set_option maxHeartbeats 4000000 in
set_option maxRecDepth 100000 in
theorem law_c17 (F : CallFix p m c code 4 s #[Value.ref b] GW R_law) (hKx : Kx G s) (hZ : Zs A s) (hA : ∀ q : Nat, s.heap.size ≤ q → A q) (hX : va_X b L xs s s.heap) (hbl : b < s.heap.size) (hbA : ¬ A b) (hL : L ≤ 2560) (hx5 : x + 5 ≤ L) (hf : cells ≤ room_1.cells ∧ slots ≤ room_1.slots) (hJ : ∀ (H : Heap) (locs : List Loc) (ls : Array Slot), LI G me hm s A b x H locs ls → W p l e room_1 s m #[Value.ref b] below meth c H locs cells slots Q (F0 m 963 ls [])) (hI : LI G me hm s A b x H locs ls) : W p l e room_1 s m #[Value.ref b] below meth c H locs cells slots Q (F0 m 779 ls []) := by
  obtain ⟨hl, w1, w2, r1, c1, g1, v1, t1, p1, n1, hok, hCP, hMP, hP, hD, hS⟩ := hI
  have hx := F.1
  have hb := F.2.1
  have hown : s.vm.findClass "FoldedMonthsLaw" = some m.cls := F.2.2.2.1
  have hts := F.2.2.2.2
  refine lv_aload_n hx hb dL_law_779 rfl (lv_at hl 2 rfl) ?_
  refine lv_aload_n hx hb dL_law_780 rfl (lv_at hl 3 rfl) ?_
  refine lv_iload_n hx hb dL_law_781 rfl (lv_at hl 0 rfl) ?_
  refine lv_iconst (v := nI 1) hx hb dL_law_782 (by decide) ?_
  refine n_iadd hx hb dL_law_783 ?_
  refine n_sld hx hb hX hbl hbA hS (k := x + 1) (by omega) hL dL_law_784 ?_
  refine lv_aload_n hx hb dL_law_785 rfl (lv_at hl 3 rfl) ?_
  refine lv_iload_n hx hb dL_law_786 rfl (lv_at hl 0 rfl) ?_
  refine lv_iconst (v := nI 2) hx hb dL_law_787 (by decide) ?_
  refine n_iadd hx hb dL_law_788 ?_
  refine n_sld hx hb hX hbl hbA hS (k := x + 2) (by omega) hL dL_law_789 ?_
  obtain ⟨res, r2, c2, g2, v2, t2, p2, n2, hok2, ⟨d1, hd1, hc1⟩, ⟨d2, hd2, hc2⟩⟩ := s_bestOpen l G me hm hok (xs (x + 1)) (xs (x + 2))
  obtain ⟨fs1, hf1⟩ := hCP.recv
  obtain ⟨fs2, hf2⟩ := hMP.recv
  refine k_rxV (ci := 3) (fs := fs1) (As := [.int (xs (x + 1)), .int (xs (x + 2))]) (rest := []) (wr := w2) F (hc1 _ _ hCP) ⟨_, rfl, rfl⟩ (List.mem_iff_getElem?.mp (List.mem_append_left _ hf1)) rfl mw_2_205 mw_2_206 mw_2_207 mw_1_1 mw_2_208 hd_X3_bestOpen ⟨by show d1 + 1 ≤ 13; omega, by show 8 + (8 + 11) + 40 * d1 ≤ 528; omega⟩ hKx hZ hS hP hD hA List.perm_append_comm rfl hl.1 rfl (Nat.le_of_ble_eq_true rfl) dL_law_790 hf (fun w3 H locs hCP2 hP hD hS => ?_)
  refine lv_aload_n hx hb dL_law_793 rfl (lv_at hl 1 rfl) ?_
  refine lv_aload_n hx hb dL_law_794 rfl (lv_at hl 3 rfl) ?_
  refine lv_iload_n hx hb dL_law_795 rfl (lv_at hl 0 rfl) ?_
  refine lv_iconst (v := nI 1) hx hb dL_law_796 (by decide) ?_
  refine n_iadd hx hb dL_law_797 ?_
  refine n_sld hx hb hX hbl hbA hS (k := x + 1) (by omega) hL dL_law_798 ?_
  refine lv_aload_n hx hb dL_law_799 rfl (lv_at hl 3 rfl) ?_
  refine lv_iload_n hx hb dL_law_800 rfl (lv_at hl 0 rfl) ?_
  refine lv_iconst (v := nI 2) hx hb dL_law_801 (by decide) ?_
  refine n_iadd hx hb dL_law_802 ?_
  refine n_sld hx hb hX hbl hbA hS (k := x + 2) (by omega) hL dL_law_803 ?_
  refine k_rxV (ci := 4) (fs := fs2) (As := [.int (xs (x + 1)), .int (xs (x + 2))]) (rest := [.int res]) (wr := w3) F (hc2 _ _ hMP) ⟨_, rfl, rfl⟩ (List.mem_iff_getElem?.mp (List.mem_append_left _ hf2)) rfl mw_4_39 mw_4_40 mw_4_41 mw_1_5 mw_4_42 hd_X4_bestOpen ⟨by show d2 + 1 ≤ 13; omega, by show 8 + (9 + 11) + 40 * d2 ≤ 528; omega⟩ hKx hZ hS hP hD hA List.perm_append_comm rfl hl.1 rfl (Nat.le_of_ble_eq_true rfl) dL_law_804 hf (fun w4 H locs hMP2 hP hD hS => ?_)
  refine z_eq hx hb (tgt := 963) res.toInt res.toInt dL_law_807 (by decide) rfl rfl (fun _ => ?_) (fun h9 => absurd rfl h9)
  exact hJ H locs ls ⟨hl, w3, w4, r2, c2, g2, v2, t2, p2, n2, hok2, hCP2, hMP2, hP, hD, hS⟩
set_option maxHeartbeats 4000000 in
set_option maxRecDepth 100000 in
theorem law_c18 (F : CallFix p m c code 4 s #[Value.ref b] GW R_law) (hKx : Kx G s) (hZ : Zs A s) (hA : ∀ q : Nat, s.heap.size ≤ q → A q) (hX : va_X b L xs s s.heap) (hbl : b < s.heap.size) (hbA : ¬ A b) (hL : L ≤ 2560) (hx5 : x + 5 ≤ L) (hf : cells ≤ room_1.cells ∧ slots ≤ room_1.slots) (hJ : ∀ (H : Heap) (locs : List Loc) (ls : Array Slot), LI G me hm s A b x H locs ls → W p l e room_1 s m #[Value.ref b] below meth c H locs cells slots Q (F0 m 963 ls [])) (hI : LI G me hm s A b x H locs ls) : W p l e room_1 s m #[Value.ref b] below meth c H locs cells slots Q (F0 m 812 ls []) := by
  obtain ⟨hl, w1, w2, r1, c1, g1, v1, t1, p1, n1, hok, hCP, hMP, hP, hD, hS⟩ := hI
  have hx := F.1
  have hb := F.2.1
  have hown : s.vm.findClass "FoldedMonthsLaw" = some m.cls := F.2.2.2.1
  have hts := F.2.2.2.2
  refine lv_aload_n hx hb dL_law_812 rfl (lv_at hl 2 rfl) ?_
  refine lv_aload_n hx hb dL_law_813 rfl (lv_at hl 3 rfl) ?_
  refine lv_iload_n hx hb dL_law_814 rfl (lv_at hl 0 rfl) ?_
  refine lv_iconst (v := nI 1) hx hb dL_law_815 (by decide) ?_
  refine n_iadd hx hb dL_law_816 ?_
  refine n_sld hx hb hX hbl hbA hS (k := x + 1) (by omega) hL dL_law_817 ?_
  refine lv_i2l (v := (xs (x + 1)).toInt64) hx hb dL_law_818 rfl ?_
  refine lv_bipush (v := nI 32) hx hb dL_law_819 (by decide) ?_
  refine lv_lshl (v := (xs (x + 1)).toInt64 <<< ((nI 32).toInt64 &&& 63)) hx hb dL_law_821 rfl ?_
  refine lv_aload_n hx hb dL_law_822 rfl (lv_at hl 3 rfl) ?_
  refine lv_iload_n hx hb dL_law_823 rfl (lv_at hl 0 rfl) ?_
  refine lv_iconst (v := nI 2) hx hb dL_law_824 (by decide) ?_
  refine n_iadd hx hb dL_law_825 ?_
  refine n_sld hx hb hX hbl hbA hS (k := x + 2) (by omega) hL dL_law_826 ?_
  refine lv_i2l (v := (xs (x + 2)).toInt64) hx hb dL_law_827 rfl ?_
  refine lv_ldc2 (v := 4294967295) hx hb hown (hts _ mw_4_99) dL_law_828 ?_
  refine lv_land hx hb dL_law_831 ?_
  refine lv_lor hx hb dL_law_832 ?_
  obtain ⟨res, r2, c2, g2, v2, t2, p2, n2, hok2, ⟨d1, hd1, hc1⟩, ⟨d2, hd2, hc2⟩⟩ := s_put l G me hm hok ((((xs (x + 1)).toInt64 <<< ((nI 32).toInt64 &&& 63)) ||| ((xs (x + 2)).toInt64 &&& 4294967295)))
  obtain ⟨fs1, hf1⟩ := hCP.recv
  obtain ⟨fs2, hf2⟩ := hMP.recv
  refine k_rxV (ci := 3) (fs := fs1) (As := [.long (((xs (x + 1)).toInt64 <<< ((nI 32).toInt64 &&& 63)) ||| ((xs (x + 2)).toInt64 &&& 4294967295))]) (rest := []) (wr := w2) F (hc1 _ _ hCP) ⟨_, rfl, rfl⟩ (List.mem_iff_getElem?.mp (List.mem_append_left _ hf1)) rfl mw_2_209 mw_2_210 mw_2_211 mw_1_1 mw_2_212 hd_X3_put ⟨by show d1 + 1 ≤ 13; omega, by show 8 + (4 + 11) + 40 * d1 ≤ 528; omega⟩ hKx hZ hS hP hD hA List.perm_append_comm rfl hl.1 rfl (Nat.le_of_ble_eq_true rfl) dL_law_833 hf (fun w3 H locs hCP2 hP hD hS => ?_)
  refine lv_aload_n hx hb dL_law_836 rfl (lv_at hl 1 rfl) ?_
  refine lv_aload_n hx hb dL_law_837 rfl (lv_at hl 3 rfl) ?_
  refine lv_iload_n hx hb dL_law_838 rfl (lv_at hl 0 rfl) ?_
  refine lv_iconst (v := nI 1) hx hb dL_law_839 (by decide) ?_
  refine n_iadd hx hb dL_law_840 ?_
  refine n_sld hx hb hX hbl hbA hS (k := x + 1) (by omega) hL dL_law_841 ?_
  refine lv_i2l (v := (xs (x + 1)).toInt64) hx hb dL_law_842 rfl ?_
  refine lv_bipush (v := nI 32) hx hb dL_law_843 (by decide) ?_
  refine lv_lshl (v := (xs (x + 1)).toInt64 <<< ((nI 32).toInt64 &&& 63)) hx hb dL_law_845 rfl ?_
  refine lv_aload_n hx hb dL_law_846 rfl (lv_at hl 3 rfl) ?_
  refine lv_iload_n hx hb dL_law_847 rfl (lv_at hl 0 rfl) ?_
  refine lv_iconst (v := nI 2) hx hb dL_law_848 (by decide) ?_
  refine n_iadd hx hb dL_law_849 ?_
  refine n_sld hx hb hX hbl hbA hS (k := x + 2) (by omega) hL dL_law_850 ?_
  refine lv_i2l (v := (xs (x + 2)).toInt64) hx hb dL_law_851 rfl ?_
  refine lv_ldc2 (v := 4294967295) hx hb hown (hts _ mw_4_99) dL_law_852 ?_
  refine lv_land hx hb dL_law_855 ?_
  refine lv_lor hx hb dL_law_856 ?_
  refine k_rxV (ci := 4) (fs := fs2) (As := [.long (((xs (x + 1)).toInt64 <<< ((nI 32).toInt64 &&& 63)) ||| ((xs (x + 2)).toInt64 &&& 4294967295))]) (rest := [.int res]) (wr := w3) F (hc2 _ _ hMP) ⟨_, rfl, rfl⟩ (List.mem_iff_getElem?.mp (List.mem_append_left _ hf2)) rfl mw_4_43 mw_4_44 mw_4_45 mw_1_5 mw_4_46 hd_X4_put ⟨by show d2 + 1 ≤ 13; omega, by show 8 + (7 + 11) + 40 * d2 ≤ 528; omega⟩ hKx hZ hS hP hD hA List.perm_append_comm rfl hl.1 rfl (Nat.le_of_ble_eq_true rfl) dL_law_857 hf (fun w4 H locs hMP2 hP hD hS => ?_)
  refine z_eq hx hb (tgt := 963) res.toInt res.toInt dL_law_860 (by decide) rfl rfl (fun _ => ?_) (fun h9 => absurd rfl h9)
  exact hJ H locs ls ⟨hl, w3, w4, r2, c2, g2, v2, t2, p2, n2, hok2, hCP2, hMP2, hP, hD, hS⟩
set_option maxHeartbeats 4000000 in
set_option maxRecDepth 100000 in
theorem law_c19 (F : CallFix p m c code 4 s #[Value.ref b] GW R_law) (hKx : Kx G s) (hZ : Zs A s) (hA : ∀ q : Nat, s.heap.size ≤ q → A q) (hX : va_X b L xs s s.heap) (hbl : b < s.heap.size) (hbA : ¬ A b) (hL : L ≤ 2560) (hx5 : x + 5 ≤ L) (hf : cells ≤ room_1.cells ∧ slots ≤ room_1.slots) (hJ : ∀ (H : Heap) (locs : List Loc) (ls : Array Slot), LI G me hm s A b x H locs ls → W p l e room_1 s m #[Value.ref b] below meth c H locs cells slots Q (F0 m 963 ls [])) (hI : LI G me hm s A b x H locs ls) : W p l e room_1 s m #[Value.ref b] below meth c H locs cells slots Q (F0 m 865 ls []) := by
  obtain ⟨hl, w1, w2, r1, c1, g1, v1, t1, p1, n1, hok, hCP, hMP, hP, hD, hS⟩ := hI
  have hx := F.1
  have hb := F.2.1
  have hown : s.vm.findClass "FoldedMonthsLaw" = some m.cls := F.2.2.2.1
  have hts := F.2.2.2.2
  refine lv_aload_n hx hb dL_law_865 rfl (lv_at hl 2 rfl) ?_
  obtain ⟨res, r2, c2, g2, v2, t2, p2, n2, hok2, ⟨d1, hd1, hc1⟩, ⟨d2, hd2, hc2⟩⟩ := s_wipe l G me hm hok
  obtain ⟨fs1, hf1⟩ := hCP.recv
  obtain ⟨fs2, hf2⟩ := hMP.recv
  refine k_rxV (ci := 3) (fs := fs1) (As := []) (rest := []) (wr := w2) F (hc1 _ _ hCP) ⟨_, rfl, rfl⟩ (List.mem_iff_getElem?.mp (List.mem_append_left _ hf1)) rfl mw_2_222 mw_2_223 mw_2_224 mw_1_1 mw_2_225 hd_X3_wipe ⟨by show d1 + 1 ≤ 13; omega, by show 8 + (2 + 11) + 40 * d1 ≤ 528; omega⟩ hKx hZ hS hP hD hA List.perm_append_comm rfl hl.1 rfl (Nat.le_of_ble_eq_true rfl) dL_law_866 hf (fun w3 H locs hCP2 hP hD hS => ?_)
  refine lv_aload_n hx hb dL_law_869 rfl (lv_at hl 1 rfl) ?_
  refine k_rxV (ci := 4) (fs := fs2) (As := []) (rest := [.int res]) (wr := w3) F (hc2 _ _ hMP) ⟨_, rfl, rfl⟩ (List.mem_iff_getElem?.mp (List.mem_append_left _ hf2)) rfl mw_4_50 mw_4_51 mw_4_52 mw_1_5 mw_4_53 hd_X4_wipe ⟨by show d2 + 1 ≤ 13; omega, by show 8 + (2 + 11) + 40 * d2 ≤ 528; omega⟩ hKx hZ hS hP hD hA List.perm_append_comm rfl hl.1 rfl (Nat.le_of_ble_eq_true rfl) dL_law_870 hf (fun w4 H locs hMP2 hP hD hS => ?_)
  refine z_eq hx hb (tgt := 963) res.toInt res.toInt dL_law_873 (by decide) rfl rfl (fun _ => ?_) (fun h9 => absurd rfl h9)
  exact hJ H locs ls ⟨hl, w3, w4, r2, c2, g2, v2, t2, p2, n2, hok2, hCP2, hMP2, hP, hD, hS⟩
set_option maxHeartbeats 4000000 in
set_option maxRecDepth 100000 in
theorem law_c20 (F : CallFix p m c code 4 s #[Value.ref b] GW R_law) (hKx : Kx G s) (hZ : Zs A s) (hA : ∀ q : Nat, s.heap.size ≤ q → A q) (hX : va_X b L xs s s.heap) (hbl : b < s.heap.size) (hbA : ¬ A b) (hL : L ≤ 2560) (hx5 : x + 5 ≤ L) (hf : cells ≤ room_1.cells ∧ slots ≤ room_1.slots) (hJ : ∀ (H : Heap) (locs : List Loc) (ls : Array Slot), LI G me hm s A b x H locs ls → W p l e room_1 s m #[Value.ref b] below meth c H locs cells slots Q (F0 m 963 ls [])) (hI : LI G me hm s A b x H locs ls) : W p l e room_1 s m #[Value.ref b] below meth c H locs cells slots Q (F0 m 878 ls []) := by
  obtain ⟨hl, w1, w2, r1, c1, g1, v1, t1, p1, n1, hok, hCP, hMP, hP, hD, hS⟩ := hI
  have hx := F.1
  have hb := F.2.1
  have hown : s.vm.findClass "FoldedMonthsLaw" = some m.cls := F.2.2.2.1
  have hts := F.2.2.2.2
  refine lv_aload_n hx hb dL_law_878 rfl (lv_at hl 2 rfl) ?_
  obtain ⟨res, r2, c2, g2, v2, t2, p2, n2, hok2, ⟨d1, hd1, hc1⟩, ⟨d2, hd2, hc2⟩⟩ := s_fault l G me hm hok
  obtain ⟨fs1, hf1⟩ := hCP.recv
  obtain ⟨fs2, hf2⟩ := hMP.recv
  refine k_rxV (ci := 3) (fs := fs1) (As := []) (rest := []) (wr := w2) F (hc1 _ _ hCP) ⟨_, rfl, rfl⟩ (List.mem_iff_getElem?.mp (List.mem_append_left _ hf1)) rfl mw_2_226 mw_2_227 mw_2_228 mw_1_1 mw_2_229 hd_X3_fault ⟨by show d1 + 1 ≤ 13; omega, by show 8 + (1 + 11) + 40 * d1 ≤ 528; omega⟩ hKx hZ hS hP hD hA List.perm_append_comm rfl hl.1 rfl (Nat.le_of_ble_eq_true rfl) dL_law_879 hf (fun w3 H locs hCP2 hP hD hS => ?_)
  refine lv_aload_n hx hb dL_law_882 rfl (lv_at hl 1 rfl) ?_
  refine k_rxV (ci := 4) (fs := fs2) (As := []) (rest := [.int res]) (wr := w3) F (hc2 _ _ hMP) ⟨_, rfl, rfl⟩ (List.mem_iff_getElem?.mp (List.mem_append_left _ hf2)) rfl mw_4_54 mw_4_55 mw_4_56 mw_1_5 mw_4_57 hd_X4_fault ⟨by show d2 + 1 ≤ 13; omega, by show 8 + (2 + 11) + 40 * d2 ≤ 528; omega⟩ hKx hZ hS hP hD hA List.perm_append_comm rfl hl.1 rfl (Nat.le_of_ble_eq_true rfl) dL_law_883 hf (fun w4 H locs hMP2 hP hD hS => ?_)
  refine z_eq hx hb (tgt := 963) res.toInt res.toInt dL_law_886 (by decide) rfl rfl (fun _ => ?_) (fun h9 => absurd rfl h9)
  exact hJ H locs ls ⟨hl, w3, w4, r2, c2, g2, v2, t2, p2, n2, hok2, hCP2, hMP2, hP, hD, hS⟩
set_option maxHeartbeats 4000000 in
set_option maxRecDepth 100000 in
theorem law_c21 (F : CallFix p m c code 4 s #[Value.ref b] GW R_law) (hKx : Kx G s) (hZ : Zs A s) (hA : ∀ q : Nat, s.heap.size ≤ q → A q) (hX : va_X b L xs s s.heap) (hbl : b < s.heap.size) (hbA : ¬ A b) (hL : L ≤ 2560) (hx5 : x + 5 ≤ L) (hf : cells ≤ room_1.cells ∧ slots ≤ room_1.slots) (hJ : ∀ (H : Heap) (locs : List Loc) (ls : Array Slot), LI G me hm s A b x H locs ls → W p l e room_1 s m #[Value.ref b] below meth c H locs cells slots Q (F0 m 963 ls [])) (hI : LI G me hm s A b x H locs ls) : W p l e room_1 s m #[Value.ref b] below meth c H locs cells slots Q (F0 m 891 ls []) := by
  obtain ⟨hl, w1, w2, r1, c1, g1, v1, t1, p1, n1, hok, hCP, hMP, hP, hD, hS⟩ := hI
  have hx := F.1
  have hb := F.2.1
  have hown : s.vm.findClass "FoldedMonthsLaw" = some m.cls := F.2.2.2.1
  have hts := F.2.2.2.2
  refine lv_aload_n hx hb dL_law_891 rfl (lv_at hl 2 rfl) ?_
  obtain ⟨res, r2, c2, g2, v2, t2, p2, n2, hok2, ⟨d1, hd1, hc1⟩, ⟨d2, hd2, hc2⟩⟩ := s_carryOut l G me hm hok
  obtain ⟨fs1, hf1⟩ := hCP.recv
  obtain ⟨fs2, hf2⟩ := hMP.recv
  refine k_rxV (ci := 3) (fs := fs1) (As := []) (rest := []) (wr := w2) F (hc1 _ _ hCP) ⟨_, rfl, rfl⟩ (List.mem_iff_getElem?.mp (List.mem_append_left _ hf1)) rfl mw_3_27 mw_3_28 mw_3_29 mw_1_1 mw_3_30 hd_X3_carryOut ⟨by show d1 + 1 ≤ 13; omega, by show 8 + (4 + 11) + 40 * d1 ≤ 528; omega⟩ hKx hZ hS hP hD hA List.perm_append_comm rfl hl.1 rfl (Nat.le_of_ble_eq_true rfl) dL_law_892 hf (fun w3 H locs hCP2 hP hD hS => ?_)
  refine lv_aload_n hx hb dL_law_895 rfl (lv_at hl 1 rfl) ?_
  refine k_rxV (ci := 4) (fs := fs2) (As := []) (rest := [.int res]) (wr := w3) F (hc2 _ _ hMP) ⟨_, rfl, rfl⟩ (List.mem_iff_getElem?.mp (List.mem_append_left _ hf2)) rfl mw_4_78 mw_4_79 mw_4_80 mw_1_5 mw_4_81 hd_X4_carryOut ⟨by show d2 + 1 ≤ 13; omega, by show 8 + (3 + 11) + 40 * d2 ≤ 528; omega⟩ hKx hZ hS hP hD hA List.perm_append_comm rfl hl.1 rfl (Nat.le_of_ble_eq_true rfl) dL_law_896 hf (fun w4 H locs hMP2 hP hD hS => ?_)
  refine z_eq hx hb (tgt := 963) res.toInt res.toInt dL_law_899 (by decide) rfl rfl (fun _ => ?_) (fun h9 => absurd rfl h9)
  exact hJ H locs ls ⟨hl, w3, w4, r2, c2, g2, v2, t2, p2, n2, hok2, hCP2, hMP2, hP, hD, hS⟩
set_option maxHeartbeats 4000000 in
set_option maxRecDepth 100000 in
theorem law_c22 (F : CallFix p m c code 4 s #[Value.ref b] GW R_law) (hKx : Kx G s) (hZ : Zs A s) (hA : ∀ q : Nat, s.heap.size ≤ q → A q) (hX : va_X b L xs s s.heap) (hbl : b < s.heap.size) (hbA : ¬ A b) (hL : L ≤ 2560) (hx5 : x + 5 ≤ L) (hf : cells ≤ room_1.cells ∧ slots ≤ room_1.slots) (hJ : ∀ (H : Heap) (locs : List Loc) (ls : Array Slot), LI G me hm s A b x H locs ls → W p l e room_1 s m #[Value.ref b] below meth c H locs cells slots Q (F0 m 963 ls [])) (hI : LI G me hm s A b x H locs ls) : W p l e room_1 s m #[Value.ref b] below meth c H locs cells slots Q (F0 m 904 ls []) := by
  obtain ⟨hl, w1, w2, r1, c1, g1, v1, t1, p1, n1, hok, hCP, hMP, hP, hD, hS⟩ := hI
  have hx := F.1
  have hb := F.2.1
  have hown : s.vm.findClass "FoldedMonthsLaw" = some m.cls := F.2.2.2.1
  have hts := F.2.2.2.2
  refine lv_aload_n hx hb dL_law_904 rfl (lv_at hl 2 rfl) ?_
  obtain ⟨res, r2, c2, g2, v2, t2, p2, n2, hok2, ⟨d1, hd1, hc1⟩, ⟨d2, hd2, hc2⟩⟩ := s_undo l G me hm hok
  obtain ⟨fs1, hf1⟩ := hCP.recv
  obtain ⟨fs2, hf2⟩ := hMP.recv
  refine k_rxV (ci := 3) (fs := fs1) (As := []) (rest := []) (wr := w2) F (hc1 _ _ hCP) ⟨_, rfl, rfl⟩ (List.mem_iff_getElem?.mp (List.mem_append_left _ hf1)) rfl mw_3_36 mw_3_37 mw_3_38 mw_1_1 mw_3_39 hd_X3_undo ⟨by show d1 + 1 ≤ 13; omega, by show 8 + (1 + 11) + 40 * d1 ≤ 528; omega⟩ hKx hZ hS hP hD hA List.perm_append_comm rfl hl.1 rfl (Nat.le_of_ble_eq_true rfl) dL_law_905 hf (fun w3 H locs hCP2 hP hD hS => ?_)
  refine lv_aload_n hx hb dL_law_908 rfl (lv_at hl 1 rfl) ?_
  refine k_rxV (ci := 4) (fs := fs2) (As := []) (rest := [.int res]) (wr := w3) F (hc2 _ _ hMP) ⟨_, rfl, rfl⟩ (List.mem_iff_getElem?.mp (List.mem_append_left _ hf2)) rfl mw_4_87 mw_4_88 mw_4_89 mw_1_5 mw_4_90 hd_X4_undo ⟨by show d2 + 1 ≤ 13; omega, by show 8 + (1 + 11) + 40 * d2 ≤ 528; omega⟩ hKx hZ hS hP hD hA List.perm_append_comm rfl hl.1 rfl (Nat.le_of_ble_eq_true rfl) dL_law_909 hf (fun w4 H locs hMP2 hP hD hS => ?_)
  refine z_eq hx hb (tgt := 963) res.toInt res.toInt dL_law_912 (by decide) rfl rfl (fun _ => ?_) (fun h9 => absurd rfl h9)
  exact hJ H locs ls ⟨hl, w3, w4, r2, c2, g2, v2, t2, p2, n2, hok2, hCP2, hMP2, hP, hD, hS⟩
set_option maxHeartbeats 4000000 in
set_option maxRecDepth 100000 in
theorem law_c23 (F : CallFix p m c code 4 s #[Value.ref b] GW R_law) (hKx : Kx G s) (hZ : Zs A s) (hA : ∀ q : Nat, s.heap.size ≤ q → A q) (hX : va_X b L xs s s.heap) (hbl : b < s.heap.size) (hbA : ¬ A b) (hL : L ≤ 2560) (hx5 : x + 5 ≤ L) (hf : cells ≤ room_1.cells ∧ slots ≤ room_1.slots) (hJ : ∀ (H : Heap) (locs : List Loc) (ls : Array Slot), LI G me hm s A b x H locs ls → W p l e room_1 s m #[Value.ref b] below meth c H locs cells slots Q (F0 m 963 ls [])) (hI : LI G me hm s A b x H locs ls) : W p l e room_1 s m #[Value.ref b] below meth c H locs cells slots Q (F0 m 917 ls []) := by
  obtain ⟨hl, w1, w2, r1, c1, g1, v1, t1, p1, n1, hok, hCP, hMP, hP, hD, hS⟩ := hI
  have hx := F.1
  have hb := F.2.1
  have hown : s.vm.findClass "FoldedMonthsLaw" = some m.cls := F.2.2.2.1
  have hts := F.2.2.2.2
  refine lv_aload_n hx hb dL_law_917 rfl (lv_at hl 2 rfl) ?_
  refine lv_aload_n hx hb dL_law_918 rfl (lv_at hl 3 rfl) ?_
  refine lv_iload_n hx hb dL_law_919 rfl (lv_at hl 0 rfl) ?_
  refine lv_iconst (v := nI 1) hx hb dL_law_920 (by decide) ?_
  refine n_iadd hx hb dL_law_921 ?_
  refine n_sld hx hb hX hbl hbA hS (k := x + 1) (by omega) hL dL_law_922 ?_
  obtain ⟨res, r2, c2, g2, v2, t2, p2, n2, hok2, ⟨d1, hd1, hc1⟩, ⟨d2, hd2, hc2⟩⟩ := s_save l G me hm hok (xs (x + 1))
  obtain ⟨fs1, hf1⟩ := hCP.recv
  obtain ⟨fs2, hf2⟩ := hMP.recv
  refine k_rxV (ci := 3) (fs := fs1) (As := [.int (xs (x + 1))]) (rest := []) (wr := w2) F (hc1 _ _ hCP) ⟨_, rfl, rfl⟩ (List.mem_iff_getElem?.mp (List.mem_append_left _ hf1)) rfl mw_3_40 mw_3_41 mw_3_42 mw_1_1 mw_3_43 hd_X3_save ⟨by show d1 + 1 ≤ 13; omega, by show 8 + (2 + 11) + 40 * d1 ≤ 528; omega⟩ hKx hZ hS hP hD hA List.perm_append_comm rfl hl.1 rfl (Nat.le_of_ble_eq_true rfl) dL_law_923 hf (fun w3 H locs hCP2 hP hD hS => ?_)
  refine lv_aload_n hx hb dL_law_926 rfl (lv_at hl 1 rfl) ?_
  refine lv_aload_n hx hb dL_law_927 rfl (lv_at hl 3 rfl) ?_
  refine lv_iload_n hx hb dL_law_928 rfl (lv_at hl 0 rfl) ?_
  refine lv_iconst (v := nI 1) hx hb dL_law_929 (by decide) ?_
  refine n_iadd hx hb dL_law_930 ?_
  refine n_sld hx hb hX hbl hbA hS (k := x + 1) (by omega) hL dL_law_931 ?_
  refine k_rxV (ci := 4) (fs := fs2) (As := [.int (xs (x + 1))]) (rest := [.int res]) (wr := w3) F (hc2 _ _ hMP) ⟨_, rfl, rfl⟩ (List.mem_iff_getElem?.mp (List.mem_append_left _ hf2)) rfl mw_4_91 mw_4_92 mw_4_93 mw_1_5 mw_4_94 hd_X4_save ⟨by show d2 + 1 ≤ 13; omega, by show 8 + (2 + 11) + 40 * d2 ≤ 528; omega⟩ hKx hZ hS hP hD hA List.perm_append_comm rfl hl.1 rfl (Nat.le_of_ble_eq_true rfl) dL_law_932 hf (fun w4 H locs hMP2 hP hD hS => ?_)
  refine z_eq hx hb (tgt := 963) res.toInt res.toInt dL_law_935 (by decide) rfl rfl (fun _ => ?_) (fun h9 => absurd rfl h9)
  exact hJ H locs ls ⟨hl, w3, w4, r2, c2, g2, v2, t2, p2, n2, hok2, hCP2, hMP2, hP, hD, hS⟩
set_option maxHeartbeats 4000000 in
set_option maxRecDepth 100000 in
theorem law_c24 (F : CallFix p m c code 4 s #[Value.ref b] GW R_law) (hKx : Kx G s) (hZ : Zs A s) (hA : ∀ q : Nat, s.heap.size ≤ q → A q) (hX : va_X b L xs s s.heap) (hbl : b < s.heap.size) (hbA : ¬ A b) (hL : L ≤ 2560) (hx5 : x + 5 ≤ L) (hf : cells ≤ room_1.cells ∧ slots ≤ room_1.slots) (hJ : ∀ (H : Heap) (locs : List Loc) (ls : Array Slot), LI G me hm s A b x H locs ls → W p l e room_1 s m #[Value.ref b] below meth c H locs cells slots Q (F0 m 963 ls [])) (hI : LI G me hm s A b x H locs ls) : W p l e room_1 s m #[Value.ref b] below meth c H locs cells slots Q (F0 m 940 ls []) := by
  obtain ⟨hl, w1, w2, r1, c1, g1, v1, t1, p1, n1, hok, hCP, hMP, hP, hD, hS⟩ := hI
  have hx := F.1
  have hb := F.2.1
  have hown : s.vm.findClass "FoldedMonthsLaw" = some m.cls := F.2.2.2.1
  have hts := F.2.2.2.2
  refine lv_aload_n hx hb dL_law_940 rfl (lv_at hl 2 rfl) ?_
  refine lv_aload_n hx hb dL_law_941 rfl (lv_at hl 3 rfl) ?_
  refine lv_iload_n hx hb dL_law_942 rfl (lv_at hl 0 rfl) ?_
  refine lv_iconst (v := nI 1) hx hb dL_law_943 (by decide) ?_
  refine n_iadd hx hb dL_law_944 ?_
  refine n_sld hx hb hX hbl hbA hS (k := x + 1) (by omega) hL dL_law_945 ?_
  obtain ⟨res, r2, c2, g2, v2, t2, p2, n2, hok2, ⟨d1, hd1, hc1⟩, ⟨d2, hd2, hc2⟩⟩ := s_restore l G me hm hok (xs (x + 1))
  obtain ⟨fs1, hf1⟩ := hCP.recv
  obtain ⟨fs2, hf2⟩ := hMP.recv
  refine k_rxV (ci := 3) (fs := fs1) (As := [.int (xs (x + 1))]) (rest := []) (wr := w2) F (hc1 _ _ hCP) ⟨_, rfl, rfl⟩ (List.mem_iff_getElem?.mp (List.mem_append_left _ hf1)) rfl mw_3_44 mw_3_45 mw_3_46 mw_1_1 mw_3_47 hd_X3_restore ⟨by show d1 + 1 ≤ 13; omega, by show 8 + (2 + 11) + 40 * d1 ≤ 528; omega⟩ hKx hZ hS hP hD hA List.perm_append_comm rfl hl.1 rfl (Nat.le_of_ble_eq_true rfl) dL_law_946 hf (fun w3 H locs hCP2 hP hD hS => ?_)
  refine lv_aload_n hx hb dL_law_949 rfl (lv_at hl 1 rfl) ?_
  refine lv_aload_n hx hb dL_law_950 rfl (lv_at hl 3 rfl) ?_
  refine lv_iload_n hx hb dL_law_951 rfl (lv_at hl 0 rfl) ?_
  refine lv_iconst (v := nI 1) hx hb dL_law_952 (by decide) ?_
  refine n_iadd hx hb dL_law_953 ?_
  refine n_sld hx hb hX hbl hbA hS (k := x + 1) (by omega) hL dL_law_954 ?_
  refine k_rxV (ci := 4) (fs := fs2) (As := [.int (xs (x + 1))]) (rest := [.int res]) (wr := w3) F (hc2 _ _ hMP) ⟨_, rfl, rfl⟩ (List.mem_iff_getElem?.mp (List.mem_append_left _ hf2)) rfl mw_4_95 mw_4_96 mw_4_97 mw_1_5 mw_4_98 hd_X4_restore ⟨by show d2 + 1 ≤ 13; omega, by show 8 + (2 + 11) + 40 * d2 ≤ 528; omega⟩ hKx hZ hS hP hD hA List.perm_append_comm rfl hl.1 rfl (Nat.le_of_ble_eq_true rfl) dL_law_955 hf (fun w4 H locs hMP2 hP hD hS => ?_)
  refine z_eq hx hb (tgt := 963) res.toInt res.toInt dL_law_958 (by decide) rfl rfl (fun _ => ?_) (fun h9 => absurd rfl h9)
  exact hJ H locs ls ⟨hl, w3, w4, r2, c2, g2, v2, t2, p2, n2, hok2, hCP2, hMP2, hP, hD, hS⟩
end LAW
