/-! ===== the class's writes, in the reference's words; what holds of a diary at rest ===== -/
theorem dO_e {r r' : Nat → Int32} {a b c d : Nat} (h : ∀ j, j < 7 → r' j = r j) : dO r' a b c d = dO r a b c d := by
  show (Sum.inr _ : va_E) = Sum.inr _
  rw [h 0 (by omega), h 1 (by omega), h 2 (by omega), h 3 (by omega), h 4 (by omega), h 5 (by omega), h 6 (by omega)]
theorem dB_e {r r' : Nat → Int32} (h : ∀ k, k < 1920 → r' (255 + k) = r (255 + k)) : dB r' = dB r := by
  funext k
  unfold dB
  by_cases q : k < 1920
  · rw [if_pos q, if_pos q, h k q]
  · rw [if_neg q, if_neg q]
theorem dF_e {r r' : Nat → Int32} (h : ∀ m, m < 120 → r' (15 + m) = r (15 + m)) : dF r' = dF r := by
  funext k
  unfold dF
  by_cases q : k < 120
  · rw [if_pos q, if_pos q, h k q]
  · rw [if_neg q, if_neg q]
theorem dN_e {r r' : Nat → Int32} (h : ∀ m, m < 120 → r' (15 + m) = r (15 + m) ∧ r' (135 + m) = r (135 + m)) : dN r' = dN r := by
  funext k
  unfold dN
  by_cases q : k < 120
  · rw [if_pos q, if_pos q, (h k q).1, (h k q).2]
  · rw [if_neg q, if_neg q]
theorem dW_e {r r' : Nat → Int32} (h : ∀ k, k < 7 → r' (7 + k) = r (7 + k)) : dW r' = dW r := by
  funext k
  unfold dW
  by_cases q : k < 7
  · rw [if_pos q, if_pos q, h k q]
  · rw [if_neg q, if_neg q]
theorem dB_u {r r' : Nat → Int32} {i : Nat} {v : Int32} (hi : i < 1920) (h : ∀ k, k < 1920 → r' (255 + k) = if k = i then v else r (255 + k)) : upd (dB r) i v = dB r' := by
  funext k
  unfold dB upd
  by_cases q : k = i
  · rw [if_pos q, if_pos (by omega), h k (by omega), if_pos q]
  · rw [if_neg q]
    dsimp only
    by_cases q2 : k < 1920
    · rw [if_pos q2, if_pos q2, h k q2, if_neg q]
    · rw [if_neg q2, if_neg q2]
theorem dF_u {r r' : Nat → Int32} {i : Nat} {v : Int32} (hi : i < 120) (h : ∀ m, m < 120 → cfm (r' (15 + m)) = if m = i then v else cfm (r (15 + m))) : upd (dF r) i v = dF r' := by
  funext k
  unfold dF upd
  by_cases q : k = i
  · rw [if_pos q, if_pos (by omega), h k (by omega), if_pos q]
  · rw [if_neg q]
    dsimp only
    by_cases q2 : k < 120
    · rw [if_pos q2, if_pos q2, h k q2, if_neg q]
    · rw [if_neg q2, if_neg q2]
theorem dN_u {r r' : Nat → Int32} {i : Nat} {v : Int32} (hi : i < 120) (h : ∀ m, m < 120 → cnm (r' (15 + m)) (r' (135 + m)) = if m = i then v else cnm (r (15 + m)) (r (135 + m))) : upd (dN r) i v = dN r' := by
  funext k
  unfold dN upd
  by_cases q : k = i
  · rw [if_pos q, if_pos (by omega), h k (by omega), if_pos q]
  · rw [if_neg q]
    dsimp only
    by_cases q2 : k < 120
    · rw [if_pos q2, if_pos q2, h k q2, if_neg q]
    · rw [if_neg q2, if_neg q2]
theorem dW_u {r r' : Nat → Int32} {i : Nat} {v : Int32} (hi : i < 7) (h : ∀ k, k < 7 → r' (7 + k) = if k = i then v else r (7 + k)) : upd (dW r) i v = dW r' := by
  funext k
  unfold dW upd
  by_cases q : k = i
  · rw [if_pos q, if_pos (by omega), h k (by omega), if_pos q]
  · rw [if_neg q]
    dsimp only
    by_cases q2 : k < 7
    · rw [if_pos q2, if_pos q2, h k q2, if_neg q]
    · rw [if_neg q2, if_neg q2]
/-! rows that agree from their forms on -/
def Ag (r r' : Nat → Int32) : Prop := ∀ j, 15 ≤ j → r' j = r j
theorem ag_mIk {r r' : Nat → Int32} (h : Ag r r') (m : Nat) : ∀ k, mIk r' m k = mIk r m k
  | 0 => rfl
  | k + 1 => by show mIk r' m k + _ = mIk r m k + _; rw [ag_mIk h m k, h _ (by omega)]
theorem ag_rnk {r r' : Nat → Int32} (h : Ag r r') (m : Nat) : ∀ k, rnk r' m k = rnk r m k
  | 0 => rfl
  | k + 1 => by show rnk r' m k + _ = rnk r m k + _; rw [ag_rnk h m k, h _ (by omega)]
theorem ag_alk {r r' : Nat → Int32} (h : Ag r r') (m o k : Nat) : alk r' m o k ↔ alk r m o k := by
  unfold alk
  constructor
  · intro z s hs; have := z s hs; rwa [h _ (by omega), h _ (by omega)] at this
  · intro z s hs; rw [h _ (by omega), h _ (by omega)]; exact z s hs
theorem ag_tOk {r r' : Nat → Int32} (h : Ag r r') (m : Nat) (B : Int) (o : Nat) : tOk r' m B o ↔ tOk r m B o := by
  unfold tOk
  rw [h (15 + o) (by omega), ag_alk h m o 16]
theorem ag_twf {r r' : Nat → Int32} (h : Ag r r') (m : Nat) (B : Int) : ∀ n o, twf r' m B n o = twf r m B n o
  | 0, _ => rfl
  | n + 1, o => cI_c (ag_tOk h m B o) rfl (ag_twf h m B n (o + 1))
theorem ag_tw {r r' : Nat → Int32} (h : Ag r r') (m : Nat) (B : Int) : tw r' m B = tw r m B := ag_twf h m B m 0
theorem ag_siz {r r' : Nat → Int32} (h : Ag r r') (m : Nat) (B F : Int) : siz r' m B F = siz r m B F := by
  unfold siz
  rw [show mIn r' m = mIn r m from ag_mIk h m 16, show rns r' m = rns r m from ag_rnk h m 16, ag_tw h m B]
theorem ag_szo {r r' : Nat → Int32} (h : Ag r r') (m : Nat) : szo r' m = szo r m := by
  unfold szo
  rw [h (15 + m) (by omega), ag_siz h]
theorem ag_bsj {r r' : Nat → Int32} (h : Ag r r') (m : Nat) (B : Int) : ∀ k, bsj r' m B k = bsj r m B k
  | 0 => rfl
  | k + 1 => by
    have ih := ag_bsj h m B k
    exact cI_c (by rw [ih, ag_siz h, ag_siz h]) rfl ih
/-! fold, cell by cell -/
theorem bsj_ok {r : Nat → Int32} {m : Nat} {B : Int} : ∀ k, k ≤ 4 → bsj r m B k = 4 ∨ siz r m B ((bsj r m B k : Nat) : Int) ≠ -6
  | 0, _ => Or.inl rfl
  | k + 1, hk => by
    by_cases h : siz r m B (3 - (k : Int)) ≠ -6 ∧ (siz r m B (3 - (k : Int))).toInt ≤ (siz r m B ((bsj r m B k : Nat) : Int)).toInt
    · rw [bsj_t h]
      exact Or.inr (by rw [show ((3 - k : Nat) : Int) = 3 - (k : Int) by omega]; exact h.1)
    · rw [bsj_f h]; exact bsj_ok k (by omega)
/-- where SAME is taken there is a month to name -/
theorem bst_1 {r : Nat → Int32} {m : Nat} {B : Int} (h : bst r m B = 1) : ∃ j, j < m ∧ tw r m B = nI j := by
  have h4 := bsj_ok (r := r) (m := m) (B := B) 4 (Nat.le_refl 4)
  rw [show bsj r m B 4 = 1 from h] at h4
  have h5 : siz r m B ((1 : Nat) : Int) ≠ -6 := h4.resolve_left (by decide)
  refine (tw_in r m B).resolve_left (fun z => h5 ?_)
  unfold siz
  rw [if_neg (by decide), if_pos (by decide), if_pos z]
theorem fl2_mk {r : Nat → Int32} {m j : Nat} {B : Int} (hm : m < 120) (h1 : j ≠ 135 + m) (h2 : j ≠ 15 + m) : fl2 r m B j = r j := by
  unfold fl2 fl1
  rw [upd_n h2, upd_n h1]
theorem mk_mIk {r r' : Nat → Int32} (h : ∀ j, 255 ≤ j → r' j = r j) (m : Nat) : ∀ k, mIk r' m k = mIk r m k
  | 0 => rfl
  | k + 1 => by show mIk r' m k + _ = mIk r m k + _; rw [mk_mIk h m k, h _ (by omega)]
theorem mk_rnk {r r' : Nat → Int32} (h : ∀ j, 255 ≤ j → r' j = r j) (m : Nat) : ∀ k, rnk r' m k = rnk r m k
  | 0 => rfl
  | k + 1 => by show rnk r' m k + _ = rnk r m k + _; rw [mk_rnk h m k, h _ (by omega)]
theorem szo_fl2 {r : Nat → Int32} {m : Nat} {B : Int} (hm : m < 120) : szo (fl2 r m B) m = siz r m B ((bst r m B : Nat) : Int) := by
  have hb := bsj_le r m B 4
  have e : fl2 r m B (15 + m) = nI (bst r m B + 1) := by unfold fl2; exact upd_s
  have hmk : ∀ j, 255 ≤ j → fl2 r m B j = r j := fun j hj => fl2_mk hm (by omega) (by omega)
  have e1 : mIn (fl2 r m B) m = mIn r m := mk_mIk hmk m 16
  have e2 : rns (fl2 r m B) m = rns r m := mk_rnk hmk m 16
  unfold szo
  rw [e, pk_sub (by omega), Nat.add_sub_cancel, toI (by show bsj r m B 4 < _; omega), if_neg (by omega)]
  by_cases q : bst r m B = 1
  · obtain ⟨j, hj, ej⟩ := bst_1 q
    rw [q, if_pos (by decide)]
    unfold siz
    rw [if_neg (by decide), if_pos (by decide), ej, if_neg (nI_ne6 (by omega))]
  · rw [if_neg (by omega)]
    unfold siz
    rw [e1, e2]
    by_cases q0 : ((bst r m B : Nat) : Int) = 0
    · rw [if_pos q0, if_pos q0]
    · have q1 : ¬ ((bst r m B : Nat) : Int) = 1 := by omega
      rw [if_neg q0, if_neg q0, if_neg q1, if_neg q1]
theorem fld_5 {r : Nat → Int32} {m : Nat} {B : Int} : fld r m B 5 = r 5 + nI 1 := by
  unfold fld
  rw [upd_s]
  unfold fl3 fl2 fl1
  rw [upd_n (by omega), upd_n (by omega), upd_n (by omega)]
theorem fld_3 {r : Nat → Int32} {m : Nat} {B : Int} (hm : m < 120) : fld r m B 3 = r 3 + siz r m B ((bst r m B : Nat) : Int) := by
  unfold fld
  rw [upd_n (by omega)]
  unfold fl3
  rw [upd_s, szo_fl2 hm]
  unfold fl2 fl1
  rw [upd_n (by omega), upd_n (by omega)]
theorem fld_15 {r : Nat → Int32} {m : Nat} {B : Int} : fld r m B (15 + m) = nI (bst r m B + 1) := by
  unfold fld fl3
  rw [upd_n (by omega), upd_n (by omega)]
  unfold fl2
  exact upd_s
theorem fld_135 {r : Nat → Int32} {m : Nat} {B : Int} : fld r m B (135 + m) = cI (bst r m B = 1) (tw r m B) (nI 0) := by
  unfold fld fl3 fl2
  rw [upd_n (by omega), upd_n (by omega), upd_n (by omega)]
  unfold fl1
  exact upd_s
theorem fld_mk {r : Nat → Int32} {m j : Nat} {B : Int} (hm : m < 120) (hj : 255 ≤ j) : fld r m B j = r j := fld_o (by omega) (by omega) (by omega) (by omega)
theorem fld_f {r : Nat → Int32} {m q : Nat} {B : Int} (hm : m < 120) (hq : q < 120) : fld r m B (15 + q) = if q = m then nI (bst r m B + 1) else r (15 + q) := by
  by_cases e : q = m
  · rw [if_pos e, e]; exact fld_15
  · rw [if_neg e]; exact fld_o (by omega) (by omega) (by omega) (by omega)
theorem fld_n {r : Nat → Int32} {m q : Nat} {B : Int} (hm : m < 120) (hq : q < 120) : fld r m B (135 + q) = if q = m then cI (bst r m B = 1) (tw r m B) (nI 0) else r (135 + q) := by
  by_cases e : q = m
  · rw [if_pos e, e]; exact fld_135
  · rw [if_neg e]; exact fld_o (by omega) (by omega) (by omega) (by omega)
theorem dF_fld {r : Nat → Int32} {m : Nat} {B : Int} (hm : m < 120) : upd (dF r) m (nI (bst r m B)) = dF (fld r m B) := by
  have hb := bsj_le r m B 4
  refine dF_u hm (fun q hq => ?_)
  rw [fld_f hm hq]
  by_cases e : q = m
  · rw [if_pos e, if_pos e]; exact cfm_n (by show bsj r m B 4 + 1 ≤ 5; omega) (by omega)
  · rw [if_neg e, if_neg e]
theorem dN_fld {r : Nat → Int32} {m : Nat} {B : Int} (hm : m < 120) : upd (dN r) m (cI (bst r m B = 1) (tw r m B) (-6)) = dN (fld r m B) := by
  have hb : bst r m B ≤ 4 := bsj_le r m B 4
  refine dN_u hm (fun q hq => ?_)
  rw [fld_f hm hq, fld_n hm hq]
  by_cases e : q = m
  · rw [if_pos e, if_pos e, if_pos e]
    unfold cnm
    rw [toI (by omega)]
    by_cases q1 : bst r m B = 1
    · rw [if_pos (by omega), cI_t q1, cI_t q1]
    · rw [if_neg (by omega), cI_f q1]
  · rw [if_neg e, if_neg e, if_neg e]
theorem dB_fld {r : Nat → Int32} {m : Nat} {B : Int} (hm : m < 120) : dB (fld r m B) = dB r := dB_e (fun k hk => fld_mk hm (by omega))
theorem dW_fld {r : Nat → Int32} {m : Nat} {B : Int} : dW (fld r m B) = dW r := dW_e (fun k hk => fld_o (by omega) (by omega) (by omega) (by omega))
theorem dO_fld {r : Nat → Int32} {m a b c d : Nat} {B : Int} (hm : m < 120) : (.inr (0, [.int (r 0), .int (r 1), .int (r 2), .int (r 3 + siz r m B ((bst r m B : Nat) : Int)), .int (r 4), .int (r 5 + nI 1), .int (r 6), .ref a, .ref b, .ref c, .ref d]) : va_E) = dO (fld r m B) a b c d := by
  show (Sum.inr _ : va_E) = Sum.inr _
  rw [fld_3 hm, fld_5, fld_o (j := 0) (by omega) (by omega) (by omega) (by omega), fld_o (j := 1) (by omega) (by omega) (by omega) (by omega), fld_o (j := 2) (by omega) (by omega) (by omega) (by omega), fld_o (j := 4) (by omega) (by omega) (by omega) (by omega), fld_o (j := 6) (by omega) (by omega) (by omega) (by omega)]
/-! the row of unfolded months -/
theorem dW_tkk {r : Nat → Int32} {k q : Nat} (hk : k ≤ q) (hq : q + 1 < 7) : upd (dW (tkk r k q)) q (dW (tkk r k q) (q + 1)) = dW (tkk r k (q + 1)) := by
  refine dW_u (by omega) (fun j hj => ?_)
  have e : dW (tkk r k q) (q + 1) = r (7 + q + 1) := by
    unfold dW
    rw [if_pos hq, tkk_o (by omega) (by omega)]
    rfl
  rw [e]
  by_cases z : j = q
  · subst z; rw [if_pos rfl, tkk_i (by omega) (by omega)]
  · rw [if_neg z]
    by_cases z2 : k ≤ j ∧ j < q
    · rw [tkk_i (by omega) (by omega), tkk_i (by omega) (by omega)]
    · rw [tkk_o (by omega) (by omega), tkk_o (by omega) (by omega)]
theorem dW_tk0 {r : Nat → Int32} {k : Nat} : dW (tkk r k k) = dW r := dW_e (fun j hj => tkk_o (by omega) (by omega))
theorem dF_tko {r : Nat → Int32} {k : Nat} (hn : ny r ≤ 8) : dF (tko r k) = dF r := dF_e (fun m hm => tko_o (by omega) (by omega))
theorem dN_tko {r : Nat → Int32} {k : Nat} (hn : ny r ≤ 8) : dN (tko r k) = dN r := dN_e (fun m hm => ⟨tko_o (by omega) (by omega), tko_o (by omega) (by omega)⟩)
theorem dB_tko {r : Nat → Int32} {k : Nat} (hn : ny r ≤ 8) : dB (tko r k) = dB r := dB_e (fun m hm => tko_o (by omega) (by omega))
theorem dO_tko {r : Nat → Int32} {k a b c d : Nat} : (.inr (0, [.int (r 0), .int (r 1), .int (r 2), .int (r 3), .int (r 4), .int (r 5), .int (nI (ny r - 1)), .ref a, .ref b, .ref c, .ref d]) : va_E) = dO (tko r k) a b c d := by
  show (Sum.inr _ : va_E) = Sum.inr _
  rw [tko_6, tko_o (j := 0) (by omega) (by omega), tko_o (j := 1) (by omega) (by omega), tko_o (j := 2) (by omega) (by omega), tko_o (j := 3) (by omega) (by omega), tko_o (j := 4) (by omega) (by omega), tko_o (j := 5) (by omega) (by omega)]
theorem ag_tko {r : Nat → Int32} {k : Nat} (hn : ny r ≤ 8) : Ag r (tko r k) := fun j hj => tko_o (by omega) (by omega)
/-- fold and take out: in either order -/
theorem fld_tko {r : Nat → Int32} {m k : Nat} {B : Int} (hm : m < 120) (hn : ny r ≤ 8) : fld (tko r k) m B = tko (fld r m B) k := by
  have ha := ag_tko (k := k) hn
  have en : ny (fld r m B) = ny r := by unfold ny; rw [fld_o (by omega) (by omega) (by omega) (by omega)]
  have eb : bst (tko r k) m B = bst r m B := ag_bsj ha m B 4
  funext j
  by_cases h6 : j = 6
  · subst h6
    rw [fld_o (by omega) (by omega) (by omega) (by omega), tko_6, tko_6, en]
  by_cases h5 : j = 5
  · subst h5; rw [fld_5, tko_o (by omega) (by omega), tko_o (by omega) (by omega), fld_5]
  by_cases h3 : j = 3
  · subst h3; rw [fld_3 hm, tko_o (by omega) (by omega), tko_o (by omega) (by omega), fld_3 hm, eb, ag_siz ha]
  by_cases h15 : j = 15 + m
  · subst h15; rw [fld_15, tko_o (by omega) (by omega), fld_15, eb]
  by_cases h135 : j = 135 + m
  · subst h135; rw [fld_135, tko_o (by omega) (by omega), fld_135, eb, ag_tw ha]
  rw [fld_o h135 h15 h3 h5]
  by_cases q : 7 + k ≤ j ∧ j < 7 + (ny r - 1)
  · rw [tko_i q.1 q.2, tko_i q.1 (by rw [en]; exact q.2), fld_o (by omega) (by omega) (by omega) (by omega)]
  · rw [tko_o h6 (by omega), tko_o h6 (by rw [en]; omega), fld_o h135 h15 h3 h5]
