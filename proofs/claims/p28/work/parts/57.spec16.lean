/-! ===== the class's whole world ===== -/
def hW (G : gT) (h : Nat → Ad) (hr : Nat → Nat → Int32) : va_W := ((List.range 6).map (fun k => dia G (hr k) (h k))).flatten
def tW (G : gT) (t : Nat → Ad) (sr : Nat → Nat → Int32) : va_W := ((List.range 2).map (fun k => dia G (sr k) (t k))).flatten
def uph (c : Nat) (hr : Nat → Nat → Int32) (r : Nat → Int32) : Nat → Nat → Int32 := fun k => if k = c then r else hr k
theorem fam_k {G : gT} {N c : Nat} {h : Nat → Ad} {hr : Nat → Nat → Int32} (hc : c < N) : ∃ Xr : va_W, (((List.range N).map (fun k => dia G (hr k) (h k))).flatten).Perm (Xr ++ dia G (hr c) (h c)) ∧ ∀ r, (((List.range N).map (fun k => dia G (uph c hr r k) (h k))).flatten).Perm (Xr ++ dia G r (h c)) := by
  have hp : (List.range N).Perm (c :: (List.range N).erase c) := List.perm_cons_erase (List.mem_range.mpr hc)
  refine ⟨(((List.range N).erase c).map (fun k => dia G (hr k) (h k))).flatten, ?_, fun r => ?_⟩
  · have h1 := (hp.map (fun k => dia G (hr k) (h k))).flatten
    rw [List.map_cons, List.flatten_cons] at h1
    exact h1.trans List.perm_append_comm
  · have h1 := (hp.map (fun k => dia G (uph c hr r k) (h k))).flatten
    rw [List.map_cons, List.flatten_cons] at h1
    have e1 : ((List.range N).erase c).map (fun k => dia G (uph c hr r k) (h k)) = ((List.range N).erase c).map (fun k => dia G (hr k) (h k)) := by
      refine List.map_congr_left (fun k hk => ?_)
      have hk2 : k ≠ c := ((List.Nodup.mem_erase_iff List.nodup_range).mp hk).1
      unfold uph
      rw [if_neg hk2]
    have e2 : uph c hr r c = r := if_pos rfl
    rw [e1, e2] at h1
    exact h1.trans List.perm_append_comm
theorem hW_k {G : gT} {c : Nat} {h : Nat → Ad} {hr : Nat → Nat → Int32} (hc : c ≤ 5) : ∃ Xr : va_W, (hW G h hr).Perm (Xr ++ dia G (hr c) (h c)) ∧ ∀ r, (hW G h (uph c hr r)).Perm (Xr ++ dia G r (h c)) := fam_k (by omega)
theorem tW_k {G : gT} {v : Nat} {t : Nat → Ad} {sr : Nat → Nat → Int32} (hv : v ≤ 1) : ∃ Yr : va_W, (tW G t sr).Perm (Yr ++ dia G (sr v) (t v)) ∧ ∀ r, (tW G t (uph v sr r)).Perm (Yr ++ dia G r (t v)) := fam_k (by omega)
/-- turned round: the oldest comes last -/
def rotA (h : Nat → Ad) : Nat → Ad := fun k => if k < 5 then h (k + 1) else h 0
def rotH (hr : Nat → Nat → Int32) (r : Nat → Int32) : Nat → Nat → Int32 := fun k => if k < 5 then hr (k + 1) else r
abbrev dV (r : Nat → Int32) (a : Ad) : List Value := [.int (r 0), .int (r 1), .int (r 2), .int (r 3), .int (r 4), .int (r 5), .int (r 6), .ref a.2.1, .ref a.2.2.1, .ref a.2.2.2.1, .ref a.2.2.2.2]
abbrev dA (G : gT) (r : Nat → Int32) (a : Ad) : va_W := [(a.2.1, .inl (gI G, 1920, .inl (dB r))), (a.2.2.1, .inl (gI G, 120, .inl (dF r))), (a.2.2.2.1, .inl (gI G, 120, .inl (dN r))), (a.2.2.2.2, .inl (gI G, 7, .inl (dW r)))]
theorem hW_6 {G : gT} {h : Nat → Ad} {hr : Nat → Nat → Int32} : ∃ Xr : va_W, (hW G h hr).Perm (Xr ++ (dia G (hr 0) (h 0) ++ [((h 1).1, .inr (0, dV (hr 1) (h 1))), ((h 2).1, .inr (0, dV (hr 2) (h 2))), ((h 3).1, .inr (0, dV (hr 3) (h 3))), ((h 4).1, .inr (0, dV (hr 4) (h 4))), ((h 5).1, .inr (0, dV (hr 5) (h 5)))])) ∧
    ∀ r, (hW G (rotA h) (rotH hr r)).Perm (Xr ++ (dia G r (h 0) ++ [((h 1).1, .inr (0, dV (hr 1) (h 1))), ((h 2).1, .inr (0, dV (hr 2) (h 2))), ((h 3).1, .inr (0, dV (hr 3) (h 3))), ((h 4).1, .inr (0, dV (hr 4) (h 4))), ((h 5).1, .inr (0, dV (hr 5) (h 5)))])) := by
  refine ⟨dA G (hr 1) (h 1) ++ (dA G (hr 2) (h 2) ++ (dA G (hr 3) (h 3) ++ (dA G (hr 4) (h 4) ++ dA G (hr 5) (h 5)))), ?_, fun r => ?_⟩
  · exact pmB2 [dia G (hr 0) (h 0), [((h 1).1, .inr (0, dV (hr 1) (h 1)))], dA G (hr 1) (h 1), [((h 2).1, .inr (0, dV (hr 2) (h 2)))], dA G (hr 2) (h 2), [((h 3).1, .inr (0, dV (hr 3) (h 3)))], dA G (hr 3) (h 3), [((h 4).1, .inr (0, dV (hr 4) (h 4)))], dA G (hr 4) (h 4), [((h 5).1, .inr (0, dV (hr 5) (h 5)))], dA G (hr 5) (h 5)] [2, 4, 6, 8, 10, 0, 1, 3, 5, 7, 9] (by decide) rfl rfl rfl
  · exact pmB2 [[((h 1).1, .inr (0, dV (hr 1) (h 1)))], dA G (hr 1) (h 1), [((h 2).1, .inr (0, dV (hr 2) (h 2)))], dA G (hr 2) (h 2), [((h 3).1, .inr (0, dV (hr 3) (h 3)))], dA G (hr 3) (h 3), [((h 4).1, .inr (0, dV (hr 4) (h 4)))], dA G (hr 4) (h 4), [((h 5).1, .inr (0, dV (hr 5) (h 5)))], dA G (hr 5) (h 5), dia G r (h 0)] [1, 3, 5, 7, 9, 10, 0, 2, 4, 6, 8] (by decide) rfl rfl rfl
abbrev cM (me o ou oh os op : Nat) (c sv : Int32) : va_W := [(me, .inr (3, [.ref o, .ref ou, .ref oh, .ref os, .ref op, .int c, .int sv]))]
abbrev cR (G : gT) (oh : Nat) (hf : Nat → Option Nat) : va_W := [(oh, .inl (gD G, 6, .inr (.inr (.inr (.inr hf)))))]
abbrev cS2 (G : gT) (os : Nat) (fs : Nat → Option Nat) : va_W := [(os, .inl (gD G, 2, .inr (.inr (.inr (.inr fs)))))]
abbrev cP0 (op pa pt n : Nat) (i k3 k4 : Int32) : va_W := [(op, .inr (1, [.ref pa, .ref pt, .int (nI n), .int i, .int k3, .int k4]))]
abbrev cP1 (G : gT) (pa : Nat) (p : Nat → Int32) : va_W := [(pa, .inl (gC G, 80, .inl p))]
abbrev cP2 (G : gT) (pt : Nat) (f : Nat → Option Nat) : va_W := [(pt, .inl (gS G, 40, .inr (.inr (.inr (.inr f)))))]
abbrev rowH (h : Nat → Ad) : Nat → Option Nat := lis6 (h 0).1 (h 1).1 (h 2).1 (h 3).1 (h 4).1 (h 5).1
abbrev rowS (t : Nat → Ad) : Nat → Option Nat := lis2 (t 0).1 (t 1).1
theorem rowH_k {h : Nat → Ad} {c : Nat} (hc : c ≤ 5) : rowH h c = some (h c).1 := by
  rcases (show c = 0 ∨ c = 1 ∨ c = 2 ∨ c = 3 ∨ c = 4 ∨ c = 5 by omega) with rfl | rfl | rfl | rfl | rfl | rfl <;> rfl
theorem rowS_k {t : Nat → Ad} {v : Nat} (hv : v ≤ 1) : rowS t v = some (t v).1 := by
  rcases (show v = 0 ∨ v = 1 by omega) with rfl | rfl <;> rfl
/-- the class's object and all that it holds: its diary r, c recorded states hr, its slots sr (sv: which are saved), its text p of n signs -/
def CP (G : gT) (me : Nat) (r : Nat → Int32) (c : Nat) (hr : Nat → Nat → Int32) (sv : Int32) (sr : Nat → Nat → Int32) (p : Nat → Int32) (n : Nat) (ws : va_W) : Prop :=
  ∃ (A0 A1 : Ad) (oh : Nat) (h : Nat → Ad) (os : Nat) (t : Nat → Ad) (op pa pt : Nat) (hs : Nat → Nat) (f : Nat → Option Nat) (rt : Nat → Int32) (i : Nat) (k3 k4 : Int32) (T : Nat → Nat → Int32), (∀ k, k < 40 → f k = some (hs k)) ∧
    ws = cB (sW hs T) (cM me A0.1 A1.1 oh os op (nI c) sv) (cR G oh (rowH h)) (dia G r A0) (dia G rt A1) (hW G h hr) (cS2 G os (rowS t)) (tW G t sr) (cP0 op pa pt n (nI i) k3 k4) (cP1 G pa p) (cP2 G pt f)
theorem CP.recv {G : gT} {me c n : Nat} {r p : Nat → Int32} {hr sr : Nat → Nat → Int32} {sv : Int32} {ws : va_W} (h : CP G me r c hr sv sr p n ws) : ∃ (fs : List Value), (me, (.inr (3, fs) : va_E)) ∈ ws := by
  obtain ⟨A0, A1, oh, h, os, t, op, pa, pt, hs, f, rt, i, k3, k4, T, hf, rfl⟩ := h
  exact ⟨_, in_M (List.mem_singleton.mpr rfl)⟩
def recH (c : Nat) (hr : Nat → Nat → Int32) (r : Nat → Int32) : Nat → Nat → Int32 := if c = 6 then rotH hr r else uph c hr r
theorem recH_6 {c : Nat} {hr : Nat → Nat → Int32} {r : Nat → Int32} (h : c = 6) : recH c hr r = rotH hr r := if_pos h
theorem recH_n {c : Nat} {hr : Nat → Nat → Int32} {r : Nat → Int32} (h : ¬ c = 6) : recH c hr r = uph c hr r := if_neg h
section LFT
variable {l : Launch} {G : gT} {y : MethodName} {bytes : ByteArray} {maxL d : Nat} {ret : Option FieldType} {As : List Value} {res : Int32} {r r' : Nat → Int32}
/-- a method that records, then writes the diary -/
theorem rec_lift
    (hk : ∀ (sz me o ou oh os op c : Nat) (sv : Int32) (ab af an aw : Nat) (hf : Nat → Option Nat) (o2 b2 f2 n2 w2 : Nat) (r2 : Nat → Int32), c ≤ 5 → hf c = some o2 →
      Rw l G y bytes maxL ret d sz (cM me o ou oh os op (nI c) sv ++ (cR G oh hf ++ (dia G r (o, ab, af, an, aw) ++ dia G r2 (o2, b2, f2, n2, w2)))) (.ref me :: As) res (cM me o ou oh os op (nI (c + 1)) sv ++ (cR G oh hf ++ (dia G r' (o, ab, af, an, aw) ++ dia G r (o2, b2, f2, n2, w2)))))
    (h6 : ∀ (sz me o ou oh os op : Nat) (sv : Int32) (ab af an aw h0 h1 h2 h3 h4 h5 b2 f2 n2 w2 : Nat) (r2 : Nat → Int32) (v1 v2 v3 v4 v5 : List Value),
      Rw l G y bytes maxL ret d sz (cM me o ou oh os op (nI 6) sv ++ (cR G oh (lis6 h0 h1 h2 h3 h4 h5) ++ (dia G r (o, ab, af, an, aw) ++ (dia G r2 (h0, b2, f2, n2, w2) ++ [(h1, .inr (0, v1)), (h2, .inr (0, v2)), (h3, .inr (0, v3)), (h4, .inr (0, v4)), (h5, .inr (0, v5))])))) (.ref me :: As) res
        (cM me o ou oh os op (nI 6) sv ++ (cR G oh (lis6 h1 h2 h3 h4 h5 h0) ++ (dia G r' (o, ab, af, an, aw) ++ (dia G r (h0, b2, f2, n2, w2) ++ [(h1, .inr (0, v1)), (h2, .inr (0, v2)), (h3, .inr (0, v3)), (h4, .inr (0, v4)), (h5, .inr (0, v5))])))))
    {me c n : Nat} {hr sr : Nat → Nat → Int32} {sv : Int32} {p : Nat → Int32} {ws : va_W} (hc : c ≤ 6) (h : CP G me r c hr sv sr p n ws) (sz : Nat) : Ru l G y bytes maxL ret d sz ws (.ref me :: As) res (CP G me r' (rch c + 1) (recH c hr r) sv sr p n) := by
  obtain ⟨⟨o, ab, af, an, aw⟩, A1, oh, h, os, t, op, pa, pt, hs, f, rt, i, k3, k4, T, hf, rfl⟩ := h
  by_cases q : c = 6
  · obtain ⟨Xr, g1, g2⟩ := hW_6 (G := G) (h := h) (hr := hr)
    subst q
    refine Ru.ofRw' (h6 sz me o A1.1 oh os op sv ab af an aw (h 0).1 (h 1).1 (h 2).1 (h 3).1 (h 4).1 (h 5).1 (h 0).2.1 (h 0).2.2.1 (h 0).2.2.2.1 (h 0).2.2.2.2 (hr 0) (dV (hr 1) (h 1)) (dV (hr 2) (h 2)) (dV (hr 3) (h 3)) (dV (hr 4) (h 4)) (dV (hr 5) (h 5))) (sh_8 g1) rfl (sh_8 (g2 r)) ?_
    rw [recH_6 rfl]
    exact ⟨(o, ab, af, an, aw), A1, oh, rotA h, os, t, op, pa, pt, hs, f, rt, i, k3, k4, T, hf, rfl⟩
  · obtain ⟨Xr, g1, g2⟩ := hW_k (G := G) (h := h) (hr := hr) (c := c) (by omega)
    refine Ru.ofRw' (hk sz me o A1.1 oh os op c sv ab af an aw (rowH h) (h c).1 (h c).2.1 (h c).2.2.1 (h c).2.2.2.1 (h c).2.2.2.2 (hr c) (by omega) (rowH_k (by omega))) (sh_8 g1) rfl (sh_8 (g2 r)) ?_
    rw [recH_n q, rch_n q]
    exact ⟨(o, ab, af, an, aw), A1, oh, h, os, t, op, pa, pt, hs, f, rt, i, k3, k4, T, hf, rfl⟩
end LFT
