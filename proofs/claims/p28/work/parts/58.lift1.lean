/-! ===== contracts over the class's whole world ===== -/
section LFC
variable {l : Launch} {G : gT} {y : MethodName} {bytes : ByteArray} {maxL d : Nat} {ret : Option FieldType} {As : List Value} {res : Int32} {r r' rr : Nat → Int32} {me c n : Nat} {hr sr : Nat → Nat → Int32} {sv : Int32} {p p' : Nat → Int32} {ws : va_W}
theorem c_M (hk : ∀ (o ou oh os op : Nat), Ro l G y bytes maxL ret d (cM me o ou oh os op (nI c) sv) (.ref me :: As) res) (h : CP G me r c hr sv sr p n ws) (sz : Nat) : Ru l G y bytes maxL ret d sz ws (.ref me :: As) res (CP G me r c hr sv sr p n) := by
  obtain ⟨A0, A1, oh, h, os, t, op, pa, pt, hs, f, rt, i, k3, k4, T, hf, rfl⟩ := h
  exact Ru.ofRo (hk A0.1 A1.1 oh os op) (fun q hq => in_M hq) ⟨A0, A1, oh, h, os, t, op, pa, pt, hs, f, rt, i, k3, k4, T, hf, rfl⟩
theorem c_MD (hk : ∀ (o ou oh os op ab af an aw : Nat), Ro l G y bytes maxL ret d (cM me o ou oh os op (nI c) sv ++ dia G r (o, ab, af, an, aw)) (.ref me :: As) res) (h : CP G me r c hr sv sr p n ws) (sz : Nat) : Ru l G y bytes maxL ret d sz ws (.ref me :: As) res (CP G me r c hr sv sr p n) := by
  obtain ⟨⟨o, ab, af, an, aw⟩, A1, oh, h, os, t, op, pa, pt, hs, f, rt, i, k3, k4, T, hf, rfl⟩ := h
  exact Ru.ofRo (hk o A1.1 oh os op ab af an aw) (fun q hq => in_MD hq) ⟨(o, ab, af, an, aw), A1, oh, h, os, t, op, pa, pt, hs, f, rt, i, k3, k4, T, hf, rfl⟩
theorem c_MPD (hk : ∀ (o ou oh os op ab af an aw pa pt : Nat) (i k3 k4 : Int32), Ro l G y bytes maxL ret d (cM me o ou oh os op (nI c) sv ++ (cP0 op pa pt n i k3 k4 ++ dia G r (o, ab, af, an, aw))) (.ref me :: As) res) (h : CP G me r c hr sv sr p n ws) (sz : Nat) : Ru l G y bytes maxL ret d sz ws (.ref me :: As) res (CP G me r c hr sv sr p n) := by
  obtain ⟨⟨o, ab, af, an, aw⟩, A1, oh, h, os, t, op, pa, pt, hs, f, rt, i, k3, k4, T, hf, rfl⟩ := h
  exact Ru.ofRo (hk o A1.1 oh os op ab af an aw pa pt (nI i) k3 k4) (fun q hq => in_MPD hq) ⟨(o, ab, af, an, aw), A1, oh, h, os, t, op, pa, pt, hs, f, rt, i, k3, k4, T, hf, rfl⟩
theorem c_MP (hk : ∀ (o ou oh os op pa pt i : Nat) (k3 k4 : Int32), Ro l G y bytes maxL ret d (cM me o ou oh os op (nI c) sv ++ (cP0 op pa pt n (nI i) k3 k4 ++ cP1 G pa p)) (.ref me :: As) res) (h : CP G me r c hr sv sr p n ws) (sz : Nat) : Ru l G y bytes maxL ret d sz ws (.ref me :: As) res (CP G me r c hr sv sr p n) := by
  obtain ⟨⟨o, ab, af, an, aw⟩, A1, oh, h, os, t, op, pa, pt, hs, f, rt, i, k3, k4, T, hf, rfl⟩ := h
  exact Ru.ofRo (hk o A1.1 oh os op pa pt i k3 k4) (fun q hq => in_MP hq) ⟨(o, ab, af, an, aw), A1, oh, h, os, t, op, pa, pt, hs, f, rt, i, k3, k4, T, hf, rfl⟩
theorem c_D (hk : ∀ (sz o ou oh os op ab af an aw : Nat), Rw l G y bytes maxL ret d sz (cM me o ou oh os op (nI c) sv ++ dia G r (o, ab, af, an, aw)) (.ref me :: As) res (cM me o ou oh os op (nI c) sv ++ dia G r' (o, ab, af, an, aw))) (h : CP G me r c hr sv sr p n ws) (sz : Nat) : Ru l G y bytes maxL ret d sz ws (.ref me :: As) res (CP G me r' c hr sv sr p n) := by
  obtain ⟨⟨o, ab, af, an, aw⟩, A1, oh, h, os, t, op, pa, pt, hs, f, rt, i, k3, k4, T, hf, rfl⟩ := h
  exact Ru.ofRw' (hk sz o A1.1 oh os op ab af an aw) sh_2 rfl sh_2 ⟨(o, ab, af, an, aw), A1, oh, h, os, t, op, pa, pt, hs, f, rt, i, k3, k4, T, hf, rfl⟩
theorem c_D1 (hk : ∀ (sz o ou oh os op ab af an aw ub uf un uw : Nat) (rt : Nat → Int32), Rw l G y bytes maxL ret d sz (cM me o ou oh os op (nI c) sv ++ (dia G r (o, ab, af, an, aw) ++ dia G rt (ou, ub, uf, un, uw))) (.ref me :: As) res (cM me o ou oh os op (nI c) sv ++ (dia G r (o, ab, af, an, aw) ++ dia G rr (ou, ub, uf, un, uw)))) (h : CP G me r c hr sv sr p n ws) (sz : Nat) : Ru l G y bytes maxL ret d sz ws (.ref me :: As) res (CP G me r c hr sv sr p n) := by
  obtain ⟨⟨o, ab, af, an, aw⟩, ⟨ou, ub, uf, un, uw⟩, oh, h, os, t, op, pa, pt, hs, f, rt, i, k3, k4, T, hf, rfl⟩ := h
  exact Ru.ofRw' (hk sz o ou oh os op ab af an aw ub uf un uw rt) sh_4 rfl sh_4 ⟨(o, ab, af, an, aw), (ou, ub, uf, un, uw), oh, h, os, t, op, pa, pt, hs, f, rr, i, k3, k4, T, hf, rfl⟩
theorem c_put {n' : Nat} (hk : ∀ (sz o ou oh os op pa pt i : Nat) (k3 k4 : Int32), Rw l G y bytes maxL ret d sz (cM me o ou oh os op (nI c) sv ++ (cP0 op pa pt n (nI i) k3 k4 ++ cP1 G pa p)) (.ref me :: As) res (cM me o ou oh os op (nI c) sv ++ (cP0 op pa pt n' (nI i) k3 k4 ++ cP1 G pa p'))) (h : CP G me r c hr sv sr p n ws) (sz : Nat) : Ru l G y bytes maxL ret d sz ws (.ref me :: As) res (CP G me r c hr sv sr p' n') := by
  obtain ⟨⟨o, ab, af, an, aw⟩, A1, oh, h, os, t, op, pa, pt, hs, f, rt, i, k3, k4, T, hf, rfl⟩ := h
  exact Ru.ofRw' (hk sz o A1.1 oh os op pa pt i k3 k4) sh_5 rfl sh_5 ⟨(o, ab, af, an, aw), A1, oh, h, os, t, op, pa, pt, hs, f, rt, i, k3, k4, T, hf, rfl⟩
theorem c_wipe {n' : Nat} (hk : ∀ (sz o ou oh os op pa pt : Nat) (i k3 k4 : Int32), Rw l G y bytes maxL ret d sz (cM me o ou oh os op (nI c) sv ++ cP0 op pa pt n i k3 k4) (.ref me :: As) res (cM me o ou oh os op (nI c) sv ++ cP0 op pa pt n' i k3 k4)) (h : CP G me r c hr sv sr p n ws) (sz : Nat) : Ru l G y bytes maxL ret d sz ws (.ref me :: As) res (CP G me r c hr sv sr p n') := by
  obtain ⟨⟨o, ab, af, an, aw⟩, A1, oh, h, os, t, op, pa, pt, hs, f, rt, i, k3, k4, T, hf, rfl⟩ := h
  exact Ru.ofRw' (hk sz o A1.1 oh os op pa pt (nI i) k3 k4) sh_6 rfl sh_6 ⟨(o, ab, af, an, aw), A1, oh, h, os, t, op, pa, pt, hs, f, rt, i, k3, k4, T, hf, rfl⟩
theorem c_txt {W0 N0 O0 : Nat} (hk : ∀ (sz o ou oh os op pa pt : Nat) (i k3 k4 : Int32) (f : Nat → Option Nat) (hs : Nat → Nat) (T : Nat → Nat → Int32), (∀ k, k < 40 → f k = some (hs k)) → Rw l G y bytes maxL ret d sz (sW hs T ++ (cM me o ou oh os op (nI c) sv ++ (cP0 op pa pt n i k3 k4 ++ (cP1 G pa p ++ cP2 G pt f)))) (.ref me :: As) res (sW hs (tS p n T N0) ++ (cM me o ou oh os op (nI c) sv ++ (cP0 op pa pt n (nI W0) (nI N0) (nI O0) ++ (cP1 G pa p ++ cP2 G pt f))))) (h : CP G me r c hr sv sr p n ws) (sz : Nat) : Ru l G y bytes maxL ret d sz ws (.ref me :: As) res (CP G me r c hr sv sr p n) := by
  obtain ⟨⟨o, ab, af, an, aw⟩, A1, oh, h, os, t, op, pa, pt, hs, f, rt, i, k3, k4, T, hf, rfl⟩ := h
  exact Ru.ofRw' (hk sz o A1.1 oh os op pa pt (nI i) k3 k4 f hs T hf) sh_7 (adrF sW_adr rfl) sh_7 ⟨(o, ab, af, an, aw), A1, oh, h, os, t, op, pa, pt, hs, f, rt, W0, nI N0, nI O0, tS p n T N0, hf, rfl⟩
theorem c_co {W0 N0 O0 : Nat}
    (hk : ∀ (sz o ou oh os op : Nat) (ab af an aw : Nat) (hf : Nat → Option Nat) (o2 b2 f2 n2 w2 : Nat) (r2 : Nat → Int32) (pa pt : Nat) (i k3 k4 : Int32) (f : Nat → Option Nat) (hs : Nat → Nat) (T : Nat → Nat → Int32), c ≤ 5 → hf c = some o2 → (∀ k, k < 40 → f k = some (hs k)) →
      Rw l G y bytes maxL ret d sz (sW hs T ++ (cM me o ou oh os op (nI c) sv ++ (cR G oh hf ++ (dia G r (o, ab, af, an, aw) ++ (dia G r2 (o2, b2, f2, n2, w2) ++ (cP0 op pa pt n i k3 k4 ++ (cP1 G pa p ++ cP2 G pt f))))))) (.ref me :: As) res
        (sW hs (tS p n T N0) ++ (cM me o ou oh os op (nI (c + 1)) sv ++ (cR G oh hf ++ (dia G r' (o, ab, af, an, aw) ++ (dia G r (o2, b2, f2, n2, w2) ++ (cP0 op pa pt 0 (nI W0) (nI N0) (nI O0) ++ (cP1 G pa p ++ cP2 G pt f))))))))
    (h6 : ∀ (sz o ou oh os op : Nat) (ab af an aw h0 h1 h2 h3 h4 h5 b2 f2 n2 w2 : Nat) (r2 : Nat → Int32) (v1 v2 v3 v4 v5 : List Value) (pa pt : Nat) (i k3 k4 : Int32) (f : Nat → Option Nat) (hs : Nat → Nat) (T : Nat → Nat → Int32), (∀ k, k < 40 → f k = some (hs k)) →
      Rw l G y bytes maxL ret d sz (sW hs T ++ (cM me o ou oh os op (nI 6) sv ++ (cR G oh (lis6 h0 h1 h2 h3 h4 h5) ++ (dia G r (o, ab, af, an, aw) ++ ((dia G r2 (h0, b2, f2, n2, w2) ++ [(h1, .inr (0, v1)), (h2, .inr (0, v2)), (h3, .inr (0, v3)), (h4, .inr (0, v4)), (h5, .inr (0, v5))]) ++ (cP0 op pa pt n i k3 k4 ++ (cP1 G pa p ++ cP2 G pt f))))))) (.ref me :: As) res
        (sW hs (tS p n T N0) ++ (cM me o ou oh os op (nI 6) sv ++ (cR G oh (lis6 h1 h2 h3 h4 h5 h0) ++ (dia G r' (o, ab, af, an, aw) ++ ((dia G r (h0, b2, f2, n2, w2) ++ [(h1, .inr (0, v1)), (h2, .inr (0, v2)), (h3, .inr (0, v3)), (h4, .inr (0, v4)), (h5, .inr (0, v5))]) ++ (cP0 op pa pt 0 (nI W0) (nI N0) (nI O0) ++ (cP1 G pa p ++ cP2 G pt f))))))))
    (hc : c ≤ 6) (h : CP G me r c hr sv sr p n ws) (sz0 : Nat) : Ru l G y bytes maxL ret d sz0 ws (.ref me :: As) res (CP G me r' (rch c + 1) (recH c hr r) sv sr p 0) := by
  obtain ⟨⟨o, ab, af, an, aw⟩, A1, oh, h, os, t, op, pa, pt, hs, f, rt, i, k3, k4, T, hf, rfl⟩ := h
  by_cases q : c = 6
  · obtain ⟨Xr, g1, g2⟩ := hW_6 (G := G) (h := h) (hr := hr)
    subst q
    refine Ru.ofRw' (h6 sz0 o A1.1 oh os op ab af an aw (h 0).1 (h 1).1 (h 2).1 (h 3).1 (h 4).1 (h 5).1 (h 0).2.1 (h 0).2.2.1 (h 0).2.2.2.1 (h 0).2.2.2.2 (hr 0) (dV (hr 1) (h 1)) (dV (hr 2) (h 2)) (dV (hr 3) (h 3)) (dV (hr 4) (h 4)) (dV (hr 5) (h 5)) pa pt (nI i) k3 k4 f hs T hf) (sh_10 g1) (adrF sW_adr rfl) (sh_10 (g2 r)) ?_
    rw [recH_6 rfl]
    exact ⟨(o, ab, af, an, aw), A1, oh, rotA h, os, t, op, pa, pt, hs, f, rt, W0, nI N0, nI O0, tS p n T N0, hf, rfl⟩
  · obtain ⟨Xr, g1, g2⟩ := hW_k (G := G) (h := h) (hr := hr) (c := c) (by omega)
    refine Ru.ofRw' (hk sz0 o A1.1 oh os op ab af an aw (rowH h) (h c).1 (h c).2.1 (h c).2.2.1 (h c).2.2.2.1 (h c).2.2.2.2 (hr c) pa pt (nI i) k3 k4 f hs T (by omega) (rowH_k (by omega)) hf) (sh_10 g1) (adrF sW_adr rfl) (sh_10 (g2 r)) ?_
    rw [recH_n q, rch_n q]
    exact ⟨(o, ab, af, an, aw), A1, oh, h, os, t, op, pa, pt, hs, f, rt, W0, nI N0, nI O0, tS p n T N0, hf, rfl⟩
theorem c_undo (hk : ∀ (sz o ou oh os op ab af an aw : Nat) (hf : Nat → Option Nat) (o2 b2 f2 n2 w2 : Nat), hf (c - 1) = some o2 →
      Rw l G y bytes maxL ret d sz (cM me o ou oh os op (nI c) sv ++ (cR G oh hf ++ (dia G r (o, ab, af, an, aw) ++ dia G (hr (c - 1)) (o2, b2, f2, n2, w2)))) (.ref me :: As) res (cM me o ou oh os op (nI (c - 1)) sv ++ (cR G oh hf ++ (dia G (hr (c - 1)) (o, ab, af, an, aw) ++ dia G (hr (c - 1)) (o2, b2, f2, n2, w2)))))
    (hc : 1 ≤ c ∧ c ≤ 6) (h : CP G me r c hr sv sr p n ws) (sz : Nat) : Ru l G y bytes maxL ret d sz ws (.ref me :: As) res (CP G me (hr (c - 1)) (c - 1) hr sv sr p n) := by
  obtain ⟨⟨o, ab, af, an, aw⟩, A1, oh, h, os, t, op, pa, pt, hs, f, rt, i, k3, k4, T, hf, rfl⟩ := h
  obtain ⟨Xr, g1, -⟩ := hW_k (G := G) (h := h) (hr := hr) (c := c - 1) (by omega)
  exact Ru.ofRw' (hk sz o A1.1 oh os op ab af an aw (rowH h) (h (c - 1)).1 (h (c - 1)).2.1 (h (c - 1)).2.2.1 (h (c - 1)).2.2.2.1 (h (c - 1)).2.2.2.2 (rowH_k (by omega))) (sh_8 g1) rfl (sh_8 g1) ⟨(o, ab, af, an, aw), A1, oh, h, os, t, op, pa, pt, hs, f, rt, i, k3, k4, T, hf, rfl⟩
theorem c_save {v : Nat} {sv' : Int32} (hk : ∀ (sz o ou oh os op ab af an aw : Nat) (fs : Nat → Option Nat) (o2 b2 f2 n2 w2 : Nat) (r2 : Nat → Int32), fs v = some o2 →
      Rw l G y bytes maxL ret d sz (cM me o ou oh os op (nI c) sv ++ (cS2 G os fs ++ (dia G r (o, ab, af, an, aw) ++ dia G r2 (o2, b2, f2, n2, w2)))) (.ref me :: As) res (cM me o ou oh os op (nI c) sv' ++ (cS2 G os fs ++ (dia G r (o, ab, af, an, aw) ++ dia G r (o2, b2, f2, n2, w2)))))
    (hv : v ≤ 1) (h : CP G me r c hr sv sr p n ws) (sz : Nat) : Ru l G y bytes maxL ret d sz ws (.ref me :: As) res (CP G me r c hr sv' (uph v sr r) p n) := by
  obtain ⟨⟨o, ab, af, an, aw⟩, A1, oh, h, os, t, op, pa, pt, hs, f, rt, i, k3, k4, T, hf, rfl⟩ := h
  obtain ⟨Yr, g1, g2⟩ := tW_k (G := G) (t := t) (sr := sr) hv
  exact Ru.ofRw' (hk sz o A1.1 oh os op ab af an aw (rowS t) (t v).1 (t v).2.1 (t v).2.2.1 (t v).2.2.2.1 (t v).2.2.2.2 (sr v) (rowS_k hv)) (sh_12 g1) rfl (sh_12 (g2 r)) ⟨(o, ab, af, an, aw), A1, oh, h, os, t, op, pa, pt, hs, f, rt, i, k3, k4, T, hf, rfl⟩
theorem c_res {v : Nat}
    (hk : ∀ (sz o ou oh os op ab af an aw : Nat) (hf : Nat → Option Nat) (o2 b2 f2 n2 w2 : Nat) (r2 : Nat → Int32) (fs : Nat → Option Nat) (o3 b3 f3 n3 w3 : Nat), c ≤ 5 → hf c = some o2 → fs v = some o3 →
      Rw l G y bytes maxL ret d sz (cM me o ou oh os op (nI c) sv ++ (cR G oh hf ++ (dia G r (o, ab, af, an, aw) ++ (dia G r2 (o2, b2, f2, n2, w2) ++ (cS2 G os fs ++ dia G (sr v) (o3, b3, f3, n3, w3)))))) (.ref me :: As) res
        (cM me o ou oh os op (nI (c + 1)) sv ++ (cR G oh hf ++ (dia G (sr v) (o, ab, af, an, aw) ++ (dia G r (o2, b2, f2, n2, w2) ++ (cS2 G os fs ++ dia G (sr v) (o3, b3, f3, n3, w3)))))))
    (h6 : ∀ (sz o ou oh os op ab af an aw h0 h1 h2 h3 h4 h5 b2 f2 n2 w2 : Nat) (r2 : Nat → Int32) (v1 v2 v3 v4 v5 : List Value) (fs : Nat → Option Nat) (o3 b3 f3 n3 w3 : Nat), fs v = some o3 →
      Rw l G y bytes maxL ret d sz (cM me o ou oh os op (nI 6) sv ++ (cR G oh (lis6 h0 h1 h2 h3 h4 h5) ++ (dia G r (o, ab, af, an, aw) ++ ((dia G r2 (h0, b2, f2, n2, w2) ++ [(h1, .inr (0, v1)), (h2, .inr (0, v2)), (h3, .inr (0, v3)), (h4, .inr (0, v4)), (h5, .inr (0, v5))]) ++ (cS2 G os fs ++ dia G (sr v) (o3, b3, f3, n3, w3)))))) (.ref me :: As) res
        (cM me o ou oh os op (nI 6) sv ++ (cR G oh (lis6 h1 h2 h3 h4 h5 h0) ++ (dia G (sr v) (o, ab, af, an, aw) ++ ((dia G r (h0, b2, f2, n2, w2) ++ [(h1, .inr (0, v1)), (h2, .inr (0, v2)), (h3, .inr (0, v3)), (h4, .inr (0, v4)), (h5, .inr (0, v5))]) ++ (cS2 G os fs ++ dia G (sr v) (o3, b3, f3, n3, w3)))))))
    (hc : c ≤ 6) (hv : v ≤ 1) (h : CP G me r c hr sv sr p n ws) (sz : Nat) : Ru l G y bytes maxL ret d sz ws (.ref me :: As) res (CP G me (sr v) (rch c + 1) (recH c hr r) sv sr p n) := by
  obtain ⟨⟨o, ab, af, an, aw⟩, A1, oh, h, os, t, op, pa, pt, hs, f, rt, i, k3, k4, T, hf, rfl⟩ := h
  obtain ⟨Yr, y1, -⟩ := tW_k (G := G) (t := t) (sr := sr) hv
  by_cases q : c = 6
  · obtain ⟨Xr, g1, g2⟩ := hW_6 (G := G) (h := h) (hr := hr)
    subst q
    refine Ru.ofRw' (h6 sz o A1.1 oh os op ab af an aw (h 0).1 (h 1).1 (h 2).1 (h 3).1 (h 4).1 (h 5).1 (h 0).2.1 (h 0).2.2.1 (h 0).2.2.2.1 (h 0).2.2.2.2 (hr 0) (dV (hr 1) (h 1)) (dV (hr 2) (h 2)) (dV (hr 3) (h 3)) (dV (hr 4) (h 4)) (dV (hr 5) (h 5)) (rowS t) (t v).1 (t v).2.1 (t v).2.2.1 (t v).2.2.2.1 (t v).2.2.2.2 (rowS_k hv)) (sh_13 g1 y1) rfl (sh_13 (g2 r) y1) ?_
    rw [recH_6 rfl]
    exact ⟨(o, ab, af, an, aw), A1, oh, rotA h, os, t, op, pa, pt, hs, f, rt, i, k3, k4, T, hf, rfl⟩
  · obtain ⟨Xr, g1, g2⟩ := hW_k (G := G) (h := h) (hr := hr) (c := c) (by omega)
    refine Ru.ofRw' (hk sz o A1.1 oh os op ab af an aw (rowH h) (h c).1 (h c).2.1 (h c).2.2.1 (h c).2.2.2.1 (h c).2.2.2.2 (hr c) (rowS t) (t v).1 (t v).2.1 (t v).2.2.1 (t v).2.2.2.1 (t v).2.2.2.2 (by omega) (rowH_k (by omega)) (rowS_k hv)) (sh_13 g1 y1) rfl (sh_13 (g2 r) y1) ?_
    rw [recH_n q, rch_n q]
    exact ⟨(o, ab, af, an, aw), A1, oh, h, os, t, op, pa, pt, hs, f, rt, i, k3, k4, T, hf, rfl⟩
end LFC
