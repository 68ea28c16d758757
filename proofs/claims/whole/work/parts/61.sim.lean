section SIM
variable (l : Launch) (G : gT) (me hm : Nat) {r p : Nat → Int32} {c n : Nat} {hr sr : Nat → Nat → Int32} {sv : Int32}
set_option maxHeartbeats 4000000 in
theorem s_set (hok : Ok r c hr sv sr p n) (x y : Int32) : Sim l G me hm yX3_set cX3_set 3 yX4_set cX4_set 5 [.int x, .int y] r c hr sv sr p n := by
  obtain ⟨hCv, hc, hn, hPg, hH, hS⟩ := id hok
  obtain ⟨h0r, htr, -⟩ := id hCv.1.1
  by_cases he : (eSt x.toInt y.toInt (r 0).toInt).toInt = 0
  · skip
    rcases eSt_ok he with hh | hh
    · skip
      obtain ⟨z, hz9, rfl⟩ := nI_ex (x := x) (X := x.toInt) (N := 1) rfl (by omega)
      have hz8 := toI (n := z) (by omega)
      have ez : z = 0 := by omega
      subst ez
      obtain ⟨v, hv9, rfl⟩ := nI_ex (x := y) (X := y.toInt) (N := 13) rfl (by omega)
      have hv8 := toI (n := v) (by omega)
      have hv2 : 1 ≤ v ∧ v ≤ 12 := by omega
      have hT : td r = 0 := by have hq9 := hh.2.2; rw [h0r, toI (by omega)] at hq9; omega
      have hT0 : r 0 = nI 0 := by rw [h0r, hT]
      exact ⟨r 1, upd r 1 (nI v), rch c + 1, recH c hr r, sv, sr, p, n, Ok_rec hok (Cv_keep hCv hv2.1 hv2.2 hT), ⟨9, by decide, fun sz ws hw => rec_lift (fun sz me o ou oh os op c sv ab af an aw hf o2 b2 f2 n2 w2 r2 hc ho2 => c_X3_set_kk l G sz me o ou oh os op c sv ab af an aw hf r o2 b2 f2 n2 w2 r2 v (hc) (ho2) (hv2) (hT0)) (fun sz me o ou oh os op sv ab af an aw h0 h1 h2 h3 h4 h5 b2 f2 n2 w2 r2 v1 v2 v3 v4 v5 => c_X3_set_k6 l G sz me o ou oh os op sv ab af an aw h0 h1 h2 h3 h4 h5 r b2 f2 n2 w2 r2 v1 v2 v3 v4 v5 v (hv2) (hT0)) hc hw sz⟩, ⟨7, by decide, fun sz ws hw => m_rec (fun sz an tr ah ak ai ap af sp hh => c_X4_set_k l G sz hm an tr ah c ak ai ap (nI n) af sp r hh v (hc) (hv2) (hCv.1) (hT)) hc hw sz⟩⟩
    · skip
      obtain ⟨z, hz9, rfl⟩ := nI_ex (x := x) (X := x.toInt) (N := 2) rfl (by omega)
      have hz8 := toI (n := z) (by omega)
      have ez : z = 1 := by omega
      subst ez
      obtain ⟨v, hv9, rfl⟩ := nI_ex (x := y) (X := y.toInt) (N := 7) rfl (by omega)
      have hv8 := toI (n := v) (by omega)
      have hv2 : v ≤ 6 := by omega
      exact ⟨r 2, fga (upd r 2 (nI v)), rch c + 1, recH c hr r, sv, sr, p, n, Ok_rec hok (Cv_open hCv hv2), ⟨9, by decide, fun sz ws hw => rec_lift (fun sz me o ou oh os op c sv ab af an aw hf o2 b2 f2 n2 w2 r2 hc ho2 => c_X3_set_ok l G sz me o ou oh os op c sv ab af an aw hf r o2 b2 f2 n2 w2 r2 v (hc) (ho2) (hv2) (hCv)) (fun sz me o ou oh os op sv ab af an aw h0 h1 h2 h3 h4 h5 b2 f2 n2 w2 r2 v1 v2 v3 v4 v5 => c_X3_set_o6 l G sz me o ou oh os op sv ab af an aw h0 h1 h2 h3 h4 h5 r b2 f2 n2 w2 r2 v1 v2 v3 v4 v5 v (hv2) (hCv)) hc hw sz⟩, ⟨7, by decide, fun sz ws hw => m_rec (fun sz an tr ah ak ai ap af sp hh => c_X4_set_o l G sz hm an tr ah c ak ai ap (nI n) af sp r hh v (hc) (hv2) (hCv.1)) hc hw sz⟩⟩
  · skip
    exact ⟨eSt x.toInt y.toInt (r 0).toInt, r, c, hr, sv, sr, p, n, hok, ⟨9, by decide, fun sz ws hw => c_MD (fun o ou oh os op ab af an aw => c_X3_set_e l G me o ou oh os op (nI c) sv ab af an aw r x (x.toInt) y (y.toInt) (rfl) (rfl) (he)) hw sz⟩, ⟨7, by decide, fun sz ws hw => m_hN (fun an tr ah ak ai ap af sp => c_X4_set_e l G hm an tr ah c ak ai ap (nI n) af sp r x (x.toInt) y (y.toInt) (rfl) (rfl) (he)) hw sz⟩⟩
set_option maxHeartbeats 4000000 in
theorem s_pass (hok : Ok r c hr sv sr p n) (x : Int32) : Sim l G me hm yX3_pass cX3_pass 3 yX4_pass cX4_pass 3 [.int x] r c hr sv sr p n := by
  obtain ⟨hCv, hc, hn, hPg, hH, hS⟩ := id hok
  obtain ⟨h0r, htr, -⟩ := id hCv.1.1
  by_cases he : (ePs x.toInt ((td r : Nat) : Int)).toInt = 0
  · skip
    obtain ⟨g1, g2, g3⟩ := ePs_ok he
    obtain ⟨d, hd9, rfl⟩ := nI_ex (x := x) (X := x.toInt) (N := 401) rfl (by omega)
    have hd8 := toI (n := d) (by omega)
    have hd1 : 1 ≤ d ∧ d ≤ 400 := by omega
    have hd : td r + d < 3650 := by omega
    exact ⟨nI (td r + d), psk r d 120, rch c + 1, recH c hr r, sv, sr, p, n, Ok_rec hok (Cv_psk hCv hd), ⟨9, by decide, fun sz ws hw => rec_lift (fun sz me o ou oh os op c sv ab af an aw hf o2 b2 f2 n2 w2 r2 hc ho2 => c_X3_pass_kk l G sz me o ou oh os op c sv ab af an aw hf r o2 b2 f2 n2 w2 r2 d (hc) (ho2) (hCv) (hd1) (hd)) (fun sz me o ou oh os op sv ab af an aw h0 h1 h2 h3 h4 h5 b2 f2 n2 w2 r2 v1 v2 v3 v4 v5 => c_X3_pass_k6 l G sz me o ou oh os op sv ab af an aw h0 h1 h2 h3 h4 h5 r b2 f2 n2 w2 r2 v1 v2 v3 v4 v5 d (hCv) (hd1) (hd)) hc hw sz⟩, ⟨7, by decide, fun sz ws hw => m_rec (fun sz an tr ah ak ai ap af sp hh => c_X4_pass_k l G sz hm an tr ah c ak ai ap (nI n) af sp r hh d (hc) (hCv.1) (hd1) (hd)) hc hw sz⟩⟩
  · skip
    exact ⟨ePs x.toInt ((td r : Nat) : Int), r, c, hr, sv, sr, p, n, hok, ⟨9, by decide, fun sz ws hw => c_MD (fun o ou oh os op ab af an aw => c_X3_pass_e l G me o ou oh os op (nI c) sv ab af an aw r x (x.toInt) (rfl) (h0r) (htr) (he)) hw sz⟩, ⟨7, by decide, fun sz ws hw => m_hN (fun an tr ah ak ai ap af sp => c_X4_pass_e l G hm an tr ah c ak ai ap (nI n) af sp r x (x.toInt) (rfl) (h0r) (htr) (he)) hw sz⟩⟩
set_option maxHeartbeats 4000000 in
theorem s_mark (hok : Ok r c hr sv sr p n) (w x y : Int32) : Sim l G me hm yX3_mark cX3_mark 4 yX4_mark cX4_mark 5 [.int w, .int x, .int y] r c hr sv sr p n := by
  obtain ⟨hCv, hc, hn, hPg, hH, hS⟩ := id hok
  obtain ⟨h0r, htr, -⟩ := id hCv.1.1
  by_cases he : (eMk (0 ≤ w.toInt ∧ w.toInt ≤ 15) x.toInt y.toInt ((td r : Nat) : Int)).toInt = 0
  · skip
    obtain ⟨g1, g2, g3, g4, g5⟩ := eMk_ok he
    obtain ⟨s, hs9, rfl⟩ := nI_ex (x := w) (X := w.toInt) (N := 16) rfl (by omega)
    have hs8 := toI (n := s) (by omega)
    obtain ⟨f, hf9, rfl⟩ := nI_ex (x := x) (X := x.toInt) (N := 3650) rfl (by omega)
    have hf8 := toI (n := f) (by omega)
    obtain ⟨t, ht9, rfl⟩ := nI_ex (x := y) (X := y.toInt) (N := 3650) rfl (by omega)
    have ht8 := toI (n := t) (by omega)
    have hs : s < 16 := by omega
    have hft : f ≤ t := by omega
    have ht : t ≤ td r := by omega
    have hmf := mot_mono (a := f) (b := t) (by omega) (by omega)
    have hmt := mot_row (d := t) (by omega)
    exact ⟨nI (mkn r s f t (mot f) True (mot t + 1 - mot f)), mko r s f t (mot f) True (mot t + 1 - mot f), rch c + 1, recH c hr r, sv, sr, p, n, Ok_rec hok (Cv_mko hCv hs _ (by omega)), ⟨9, by decide, fun sz ws hw => rec_lift (fun sz me o ou oh os op c sv ab af an aw hf o2 b2 f2 n2 w2 r2 hc ho2 => c_X3_mark_kk l G sz me o ou oh os op c sv ab af an aw hf r o2 b2 f2 n2 w2 r2 s f t (hc) (ho2) (hCv) (hs) (hft) (ht)) (fun sz me o ou oh os op sv ab af an aw h0 h1 h2 h3 h4 h5 b2 f2 n2 w2 r2 v1 v2 v3 v4 v5 => c_X3_mark_k6 l G sz me o ou oh os op sv ab af an aw h0 h1 h2 h3 h4 h5 r b2 f2 n2 w2 r2 v1 v2 v3 v4 v5 s f t (hCv) (hs) (hft) (ht)) hc hw sz⟩, ⟨9, by decide, fun sz ws hw => m_rec (fun sz an tr ah ak ai ap af sp hh => c_X4_mark_k l G sz hm an tr ah c ak ai ap (nI n) af sp r hh s f t (hc) (hCv.1) (hs) (hft) (ht)) hc hw sz⟩⟩
  · skip
    exact ⟨eMk (0 ≤ w.toInt ∧ w.toInt ≤ 15) x.toInt y.toInt ((td r : Nat) : Int), r, c, hr, sv, sr, p, n, hok, ⟨9, by decide, fun sz ws hw => c_MD (fun o ou oh os op ab af an aw => c_X3_mark_e l G me o ou oh os op (nI c) sv ab af an aw r w (w.toInt) x (x.toInt) y (y.toInt) (rfl) (rfl) (rfl) (h0r) (htr) (he)) hw sz⟩, ⟨9, by decide, fun sz ws hw => m_hN (fun an tr ah ak ai ap af sp => c_X4_mark_e l G hm an tr ah c ak ai ap (nI n) af sp r w (w.toInt) x (x.toInt) y (y.toInt) (rfl) (rfl) (rfl) (h0r) (htr) (he)) hw sz⟩⟩
set_option maxHeartbeats 4000000 in
theorem s_clear (hok : Ok r c hr sv sr p n) (w x y : Int32) : Sim l G me hm yX3_clear cX3_clear 4 yX4_clear cX4_clear 5 [.int w, .int x, .int y] r c hr sv sr p n := by
  obtain ⟨hCv, hc, hn, hPg, hH, hS⟩ := id hok
  obtain ⟨h0r, htr, -⟩ := id hCv.1.1
  by_cases he : (eMk (0 ≤ w.toInt ∧ w.toInt ≤ 15) x.toInt y.toInt ((td r : Nat) : Int)).toInt = 0
  · skip
    obtain ⟨g1, g2, g3, g4, g5⟩ := eMk_ok he
    obtain ⟨s, hs9, rfl⟩ := nI_ex (x := w) (X := w.toInt) (N := 16) rfl (by omega)
    have hs8 := toI (n := s) (by omega)
    obtain ⟨f, hf9, rfl⟩ := nI_ex (x := x) (X := x.toInt) (N := 3650) rfl (by omega)
    have hf8 := toI (n := f) (by omega)
    obtain ⟨t, ht9, rfl⟩ := nI_ex (x := y) (X := y.toInt) (N := 3650) rfl (by omega)
    have ht8 := toI (n := t) (by omega)
    have hs : s < 16 := by omega
    have hft : f ≤ t := by omega
    have ht : t ≤ td r := by omega
    have hmf := mot_mono (a := f) (b := t) (by omega) (by omega)
    have hmt := mot_row (d := t) (by omega)
    exact ⟨nI (mkn r s f t (mot f) False (mot t + 1 - mot f)), mko r s f t (mot f) False (mot t + 1 - mot f), rch c + 1, recH c hr r, sv, sr, p, n, Ok_rec hok (Cv_mko hCv hs _ (by omega)), ⟨9, by decide, fun sz ws hw => rec_lift (fun sz me o ou oh os op c sv ab af an aw hf o2 b2 f2 n2 w2 r2 hc ho2 => c_X3_clear_kk l G sz me o ou oh os op c sv ab af an aw hf r o2 b2 f2 n2 w2 r2 s f t (hc) (ho2) (hCv) (hs) (hft) (ht)) (fun sz me o ou oh os op sv ab af an aw h0 h1 h2 h3 h4 h5 b2 f2 n2 w2 r2 v1 v2 v3 v4 v5 => c_X3_clear_k6 l G sz me o ou oh os op sv ab af an aw h0 h1 h2 h3 h4 h5 r b2 f2 n2 w2 r2 v1 v2 v3 v4 v5 s f t (hCv) (hs) (hft) (ht)) hc hw sz⟩, ⟨9, by decide, fun sz ws hw => m_rec (fun sz an tr ah ak ai ap af sp hh => c_X4_clear_k l G sz hm an tr ah c ak ai ap (nI n) af sp r hh s f t (hc) (hCv.1) (hs) (hft) (ht)) hc hw sz⟩⟩
  · skip
    exact ⟨eMk (0 ≤ w.toInt ∧ w.toInt ≤ 15) x.toInt y.toInt ((td r : Nat) : Int), r, c, hr, sv, sr, p, n, hok, ⟨9, by decide, fun sz ws hw => c_MD (fun o ou oh os op ab af an aw => c_X3_clear_e l G me o ou oh os op (nI c) sv ab af an aw r w (w.toInt) x (x.toInt) y (y.toInt) (rfl) (rfl) (rfl) (h0r) (htr) (he)) hw sz⟩, ⟨9, by decide, fun sz ws hw => m_hN (fun an tr ah ak ai ap af sp => c_X4_clear_e l G hm an tr ah c ak ai ap (nI n) af sp r w (w.toInt) x (x.toInt) y (y.toInt) (rfl) (rfl) (rfl) (h0r) (htr) (he)) hw sz⟩⟩
set_option maxHeartbeats 4000000 in
theorem s_marks (hok : Ok r c hr sv sr p n) (w x y : Int32) : Sim l G me hm yX3_marks cX3_marks 9 yX4_marks cX4_marks 8 [.int w, .int x, .int y] r c hr sv sr p n := by
  obtain ⟨hCv, hc, hn, hPg, hH, hS⟩ := id hok
  obtain ⟨h0r, htr, -⟩ := id hCv.1.1
  by_cases he : (eDy (0 ≤ w.toInt ∧ w.toInt ≤ 15) x.toInt y.toInt).toInt = 0
  · skip
    obtain ⟨g1, g2, g3, g4⟩ := eDy_ok he
    obtain ⟨s, hs9, rfl⟩ := nI_ex (x := w) (X := w.toInt) (N := 16) rfl (by omega)
    have hs8 := toI (n := s) (by omega)
    obtain ⟨f, hf9, rfl⟩ := nI_ex (x := x) (X := x.toInt) (N := 3650) rfl (by omega)
    have hf8 := toI (n := f) (by omega)
    obtain ⟨t, ht9, rfl⟩ := nI_ex (x := y) (X := y.toInt) (N := 3650) rfl (by omega)
    have ht8 := toI (n := t) (by omega)
    have hs : s < 16 := by omega
    have hft : f ≤ t := by omega
    have ht : t < 3650 := by omega
    have hmf := mot_mono (a := f) (b := t) (by omega) (by omega)
    have hmt := mot_row (d := t) (by omega)
    exact ⟨nI (ctm r s f t (mot f) (mot t + 1 - mot f)), mks r f t (mot f) (mot t + 1 - mot f), c, hr, sv, sr, p, n, Ok_r hok (Cv_mks hCv _ (by omega)), ⟨9, by decide, fun sz ws hw => c_D (fun sz o ou oh os op ab af an aw => c_X3_marks_k l G sz me o ou oh os op (nI c) sv ab af an aw r s f t (hCv) (hs) (hft) (ht)) hw sz⟩, ⟨8, by decide, fun sz ws hw => m_N (fun sz an tr ah ak ai ap af sp => c_X4_marks_k l G sz hm an tr ah (nI c) ak ai ap (nI n) af sp r s f t (hCv.1) (hs) (hft) (ht)) hw sz⟩⟩
  · skip
    exact ⟨eDy (0 ≤ w.toInt ∧ w.toInt ≤ 15) x.toInt y.toInt, r, c, hr, sv, sr, p, n, hok, ⟨9, by decide, fun sz ws hw => c_M (fun o ou oh os op => c_X3_marks_e l G me o ou oh os op (nI c) sv 0 0 0 0 w (w.toInt) x (x.toInt) y (y.toInt) (rfl) (rfl) (rfl) (he)) hw sz⟩, ⟨9, by decide, fun sz ws hw => m_0 (fun an tr ah ak ai ap af sp => c_X4_marks_e l G hm an tr ah (nI c) ak ai ap (nI n) af sp w (w.toInt) x (x.toInt) y (y.toInt) (rfl) (rfl) (rfl) (he)) hw sz⟩⟩
set_option maxHeartbeats 4000000 in
theorem s_isMarked (hok : Ok r c hr sv sr p n) (w x : Int32) : Sim l G me hm yX3_isMarked cX3_isMarked 4 yX4_isMarked cX4_isMarked 4 [.int w, .int x] r c hr sv sr p n := by
  obtain ⟨hCv, hc, hn, hPg, hH, hS⟩ := id hok
  obtain ⟨h0r, htr, -⟩ := id hCv.1.1
  by_cases he : (0 ≤ w.toInt ∧ w.toInt ≤ 15) ∧ (0 ≤ x.toInt ∧ x.toInt ≤ 3649)
  · skip
    obtain ⟨s, hs9, rfl⟩ := nI_ex (x := w) (X := w.toInt) (N := 16) rfl (by omega)
    have hs8 := toI (n := s) (by omega)
    obtain ⟨d, hd9, rfl⟩ := nI_ex (x := x) (X := x.toInt) (N := 3650) rfl (by omega)
    have hd8 := toI (n := d) (by omega)
    have hs : s < 16 := by omega
    have hd : d < 3650 := by omega
    have hmd := mot_row hd
    exact ⟨nI (bn (r (255 + 16 * mot d + s)) (d - fdy (mot d))), lok r (mot d), c, hr, sv, sr, p, n, Ok_r hok (Cv_lok hCv (by omega)), ⟨9, by decide, fun sz ws hw => c_D (fun sz o ou oh os op ab af an aw => c_X3_isMarked_k l G sz me o ou oh os op (nI c) sv ab af an aw r s d (hCv) (hs) (hd)) hw sz⟩, ⟨8, by decide, fun sz ws hw => m_N (fun sz an tr ah ak ai ap af sp => c_X4_isMarked_k l G sz hm an tr ah (nI c) ak ai ap (nI n) af sp r s d (hCv.1) (hs) (hd)) hw sz⟩⟩
  · skip
    exact ⟨(-1), r, c, hr, sv, sr, p, n, hok, ⟨9, by decide, fun sz ws hw => c_M (fun o ou oh os op => c_X3_isMarked_e l G me o ou oh os op (nI c) sv 0 0 0 0 w (w.toInt) x (x.toInt) (rfl) (rfl) (he)) hw sz⟩, ⟨9, by decide, fun sz ws hw => m_0 (fun an tr ah ak ai ap af sp => c_X4_isMarked_e l G hm an tr ah (nI c) ak ai ap (nI n) af sp w (w.toInt) x (x.toInt) (rfl) (rfl) (he)) hw sz⟩⟩
set_option maxHeartbeats 4000000 in
theorem s_nextMark (hok : Ok r c hr sv sr p n) (w x : Int32) : Sim l G me hm yX3_nextMark cX3_nextMark 6 yX4_nextMark cX4_nextMark 6 [.int w, .int x] r c hr sv sr p n := by
  obtain ⟨hCv, hc, hn, hPg, hH, hS⟩ := id hok
  obtain ⟨h0r, htr, -⟩ := id hCv.1.1
  by_cases he : (0 ≤ w.toInt ∧ w.toInt ≤ 15) ∧ (0 ≤ x.toInt ∧ x.toInt ≤ 3649)
  · skip
    obtain ⟨s, hs9, rfl⟩ := nI_ex (x := w) (X := w.toInt) (N := 16) rfl (by omega)
    have hs8 := toI (n := s) (by omega)
    obtain ⟨d, hd9, rfl⟩ := nI_ex (x := x) (X := x.toInt) (N := 3650) rfl (by omega)
    have hd8 := toI (n := d) (by omega)
    have hs : s < 16 := by omega
    have hd : d < 3650 := by omega
    have hmd := mot_row hd
    exact ⟨nxr r s d, lmk r s (mot d) (nxc r s d), c, hr, sv, sr, p, n, Ok_r hok (Cv_lmk hCv _ (nxc_le (by omega))), ⟨9, by decide, fun sz ws hw => c_D (fun sz o ou oh os op ab af an aw => c_X3_nextMark_k l G sz me o ou oh os op (nI c) sv ab af an aw r s d (hCv) (hs) (hd)) hw sz⟩, ⟨8, by decide, fun sz ws hw => m_N (fun sz an tr ah ak ai ap af sp => c_X4_nextMark_k l G sz hm an tr ah (nI c) ak ai ap (nI n) af sp r s d (hCv.1) (hs) (hd)) hw sz⟩⟩
  · skip
    exact ⟨(-1), r, c, hr, sv, sr, p, n, hok, ⟨9, by decide, fun sz ws hw => c_M (fun o ou oh os op => c_X3_nextMark_e l G me o ou oh os op (nI c) sv 0 0 0 0 w (w.toInt) x (x.toInt) (rfl) (rfl) (he)) hw sz⟩, ⟨9, by decide, fun sz ws hw => m_0 (fun an tr ah ak ai ap af sp => c_X4_nextMark_e l G hm an tr ah (nI c) ak ai ap (nI n) af sp w (w.toInt) x (x.toInt) (rfl) (rfl) (he)) hw sz⟩⟩
set_option maxHeartbeats 4000000 in
theorem s_both (hok : Ok r c hr sv sr p n) (w v x y : Int32) : Sim l G me hm yX3_both cX3_both 10 yX4_both cX4_both 8 [.int w, .int v, .int x, .int y] r c hr sv sr p n := by
  obtain ⟨hCv, hc, hn, hPg, hH, hS⟩ := id hok
  obtain ⟨h0r, htr, -⟩ := id hCv.1.1
  by_cases he : (eDy ((0 ≤ w.toInt ∧ w.toInt ≤ 15) ∧ (0 ≤ v.toInt ∧ v.toInt ≤ 15)) x.toInt y.toInt).toInt = 0
  · skip
    obtain ⟨g1, g2, g3, g4⟩ := eDy_ok he
    obtain ⟨s, hs9, rfl⟩ := nI_ex (x := w) (X := w.toInt) (N := 16) rfl (by omega)
    have hs8 := toI (n := s) (by omega)
    obtain ⟨f, hf9, rfl⟩ := nI_ex (x := x) (X := x.toInt) (N := 3650) rfl (by omega)
    have hf8 := toI (n := f) (by omega)
    obtain ⟨t, ht9, rfl⟩ := nI_ex (x := y) (X := y.toInt) (N := 3650) rfl (by omega)
    have ht8 := toI (n := t) (by omega)
    obtain ⟨s2, hs29, rfl⟩ := nI_ex (x := v) (X := v.toInt) (N := 16) rfl (by omega)
    have hs28 := toI (n := s2) (by omega)
    have hs : s < 16 := by omega
    have hs2 : s2 < 16 := by omega
    have hft : f ≤ t := by omega
    have ht : t < 3650 := by omega
    have hmf := mot_mono (a := f) (b := t) (by omega) (by omega)
    have hmt := mot_row (d := t) (by omega)
    exact ⟨nI (ctb r s s2 f t (mot f) (mot t + 1 - mot f)), lkk r (mot f) (mot t + 1 - mot f), c, hr, sv, sr, p, n, Ok_r hok (Cv_lkk hCv _ (by omega)), ⟨9, by decide, fun sz ws hw => c_D (fun sz o ou oh os op ab af an aw => c_X3_both_k l G sz me o ou oh os op (nI c) sv ab af an aw r s s2 f t (hCv) (hs) (hs2) (hft) (ht)) hw sz⟩, ⟨8, by decide, fun sz ws hw => m_N (fun sz an tr ah ak ai ap af sp => c_X4_both_k l G sz hm an tr ah (nI c) ak ai ap (nI n) af sp r s s2 f t (hCv.1) (hs) (hs2) (hft) (ht)) hw sz⟩⟩
  · skip
    exact ⟨eDy ((0 ≤ w.toInt ∧ w.toInt ≤ 15) ∧ (0 ≤ v.toInt ∧ v.toInt ≤ 15)) x.toInt y.toInt, r, c, hr, sv, sr, p, n, hok, ⟨9, by decide, fun sz ws hw => c_M (fun o ou oh os op => c_X3_both_e l G me o ou oh os op (nI c) sv 0 0 0 0 w (w.toInt) v (v.toInt) x (x.toInt) y (y.toInt) (rfl) (rfl) (rfl) (rfl) (he)) hw sz⟩, ⟨9, by decide, fun sz ws hw => m_0 (fun an tr ah ak ai ap af sp => c_X4_both_e l G hm an tr ah (nI c) ak ai ap (nI n) af sp w (w.toInt) v (v.toInt) x (x.toInt) y (y.toInt) (rfl) (rfl) (rfl) (rfl) (he)) hw sz⟩⟩
set_option maxHeartbeats 4000000 in
theorem s_crowded (hok : Ok r c hr sv sr p n) (w x y : Int32) : Sim l G me hm yX3_crowded cX3_crowded 8 yX4_crowded cX4_crowded 10 [.int w, .int x, .int y] r c hr sv sr p n := by
  obtain ⟨hCv, hc, hn, hPg, hH, hS⟩ := id hok
  obtain ⟨h0r, htr, -⟩ := id hCv.1.1
  by_cases he : (0 ≤ x.toInt ∧ x.toInt ≤ 3649) ∧ (0 ≤ y.toInt ∧ y.toInt ≤ 3649) ∧ (1 ≤ w.toInt ∧ w.toInt ≤ 16) ∧ x.toInt ≤ y.toInt
  · skip
    obtain ⟨s, hs9, rfl⟩ := nI_ex (x := w) (X := w.toInt) (N := 17) rfl (by omega)
    have hs8 := toI (n := s) (by omega)
    obtain ⟨f, hf9, rfl⟩ := nI_ex (x := x) (X := x.toInt) (N := 3650) rfl (by omega)
    have hf8 := toI (n := f) (by omega)
    obtain ⟨t, ht9, rfl⟩ := nI_ex (x := y) (X := y.toInt) (N := 3650) rfl (by omega)
    have ht8 := toI (n := t) (by omega)
    have hL : 1 ≤ s ∧ s ≤ 16 := by omega
    have hft : f ≤ t := by omega
    have ht : t < 3650 := by omega
    have hmf := mot_mono (a := f) (b := t) (by omega) (by omega)
    have hmt := mot_row (d := t) (by omega)
    exact ⟨nI (ctc r ((s : Nat) : Int) f t (mot f) (mot t + 1 - mot f)), lkk r (mot f) (mot t + 1 - mot f), c, hr, sv, sr, p, n, Ok_r hok (Cv_lkk hCv _ (by omega)), ⟨9, by decide, fun sz ws hw => c_D (fun sz o ou oh os op ab af an aw => c_X3_crowded_k l G sz me o ou oh os op (nI c) sv ab af an aw r s f t (hCv) (hL) (hft) (ht)) hw sz⟩, ⟨8, by decide, fun sz ws hw => m_N (fun sz an tr ah ak ai ap af sp => c_X4_crowded_k l G sz hm an tr ah (nI c) ak ai ap (nI n) af sp r s f t (hCv.1) (hL) (hft) (ht)) hw sz⟩⟩
  · skip
    exact ⟨eCr w.toInt x.toInt y.toInt, r, c, hr, sv, sr, p, n, hok, ⟨9, by decide, fun sz ws hw => c_M (fun o ou oh os op => c_X3_crowded_e l G me o ou oh os op (nI c) sv 0 0 0 0 w (w.toInt) x (x.toInt) y (y.toInt) (rfl) (rfl) (rfl) (he)) hw sz⟩, ⟨9, by decide, fun sz ws hw => m_0 (fun an tr ah ak ai ap af sp => c_X4_crowded_e l G hm an tr ah (nI c) ak ai ap (nI n) af sp w (w.toInt) x (x.toInt) y (y.toInt) (rfl) (rfl) (rfl) (he)) hw sz⟩⟩
set_option maxHeartbeats 4000000 in
theorem s_longest (hok : Ok r c hr sv sr p n) (w x y v : Int32) : Sim l G me hm yX3_longest cX3_longest 10 yX4_longest cX4_longest 11 [.int w, .int x, .int y, .int v] r c hr sv sr p n := by
  obtain ⟨hCv, hc, hn, hPg, hH, hS⟩ := id hok
  obtain ⟨h0r, htr, -⟩ := id hCv.1.1
  by_cases he : (0 ≤ w.toInt ∧ w.toInt ≤ 15) ∧ (0 ≤ x.toInt ∧ x.toInt ≤ 3649) ∧ (0 ≤ y.toInt ∧ y.toInt ≤ 3649) ∧ (0 ≤ v.toInt ∧ v.toInt ≤ 1) ∧ x.toInt ≤ y.toInt
  · skip
    obtain ⟨s, hs9, rfl⟩ := nI_ex (x := w) (X := w.toInt) (N := 16) rfl (by omega)
    have hs8 := toI (n := s) (by omega)
    obtain ⟨f, hf9, rfl⟩ := nI_ex (x := x) (X := x.toInt) (N := 3650) rfl (by omega)
    have hf8 := toI (n := f) (by omega)
    obtain ⟨t, ht9, rfl⟩ := nI_ex (x := y) (X := y.toInt) (N := 3650) rfl (by omega)
    have ht8 := toI (n := t) (by omega)
    obtain ⟨u, hu9, rfl⟩ := nI_ex (x := v) (X := v.toInt) (N := 2) rfl (by omega)
    have hu8 := toI (n := u) (by omega)
    have hs : s < 16 := by omega
    have hu : u ≤ 1 := by omega
    have hft : f ≤ t := by omega
    have ht : t < 3650 := by omega
    have hmf := mot_mono (a := f) (b := t) (by omega) (by omega)
    have hmt := mot_row (d := t) (by omega)
    exact ⟨lgs r s f t u, lmk r s (mot f) (mot t + 1 - mot f), c, hr, sv, sr, p, n, Ok_r hok (Cv_lmk hCv _ (by omega)), ⟨9, by decide, fun sz ws hw => c_D (fun sz o ou oh os op ab af an aw => c_X3_longest_k l G sz me o ou oh os op (nI c) sv ab af an aw r s f t u (hCv) (hs) (hft) (ht) (hu)) hw sz⟩, ⟨8, by decide, fun sz ws hw => m_N (fun sz an tr ah ak ai ap af sp => c_X4_longest_k l G sz hm an tr ah (nI c) ak ai ap (nI n) af sp r s f t u (hCv.1) (hs) (hft) (ht) (hu)) hw sz⟩⟩
  · skip
    exact ⟨eLo w.toInt x.toInt y.toInt v.toInt, r, c, hr, sv, sr, p, n, hok, ⟨9, by decide, fun sz ws hw => c_M (fun o ou oh os op => c_X3_longest_e l G me o ou oh os op (nI c) sv 0 0 0 0 w (w.toInt) x (x.toInt) y (y.toInt) v (v.toInt) (rfl) (rfl) (rfl) (rfl) (he)) hw sz⟩, ⟨9, by decide, fun sz ws hw => m_0 (fun an tr ah ak ai ap af sp => c_X4_longest_e l G hm an tr ah (nI c) ak ai ap (nI n) af sp w (w.toInt) x (x.toInt) y (y.toInt) v (v.toInt) (rfl) (rfl) (rfl) (rfl) (he)) hw sz⟩⟩
set_option maxHeartbeats 4000000 in
theorem s_ofMonth (hok : Ok r c hr sv sr p n) (w x : Int32) : Sim l G me hm yX3_ofMonth cX3_ofMonth 3 yX4_ofMonth cX4_ofMonth 3 [.int w, .int x] r c hr sv sr p n := by
  obtain ⟨hCv, hc, hn, hPg, hH, hS⟩ := id hok
  obtain ⟨h0r, htr, -⟩ := id hCv.1.1
  by_cases he : 0 ≤ w.toInt ∧ w.toInt ≤ 119
  · skip
    obtain ⟨m, hm9, rfl⟩ := nI_ex (x := w) (X := w.toInt) (N := 120) rfl (by omega)
    have hm8 := toI (n := m) (by omega)
    have hm8 : m < 120 := by omega
    exact ⟨omv r m x.toInt, r, c, hr, sv, sr, p, n, hok, ⟨9, by decide, fun sz ws hw => c_MD (fun o ou oh os op ab af an aw => c_X3_ofMonth_k l G me o ou oh os op (nI c) sv ab af an aw r m x (x.toInt) (hCv) (hm8) (rfl)) hw sz⟩, ⟨8, by decide, fun sz ws hw => m_hFN (fun an tr ah ak ai ap af sp => c_X4_ofMonth_k l G hm an tr ah (nI c) ak ai ap (nI n) af sp r m x (x.toInt) (hCv.1) (hm8) (rfl)) hw sz⟩⟩
  · skip
    exact ⟨(-1), r, c, hr, sv, sr, p, n, hok, ⟨9, by decide, fun sz ws hw => c_M (fun o ou oh os op => c_X3_ofMonth_e l G me o ou oh os op (nI c) sv 0 0 0 0 w (w.toInt) x (rfl) (he)) hw sz⟩, ⟨9, by decide, fun sz ws hw => m_0 (fun an tr ah ak ai ap af sp => c_X4_ofMonth_e l G hm an tr ah (nI c) ak ai ap (nI n) af sp w (w.toInt) x (rfl) (he)) hw sz⟩⟩
set_option maxHeartbeats 4000000 in
theorem s_inMonth (hok : Ok r c hr sv sr p n) (w x : Int32) : Sim l G me hm yX3_inMonth cX3_inMonth 3 yX4_inMonth cX4_inMonth 3 [.int w, .int x] r c hr sv sr p n := by
  obtain ⟨hCv, hc, hn, hPg, hH, hS⟩ := id hok
  obtain ⟨h0r, htr, -⟩ := id hCv.1.1
  by_cases he : (0 ≤ w.toInt ∧ w.toInt ≤ 15) ∧ (0 ≤ x.toInt ∧ x.toInt ≤ 119)
  · skip
    obtain ⟨s, hs9, rfl⟩ := nI_ex (x := w) (X := w.toInt) (N := 16) rfl (by omega)
    have hs8 := toI (n := s) (by omega)
    obtain ⟨m, hm9, rfl⟩ := nI_ex (x := x) (X := x.toInt) (N := 120) rfl (by omega)
    have hm8 := toI (n := m) (by omega)
    have hs : s < 16 := by omega
    have hm8 : m < 120 := by omega
    exact ⟨nI (ons (r (255 + 16 * m + s))), r, c, hr, sv, sr, p, n, hok, ⟨9, by decide, fun sz ws hw => c_MD (fun o ou oh os op ab af an aw => c_X3_inMonth_k l G me o ou oh os op (nI c) sv ab af an aw r s m (hCv.2.2.1.2.1) (hm8) (hs)) hw sz⟩, ⟨8, by decide, fun sz ws hw => m_hN (fun an tr ah ak ai ap af sp => c_X4_inMonth_k l G hm an tr ah (nI c) ak ai ap (nI n) af sp r s m (hm8) (hs)) hw sz⟩⟩
  · skip
    exact ⟨(-1), r, c, hr, sv, sr, p, n, hok, ⟨9, by decide, fun sz ws hw => c_M (fun o ou oh os op => c_X3_inMonth_e l G me o ou oh os op (nI c) sv 0 0 0 0 w (w.toInt) x (x.toInt) (rfl) (rfl) (he)) hw sz⟩, ⟨9, by decide, fun sz ws hw => m_0 (fun an tr ah ak ai ap af sp => c_X4_inMonth_e l G hm an tr ah (nI c) ak ai ap (nI n) af sp w (w.toInt) x (x.toInt) (rfl) (rfl) (he)) hw sz⟩⟩
set_option maxHeartbeats 4000000 in
theorem s_dayOf (hok : Ok r c hr sv sr p n) (w x z : Int32) : Sim l G me hm yX3_dayOf cX3_dayOf 5 yX4_dayOf cX4_dayOf 5 [.int w, .int x, .int z] r c hr sv sr p n := by
  obtain ⟨hCv, hc, hn, hPg, hH, hS⟩ := id hok
  obtain ⟨h0r, htr, -⟩ := id hCv.1.1
  by_cases he : (0 ≤ w.toInt ∧ w.toInt ≤ 9) ∧ (1 ≤ x.toInt ∧ x.toInt ≤ 12)
  · skip
    obtain ⟨y, hy9, rfl⟩ := nI_ex (x := w) (X := w.toInt) (N := 10) rfl (by omega)
    have hy8 := toI (n := y) (by omega)
    obtain ⟨m, hm9, rfl⟩ := nI_ex (x := x) (X := x.toInt) (N := 13) rfl (by omega)
    have hm8 := toI (n := m) (by omega)
    have hy : y < 10 := by omega
    have hm8 : 1 ≤ m ∧ m ≤ 12 := by omega
    have hdy := dys_in (12 * y + m - 1)
    by_cases he2 : 1 ≤ z.toInt ∧ z.toInt ≤ ((dys (12 * y + m - 1) : Nat) : Int)
    · skip
      obtain ⟨d, hd9, rfl⟩ := nI_ex (x := z) (X := z.toInt) (N := 32) rfl (by omega)
      have hd8 := toI (n := d) (by omega)
      have hd : 1 ≤ d ∧ d ≤ dys (12 * y + m - 1) := by omega
      exact ⟨nI (fdy (12 * y + m - 1) + d - 1), r, c, hr, sv, sr, p, n, hok, ⟨9, by decide, fun sz ws hw => c_M (fun o ou oh os op => c_X3_dayOf_k l G me o ou oh os op (nI c) sv 0 0 0 0 y m d (hy) (hm8) (hd)) hw sz⟩, ⟨8, by decide, fun sz ws hw => m_hF (fun an tr ah ak ai ap af sp => c_X4_dayOf_k l G hm an tr ah (nI c) ak ai ap (nI n) af sp y m d (hy) (hm8) (hd)) hw sz⟩⟩
    · skip
      exact ⟨(-1), r, c, hr, sv, sr, p, n, hok, ⟨9, by decide, fun sz ws hw => c_M (fun o ou oh os op => c_X3_dayOf_e2 l G me o ou oh os op (nI c) sv 0 0 0 0 y m z (z.toInt) (hy) (hm8) (rfl) (he2)) hw sz⟩, ⟨9, by decide, fun sz ws hw => m_hF (fun an tr ah ak ai ap af sp => c_X4_dayOf_e2 l G hm an tr ah (nI c) ak ai ap (nI n) af sp y m z (z.toInt) (hy) (hm8) (rfl) (he2)) hw sz⟩⟩
  · skip
    exact ⟨(-1), r, c, hr, sv, sr, p, n, hok, ⟨9, by decide, fun sz ws hw => c_M (fun o ou oh os op => c_X3_dayOf_e l G me o ou oh os op (nI c) sv 0 0 0 0 w (w.toInt) x (x.toInt) z (rfl) (rfl) (he)) hw sz⟩, ⟨9, by decide, fun sz ws hw => m_0 (fun an tr ah ak ai ap af sp => c_X4_dayOf_e l G hm an tr ah (nI c) ak ai ap (nI n) af sp w (w.toInt) x (x.toInt) z (rfl) (rfl) (he)) hw sz⟩⟩
set_option maxHeartbeats 4000000 in
theorem s_dateOf (hok : Ok r c hr sv sr p n) (w x : Int32) : Sim l G me hm yX3_dateOf cX3_dateOf 4 yX4_dateOf cX4_dateOf 4 [.int w, .int x] r c hr sv sr p n := by
  obtain ⟨hCv, hc, hn, hPg, hH, hS⟩ := id hok
  obtain ⟨h0r, htr, -⟩ := id hCv.1.1
  by_cases he : 0 ≤ w.toInt ∧ w.toInt ≤ 3649
  · skip
    obtain ⟨d, hd9, rfl⟩ := nI_ex (x := w) (X := w.toInt) (N := 3650) rfl (by omega)
    have hd8 := toI (n := d) (by omega)
    have hd : d < 3650 := by omega
    by_cases he2 : 0 ≤ x.toInt ∧ x.toInt ≤ 3
    · skip
      obtain ⟨u, hu9, rfl⟩ := nI_ex (x := x) (X := x.toInt) (N := 4) rfl (by omega)
      have hu8 := toI (n := u) (by omega)
      have hu : u ≤ 3 := by omega
      exact ⟨dtv d ((u : Nat) : Int), r, c, hr, sv, sr, p, n, hok, ⟨9, by decide, fun sz ws hw => c_M (fun o ou oh os op => c_X3_dateOf_k l G me o ou oh os op (nI c) sv 0 0 0 0 d u (hd) (hu)) hw sz⟩, ⟨8, by decide, fun sz ws hw => m_hF (fun an tr ah ak ai ap af sp => c_X4_dateOf_k l G hm an tr ah (nI c) ak ai ap (nI n) af sp d u (hd) (hu)) hw sz⟩⟩
    · skip
      exact ⟨(-2), r, c, hr, sv, sr, p, n, hok, ⟨9, by decide, fun sz ws hw => c_M (fun o ou oh os op => c_X3_dateOf_e2 l G me o ou oh os op (nI c) sv 0 0 0 0 d x (x.toInt) (hd) (rfl) (he2)) hw sz⟩, ⟨9, by decide, fun sz ws hw => m_hF (fun an tr ah ak ai ap af sp => c_X4_dateOf_e2 l G hm an tr ah (nI c) ak ai ap (nI n) af sp d x (x.toInt) (hd) (rfl) (he2)) hw sz⟩⟩
  · skip
    exact ⟨(-1), r, c, hr, sv, sr, p, n, hok, ⟨9, by decide, fun sz ws hw => c_M (fun o ou oh os op => c_X3_dateOf_e l G me o ou oh os op (nI c) sv 0 0 0 0 w (w.toInt) x (rfl) (he)) hw sz⟩, ⟨9, by decide, fun sz ws hw => m_0 (fun an tr ah ak ai ap af sp => c_X4_dateOf_e l G hm an tr ah (nI c) ak ai ap (nI n) af sp w (w.toInt) x (rfl) (he)) hw sz⟩⟩
set_option maxHeartbeats 4000000 in
theorem s_count (hok : Ok r c hr sv sr p n) (x : Int32) : Sim l G me hm yX3_count cX3_count 2 yX4_count cX4_count 5 [.int x] r c hr sv sr p n := by
  obtain ⟨hCv, hc, hn, hPg, hH, hS⟩ := id hok
  obtain ⟨h0r, htr, -⟩ := id hCv.1.1
  exact ⟨cov r (nI c) (nI n) x.toInt, r, c, hr, sv, sr, p, n, hok, ⟨9, by decide, fun sz ws hw => c_MPD (fun o ou oh os op ab af an aw pa pt i k3 k4 => c_X3_count l G me o ou oh os op (nI c) sv ab af an aw r pa pt (nI n) i k3 k4 x (x.toInt) (hCv) (rfl)) hw sz⟩, ⟨8, by decide, fun sz ws hw => m_hFN (fun an tr ah ak ai ap af sp => c_X4_count l G hm an tr ah (nI c) ak ai ap (nI n) af sp r x (x.toInt) (hCv.1) (rfl)) hw sz⟩⟩
set_option maxHeartbeats 4000000 in
theorem s_sizeAs (hok : Ok r c hr sv sr p n) (w x : Int32) : Sim l G me hm yX3_sizeAs cX3_sizeAs 3 yX4_sizeAs cX4_sizeAs 3 [.int w, .int x] r c hr sv sr p n := by
  obtain ⟨hCv, hc, hn, hPg, hH, hS⟩ := id hok
  obtain ⟨h0r, htr, -⟩ := id hCv.1.1
  by_cases he : 0 ≤ w.toInt ∧ w.toInt ≤ 119
  · skip
    obtain ⟨m, hm9, rfl⟩ := nI_ex (x := w) (X := w.toInt) (N := 120) rfl (by omega)
    have hm8 := toI (n := m) (by omega)
    have hm8 : m < 120 := by omega
    by_cases he2 : 0 ≤ x.toInt ∧ x.toInt ≤ 4
    · skip
      obtain ⟨u, hu9, rfl⟩ := nI_ex (x := x) (X := x.toInt) (N := 5) rfl (by omega)
      have hu8 := toI (n := u) (by omega)
      have hu : u ≤ 4 := by omega
      exact ⟨siz r m (-6) ((u : Nat) : Int), r, c, hr, sv, sr, p, n, hok, ⟨9, by decide, fun sz ws hw => c_MD (fun o ou oh os op ab af an aw => c_X3_sizeAs_k l G me o ou oh os op (nI c) sv ab af an aw r m u (hCv.2.2.1) (hm8) (hu)) hw sz⟩, ⟨8, by decide, fun sz ws hw => m_hN (fun an tr ah ak ai ap af sp => c_X4_sizeAs_k l G hm an tr ah (nI c) ak ai ap (nI n) af sp r m u (hm8) (hu)) hw sz⟩⟩
    · skip
      exact ⟨(-2), r, c, hr, sv, sr, p, n, hok, ⟨9, by decide, fun sz ws hw => c_M (fun o ou oh os op => c_X3_sizeAs_e2 l G me o ou oh os op (nI c) sv 0 0 0 0 m x (x.toInt) (hm8) (rfl) (he2)) hw sz⟩, ⟨9, by decide, fun sz ws hw => m_0 (fun an tr ah ak ai ap af sp => c_X4_sizeAs_e2 l G hm an tr ah (nI c) ak ai ap (nI n) af sp m x (x.toInt) (hm8) (rfl) (he2)) hw sz⟩⟩
  · skip
    exact ⟨(-1), r, c, hr, sv, sr, p, n, hok, ⟨9, by decide, fun sz ws hw => c_M (fun o ou oh os op => c_X3_sizeAs_e l G me o ou oh os op (nI c) sv 0 0 0 0 w (w.toInt) x (rfl) (he)) hw sz⟩, ⟨9, by decide, fun sz ws hw => m_0 (fun an tr ah ak ai ap af sp => c_X4_sizeAs_e l G hm an tr ah (nI c) ak ai ap (nI n) af sp w (w.toInt) x (rfl) (he)) hw sz⟩⟩
set_option maxHeartbeats 4000000 in
theorem s_workOf (hok : Ok r c hr sv sr p n) (x y : Int32) : Sim l G me hm yX3_workOf cX3_workOf 4 yX4_workOf cX4_workOf 4 [.int x, .int y] r c hr sv sr p n := by
  obtain ⟨hCv, hc, hn, hPg, hH, hS⟩ := id hok
  obtain ⟨h0r, htr, -⟩ := id hCv.1.1
  by_cases he : (eDy True x.toInt y.toInt).toInt = 0
  · skip
    obtain ⟨g1, g2, g3, g4⟩ := eDy_ok he
    obtain ⟨f, hf9, rfl⟩ := nI_ex (x := x) (X := x.toInt) (N := 3650) rfl (by omega)
    have hf8 := toI (n := f) (by omega)
    obtain ⟨t, ht9, rfl⟩ := nI_ex (x := y) (X := y.toInt) (N := 3650) rfl (by omega)
    have ht8 := toI (n := t) (by omega)
    have hft : f ≤ t := by omega
    have ht : t < 3650 := by omega
    exact ⟨(lkk r (mot f) (mot t + 1 - mot f)) 3 - r 3, r, c, hr, sv, sr, p, n, hok, ⟨9, by decide, fun sz ws hw => c_D1 (fun sz o ou oh os op ab af an aw ub uf un uw rt => c_X3_workOf_k l G sz me o ou oh os op (nI c) sv ab af an aw r ub uf un uw rt f t (hCv) (hft) (ht)) hw sz⟩, ⟨9, by decide, fun sz ws hw => m_T (fun sz an tr ah ak ai ap af sp rt => c_X4_workOf_k l G sz hm an tr ah (nI c) ak ai ap (nI n) af sp r rt f t (hCv.1) (hft) (ht)) hw sz⟩⟩
  · skip
    exact ⟨eDy True x.toInt y.toInt, r, c, hr, sv, sr, p, n, hok, ⟨9, by decide, fun sz ws hw => c_M (fun o ou oh os op => c_X3_workOf_e l G me o ou oh os op (nI c) sv 0 0 0 0 x (x.toInt) y (y.toInt) (rfl) (rfl) (he)) hw sz⟩, ⟨9, by decide, fun sz ws hw => m_0 (fun an tr ah ak ai ap af sp => c_X4_workOf_e l G hm an tr ah (nI c) ak ai ap (nI n) af sp x (x.toInt) y (y.toInt) (rfl) (rfl) (he)) hw sz⟩⟩
set_option maxHeartbeats 4000000 in
theorem s_bestOpen (hok : Ok r c hr sv sr p n) (x y : Int32) : Sim l G me hm yX3_bestOpen cX3_bestOpen 8 yX4_bestOpen cX4_bestOpen 9 [.int x, .int y] r c hr sv sr p n := by
  obtain ⟨hCv, hc, hn, hPg, hH, hS⟩ := id hok
  obtain ⟨h0r, htr, -⟩ := id hCv.1.1
  by_cases he : (eDy True x.toInt y.toInt).toInt = 0
  · skip
    obtain ⟨g1, g2, g3, g4⟩ := eDy_ok he
    obtain ⟨f, hf9, rfl⟩ := nI_ex (x := x) (X := x.toInt) (N := 3650) rfl (by omega)
    have hf8 := toI (n := f) (by omega)
    obtain ⟨t, ht9, rfl⟩ := nI_ex (x := y) (X := y.toInt) (N := 3650) rfl (by omega)
    have ht8 := toI (n := t) (by omega)
    have hft : f ≤ t := by omega
    have ht : t < 3650 := by omega
    exact ⟨nI (bob r f t 6), r, c, hr, sv, sr, p, n, hok, ⟨9, by decide, fun sz ws hw => c_D1 (fun sz o ou oh os op ab af an aw ub uf un uw rt => c_X3_bestOpen_k l G sz me o ou oh os op (nI c) sv ab af an aw r ub uf un uw rt f t (hCv) (hft) (ht)) hw sz⟩, ⟨9, by decide, fun sz ws hw => m_T (fun sz an tr ah ak ai ap af sp rt => c_X4_bestOpen_k l G sz hm an tr ah (nI c) ak ai ap (nI n) af sp r rt f t (hCv.1) (hft) (ht)) hw sz⟩⟩
  · skip
    exact ⟨eDy True x.toInt y.toInt, r, c, hr, sv, sr, p, n, hok, ⟨9, by decide, fun sz ws hw => c_M (fun o ou oh os op => c_X3_bestOpen_e l G me o ou oh os op (nI c) sv 0 0 0 0 x (x.toInt) y (y.toInt) (rfl) (rfl) (he)) hw sz⟩, ⟨9, by decide, fun sz ws hw => m_0 (fun an tr ah ak ai ap af sp => c_X4_bestOpen_e l G hm an tr ah (nI c) ak ai ap (nI n) af sp x (x.toInt) y (y.toInt) (rfl) (rfl) (he)) hw sz⟩⟩
set_option maxHeartbeats 4000000 in
theorem s_put (hok : Ok r c hr sv sr p n) (w : Int64) : Sim l G me hm yX3_put cX3_put 4 yX4_put cX4_put 7 [.long w] r c hr sv sr p n := by
  obtain ⟨hCv, hc, hn, hPg, hH, hS⟩ := id hok
  obtain ⟨h0r, htr, -⟩ := id hCv.1.1
  obtain ⟨Wd, hW, rfl⟩ := lw_ex w
  by_cases hc0 : chN Wd = 0
  · skip
    exact ⟨(-2), r, c, hr, sv, sr, p, n, hok, ⟨9, by decide, fun sz ws hw => c_M (fun o ou oh os op => c_X3_put_e l G me o ou oh os op (nI c) sv 0 0 0 0 Wd (hW) (hc0)) hw sz⟩, ⟨8, by decide, fun sz ws hw => m_h (fun an tr ah ak ai ap af sp => c_X4_put_e l G hm an tr ah (nI c) ak ai ap n af sp Wd (hW) (hc0)) hw sz⟩⟩
  · skip
    by_cases hnc : n + chN Wd ≤ 80
    · skip
      exact ⟨nI (n + chN Wd), r, c, hr, sv, sr, apk p n Wd (chN Wd) (chN Wd), n + chN Wd, Ok_put hok hc0 hnc, ⟨9, by decide, fun sz ws hw => c_put (fun sz o ou oh os op pa pt i k3 k4 => c_X3_put_k l G sz me o ou oh os op (nI c) sv 0 0 0 0 pa pt n i k3 k4 p Wd (hW) (hc0) (hnc)) hw sz⟩, ⟨8, by decide, fun sz ws hw => m_put (fun sz an tr ah ak ai ap af sp => c_X4_put_k l G sz hm an tr ah (nI c) ak ai ap n af sp p Wd (hW) (hc0) (hnc)) hw sz⟩⟩
    · skip
      exact ⟨(-4), r, c, hr, sv, sr, p, n, hok, ⟨9, by decide, fun sz ws hw => c_MP (fun o ou oh os op pa pt i k3 k4 => c_X3_put_e2 l G me o ou oh os op (nI c) sv 0 0 0 0 pa pt n i k3 k4 p Wd (hW) (hn) (hc0) (hnc)) hw sz⟩, ⟨8, by decide, fun sz ws hw => m_h (fun an tr ah ak ai ap af sp => c_X4_put_e2 l G hm an tr ah (nI c) ak ai ap n af sp Wd (hW) (hn) (hc0) (hnc)) hw sz⟩⟩
set_option maxHeartbeats 4000000 in
theorem s_wipe (hok : Ok r c hr sv sr p n) : Sim l G me hm yX3_wipe cX3_wipe 2 yX4_wipe cX4_wipe 2 [] r c hr sv sr p n := by
  obtain ⟨hCv, hc, hn, hPg, hH, hS⟩ := id hok
  obtain ⟨h0r, htr, -⟩ := id hCv.1.1
  exact ⟨nI n, r, c, hr, sv, sr, p, 0, Ok_n hok, ⟨9, by decide, fun sz ws hw => c_wipe (n' := 0) (fun sz o ou oh os op pa pt i k3 k4 => c_X3_wipe l G sz me o ou oh os op (nI c) sv 0 0 0 0 pa pt (nI n) i k3 k4) hw sz⟩, ⟨0, by decide, fun sz ws hw => m_wipe (n' := 0) (fun sz an tr ah ak ai ap af sp => c_X4_wipe l G sz hm an tr ah (nI c) ak ai ap n af sp) hw sz⟩⟩
set_option maxHeartbeats 4000000 in
theorem s_fault (hok : Ok r c hr sv sr p n) : Sim l G me hm yX3_fault cX3_fault 1 yX4_fault cX4_fault 2 [] r c hr sv sr p n := by
  obtain ⟨hCv, hc, hn, hPg, hH, hS⟩ := id hok
  obtain ⟨h0r, htr, -⟩ := id hCv.1.1
  exact ⟨fV p n 0, r, c, hr, sv, sr, p, n, hok, ⟨9, by decide, fun sz ws hw => c_txt (fun sz o ou oh os op pa pt i k3 k4 f hs T hfp => c_X3_fault l G sz me o ou oh os op (nI c) sv 0 0 0 0 pa pt n p i k3 k4 f hs T (fV p n 0) (fW p n 0) (alN p n 0) (alO p n 0) (hn) (hPg) (hfp) (rfl) (rfl) (rfl) (rfl)) hw sz⟩, ⟨4, by decide, fun sz ws hw => m_txt (fun sz an tr ah ak ai ap af sp => c_X4_fault l G sz hm an tr ah (nI c) ak ai ap n af sp p (hn)) hw sz⟩⟩
set_option maxHeartbeats 4000000 in
theorem s_carryOut (hok : Ok r c hr sv sr p n) : Sim l G me hm yX3_carryOut cX3_carryOut 4 yX4_carryOut cX4_carryOut 3 [] r c hr sv sr p n := by
  obtain ⟨hCv, hc, hn, hPg, hH, hS⟩ := id hok
  obtain ⟨h0r, htr, -⟩ := id hCv.1.1
  by_cases hV6 : (fV p n 0).toInt = -6
  · skip
    have hV : fV p n 0 = -6 := Int32.toInt_inj.mp (hV6.trans rfl)
    exact ⟨cI ((fe p n r (alN p n 0) 0) = alN p n 0) (nI (alO p n 0)) (nI (cO p n (fe p n r (alN p n 0) 0))), run p n r (fe p n r (alN p n 0) 0), rch c + 1, recH c hr r, sv, sr, p, 0, Ok_n (Ok_rec hok (Cv_run hCv _)), ⟨9, by decide, fun sz ws hw => c_co (fun sz o ou oh os op ab af an aw hf o2 b2 f2 n2 w2 r2 pa pt i k3 k4 f hs T hc ho2 hfp => c_X3_carryOut_k l G sz me o ou oh os op c sv ab af an aw hf r o2 b2 f2 n2 w2 r2 pa pt n p i k3 k4 f hs T (fW p n 0) (alN p n 0) (alO p n 0) (fe p n r (alN p n 0) 0) (hc) (ho2) (hn) (hPg) (hfp) (hV) (rfl) (rfl) (rfl) (rfl) (hCv)) (fun sz o ou oh os op ab af an aw h0 h1 h2 h3 h4 h5 b2 f2 n2 w2 r2 v1 v2 v3 v4 v5 pa pt i k3 k4 f hs T hfp => c_X3_carryOut_6 l G sz me o ou oh os op sv ab af an aw h0 h1 h2 h3 h4 h5 r b2 f2 n2 w2 r2 v1 v2 v3 v4 v5 pa pt n p i k3 k4 f hs T (fW p n 0) (alN p n 0) (alO p n 0) (fe p n r (alN p n 0) 0) (hn) (hPg) (hfp) (hV) (rfl) (rfl) (rfl) (rfl) (hCv)) hc hw sz⟩, ⟨10, by decide, fun sz ws hw => m_co (fun sz an tr ah ak ai ap af sp hh => c_X4_carryOut_k l G sz hm an tr ah c ak ai ap n af sp p r hh (alN p n 0) (alO p n 0) (fe p n r (alN p n 0) 0) (hc) (hn) (hV) (rfl) (rfl) (rfl) (hCv)) hc hw sz⟩⟩
  · skip
    exact ⟨(-3), r, c, hr, sv, sr, p, n, hok, ⟨9, by decide, fun sz ws hw => c_txt (fun sz o ou oh os op pa pt i k3 k4 f hs T hfp => c_X3_carryOut_t l G sz me o ou oh os op (nI c) sv 0 0 0 0 pa pt n p i k3 k4 f hs T (fV p n 0) (fW p n 0) (alN p n 0) (alO p n 0) (hn) (hPg) (hfp) (rfl) (rfl) (rfl) (rfl) (hV6)) hw sz⟩, ⟨10, by decide, fun sz ws hw => m_txt (fun sz an tr ah ak ai ap af sp => c_X4_carryOut_t l G sz hm an tr ah (nI c) ak ai ap n af sp p (fV p n 0) (fW p n 0) (hn) (rfl) (rfl) (hV6)) hw sz⟩⟩
set_option maxHeartbeats 4000000 in
theorem s_undo (hok : Ok r c hr sv sr p n) : Sim l G me hm yX3_undo cX3_undo 1 yX4_undo cX4_undo 1 [] r c hr sv sr p n := by
  obtain ⟨hCv, hc, hn, hPg, hH, hS⟩ := id hok
  obtain ⟨h0r, htr, -⟩ := id hCv.1.1
  by_cases hc0 : c = 0
  · skip
    subst hc0
    exact ⟨(-5), r, 0, hr, sv, sr, p, n, hok, ⟨9, by decide, fun sz ws hw => c_M (fun o ou oh os op => c_X3_undo_e l G me o ou oh os op sv 0 0 0 0) hw sz⟩, ⟨2, by decide, fun sz ws hw => m_h (fun an tr ah ak ai ap af sp => c_X4_undo_e l G hm an tr ah 0 ak ai ap (nI n) af (nI sp) (rfl)) hw sz⟩⟩
  · skip
    have hc1 : 1 ≤ c ∧ c ≤ 6 := by omega
    exact ⟨nI (c - 1), hr (c - 1), c - 1, hr, sv, sr, p, n, Ok_undo hok hc1.1, ⟨9, by decide, fun sz ws hw => c_undo (fun sz o ou oh os op ab af an aw hf o2 b2 f2 n2 w2 ho2 => c_X3_undo_k l G sz me o ou oh os op c sv ab af an aw hf r o2 b2 f2 n2 w2 (hr (c - 1)) (hc1) (ho2)) hc1 hw sz⟩, ⟨2, by decide, fun sz ws hw => m_undo (fun sz an tr ah ak ai ap af sp hh => c_X4_undo_k l G sz hm an tr ah c ak ai ap (nI n) af sp r hh (hc1.2) (hc1.1)) hc1 hw sz⟩⟩
set_option maxHeartbeats 4000000 in
theorem s_save (hok : Ok r c hr sv sr p n) (w : Int32) : Sim l G me hm yX3_save cX3_save 2 yX4_save cX4_save 2 [.int w] r c hr sv sr p n := by
  obtain ⟨hCv, hc, hn, hPg, hH, hS⟩ := id hok
  obtain ⟨h0r, htr, -⟩ := id hCv.1.1
  by_cases he : 0 ≤ w.toInt ∧ w.toInt ≤ 1
  · skip
    obtain ⟨v, hv9, rfl⟩ := nI_ex (x := w) (X := w.toInt) (N := 2) rfl (by omega)
    have hv8 := toI (n := v) (by omega)
    have hv : v ≤ 1 := by omega
    exact ⟨r 0, r, c, hr, sv ||| (nI 1 <<< (nI v &&& 31)), uph v sr r, p, n, Ok_save hok hv, ⟨9, by decide, fun sz ws hw => c_save (fun sz o ou oh os op ab af an aw fs o2 b2 f2 n2 w2 r2 ho2 => c_X3_save_k l G sz me o ou oh os op (nI c) sv ab af an aw fs r o2 b2 f2 n2 w2 r2 v (hv) (ho2)) hv hw sz⟩, ⟨2, by decide, fun sz ws hw => m_save (fun sz an tr ah ak ai ap af sp kk ik => c_X4_save_k l G sz hm an tr ah (nI c) ak ai ap (nI n) af sp r kk ik v (hv)) hv hw sz⟩⟩
  · skip
    exact ⟨(-2), r, c, hr, sv, sr, p, n, hok, ⟨9, by decide, fun sz ws hw => c_M (fun o ou oh os op => c_X3_save_e l G me o ou oh os op (nI c) sv 0 0 0 0 w (w.toInt) (rfl) (he)) hw sz⟩, ⟨9, by decide, fun sz ws hw => m_0 (fun an tr ah ak ai ap af sp => c_X4_save_e l G hm an tr ah (nI c) ak ai ap (nI n) af sp w (w.toInt) (rfl) (he)) hw sz⟩⟩
set_option maxHeartbeats 4000000 in
theorem s_restore (hok : Ok r c hr sv sr p n) (w : Int32) : Sim l G me hm yX3_restore cX3_restore 2 yX4_restore cX4_restore 2 [.int w] r c hr sv sr p n := by
  obtain ⟨hCv, hc, hn, hPg, hH, hS⟩ := id hok
  obtain ⟨h0r, htr, -⟩ := id hCv.1.1
  by_cases he : 0 ≤ w.toInt ∧ w.toInt ≤ 1
  · skip
    obtain ⟨v, hv9, rfl⟩ := nI_ex (x := w) (X := w.toInt) (N := 2) rfl (by omega)
    have hv8 := toI (n := v) (by omega)
    have hv : v ≤ 1 := by omega
    by_cases hi : bt sv v = true
    · skip
      exact ⟨sr v 0, sr v, rch c + 1, recH c hr r, sv, sr, p, n, Ok_rec hok (hS v hv hi), ⟨9, by decide, fun sz ws hw => c_res (fun sz o ou oh os op ab af an aw hf o2 b2 f2 n2 w2 r2 fs o3 b3 f3 n3 w3 hc ho2 ho3 => c_X3_restore_kk l G sz me o ou oh os op c sv ab af an aw hf r o2 b2 f2 n2 w2 r2 fs o3 b3 f3 n3 w3 (sr v) v (hc) (ho2) (hv) (hi) (ho3)) (fun sz o ou oh os op ab af an aw h0 h1 h2 h3 h4 h5 b2 f2 n2 w2 r2 v1 v2 v3 v4 v5 fs o3 b3 f3 n3 w3 ho3 => c_X3_restore_k6 l G sz me o ou oh os op sv ab af an aw h0 h1 h2 h3 h4 h5 r b2 f2 n2 w2 r2 v1 v2 v3 v4 v5 fs o3 b3 f3 n3 w3 (sr v) v (hv) (hi) (ho3)) hc hv hw sz⟩, ⟨2, by decide, fun sz ws hw => m_res (fun sz an tr ah ak ai ap af sp hh kk ik hik hkr => hkr ▸ c_X4_restore_k l G sz hm an tr ah c ak ai ap (nI n) af sp r hh kk ik v (hc) (hv) (hik)) hc hv hi rfl hw sz⟩⟩
    · skip
      exact ⟨(-5), r, c, hr, sv, sr, p, n, hok, ⟨9, by decide, fun sz ws hw => c_M (fun o ou oh os op => c_X3_restore_e2 l G me o ou oh os op (nI c) sv 0 0 0 0 v (hv) (hi)) hw sz⟩, ⟨9, by decide, fun sz ws hw => m_hI v hv hi (fun an tr ah ak ai ap af sp ik hik => c_X4_restore_e2 l G hm an tr ah (nI c) ak ai ap (nI n) af sp ik v (hv) (hik)) hw sz⟩⟩
  · skip
    exact ⟨(-2), r, c, hr, sv, sr, p, n, hok, ⟨9, by decide, fun sz ws hw => c_M (fun o ou oh os op => c_X3_restore_e l G me o ou oh os op (nI c) sv 0 0 0 0 w (w.toInt) (rfl) (he)) hw sz⟩, ⟨9, by decide, fun sz ws hw => m_0 (fun an tr ah ak ai ap af sp => c_X4_restore_e l G hm an tr ah (nI c) ak ai ap (nI n) af sp w (w.toInt) (rfl) (he)) hw sz⟩⟩
end SIM
