/-! ===== the reference's carrying out ===== -/
theorem sgn_sub {p : Nat → Int32} {n i : Nat} (h : 97 ≤ sg p n i) : sgn p n i - nI 97 = nI (sg p n i - 97).toNat := by
  have h2 : (sgn p n i).toInt < 2147483648 := Int32.toInt_lt _
  have h3 : sg p n i = (sgn p n i).toInt := rfl
  have e : sgn p n i = nI (sg p n i).toNat := by rw [h3]; exact nI_iN (by omega)
  rw [e, pk_sub (by omega)]
  exact congrArg nI (by omega)
theorem rgO_rF {p : Nat → Int32} {n j : Nat} (hn : n ≤ 80) (hj : j ≤ n) (hO : rgO p n j) : rF p n j := by
  by_cases z : rF p n j ∧ sg p n (rL p n j) = 44
  · exact z.1
  · exact (rg_f (p := p) (n := n) (j := j) (by omega) z).2.mp hO
theorem num_l {p : Nat → Int32} {n j : Nat} (hn : n ≤ 80) (hj : j ≤ n) (hD : ¬ dgP p n (rgE p n j)) : ¬ dgP p n (rL p n j) := by
  intro hd
  have hne := dg_ne hd
  rw [(rg_f (p := p) (n := n) (j := j) (by omega) (fun z => hne.1 z.2)).1] at hD
  exact hD hd
theorem num_a {p : Nat → Int32} {n j : Nat} (hn : n ≤ 80) (hj : j ≤ n) (hr : rF p n j) (hD : ¬ dgP p n (rgE p n j)) : ¬ dgP p n (nE p n j) := by
  intro hd
  have h := num_l hn hj hD
  rw [rL_1 hr.1 (dg_ne hd).2.1] at h
  exact h hd
theorem num_b {p : Nat → Int32} {n j : Nat} (hn : n ≤ 80) (hj : j ≤ n) (hr : rF p n j) (hD : ¬ dgP p n (rgE p n j)) (h45 : sg p n (nE p n j) = 45) : ¬ dgP p n (nE p n (nE p n j + 1)) := by
  have h := num_l hn hj hD
  rwa [rL_2 hr.1 h45] at h
theorem fV_ok {p : Nat → Int32} {n i : Nat} (hn : n ≤ 80) (hi : i ≤ n) (h : fV p n i = -6) : oF p n i ∧ ¬ dgP p n (oE p n i) ∧ ((sg p n (oE p n i) = 59 ∧ fV p n (oE p n i + 1) = -6) ∨ (¬ sg p n (oE p n i) = 59 ∧ oE p n i = n)) := by
  have ho := oE_in (p := p) hi
  by_cases z : oF p n i ∧ sg p n (oE p n i) = 59
  · refine ⟨z.1, fun hd => (dg_ne hd).2.2.1 z.2, Or.inl ⟨z.2, ?_⟩⟩
    rw [← (fV_t hn hi z).1]; exact h
  · have hf := (fV_f (p := p) (n := n) (j := i) (by omega) z).1
    rw [hf] at h
    by_cases y : oF p n i ∧ n ≤ oE p n i
    · refine ⟨y.1, fun hd => ?_, Or.inr ⟨fun x => z ⟨y.1, x⟩, by omega⟩⟩
      have := (dg_ne hd).2.2.2
      omega
    · rw [cI_f y] at h
      exact absurd h (nI_ne6 (by omega))
theorem alN_od {p : Nat → Int32} {n i : Nat} (hn : n ≤ 80) (hi : i ≤ n) : ∃ X, alN p n i = odN p n i + X := by
  by_cases z : oF p n i ∧ sg p n (oE p n i) = 59
  · exact ⟨_, alN_t hn hi z⟩
  · exact ⟨0, alN_f z⟩
theorem cE_m {p : Nat → Int32} {n j K s o : Nat} (h : ¬ K = 112) : cE p n (j, K, s, o) = rL p n j := cI_f h
theorem cE_p {p : Nat → Int32} {n j s o : Nat} : cE p n (j, 112, s, o) = nE p n j := cI_t rfl
