/-! ===== rows of diaries ===== -/
section RWD
variable {p : Program} {l : Launch} {e : Env} {R : Room} {s : State} {m : MethodId} {args : Array Value} {below : List Frame} {meth : Method} {c : Code} {H : Heap} {locs : List Loc} {cells slots : Nat} {Q : State → Prop}
variable {pc : Nat} {ls : Array Slot} {rest : List Value} {cc : ByteArray} {D : va_G} {cl : List vw_C} {tys : List (ClassId × FieldType)} {ws : va_W} {a : Nat} {A : Nat → Prop} {H0 : Heap}
theorem lv_cvq {x y : Value} (h : x = y) (k : W p l e R s m args below meth c H locs cells slots Q (F0 m pc ls (y :: rest))) : W p l e R s m args below meth c H locs cells slots Q (F0 m pc ls (x :: rest)) := by rw [h]; exact k
theorem n_aast (hx : p.tables.exec = Jvm.exec) (hb : c.code = cc) (hK : va_K D cl tys s) (hP : va_P D cl ws H) (hD : va_D A ws) (hS : va_S A H0 H locs) (q0 t0 qk ci : Nat) {cA : ClassId} {r : vw_C} {n v k : Nat} {vs : List Value} {f : Nat → Option Nat} (ha : ws[q0]? = some (a, .inl (cA, n, .inr (.inr (.inr (.inr f)))))) (ht : tys[t0]? = some (cA, .object r.1)) (hv : ws[qk]? = some (v, .inr (ci, vs))) (hc : cl[ci]? = some r) (hk : k < n) (hn : n < 2147483648) (hdg : decode cc pc = .ok (.aastore, 1))
    (kk : ∀ (H1 : Heap) (locs1 : List Loc), va_P D cl (ws.set q0 (a, .inl (cA, n, .inr (.inr (.inr (.inr (va_up f k (some v)))))))) H1 → va_D A (ws.set q0 (a, .inl (cA, n, .inr (.inr (.inr (.inr (va_up f k (some v)))))))) → va_S A H0 H1 locs1 → W p l e R s m args below meth c H1 locs1 cells slots Q (F0 m (pc + 1) ls rest)) : W p l e R s m args below meth c H locs cells slots Q (F0 m pc ls (.ref v :: .int (nI k) :: .ref a :: rest)) :=
  va_astq hx hb hK hP hD hS q0 t0 qk ci ha ht hv hc (vp_in_nI hk hn) hdg (by rw [nI_clamp (Nat.lt_trans hk hn)]; exact kk)
end RWD
def lis6 (h0 h1 h2 h3 h4 h5 : Nat) : Nat → Option Nat := fun k => match k with
  | 0 => some h0
  | 1 => some h1
  | 2 => some h2
  | 3 => some h3
  | 4 => some h4
  | 5 => some h5
  | _ => none
theorem rot6 {h0 h1 h2 h3 h4 h5 : Nat} : va_up (va_up (va_up (va_up (va_up (va_up (va_up (va_up (va_up (va_up (lis6 h0 h1 h2 h3 h4 h5) 0 (some h1)) 1 (some h0)) 1 (some h2)) 2 (some h0)) 2 (some h3)) 3 (some h0)) 3 (some h4)) 4 (some h0)) 4 (some h5)) 5 (some h0) = lis6 h1 h2 h3 h4 h5 h0 := by
  funext k
  rcases k with _ | _ | _ | _ | _ | _ | k
  · rfl
  · rfl
  · rfl
  · rfl
  · rfl
  · rfl
  · unfold va_up
    iterate 10 rw [if_neg (by omega)]
    rfl
theorem eSt_k {V T : Int} (h : ¬ (eSt 0 V T).toInt = 0) : eSt 0 V T = cI (¬ (1 ≤ V ∧ V ≤ 12)) (-2) (-5) ∧ (¬ (1 ≤ V ∧ V ≤ 12) ∨ ¬ T = 0) := by
  by_cases q : 1 ≤ V ∧ V ≤ 12
  · by_cases q2 : T = 0
    · exact absurd (by rw [eSt_0 (Or.inl ⟨rfl, q⟩) (fun z => z.2 q2)]; rfl) h
    · rw [eSt_2 (Or.inl ⟨rfl, q⟩) ⟨rfl, q2⟩, cI_f (fun z => z q)]
      exact ⟨rfl, Or.inr q2⟩
  · rw [eSt_1 (by omega), cI_t q]
    exact ⟨rfl, Or.inl q⟩
