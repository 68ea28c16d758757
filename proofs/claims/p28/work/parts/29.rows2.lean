/-! ===== copying ===== -/
section RWC
variable {p : Program} {l : Launch} {e : Env} {R : Room} {s : State} {m : MethodId} {args : Array Value} {below : List Frame} {meth : Method} {c : Code} {H : Heap} {locs : List Loc} {cells slots : Nat} {Q : State → Prop}
variable {pc : Nat} {ls : Array Slot} {rest : List Value} {D : va_G} {cl : List vw_C} {tys : List (ClassId × FieldType)} {ws : va_W} {a : Nat} {A : Nat → Prop} {H0 : Heap}
theorem n_copyi {cc : ByteArray} (hx : p.tables.exec = Jvm.exec) (hb : c.code = cc) (hml : c.maxLocals = ls.size) {own : String} {index : Nat} (hown : s.vm.findClass own = some m.cls) (hlink : (Cond.methodLink own index arraycopyName).before args s = true) (hstat : (Cond.static arraycopyName).before args s = true) (hnat : (Cond.native arraycopyName).before args s = true) (hini : (Cond.initialized "java/lang/System").before args s = true)
    (hK : va_K D cl tys s) (hP : va_P D cl ws H) (hD : va_D A ws) (hS : va_S A H0 H locs) (q0 q1 t0 t1 : Nat) {a0 : Nat} {c0 c1 : ClassId} {n0 n1 : Nat} {f g : Nat → Int32} (ha0 : ws[q0]? = some (a0, .inl (c0, n0, .inl f))) (ha1 : ws[q1]? = some (a, .inl (c1, n1, .inl g))) (ht0 : tys[t0]? = some (c0, .int)) (ht1 : tys[t1]? = some (c1, .int))
    {sp dp n : Nat} (h4 : sp + n ≤ n0) (h5 : dp + n ≤ n1) (hn0 : n0 < 2147483648) (hn1 : n1 < 2147483648)
    (hframes : 1 ≤ R.frames) (hlocals : (rest.map fun v => v.category).sum + (nativeFrameWords "java/lang/System" "arraycopy" 5 + 11) ≤ R.locals) (hdg : decode cc pc = .ok (.invokestatic index, 3))
    (kk : ∀ (H1 : Heap) (locs1 : List Loc), va_P D cl (ws.set q1 (a, .inl (c1, n1, .inl (va_cpy f g sp dp n)))) H1 → va_D A (ws.set q1 (a, .inl (c1, n1, .inl (va_cpy f g sp dp n)))) → va_S A H0 H1 locs1 → W p l e R s m args below meth c H1 locs1 cells slots Q (F0 m (pc + 3) ls rest)) : W p l e R s m args below meth c H locs cells slots Q (F0 m pc ls (.int (nI n) :: .int (nI dp) :: .ref a :: .int (nI sp) :: .ref a0 :: rest)) := by
  have nn : ∀ z : Nat, z < 2147483648 → ¬ nI z < 0 := fun z hz h => by
    rw [Int32.lt_iff_toInt_lt, toI hz, show (0 : Int32).toInt = 0 from rfl] at h
    omega
  refine va_copyi hx hb hml hown hlink hnat hstat hini hK hP hD hS q0 q1 t0 t1 ha0 ha1 ht0 ht1 rfl (nn sp (by omega)) (nn dp (by omega)) (nn n (by omega)) ?_ ?_ (fun _ _ => rfl) hframes hlocals hdg ?_
  · rw [nI_clamp (by omega), nI_clamp (by omega)]; exact h4
  · rw [nI_clamp (by omega), nI_clamp (by omega)]; exact h5
  · rw [nI_clamp (by omega), nI_clamp (by omega), nI_clamp (by omega)]; exact kk
end RWC
theorem cpy_e {f g : Nat → Int32} {n : Nat} (h : ∀ k, n ≤ k → g k = f k) : va_cpy f g 0 0 n = f := by
  funext k
  unfold va_cpy
  by_cases q : 0 ≤ k ∧ k < 0 + n
  · rw [if_pos q, Nat.zero_add, Nat.sub_zero]
  · rw [if_neg q]; exact h k (by omega)
theorem cpy_dB {r q : Nat → Int32} : va_cpy (dB r) (dB q) 0 0 1920 = dB r := cpy_e (fun k hk => by unfold dB; rw [if_neg (by omega), if_neg (by omega)])
theorem cpy_dF {r q : Nat → Int32} : va_cpy (dF r) (dF q) 0 0 120 = dF r := cpy_e (fun k hk => by unfold dF; rw [if_neg (by omega), if_neg (by omega)])
theorem cpy_dN {r q : Nat → Int32} : va_cpy (dN r) (dN q) 0 0 120 = dN r := cpy_e (fun k hk => by unfold dN; rw [if_neg (by omega), if_neg (by omega)])
theorem cpy_dW {r q : Nat → Int32} : va_cpy (dW r) (dW q) 0 0 7 = dW r := cpy_e (fun k hk => by unfold dW; rw [if_neg (by omega), if_neg (by omega)])
/-- the class's search for the best OPEN -/
noncomputable def cb1 (r : Nat → Int32) (f t : Nat) : Nat → Nat
  | 0 => 0
  | k + 1 => bob r f t k
noncomputable def cl1 (r : Nat → Int32) (f t : Nat) : Nat → Int32
  | 0 => nI 0
  | k + 1 => bol r f t k
theorem cb_s {r : Nat → Int32} {f t k : Nat} : (k = 0 ∨ (bwk r f t k).toInt < (cl1 r f t k).toInt → cb1 r f t (k + 1) = k ∧ cl1 r f t (k + 1) = bwk r f t k) ∧ (¬ (k = 0 ∨ (bwk r f t k).toInt < (cl1 r f t k).toInt) → cb1 r f t (k + 1) = cb1 r f t k ∧ cl1 r f t (k + 1) = cl1 r f t k) := by
  cases k with
  | zero => exact ⟨fun _ => ⟨rfl, rfl⟩, fun h => absurd (Or.inl rfl) h⟩
  | succ k => exact ⟨fun h => ⟨if_pos (h.resolve_left (by omega)), if_pos (h.resolve_left (by omega))⟩, fun h => ⟨if_neg (fun q => h (Or.inr q)), if_neg (fun q => h (Or.inr q))⟩⟩
theorem eMk_d {P : Prop} {F T D : Int} (h : ¬ (eDy P F T).toInt = 0) : eMk P F T D = eDy P F T := cI_t h
theorem eMk_l {P : Prop} {F T D : Int} (h : (eDy P F T).toInt = 0) (q : D < T) : eMk P F T D = -5 := (cI_f (fun z => z h)).trans (cI_t q)
theorem eMk_z {P : Prop} {F T D : Int} (h : (eDy P F T).toInt = 0) (q : ¬ D < T) : eMk P F T D = nI 0 := (cI_f (fun z => z h)).trans (cI_f q)
