/-! ===== rows over numbers, the contracts' shapes, calls ===== -/
/-- a truth as the machine has it -/
noncomputable def pI (P : Prop) : Int32 := @ite _ P (Classical.propDecidable P) 1 0
theorem pI_t {P : Prop} (h : P) : pI P = 1 := @if_pos _ (Classical.propDecidable P) h _ _ _
theorem pI_f {P : Prop} (h : ¬ P) : pI P = 0 := @if_neg _ (Classical.propDecidable P) h _ _ _
theorem pI_t' {P : Prop} (h : P) : nI 1 = pI P := (pI_t h).symm
theorem pI_f' {P : Prop} (h : ¬ P) : nI 0 = pI P := (pI_f h).symm
theorem pI_c {P Q : Prop} (h : P ↔ Q) : pI P = pI Q := by rw [propext h]
theorem pI_0 {P : Prop} : pI P = 0 ↔ ¬ P := by
  by_cases h : P
  · rw [pI_t h]; exact ⟨fun z => absurd z (by decide), fun z => absurd h z⟩
  · rw [pI_f h]; exact ⟨fun _ => h, fun _ => rfl⟩
theorem pI_1 {P : Prop} : ¬ pI P = 0 ↔ P := by
  rw [pI_0]; exact Classical.not_not
theorem pI_cases (P : Prop) : pI P = 0 ∨ pI P = 1 := by
  by_cases h : P
  · exact Or.inr (pI_t h)
  · exact Or.inl (pI_f h)
theorem pI_toInt (P : Prop) : (pI P).toInt = 0 ∨ (pI P).toInt = 1 := by
  rcases pI_cases P with h | h <;> rw [h]
  · exact Or.inl rfl
  · exact Or.inr rfl
theorem lvc {i : Nat} {a b : Int32} {t t' : List (Nat × Value)} (h : a = b) (ht : t = t') : (i, Value.int a) :: t = (i, Value.int b) :: t' := by rw [h, ht]
theorem lvr {q : Nat × Value} {t t' : List (Nat × Value)} (ht : t = t') : q :: t = q :: t' := by rw [ht]
theorem wlc {a : Nat} {x y : va_E} {t t' : va_W} (h : x = y) (ht : t = t') : (a, x) :: t = (a, y) :: t' := by rw [h, ht]
theorem wli {cA : ClassId} {n : Nat} {f g : Nat → Int32} (h : f = g) : (Sum.inl (cA, n, Sum.inl f) : va_E) = Sum.inl (cA, n, Sum.inl g) := by rw [h]
theorem toI {n : Nat} (h : n < 2147483648) : (nI n).toInt = (n : Int) := nI_toInt h
section RWS
variable {p : Program} {l : Launch} {e : Env} {R : Room} {s : State} {m : MethodId} {args : Array Value} {below : List Frame} {meth : Method} {c : Code} {H : Heap} {locs : List Loc} {cells slots : Nat} {Q : State → Prop}
variable {pc : Nat} {ls : Array Slot} {rest : List Value} {cc : ByteArray}
/-- the top, under another name -/
theorem lv_cv {x y : Int32} (h : x = y) (k : W p l e R s m args below meth c H locs cells slots Q (F0 m pc ls (.int y :: rest))) : W p l e R s m args below meth c H locs cells slots Q (F0 m pc ls (.int x :: rest)) := by rw [h]; exact k
theorem lv_cv2 {x y : Int32} {v : Value} (h : x = y) (k : W p l e R s m args below meth c H locs cells slots Q (F0 m pc ls (v :: .int y :: rest))) : W p l e R s m args below meth c H locs cells slots Q (F0 m pc ls (v :: .int x :: rest)) := by rw [h]; exact k
theorem n_iadd (hx : p.tables.exec = Jvm.exec) (hb : c.code = cc) {a b : Nat} (hdg : decode cc pc = .ok (.iadd, 1)) (k : W p l e R s m args below meth c H locs cells slots Q (F0 m (pc + 1) ls (.int (nI (a + b)) :: rest))) : W p l e R s m args below meth c H locs cells slots Q (F0 m pc ls (.int (nI b) :: .int (nI a) :: rest)) :=
  lv_iadd hx hb hdg (lv_cv (nI_add a b) k)
theorem n_isub (hx : p.tables.exec = Jvm.exec) (hb : c.code = cc) {a b : Nat} (h : b ≤ a) (hdg : decode cc pc = .ok (.isub, 1)) (k : W p l e R s m args below meth c H locs cells slots Q (F0 m (pc + 1) ls (.int (nI (a - b)) :: rest))) : W p l e R s m args below meth c H locs cells slots Q (F0 m pc ls (.int (nI b) :: .int (nI a) :: rest)) :=
  lv_isub hx hb hdg (lv_cv (pk_sub h) k)
theorem n_imul (hx : p.tables.exec = Jvm.exec) (hb : c.code = cc) {a b : Nat} (hdg : decode cc pc = .ok (.imul, 1)) (k : W p l e R s m args below meth c H locs cells slots Q (F0 m (pc + 1) ls (.int (nI (a * b)) :: rest))) : W p l e R s m args below meth c H locs cells slots Q (F0 m pc ls (.int (nI b) :: .int (nI a) :: rest)) :=
  lv_imul hx hb hdg (lv_cv (pk_mul a b) k)
theorem n_idiv (hx : p.tables.exec = Jvm.exec) (hb : c.code = cc) {a b : Nat} (ha : a < 2147483648) (h0 : 0 < b) (hb2 : b < 2147483648) (hdg : decode cc pc = .ok (.idiv, 1)) (k : W p l e R s m args below meth c H locs cells slots Q (F0 m (pc + 1) ls (.int (nI (a / b)) :: rest))) : W p l e R s m args below meth c H locs cells slots Q (F0 m pc ls (.int (nI b) :: .int (nI a) :: rest)) :=
  lv_idiv hx hb hdg (nI_ne0 h0 hb2) (lv_cv (pk_div ha h0 hb2) k)
theorem n_irem (hx : p.tables.exec = Jvm.exec) (hb : c.code = cc) {a b : Nat} (ha : a < 2147483648) (h0 : 0 < b) (hb2 : b < 2147483648) (hdg : decode cc pc = .ok (.irem, 1)) (k : W p l e R s m args below meth c H locs cells slots Q (F0 m (pc + 1) ls (.int (nI (a % b)) :: rest))) : W p l e R s m args below meth c H locs cells slots Q (F0 m pc ls (.int (nI b) :: .int (nI a) :: rest)) :=
  lv_irem hx hb hdg (nI_ne0 h0 hb2) (lv_cv (pk_rem ha h0 hb2) k)
theorem z_lt (hx : p.tables.exec = Jvm.exec) (hb : c.code = cc) {x y : Int32} {off : Int} {tgt : Nat} (X Y : Int) (hdg : decode cc pc = .ok (.if_icmp .lt off, 3)) (ht : (pc : Int) + off = (tgt : Int)) (hX : x.toInt = X) (hY : y.toInt = Y)
    (kt : X < Y → W p l e R s m args below meth c H locs cells slots Q (F0 m tgt ls rest)) (kf : Y ≤ X → W p l e R s m args below meth c H locs cells slots Q (F0 m (pc + 3) ls rest)) : W p l e R s m args below meth c H locs cells slots Q (F0 m pc ls (.int y :: .int x :: rest)) :=
  lv_icmp_lt hx hb hdg ht (fun h => kt (by rw [Int32.lt_iff_toInt_lt] at h; omega)) (fun h => kf (by rw [Int32.lt_iff_toInt_lt] at h; omega))
theorem z_le (hx : p.tables.exec = Jvm.exec) (hb : c.code = cc) {x y : Int32} {off : Int} {tgt : Nat} (X Y : Int) (hdg : decode cc pc = .ok (.if_icmp .le off, 3)) (ht : (pc : Int) + off = (tgt : Int)) (hX : x.toInt = X) (hY : y.toInt = Y)
    (kt : X ≤ Y → W p l e R s m args below meth c H locs cells slots Q (F0 m tgt ls rest)) (kf : Y < X → W p l e R s m args below meth c H locs cells slots Q (F0 m (pc + 3) ls rest)) : W p l e R s m args below meth c H locs cells slots Q (F0 m pc ls (.int y :: .int x :: rest)) :=
  lv_icmp_le hx hb hdg ht (fun h => kt (by rw [Int32.le_iff_toInt_le] at h; omega)) (fun h => kf (by rw [Int32.le_iff_toInt_le] at h; omega))
theorem z_gt (hx : p.tables.exec = Jvm.exec) (hb : c.code = cc) {x y : Int32} {off : Int} {tgt : Nat} (X Y : Int) (hdg : decode cc pc = .ok (.if_icmp .gt off, 3)) (ht : (pc : Int) + off = (tgt : Int)) (hX : x.toInt = X) (hY : y.toInt = Y)
    (kt : Y < X → W p l e R s m args below meth c H locs cells slots Q (F0 m tgt ls rest)) (kf : X ≤ Y → W p l e R s m args below meth c H locs cells slots Q (F0 m (pc + 3) ls rest)) : W p l e R s m args below meth c H locs cells slots Q (F0 m pc ls (.int y :: .int x :: rest)) :=
  lv_icmp_gt hx hb hdg ht (fun h => kt (by rw [Int32.lt_iff_toInt_lt] at h; omega)) (fun h => kf (by rw [Int32.lt_iff_toInt_lt] at h; omega))
theorem z_ge (hx : p.tables.exec = Jvm.exec) (hb : c.code = cc) {x y : Int32} {off : Int} {tgt : Nat} (X Y : Int) (hdg : decode cc pc = .ok (.if_icmp .ge off, 3)) (ht : (pc : Int) + off = (tgt : Int)) (hX : x.toInt = X) (hY : y.toInt = Y)
    (kt : Y ≤ X → W p l e R s m args below meth c H locs cells slots Q (F0 m tgt ls rest)) (kf : X < Y → W p l e R s m args below meth c H locs cells slots Q (F0 m (pc + 3) ls rest)) : W p l e R s m args below meth c H locs cells slots Q (F0 m pc ls (.int y :: .int x :: rest)) :=
  lv_icmp_ge hx hb hdg ht (fun h => kt (by rw [Int32.le_iff_toInt_le] at h; omega)) (fun h => kf (by rw [Int32.le_iff_toInt_le] at h; omega))
theorem z_eq (hx : p.tables.exec = Jvm.exec) (hb : c.code = cc) {x y : Int32} {off : Int} {tgt : Nat} (X Y : Int) (hdg : decode cc pc = .ok (.if_icmp .eq off, 3)) (ht : (pc : Int) + off = (tgt : Int)) (hX : x.toInt = X) (hY : y.toInt = Y)
    (kt : X = Y → W p l e R s m args below meth c H locs cells slots Q (F0 m tgt ls rest)) (kf : ¬ X = Y → W p l e R s m args below meth c H locs cells slots Q (F0 m (pc + 3) ls rest)) : W p l e R s m args below meth c H locs cells slots Q (F0 m pc ls (.int y :: .int x :: rest)) :=
  lv_icmp_eq hx hb hdg ht (fun h => kt (by rw [← hX, ← hY, h])) (fun h => kf (fun z => h (Int32.toInt_inj.mp (by rw [hX, hY, z]))))
theorem z_ne (hx : p.tables.exec = Jvm.exec) (hb : c.code = cc) {x y : Int32} {off : Int} {tgt : Nat} (X Y : Int) (hdg : decode cc pc = .ok (.if_icmp .ne off, 3)) (ht : (pc : Int) + off = (tgt : Int)) (hX : x.toInt = X) (hY : y.toInt = Y)
    (kt : ¬ X = Y → W p l e R s m args below meth c H locs cells slots Q (F0 m tgt ls rest)) (kf : X = Y → W p l e R s m args below meth c H locs cells slots Q (F0 m (pc + 3) ls rest)) : W p l e R s m args below meth c H locs cells slots Q (F0 m pc ls (.int y :: .int x :: rest)) :=
  lv_icmp_ne hx hb hdg ht (fun h => kt (fun z => h (Int32.toInt_inj.mp (by rw [hX, hY, z])))) (fun h => kf (by rw [← hX, ← hY, h]))
theorem z0_lt (hx : p.tables.exec = Jvm.exec) (hb : c.code = cc) {x : Int32} {off : Int} {tgt : Nat} (X : Int) (hdg : decode cc pc = .ok (.ifCond .lt off, 3)) (ht : (pc : Int) + off = (tgt : Int)) (hX : x.toInt = X)
    (kt : X < 0 → W p l e R s m args below meth c H locs cells slots Q (F0 m tgt ls rest)) (kf : 0 ≤ X → W p l e R s m args below meth c H locs cells slots Q (F0 m (pc + 3) ls rest)) : W p l e R s m args below meth c H locs cells slots Q (F0 m pc ls (.int x :: rest)) :=
  lv_if_lt hx hb hdg ht (fun h => kt (by rw [Int32.lt_iff_toInt_lt, hX] at h; exact h)) (fun h => kf (by rw [Int32.lt_iff_toInt_lt, hX] at h; exact Int.not_lt.mp h))
theorem z0_le (hx : p.tables.exec = Jvm.exec) (hb : c.code = cc) {x : Int32} {off : Int} {tgt : Nat} (X : Int) (hdg : decode cc pc = .ok (.ifCond .le off, 3)) (ht : (pc : Int) + off = (tgt : Int)) (hX : x.toInt = X)
    (kt : X ≤ 0 → W p l e R s m args below meth c H locs cells slots Q (F0 m tgt ls rest)) (kf : 0 < X → W p l e R s m args below meth c H locs cells slots Q (F0 m (pc + 3) ls rest)) : W p l e R s m args below meth c H locs cells slots Q (F0 m pc ls (.int x :: rest)) :=
  lv_if_le hx hb hdg ht (fun h => kt (by rw [Int32.le_iff_toInt_le, hX] at h; exact h)) (fun h => kf (by rw [Int32.le_iff_toInt_le, hX] at h; exact Int.not_le.mp h))
theorem z0_gt (hx : p.tables.exec = Jvm.exec) (hb : c.code = cc) {x : Int32} {off : Int} {tgt : Nat} (X : Int) (hdg : decode cc pc = .ok (.ifCond .gt off, 3)) (ht : (pc : Int) + off = (tgt : Int)) (hX : x.toInt = X)
    (kt : 0 < X → W p l e R s m args below meth c H locs cells slots Q (F0 m tgt ls rest)) (kf : X ≤ 0 → W p l e R s m args below meth c H locs cells slots Q (F0 m (pc + 3) ls rest)) : W p l e R s m args below meth c H locs cells slots Q (F0 m pc ls (.int x :: rest)) :=
  lv_if_gt hx hb hdg ht (fun h => kt (by rw [Int32.lt_iff_toInt_lt, hX] at h; exact h)) (fun h => kf (by rw [Int32.lt_iff_toInt_lt, hX] at h; exact Int.not_lt.mp h))
theorem z0_ge (hx : p.tables.exec = Jvm.exec) (hb : c.code = cc) {x : Int32} {off : Int} {tgt : Nat} (X : Int) (hdg : decode cc pc = .ok (.ifCond .ge off, 3)) (ht : (pc : Int) + off = (tgt : Int)) (hX : x.toInt = X)
    (kt : 0 ≤ X → W p l e R s m args below meth c H locs cells slots Q (F0 m tgt ls rest)) (kf : X < 0 → W p l e R s m args below meth c H locs cells slots Q (F0 m (pc + 3) ls rest)) : W p l e R s m args below meth c H locs cells slots Q (F0 m pc ls (.int x :: rest)) :=
  lv_if_ge hx hb hdg ht (fun h => kt (by rw [Int32.le_iff_toInt_le, hX] at h; exact h)) (fun h => kf (by rw [Int32.le_iff_toInt_le, hX] at h; exact Int.not_le.mp h))
theorem z0_eq (hx : p.tables.exec = Jvm.exec) (hb : c.code = cc) {x : Int32} {off : Int} {tgt : Nat} (X : Int) (hdg : decode cc pc = .ok (.ifCond .eq off, 3)) (ht : (pc : Int) + off = (tgt : Int)) (hX : x.toInt = X)
    (kt : X = 0 → W p l e R s m args below meth c H locs cells slots Q (F0 m tgt ls rest)) (kf : ¬ X = 0 → W p l e R s m args below meth c H locs cells slots Q (F0 m (pc + 3) ls rest)) : W p l e R s m args below meth c H locs cells slots Q (F0 m pc ls (.int x :: rest)) :=
  lv_if_eq hx hb hdg ht (fun h => kt (by rw [← hX, h]; rfl)) (fun h => kf (fun z => h (Int32.toInt_inj.mp (by rw [hX, z]; rfl))))
theorem z0_ne (hx : p.tables.exec = Jvm.exec) (hb : c.code = cc) {x : Int32} {off : Int} {tgt : Nat} (X : Int) (hdg : decode cc pc = .ok (.ifCond .ne off, 3)) (ht : (pc : Int) + off = (tgt : Int)) (hX : x.toInt = X)
    (kt : ¬ X = 0 → W p l e R s m args below meth c H locs cells slots Q (F0 m tgt ls rest)) (kf : X = 0 → W p l e R s m args below meth c H locs cells slots Q (F0 m (pc + 3) ls rest)) : W p l e R s m args below meth c H locs cells slots Q (F0 m pc ls (.int x :: rest)) :=
  lv_if_ne hx hb hdg ht (fun h => kt (fun z => h (Int32.toInt_inj.mp (by rw [hX, z]; rfl)))) (fun h => kf (by rw [← hX, h]; rfl))
theorem p0_eq (hx : p.tables.exec = Jvm.exec) (hb : c.code = cc) {P : Prop} {off : Int} {tgt : Nat} (hdg : decode cc pc = .ok (.ifCond .eq off, 3)) (ht : (pc : Int) + off = (tgt : Int))
    (kt : ¬ P → W p l e R s m args below meth c H locs cells slots Q (F0 m tgt ls rest)) (kf : P → W p l e R s m args below meth c H locs cells slots Q (F0 m (pc + 3) ls rest)) : W p l e R s m args below meth c H locs cells slots Q (F0 m pc ls (.int (pI P) :: rest)) :=
  lv_if_eq hx hb hdg ht (fun h => kt (pI_0.mp h)) (fun h => kf (pI_1.mp h))
theorem p0_ne (hx : p.tables.exec = Jvm.exec) (hb : c.code = cc) {P : Prop} {off : Int} {tgt : Nat} (hdg : decode cc pc = .ok (.ifCond .ne off, 3)) (ht : (pc : Int) + off = (tgt : Int))
    (kt : P → W p l e R s m args below meth c H locs cells slots Q (F0 m tgt ls rest)) (kf : ¬ P → W p l e R s m args below meth c H locs cells slots Q (F0 m (pc + 3) ls rest)) : W p l e R s m args below meth c H locs cells slots Q (F0 m pc ls (.int (pI P) :: rest)) :=
  lv_if_ne hx hb hdg ht (fun h => kt (pI_1.mp h)) (fun h => kf (pI_0.mp h))
/-- a loop: its states are numbered by a Nat, some measure falls -/
theorem wloop {n : Nat} (st : List Value) (I : Nat → Array Slot → Prop) (μ : Nat → Nat)
    (hstep : ∀ x : Nat, (∀ (y : Nat) (ls' : Array Slot), μ y < μ x → I y ls' → W p l e R s m args below meth c H locs cells slots Q (F0 m pc ls' st)) → ∀ ls : Array Slot, I x ls → W p l e R s m args below meth c H locs cells slots Q (F0 m pc ls st))
    (x0 : Nat) (h0 : I x0 ls) : W p l e R s m args below meth c H locs cells slots Q (F0 m pc ls st) := by
  have key : ∀ (n x : Nat) (ls : Array Slot), μ x ≤ n → I x ls → W p l e R s m args below meth c H locs cells slots Q (F0 m pc ls st) := by
    intro n
    induction n with
    | zero => intro x ls hx hI; exact hstep x (fun y ls' hy _ => absurd hy (by omega)) ls hI
    | succ n ih => intro x ls hx hI; exact hstep x (fun y ls' hy hI' => ih y ls' (by omega) hI') ls hI
  exact key _ x0 ls (Nat.le_refl _) h0
theorem wloopH (st : List Value) (I : Nat → Heap → List Loc → Array Slot → Prop) (μ : Nat → Nat)
    (hstep : ∀ x : Nat, (∀ (y : Nat) (H' : Heap) (locs' : List Loc) (ls' : Array Slot), μ y < μ x → I y H' locs' ls' → W p l e R s m args below meth c H' locs' cells slots Q (F0 m pc ls' st)) → ∀ (H : Heap) (locs : List Loc) (ls : Array Slot), I x H locs ls → W p l e R s m args below meth c H locs cells slots Q (F0 m pc ls st))
    (x0 : Nat) (h0 : I x0 H locs ls) : W p l e R s m args below meth c H locs cells slots Q (F0 m pc ls st) := by
  have key : ∀ (n x : Nat) (H : Heap) (locs : List Loc) (ls : Array Slot), μ x ≤ n → I x H locs ls → W p l e R s m args below meth c H locs cells slots Q (F0 m pc ls st) := by
    intro n
    induction n with
    | zero => intro x H locs ls hx hI; exact hstep x (fun y H' locs' ls' hy _ => absurd hy (by omega)) H locs ls hI
    | succ n ih => intro x H locs ls hx hI; exact hstep x (fun y H' locs' ls' hy hI' => ih y H' locs' ls' (by omega) hI') H locs ls hI
  exact key _ x0 H locs ls (Nat.le_refl _) h0
/-- a place where ways meet -/
theorem wjoin (tgt : Nat) (st : List Value) (I : Array Slot → Prop) {g : JFrame} (h1 : ∀ ls' : Array Slot, I ls' → W p l e R s m args below meth c H locs cells slots Q (F0 m tgt ls' st))
    (h2 : (∀ ls' : Array Slot, I ls' → W p l e R s m args below meth c H locs cells slots Q (F0 m tgt ls' st)) → W p l e R s m args below meth c H locs cells slots Q g) : W p l e R s m args below meth c H locs cells slots Q g := h2 h1
theorem wjoinH (tgt : Nat) (st : List Value) (I : Heap → List Loc → Array Slot → Prop) {g : JFrame} (h1 : ∀ (H' : Heap) (locs' : List Loc) (ls' : Array Slot), I H' locs' ls' → W p l e R s m args below meth c H' locs' cells slots Q (F0 m tgt ls' st))
    (h2 : (∀ (H' : Heap) (locs' : List Loc) (ls' : Array Slot), I H' locs' ls' → W p l e R s m args below meth c H' locs' cells slots Q (F0 m tgt ls' st)) → W p l e R s m args below meth c H locs cells slots Q g) : W p l e R s m args below meth c H locs cells slots Q g := h2 h1
end RWS
/-! arrays by numbers -/
section RWA
variable {p : Program} {l : Launch} {e : Env} {R : Room} {s : State} {m : MethodId} {args : Array Value} {below : List Frame} {meth : Method} {c : Code} {H : Heap} {locs : List Loc} {cells slots : Nat} {Q : State → Prop}
variable {pc : Nat} {ls : Array Slot} {rest : List Value} {cc : ByteArray} {D : va_G} {cl : List vw_C} {tys : List (ClassId × FieldType)} {ws : va_W} {a : Nat} {A : Nat → Prop} {H0 : Heap}
theorem n_iald (hx : p.tables.exec = Jvm.exec) (hb : c.code = cc) (hK : va_K D cl tys s) (hP : va_P D cl ws H) (q0 t0 : Nat) {cA : ClassId} {n k : Nat} {f : Nat → Int32} (ha : ws[q0]? = some (a, .inl (cA, n, .inl f))) (ht : tys[t0]? = some (cA, .int)) (hk : k < n) (hn : n < 2147483648) (hdg : decode cc pc = .ok (.iaload, 1))
    (kk : W p l e R s m args below meth c H locs cells slots Q (F0 m (pc + 1) ls (.int (f k) :: rest))) : W p l e R s m args below meth c H locs cells slots Q (F0 m pc ls (.int (nI k) :: .ref a :: rest)) :=
  va_iald hx hb hK hP q0 t0 ha ht (vp_in_nI hk hn) hdg (by rw [nI_clamp (Nat.lt_trans hk hn)]; exact kk)
theorem n_cald (hx : p.tables.exec = Jvm.exec) (hb : c.code = cc) (hK : va_K D cl tys s) (hP : va_P D cl ws H) (q0 t0 : Nat) {cA : ClassId} {n k : Nat} {f : Nat → Int32} (ha : ws[q0]? = some (a, .inl (cA, n, .inl f))) (ht : tys[t0]? = some (cA, .char)) (hk : k < n) (hn : n < 2147483648) (hdg : decode cc pc = .ok (.caload, 1))
    (kk : W p l e R s m args below meth c H locs cells slots Q (F0 m (pc + 1) ls (.int (f k) :: rest))) : W p l e R s m args below meth c H locs cells slots Q (F0 m pc ls (.int (nI k) :: .ref a :: rest)) :=
  va_cald hx hb hK hP q0 t0 ha ht (vp_in_nI hk hn) hdg (by rw [nI_clamp (Nat.lt_trans hk hn)]; exact kk)
theorem n_zald (hx : p.tables.exec = Jvm.exec) (hb : c.code = cc) (hK : va_K D cl tys s) (hP : va_P D cl ws H) (q0 t0 : Nat) {cA : ClassId} {n k : Nat} {f : Nat → Int32} (ha : ws[q0]? = some (a, .inl (cA, n, .inl f))) (ht : tys[t0]? = some (cA, .boolean)) (hk : k < n) (hn : n < 2147483648) (hdg : decode cc pc = .ok (.baload, 1))
    (kk : W p l e R s m args below meth c H locs cells slots Q (F0 m (pc + 1) ls (.int (f k) :: rest))) : W p l e R s m args below meth c H locs cells slots Q (F0 m pc ls (.int (nI k) :: .ref a :: rest)) :=
  va_zald hx hb hK hP q0 t0 ha ht (vp_in_nI hk hn) hdg (by rw [nI_clamp (Nat.lt_trans hk hn)]; exact kk)
theorem n_aald (hx : p.tables.exec = Jvm.exec) (hb : c.code = cc) (hK : va_K D cl tys s) (hP : va_P D cl ws H) (q0 t0 : Nat) {cA : ClassId} {C : String} {n k : Nat} {f : Nat → Option Nat} (ha : ws[q0]? = some (a, .inl (cA, n, .inr (.inr (.inr (.inr f)))))) (ht : tys[t0]? = some (cA, .object C)) (hk : k < n) (hn : n < 2147483648) (hdg : decode cc pc = .ok (.aaload, 1))
    (kk : W p l e R s m args below meth c H locs cells slots Q (F0 m (pc + 1) ls (va_rf (f k) :: rest))) : W p l e R s m args below meth c H locs cells slots Q (F0 m pc ls (.int (nI k) :: .ref a :: rest)) :=
  va_aldq hx hb hK hP q0 t0 ha ht (vp_in_nI hk hn) hdg (by rw [nI_clamp (Nat.lt_trans hk hn)]; exact kk)
theorem n_iast (hx : p.tables.exec = Jvm.exec) (hb : c.code = cc) (hK : va_K D cl tys s) (hP : va_P D cl ws H) (hD : va_D A ws) (hS : va_S A H0 H locs) (q0 t0 : Nat) {cA : ClassId} {n k : Nat} {f : Nat → Int32} (ha : ws[q0]? = some (a, .inl (cA, n, .inl f))) (ht : tys[t0]? = some (cA, .int)) {x : Int32} (hk : k < n) (hn : n < 2147483648) (hdg : decode cc pc = .ok (.iastore, 1))
    (kk : ∀ (H1 : Heap) (locs1 : List Loc), va_P D cl (ws.set q0 (a, .inl (cA, n, .inl (upd f k x)))) H1 → va_D A (ws.set q0 (a, .inl (cA, n, .inl (upd f k x)))) → va_S A H0 H1 locs1 → W p l e R s m args below meth c H1 locs1 cells slots Q (F0 m (pc + 1) ls rest)) : W p l e R s m args below meth c H locs cells slots Q (F0 m pc ls (.int x :: .int (nI k) :: .ref a :: rest)) :=
  va_iast hx hb hK hP hD hS q0 t0 ha ht (vp_in_nI hk hn) hdg (by rw [nI_clamp (Nat.lt_trans hk hn)]; exact kk)
end RWA
/-! ===== the contracts' shapes ===== -/
/-- how deep, by one number -/
abbrev rmL (d : Nat) : Room := { frames := d, cells := 0, slots := 0, locals := 40 * d }
/-- where the classes' slots lie, and the classes of int[], char[], boolean[], Diary[], Step[] -/
abbrev gT : Type := va_G × ClassId × ClassId × ClassId × ClassId × ClassId
abbrev gI (G : gT) : ClassId := G.2.1
abbrev gC (G : gT) : ClassId := G.2.2.1
abbrev gZ (G : gT) : ClassId := G.2.2.2.1
abbrev gD (G : gT) : ClassId := G.2.2.2.2.1
abbrev gS (G : gT) : ClassId := G.2.2.2.2.2
abbrev tyL (G : gT) : List (ClassId × FieldType) := [(gI G, .int), (gC G, .char), (gI G, .int), (gD G, .object RX0), (gS G, .object RX2)]
/-- where a month begins in its year -/
def mst : Nat → Nat
  | 0 => 0 | 1 => 31 | 2 => 59 | 3 => 90 | 4 => 120 | 5 => 151 | 6 => 181 | 7 => 212 | 8 => 243 | 9 => 273 | 10 => 304 | 11 => 334 | _ => 365
def Zs (A : Nat → Prop) (U : State) : Prop := ∃ t : Nat, va_Z "FoldedMonths" "MONTH_STARTS" "[I" (.ref t) A U U.heap ∧ va_T .int t 13 (fun j => .int (nI (mst j))) A U U.heap
def Nw (U : State) : Prop := va_Nw (.methodLinkNest RX1 21 yX2_init "FoldedMonths") U ∧ va_Nw (.methodLinkNest RX0 69 yX3_isMonth "FoldedMonths") U ∧ va_Nw (.methodLinkNest RX0 31 yX3_monthOf "FoldedMonths") U ∧ va_Nw (.methodLinkNest RX0 130 yX3_daysMeant "FoldedMonths") U ∧ va_Nw (.methodLinkNest RX0 42 yX3_isBitSet "FoldedMonths") U ∧ va_Nw (.methodLinkNest RX0 39 yX3_firstDayOf "FoldedMonths") U ∧ va_Nw (.methodLinkNest RX1 57 yX3_isSubject "FoldedMonths") U
def Kx (G : gT) (U : State) : Prop := va_K G.1 vwCl (tyL G) U ∧ Nw U
def Pr (G : gT) (ws : va_W) (U : State) : Prop := Kx G U ∧ Zs (fun _ => False) U ∧ va_P G.1 vwCl ws U.heap
def Pw (G : gT) (sz : Nat) (ws : va_W) (U : State) : Prop := U.heap.size = sz ∧ Kx G U ∧ Zs (va_A ws sz) U ∧ va_P G.1 vwCl ws U.heap ∧ va_D (fun _ => True) ws
theorem Zs.moved {A : Nat → Prop} {u U : State} (hh : U.heap = u.heap) (hvm : u.vm.Alike U.vm) (h : Zs A u) : Zs A U := by
  obtain ⟨t, h1, h2⟩ := h
  exact ⟨t, by rw [hh]; exact h1.moved hvm, by rw [hh]; exact h2.moved hvm⟩
theorem Zs.to {A B : Nat → Prop} {s U : State} {H : Heap} {locs : List Loc} (h : Zs A s) (hS : va_S A s.heap H locs) (hh : U.heap = H) (hW : s.WarmedH U.vm) (hB : ∀ q, B q → A q) : Zs B U := by
  obtain ⟨t, h1, h2⟩ := h
  refine ⟨t, ?_, ?_⟩
  · rw [hh]; exact ((h1.kept hS.2.1).narrow hB).moved hW.alike
  · rw [hh]; exact ((h2.kept hS.2.1).narrow hB).moved hW.alike
theorem Kx.calling {G : gT} {U : State} (g : JFrame) (mk : MethodId) (a : Array Value) (h : Kx G U) : Kx G (U.calling g mk a) := by
  obtain ⟨h0, h1, h2, h3, h4, h5, h6, h7⟩ := h
  exact ⟨va_K.moved (u := U) (U := U.calling g mk a) (Vm.Alike.refl U.vm) h0, va_Nw.same rfl (u := U) (U := U.calling g mk a) rfl h1, va_Nw.same rfl (u := U) (U := U.calling g mk a) rfl h2, va_Nw.same rfl (u := U) (U := U.calling g mk a) rfl h3, va_Nw.same rfl (u := U) (U := U.calling g mk a) rfl h4, va_Nw.same rfl (u := U) (U := U.calling g mk a) rfl h5, va_Nw.same rfl (u := U) (U := U.calling g mk a) rfl h6, va_Nw.same rfl (u := U) (U := U.calling g mk a) rfl h7⟩
theorem Kx.warm {G : gT} {s U : State} (hW : s.WarmedH U.vm) (h : Kx G s) : Kx G U := by
  obtain ⟨h0, h1, h2, h3, h4, h5, h6, h7⟩ := h
  exact ⟨va_K.moved hW.alike h0, va_Nw.warmM hW h1, va_Nw.warmM hW h2, va_Nw.warmM hW h3, va_Nw.warmM hW h4, va_Nw.warmM hW h5, va_Nw.warmM hW h6, va_Nw.warmM hW h7⟩
theorem Pr.fb {G : gT} {ws : va_W} {As : List Value} : FrameBlind (va_Pc As (Pr G ws)) := fun a U g mk q => ⟨q.1, q.2.1.calling g mk a, Zs.moved (u := U) (U := U.calling g mk a) rfl (Vm.Alike.refl U.vm) q.2.2.1, q.2.2.2⟩
theorem Pw.fb {G : gT} {sz : Nat} {ws : va_W} {As : List Value} : FrameBlind (va_Pc As (Pw G sz ws)) := fun a U g mk q => ⟨q.1, q.2.1, q.2.2.1.calling g mk a, Zs.moved (u := U) (U := U.calling g mk a) rfl (Vm.Alike.refl U.vm) q.2.2.2.1, q.2.2.2.2⟩
/-- reads, and answers res -/
def Ro (l : Launch) (G : gT) (y : MethodName) (bytes : ByteArray) (maxL : Nat) (ret : Option FieldType) (d : Nat) (ws : va_W) (As : List Value) (res : Int32) : Prop := Met l y (Cond.code y bytes maxL ret :: GW) (rmL d) (va_Pc As (Pr G ws)) (vp_Si (fun r => r = res)) 0 0 (fun _ => False)
/-- reads, and hands back an object, or null -/
def Rq (l : Launch) (G : gT) (y : MethodName) (bytes : ByteArray) (maxL : Nat) (ret : Option FieldType) (d : Nat) (ws : va_W) (As : List Value) (res : Option Nat) : Prop := Met l y (Cond.code y bytes maxL ret :: GW) (rmL d) (va_Pc As (Pr G ws)) (va_Sq (fun r => r = res)) 0 0 (fun _ => False)
/-- its world goes from ws to one of the worlds that 'post' allows with the answer -/
def Rw (l : Launch) (G : gT) (y : MethodName) (bytes : ByteArray) (maxL : Nat) (ret : Option FieldType) (d sz : Nat) (ws : va_W) (As : List Value) (res : Int32) (ws' : va_W) : Prop := Met l y (Cond.code y bytes maxL ret :: GW) (rmL d) (va_Pc As (Pw G sz ws)) (va_Qi (fun r (_ : Unit) => r = res) (fun _ t => va_P G.1 vwCl ws' t.heap) (va_A ws sz)) 0 0 (va_A ws sz)
def Rv (l : Launch) (G : gT) (y : MethodName) (bytes : ByteArray) (maxL : Nat) (ret : Option FieldType) (d sz : Nat) (ws : va_W) (As : List Value) (ws' : va_W) : Prop := Met l y (Cond.code y bytes maxL ret :: GW) (rmL d) (va_Pc As (Pw G sz ws)) (va_Qv (fun (_ : Unit) => True) (fun _ t => va_P G.1 vwCl ws' t.heap) (va_A ws sz)) 0 0 (va_A ws sz)
theorem va_D.adr {A : Nat → Prop} {ws ws' : va_W} (h : va_D A ws) (e : ws'.map (·.1) = ws.map (·.1)) : va_D A ws' := by
  have key : ∀ (k : Nat) (q : Nat × va_E), ws'[k]? = some q → ∃ q0, ws[k]? = some q0 ∧ q0.1 = q.1 := by
    intro k q hk
    have h1 : (ws'.map (·.1))[k]? = some q.1 := by rw [List.getElem?_map, hk]; rfl
    rw [e, List.getElem?_map] at h1
    cases hq : ws[k]? with
    | none => rw [hq] at h1; cases h1
    | some q0 => rw [hq] at h1; exact ⟨q0, rfl, Option.some.inj h1⟩
  refine ⟨fun i j x y hi hj hxy => ?_, fun k q hk => ?_⟩
  · obtain ⟨x0, h1, h2⟩ := key i x hi
    obtain ⟨y0, h3, h4⟩ := key j y hj
    exact h.1 i j x0 y0 h1 h3 (h2.trans (hxy.trans h4.symm))
  · obtain ⟨q0, h1, h2⟩ := key k q hk
    rw [← h2]
    exact h.2 k q0 h1
theorem gw_s {own : String} {idx : Nat} {y : MethodName} {cd : Cond} (h1 : .methodLink own idx y ∈ GW) (h2 : .static y ∈ GW) (h3 : .initialized y.cls ∈ GW) (h4 : cd ∈ GW) : GoodIn GW (va_wsS own idx y (cd :: GW)) := by
  intro w hw
  have hm : w ∈ GW := by
    rcases List.mem_append.mp hw with h | h
    · simp only [List.mem_cons, List.not_mem_nil, or_false] at h
      rcases h with rfl | rfl | rfl
      · exact h1
      · exact h2
      · exact h3
    · rcases List.mem_cons.mp h with rfl | h
      · exact h4
      · exact h
  exact ⟨hm, good_of_word (gw_good hm)⟩
theorem gw_v {own C : String} {idx : Nat} {y : MethodName} {cd : Cond} (h1 : .methodLink own idx y ∈ GW) (h2 : .instanceMethod y ∈ GW) (h3 : .selects C y y ∈ GW) (h4 : .initialized C ∈ GW) (h5 : cd ∈ GW) : GoodIn GW (wsV own idx C y (cd :: GW)) := by
  intro w hw
  have hm : w ∈ GW := by
    rcases List.mem_append.mp hw with h | h
    · simp only [List.mem_cons, List.not_mem_nil, or_false] at h
      rcases h with rfl | rfl | rfl | rfl
      · exact h1
      · exact h2
      · exact h3
      · exact h4
    · rcases List.mem_cons.mp h with rfl | h
      · exact h5
      · exact h
  exact ⟨hm, good_of_word (gw_good hm)⟩
theorem gw_c {cd : Cond} (h5 : cd ∈ GW) : GoodIn GW (cd :: GW) := by
  intro w hw
  have hm : w ∈ GW := by
    rcases List.mem_cons.mp hw with rfl | h
    · exact h5
    · exact h
  exact ⟨hm, good_of_word (gw_good hm)⟩
/-- what a reading call, or a writing one, needs of the place where it stands -/
def Rd (G : gT) (s : State) (H : Heap) : Prop := ∀ U : State, U.heap = H → s.WarmedH U.vm → Kx G U ∧ Zs (fun _ => False) U
theorem Rd.of {G : gT} {s : State} {H : Heap} {A : Nat → Prop} {locs : List Loc} (hK : Kx G s) (hZ : Zs A s) (hS : va_S A s.heap H locs) : Rd G s H := fun U hU hW => ⟨hK.warm hW, hZ.to hS hU hW (fun _ h => h.elim)⟩
abbrev hdY (y : MethodName) (n : Nat) : Prop := y.cls ≠ "java/lang/invoke/MethodHandle" ∧ y.cls ≠ "java/lang/invoke/VarHandle" ∧ (parseMethodDescriptor y.desc).map (fun d => d.parameters.length) = some n
section CALLS
variable {p : Program} {l : Launch} {e : Env} {R : Room} {s : State} {m : MethodId} {args : Array Value} {below : List Frame} {meth : Method} {c : Code} {H : Heap} {locs : List Loc} {cells slots : Nat} {Q : State → Prop}
variable {pc : Nat} {ls : Array Slot} {rest st : List Value} {cc bytes : ByteArray} {own host C : String} {index maxL nL n d : Nat} {y : MethodName} {ret : Option FieldType} {G : gT} {ws wc wr wc' : va_W} {As : List Value} {res : Int32} {rq : Option Nat} {b q0 ci : Nat} {fs : List Value} {A : Nat → Prop}
theorem k_recv (hK : Kx G s) (hP : va_P G.1 vwCl ws H) {q : vw_C} (hc : vwCl[ci]? = some q) (he : ws[q0]? = some (b, .inr (ci, fs))) : ∃ cell : Cell, H[b]? = some cell ∧ cell.vm.isStatics = false ∧ s.vm.findClass q.1 = some cell.cls := va_recv hK.1 hP hc he
/-- a static method of the own class that reads -/
theorem k_roS (F : CallFix p m c cc nL s args GW own) (hM : Ro l G y bytes maxL ret d wc As res) (h1 : Cond.methodLink own index y ∈ GW) (h2 : Cond.static y ∈ GW) (h3 : Cond.initialized y.cls ∈ GW) (h4 : Cond.code y bytes maxL ret ∈ GW) (hd : hdY y n) (hR : d + 1 ≤ R.frames ∧ 8 + (maxL + 11) + 40 * d ≤ R.locals)
    (X : Rd G s H) (hP : va_P G.1 vwCl wc H) (hn : As.length = n) (hsize : ls.size = nL) (hst : st = As.reverse ++ rest) (hW : (rest.map fun v => v.category).sum ≤ 8) (hdg : decode cc pc = .ok (.invokestatic index, 3)) (hf : cells ≤ R.cells ∧ slots ≤ R.slots)
    (kk : W p l e R s m args below meth c H locs cells slots Q (F0 m (pc + 3) ls (.int res :: rest))) : W p l e R s m args below meth c H locs cells slots Q (F0 m pc ls st) :=
  vp_callSi (va_Run.run (va_runS F hM (va_cwS n F.2.2.2.2 (gw_s h1 h2 h3 h4) rfl rfl rfl hd hR) ⟨Pr.fb, fun U hU hW => ⟨rfl, (X U hU hW).1, (X U hU hW).2, by rw [hU]; exact hP⟩⟩ rfl hn hsize hst (lv_room hW) hdg hf)) (fun r hr => by rw [hr]; exact kk)
theorem k_roN (F : CallFix p m c cc nL s args GW own) (hM : Ro l G y bytes maxL ret d wc As res) (h1 : va_Nw (.methodLinkNest own index y host) s) (h2 : Cond.static y ∈ GW) (h3 : Cond.initialized y.cls ∈ GW) (h4 : Cond.code y bytes maxL ret ∈ GW) (hd : hdY y n) (hR : d + 1 ≤ R.frames ∧ 8 + (maxL + 11) + 40 * d ≤ R.locals)
    (X : Rd G s H) (hP : va_P G.1 vwCl wc H) (hn : As.length = n) (hsize : ls.size = nL) (hst : st = As.reverse ++ rest) (hW : (rest.map fun v => v.category).sum ≤ 8) (hdg : decode cc pc = .ok (.invokestatic index, 3)) (hf : cells ≤ R.cells ∧ slots ≤ R.slots)
    (kk : W p l e R s m args below meth c H locs cells slots Q (F0 m (pc + 3) ls (.int res :: rest))) : W p l e R s m args below meth c H locs cells slots Q (F0 m pc ls st) :=
  vp_callSi (va_Run.run (va_runSN F hM ⟨va_cnB n F.2.2.2.2 (gw_c h4) rfl rfl rfl h1 (F.2.2.2.2 _ h3) hd hR, F.2.2.2.2 _ h2, trivial⟩ ⟨Pr.fb, fun U hU hW => ⟨rfl, (X U hU hW).1, (X U hU hW).2, by rw [hU]; exact hP⟩⟩ rfl hn hsize hst (lv_room hW) hdg hf)) (fun r hr => by rw [hr]; exact kk)
theorem k_roV (F : CallFix p m c cc nL s args GW own) (hM : Ro l G y bytes maxL ret d wc (.ref b :: As) res) (hK : Kx G s) (hP0 : va_P G.1 vwCl ws H) (hc : ∃ q, vwCl[ci]? = some q ∧ q.1 = C) (he : ws[q0]? = some (b, .inr (ci, fs))) (hyC : y.cls = C) (h1 : Cond.methodLink own index y ∈ GW) (h2 : Cond.instanceMethod y ∈ GW) (h3 : Cond.selects C y y ∈ GW) (h4 : Cond.initialized C ∈ GW) (h5 : Cond.code y bytes maxL ret ∈ GW) (hd : hdY y n) (hR : d + 1 ≤ R.frames ∧ 8 + (maxL + 11) + 40 * d ≤ R.locals)
    (X : Rd G s H) (hP : va_P G.1 vwCl wc H) (hn : As.length = n) (hsize : ls.size = nL) (hst : st = As.reverse ++ .ref b :: rest) (hW : (rest.map fun v => v.category).sum ≤ 8) (hdg : decode cc pc = .ok (.invokevirtual index, 3)) (hf : cells ≤ R.cells ∧ slots ≤ R.slots)
    (kk : W p l e R s m args below meth c H locs cells slots Q (F0 m (pc + 3) ls (.int res :: rest))) : W p l e R s m args below meth c H locs cells slots Q (F0 m pc ls st) := by
  obtain ⟨q, hq, rfl⟩ := hc
  exact vp_callSi (va_Run.run (va_runV F hM (cwV n F.2.2.2.2 (gw_v h1 h2 h3 h4 h5) rfl rfl rfl ⟨hyC, hd⟩ hR) ⟨Pr.fb, k_recv hK hP0 hq he, fun U hU hW => ⟨rfl, (X U hU hW).1, (X U hU hW).2, by rw [hU]; exact hP⟩⟩ rfl hn hsize hst (lv_room hW) hdg hf)) (fun r hr => by rw [hr]; exact kk)
theorem k_rqS (F : CallFix p m c cc nL s args GW own) (hM : Rq l G y bytes maxL ret d wc As rq) (h1 : Cond.methodLink own index y ∈ GW) (h2 : Cond.static y ∈ GW) (h3 : Cond.initialized y.cls ∈ GW) (h4 : Cond.code y bytes maxL ret ∈ GW) (hd : hdY y n) (hR : d + 1 ≤ R.frames ∧ 8 + (maxL + 11) + 40 * d ≤ R.locals)
    (X : Rd G s H) (hP : va_P G.1 vwCl wc H) (hn : As.length = n) (hsize : ls.size = nL) (hst : st = As.reverse ++ rest) (hW : (rest.map fun v => v.category).sum ≤ 8) (hdg : decode cc pc = .ok (.invokestatic index, 3)) (hf : cells ≤ R.cells ∧ slots ≤ R.slots)
    (kk : W p l e R s m args below meth c H locs cells slots Q (F0 m (pc + 3) ls (va_rf rq :: rest))) : W p l e R s m args below meth c H locs cells slots Q (F0 m pc ls st) :=
  va_csq (va_Run.run (va_runS F hM (va_cwS n F.2.2.2.2 (gw_s h1 h2 h3 h4) rfl rfl rfl hd hR) ⟨Pr.fb, fun U hU hW => ⟨rfl, (X U hU hW).1, (X U hU hW).2, by rw [hU]; exact hP⟩⟩ rfl hn hsize hst (lv_room hW) hdg hf)) (fun r hr => by rw [hr]; exact kk)
theorem k_rqV (F : CallFix p m c cc nL s args GW own) (hM : Rq l G y bytes maxL ret d wc (.ref b :: As) rq) (hK : Kx G s) (hP0 : va_P G.1 vwCl ws H) (hc : ∃ q, vwCl[ci]? = some q ∧ q.1 = C) (he : ws[q0]? = some (b, .inr (ci, fs))) (hyC : y.cls = C) (h1 : Cond.methodLink own index y ∈ GW) (h2 : Cond.instanceMethod y ∈ GW) (h3 : Cond.selects C y y ∈ GW) (h4 : Cond.initialized C ∈ GW) (h5 : Cond.code y bytes maxL ret ∈ GW) (hd : hdY y n) (hR : d + 1 ≤ R.frames ∧ 8 + (maxL + 11) + 40 * d ≤ R.locals)
    (X : Rd G s H) (hP : va_P G.1 vwCl wc H) (hn : As.length = n) (hsize : ls.size = nL) (hst : st = As.reverse ++ .ref b :: rest) (hW : (rest.map fun v => v.category).sum ≤ 8) (hdg : decode cc pc = .ok (.invokevirtual index, 3)) (hf : cells ≤ R.cells ∧ slots ≤ R.slots)
    (kk : W p l e R s m args below meth c H locs cells slots Q (F0 m (pc + 3) ls (va_rf rq :: rest))) : W p l e R s m args below meth c H locs cells slots Q (F0 m pc ls st) := by
  obtain ⟨q, hq, rfl⟩ := hc
  exact va_csq (va_Run.run (va_runV F hM (cwV n F.2.2.2.2 (gw_v h1 h2 h3 h4 h5) rfl rfl rfl ⟨hyC, hd⟩ hR) ⟨Pr.fb, k_recv hK hP0 hq he, fun U hU hW => ⟨rfl, (X U hU hW).1, (X U hU hW).2, by rw [hU]; exact hP⟩⟩ rfl hn hsize hst (lv_room hW) hdg hf)) (fun r hr => by rw [hr]; exact kk)
theorem k_pw (hK : Kx G s) (hZ : Zs A s) (hS : va_S A s.heap H locs) (hP : va_P G.1 vwCl ws H) (hD : va_D A ws) (hA : ∀ q, s.heap.size ≤ q → A q) (isC : List Nat) (hC : isC.map (fun i => ws[i]?) = wc.map some) (hnC : va_nd isC = true) (U : State) (hU : U.heap = H) (hW : s.WarmedH U.vm) : Pw G H.size wc U :=
  ⟨by rw [hU], hK.warm hW, hZ.to hS hU hW (va_free hD hS hA isC hC), by
    rw [hU]
    intro k q hk
    have h1 : (isC.map (fun i => ws[i]?))[k]? = some (some q) := by rw [hC, List.getElem?_map, hk]; rfl
    rw [List.getElem?_map] at h1
    cases hi : isC[k]? with
    | none => rw [hi] at h1; cases h1
    | some i => rw [hi] at h1; exact hP i q (Option.some.inj h1), (hD.sub isC hnC hC).weaken (fun _ _ _ _ => trivial)⟩
theorem k_join {H1 : Heap} (hP : va_P G.1 vwCl ws H) (hD : va_D A ws) (isC isR : List Nat) (hC : isC.map (fun i => ws[i]?) = wc.map some) (hR : isR.map (fun i => ws[i]?) = wr.map some) (hnC : va_nd isC = true) (hnR : va_nd isR = true) (hdis : ∀ i ∈ isR, i ∉ isC) (hF : ∀ q, va_A wc H.size q → A q) (hk : ∀ q : Nat, q < H.size → ¬ va_A wc H.size q → H1[q]? = H[q]?) (hB : va_P G.1 vwCl wc' H1) (hadr : wc'.map (·.1) = wc.map (·.1)) : va_P G.1 vwCl (wr ++ wc') H1 ∧ va_D A (wr ++ wc') :=
  va_join hP hD isC isR hC hR hnR hdis hk hF hB ((hD.sub isC hnC hC).self.adr hadr)
abbrev Kk (p : Program) (l : Launch) (e : Env) (R : Room) (s : State) (m : MethodId) (args : Array Value) (below : List Frame) (meth : Method) (c : Code) (cells slots : Nat) (Q : State → Prop) (G : gT) (A : Nat → Prop) (w : va_W) (g : JFrame) : Prop := ∀ (H1 : Heap) (locs1 : List Loc), va_P G.1 vwCl w H1 → va_D A w → va_S A s.heap H1 locs1 → W p l e R s m args below meth c H1 locs1 cells slots Q g
theorem k_rwS (F : CallFix p m c cc nL s args GW own) (hM : Rw l G y bytes maxL ret d H.size wc As res wc') (h1 : Cond.methodLink own index y ∈ GW) (h2 : Cond.static y ∈ GW) (h3 : Cond.initialized y.cls ∈ GW) (h4 : Cond.code y bytes maxL ret ∈ GW) (hd : hdY y n) (hR : d + 1 ≤ R.frames ∧ 8 + (maxL + 11) + 40 * d ≤ R.locals)
    (hK : Kx G s) (hZ : Zs A s) (hS : va_S A s.heap H locs) (hP : va_P G.1 vwCl ws H) (hD : va_D A ws) (hA : ∀ q, s.heap.size ≤ q → A q) (isC isR : List Nat) (hC : isC.map (fun i => ws[i]?) = wc.map some) (hRr : isR.map (fun i => ws[i]?) = wr.map some) (hnC : va_nd isC = true) (hnR : va_nd isR = true) (hdis : ∀ i ∈ isR, i ∉ isC) (hadr : wc'.map (·.1) = wc.map (·.1))
    (hn : As.length = n) (hsize : ls.size = nL) (hst : st = As.reverse ++ rest) (hW : (rest.map fun v => v.category).sum ≤ 8) (hdg : decode cc pc = .ok (.invokestatic index, 3)) (hf : cells ≤ R.cells ∧ slots ≤ R.slots)
    (kk : Kk p l e R s m args below meth c cells slots Q G A (wr ++ wc') (F0 m (pc + 3) ls (.int res :: rest))) : W p l e R s m args below meth c H locs cells slots Q (F0 m pc ls st) := by
  have hFc := va_free hD hS hA isC hC
  refine va_calli (va_runS F hM (va_cwS n F.2.2.2.2 (gw_s h1 h2 h3 h4) rfl rfl rfl hd hR) ⟨Pw.fb, fun U hU hW => ⟨rfl, k_pw hK hZ hS hP hD hA isC hC hnC U hU hW⟩⟩ rfl hn hsize hst (lv_room hW) hdg hf) hS (fun q _ h => hFc q h) hFc (fun r u t H1 locs1 ht hvm hw hB hz hk hS1 => ?_)
  rw [ht] at hB
  obtain ⟨hP1, hD1⟩ := k_join hP hD isC isR hC hRr hnC hnR hdis hFc hk hB hadr
  rw [hw]
  exact kk H1 locs1 hP1 hD1 hS1
theorem k_rvS (F : CallFix p m c cc nL s args GW own) (hM : Rv l G y bytes maxL ret d H.size wc As wc') (h1 : Cond.methodLink own index y ∈ GW) (h2 : Cond.static y ∈ GW) (h3 : Cond.initialized y.cls ∈ GW) (h4 : Cond.code y bytes maxL ret ∈ GW) (hd : hdY y n) (hR : d + 1 ≤ R.frames ∧ 8 + (maxL + 11) + 40 * d ≤ R.locals)
    (hK : Kx G s) (hZ : Zs A s) (hS : va_S A s.heap H locs) (hP : va_P G.1 vwCl ws H) (hD : va_D A ws) (hA : ∀ q, s.heap.size ≤ q → A q) (isC isR : List Nat) (hC : isC.map (fun i => ws[i]?) = wc.map some) (hRr : isR.map (fun i => ws[i]?) = wr.map some) (hnC : va_nd isC = true) (hnR : va_nd isR = true) (hdis : ∀ i ∈ isR, i ∉ isC) (hadr : wc'.map (·.1) = wc.map (·.1))
    (hn : As.length = n) (hsize : ls.size = nL) (hst : st = As.reverse ++ rest) (hW : (rest.map fun v => v.category).sum ≤ 8) (hdg : decode cc pc = .ok (.invokestatic index, 3)) (hf : cells ≤ R.cells ∧ slots ≤ R.slots)
    (kk : Kk p l e R s m args below meth c cells slots Q G A (wr ++ wc') (F0 m (pc + 3) ls rest)) : W p l e R s m args below meth c H locs cells slots Q (F0 m pc ls st) := by
  have hFc := va_free hD hS hA isC hC
  refine va_callv (va_runS F hM (va_cwS n F.2.2.2.2 (gw_s h1 h2 h3 h4) rfl rfl rfl hd hR) ⟨Pw.fb, fun U hU hW => ⟨rfl, k_pw hK hZ hS hP hD hA isC hC hnC U hU hW⟩⟩ rfl hn hsize hst (lv_room hW) hdg hf) hS (fun q _ h => hFc q h) hFc (fun u t H1 locs1 ht hvm hw hB hz hk hS1 => ?_)
  rw [ht] at hB
  obtain ⟨hP1, hD1⟩ := k_join hP hD isC isR hC hRr hnC hnR hdis hFc hk hB hadr
  exact kk H1 locs1 hP1 hD1 hS1
theorem k_rwV (F : CallFix p m c cc nL s args GW own) (hM : Rw l G y bytes maxL ret d H.size wc (.ref b :: As) res wc') (hc : ∃ q, vwCl[ci]? = some q ∧ q.1 = C) (he : ws[q0]? = some (b, .inr (ci, fs))) (hyC : y.cls = C) (h1 : Cond.methodLink own index y ∈ GW) (h2 : Cond.instanceMethod y ∈ GW) (h3 : Cond.selects C y y ∈ GW) (h4 : Cond.initialized C ∈ GW) (h5 : Cond.code y bytes maxL ret ∈ GW) (hd : hdY y n) (hR : d + 1 ≤ R.frames ∧ 8 + (maxL + 11) + 40 * d ≤ R.locals)
    (hK : Kx G s) (hZ : Zs A s) (hS : va_S A s.heap H locs) (hP : va_P G.1 vwCl ws H) (hD : va_D A ws) (hA : ∀ q, s.heap.size ≤ q → A q) (isC isR : List Nat) (hC : isC.map (fun i => ws[i]?) = wc.map some) (hRr : isR.map (fun i => ws[i]?) = wr.map some) (hnC : va_nd isC = true) (hnR : va_nd isR = true) (hdis : ∀ i ∈ isR, i ∉ isC) (hadr : wc'.map (·.1) = wc.map (·.1))
    (hn : As.length = n) (hsize : ls.size = nL) (hst : st = As.reverse ++ .ref b :: rest) (hW : (rest.map fun v => v.category).sum ≤ 8) (hdg : decode cc pc = .ok (.invokevirtual index, 3)) (hf : cells ≤ R.cells ∧ slots ≤ R.slots)
    (kk : Kk p l e R s m args below meth c cells slots Q G A (wr ++ wc') (F0 m (pc + 3) ls (.int res :: rest))) : W p l e R s m args below meth c H locs cells slots Q (F0 m pc ls st) := by
  have hFc := va_free hD hS hA isC hC
  obtain ⟨q, hq, rfl⟩ := hc
  refine va_calli (va_runV F hM (cwV n F.2.2.2.2 (gw_v h1 h2 h3 h4 h5) rfl rfl rfl ⟨hyC, hd⟩ hR) ⟨Pw.fb, k_recv hK hP hq he, fun U hU hW => ⟨rfl, k_pw hK hZ hS hP hD hA isC hC hnC U hU hW⟩⟩ rfl hn hsize hst (lv_room hW) hdg hf) hS (fun q _ h => hFc q h) hFc (fun r u t H1 locs1 ht hvm hw hB hz hk hS1 => ?_)
  rw [ht] at hB
  obtain ⟨hP1, hD1⟩ := k_join hP hD isC isR hC hRr hnC hnR hdis hFc hk hB hadr
  rw [hw]
  exact kk H1 locs1 hP1 hD1 hS1
theorem k_rvV (F : CallFix p m c cc nL s args GW own) (hM : Rv l G y bytes maxL ret d H.size wc (.ref b :: As) wc') (hc : ∃ q, vwCl[ci]? = some q ∧ q.1 = C) (he : ws[q0]? = some (b, .inr (ci, fs))) (hyC : y.cls = C) (h1 : Cond.methodLink own index y ∈ GW) (h2 : Cond.instanceMethod y ∈ GW) (h3 : Cond.selects C y y ∈ GW) (h4 : Cond.initialized C ∈ GW) (h5 : Cond.code y bytes maxL ret ∈ GW) (hd : hdY y n) (hR : d + 1 ≤ R.frames ∧ 8 + (maxL + 11) + 40 * d ≤ R.locals)
    (hK : Kx G s) (hZ : Zs A s) (hS : va_S A s.heap H locs) (hP : va_P G.1 vwCl ws H) (hD : va_D A ws) (hA : ∀ q, s.heap.size ≤ q → A q) (isC isR : List Nat) (hC : isC.map (fun i => ws[i]?) = wc.map some) (hRr : isR.map (fun i => ws[i]?) = wr.map some) (hnC : va_nd isC = true) (hnR : va_nd isR = true) (hdis : ∀ i ∈ isR, i ∉ isC) (hadr : wc'.map (·.1) = wc.map (·.1))
    (hn : As.length = n) (hsize : ls.size = nL) (hst : st = As.reverse ++ .ref b :: rest) (hW : (rest.map fun v => v.category).sum ≤ 8) (hdg : decode cc pc = .ok (.invokevirtual index, 3)) (hf : cells ≤ R.cells ∧ slots ≤ R.slots)
    (kk : Kk p l e R s m args below meth c cells slots Q G A (wr ++ wc') (F0 m (pc + 3) ls rest)) : W p l e R s m args below meth c H locs cells slots Q (F0 m pc ls st) := by
  have hFc := va_free hD hS hA isC hC
  obtain ⟨q, hq, rfl⟩ := hc
  refine va_callv (va_runV F hM (cwV n F.2.2.2.2 (gw_v h1 h2 h3 h4 h5) rfl rfl rfl ⟨hyC, hd⟩ hR) ⟨Pw.fb, k_recv hK hP hq he, fun U hU hW => ⟨rfl, k_pw hK hZ hS hP hD hA isC hC hnC U hU hW⟩⟩ rfl hn hsize hst (lv_room hW) hdg hf) hS (fun q _ h => hFc q h) hFc (fun u t H1 locs1 ht hvm hw hB hz hk hS1 => ?_)
  rw [ht] at hB
  obtain ⟨hP1, hD1⟩ := k_join hP hD isC isR hC hRr hnC hnR hdis hFc hk hB hadr
  exact kk H1 locs1 hP1 hD1 hS1
end CALLS
/-! ===== a method's begin and end ===== -/
theorem nz_0 : narrow .boolean (.int (nI 0)) = .int (nI 0) := by decide
theorem nz_1 : narrow .boolean (.int (nI 1)) = .int (nI 1) := by decide
theorem nz_p (P : Prop) : narrow .boolean (.int (pI P)) = .int (pI P) := by
  rcases pI_cases P with h | h <;> rw [h] <;> decide
theorem l64 {x : Int32} {X : Int} (h : x.toInt = X) : x.toInt64.toInt = X := by rw [Int32.toInt_toInt64]; exact h
section MK
variable {l : Launch} {y : MethodName} {bytes : ByteArray} {maxL d sz : Nat} {ret : Option FieldType} {G : gT} {ws ws' : va_W} {As : List Value} {res : Int32} {rq : Option Nat}
theorem Met.mk0 {Pc : State → Prop} {Qc : Array Value → State → Outcome → State → Prop} {free : Addr → Prop} (hy : plainName y.cls = true) (hlen : (lg_sl As).length ≤ maxL)
    (body : ∀ (p : Program) (e : Env) (s : State) (m : MethodId) (below : List Frame) (meth : Method) (c : Code) (ls : Array Slot), meth.sig.returnType = ret → meth.locks = false → CallFix p m c bytes maxL s As.toArray GW y.cls → Pc s → lv_has ls maxL (lv_args 0 As) → W p l e (rmL d) s m As.toArray below meth c s.heap [] 0 0 (MQ below Qc As.toArray s 0 0 free) (F0 m 0 ls [])) :
    Met l y (Cond.code y bytes maxL ret :: GW) (rmL d) (va_Pc As Pc) Qc 0 0 free := by
  refine Met.ofW (cc := bytes) (maxL := maxL) (ret := ret) hy rfl ?_
  intro p e s m args below meth c s₁ B hml hv
  obtain ⟨rfl, hv⟩ := hv
  have hts := atoms_spec (ws := Cond.code y bytes maxL ret :: GW) B.pre
  have hl := lv_entry As (n := maxL) hlen
  rw [lg_entry_eq]
  exact body p e s m below meth c _ B.returns B.notSynchronized ⟨B.exec, B.bytes, hml, findClass_of_methodNamed B.named, fun w h => hts w (List.mem_cons_of_mem _ h)⟩ hv hl
theorem Ro.mk (hy : plainName y.cls = true) (hlen : (lg_sl As).length ≤ maxL)
    (body : ∀ (p : Program) (e : Env) (s : State) (m : MethodId) (below : List Frame) (meth : Method) (c : Code) (ls : Array Slot), meth.sig.returnType = ret → meth.locks = false → CallFix p m c bytes maxL s As.toArray GW y.cls → Kx G s → Zs (fun _ => False) s → va_P G.1 vwCl ws s.heap → lv_has ls maxL (lv_args 0 As) → W p l e (rmL d) s m As.toArray below meth c s.heap [] 0 0 (MQ below (vp_Si (fun r => r = res)) As.toArray s 0 0 (fun _ => False)) (F0 m 0 ls [])) :
    Ro l G y bytes maxL ret d ws As res := Met.mk0 hy hlen (fun p e s m below meth c ls h1 h2 h3 h4 h5 => body p e s m below meth c ls h1 h2 h3 h4.1 h4.2.1 h4.2.2 h5)
theorem Rq.mk (hy : plainName y.cls = true) (hlen : (lg_sl As).length ≤ maxL)
    (body : ∀ (p : Program) (e : Env) (s : State) (m : MethodId) (below : List Frame) (meth : Method) (c : Code) (ls : Array Slot), meth.sig.returnType = ret → meth.locks = false → CallFix p m c bytes maxL s As.toArray GW y.cls → Kx G s → Zs (fun _ => False) s → va_P G.1 vwCl ws s.heap → lv_has ls maxL (lv_args 0 As) → W p l e (rmL d) s m As.toArray below meth c s.heap [] 0 0 (MQ below (va_Sq (fun r => r = rq)) As.toArray s 0 0 (fun _ => False)) (F0 m 0 ls [])) :
    Rq l G y bytes maxL ret d ws As rq := Met.mk0 hy hlen (fun p e s m below meth c ls h1 h2 h3 h4 h5 => body p e s m below meth c ls h1 h2 h3 h4.1 h4.2.1 h4.2.2 h5)
theorem Rw.mk (hy : plainName y.cls = true) (hlen : (lg_sl As).length ≤ maxL)
    (body : ∀ (p : Program) (e : Env) (s : State) (m : MethodId) (below : List Frame) (meth : Method) (c : Code) (ls : Array Slot) (A : Nat → Prop), meth.sig.returnType = ret → meth.locks = false → CallFix p m c bytes maxL s As.toArray GW y.cls → Kx G s → Zs A s → (∀ q, s.heap.size ≤ q → A q) → va_P G.1 vwCl ws s.heap → va_D A ws → va_S A s.heap s.heap [] → lv_has ls maxL (lv_args 0 As) → W p l e (rmL d) s m As.toArray below meth c s.heap [] 0 0 (MQ below (va_Qi (fun r (_ : Unit) => r = res) (fun _ t => va_P G.1 vwCl ws' t.heap) A) As.toArray s 0 0 A) (F0 m 0 ls [])) :
    Rw l G y bytes maxL ret d sz ws As res ws' := Met.mk0 hy hlen (fun p e s m below meth c ls h1 h2 h3 h4 h5 => by
      obtain ⟨rfl, hK, hZ, hP, hD⟩ := h4
      exact body p e s m below meth c ls _ h1 h2 h3 hK hZ (fun q h => Or.inr h) hP hD.self va_S.rf h5)
theorem Rv.mk (hy : plainName y.cls = true) (hlen : (lg_sl As).length ≤ maxL)
    (body : ∀ (p : Program) (e : Env) (s : State) (m : MethodId) (below : List Frame) (meth : Method) (c : Code) (ls : Array Slot) (A : Nat → Prop), meth.sig.returnType = ret → meth.locks = false → CallFix p m c bytes maxL s As.toArray GW y.cls → Kx G s → Zs A s → (∀ q, s.heap.size ≤ q → A q) → va_P G.1 vwCl ws s.heap → va_D A ws → va_S A s.heap s.heap [] → lv_has ls maxL (lv_args 0 As) → W p l e (rmL d) s m As.toArray below meth c s.heap [] 0 0 (MQ below (va_Qv (fun (_ : Unit) => True) (fun _ t => va_P G.1 vwCl ws' t.heap) A) As.toArray s 0 0 A) (F0 m 0 ls [])) :
    Rv l G y bytes maxL ret d sz ws As ws' := Met.mk0 hy hlen (fun p e s m below meth c ls h1 h2 h3 h4 h5 => by
      obtain ⟨rfl, hK, hZ, hP, hD⟩ := h4
      exact body p e s m below meth c ls _ h1 h2 h3 hK hZ (fun q h => Or.inr h) hP hD.self va_S.rf h5)
end MK
section EN
variable {p : Program} {l : Launch} {e : Env} {R : Room} {s : State} {m : MethodId} {args : Array Value} {below : List Frame} {meth : Method} {c : Code} {H : Heap} {locs : List Loc}
variable {pc : Nat} {ls : Array Slot} {cc : ByteArray} {G : gT} {ws ws' : va_W} {res v : Int32} {rq rv : Option Nat} {A : Nat → Prop} {ty : FieldType}
theorem e_ri (hx : p.tables.exec = Jvm.exec) (hb : c.code = cc) (hr : meth.sig.returnType = some .int) (hlk : meth.locks = false) (hv : v = res) (hdg : decode cc pc = .ok (.ireturn, 1)) : W p l e R s m args below meth c s.heap [] 0 0 (MQ below (vp_Si (fun r => r = res)) args s 0 0 (fun _ => False)) (F0 m pc ls [.int v]) :=
  W.iret hx hb hr (fun t ht hW => ⟨v, rfl, hv, ht⟩) (fun q h => by cases h) hdg hlk
theorem e_rz (hx : p.tables.exec = Jvm.exec) (hb : c.code = cc) (hr : meth.sig.returnType = some ty) (hlk : meth.locks = false) (hn : narrow ty (.int v) = .int v) (hv : v = res) (hdg : decode cc pc = .ok (.ireturn, 1)) : W p l e R s m args below meth c s.heap [] 0 0 (MQ below (vp_Si (fun r => r = res)) args s 0 0 (fun _ => False)) (F0 m pc ls [.int v]) :=
  W.zret hx hb hr hn (fun t ht hW => ⟨v, rfl, hv, ht⟩) (fun q h => by cases h) hdg hlk
theorem e_rq {rt : String} (hx : p.tables.exec = Jvm.exec) (hb : c.code = cc) (hr : meth.sig.returnType = some (.object rt)) (hlk : meth.locks = false) {w : Value} (hw : w = va_rf rv) (hv : rv = rq) (hdg : decode cc pc = .ok (.areturn, 1)) : W p l e R s m args below meth c s.heap [] 0 0 (MQ below (va_Sq (fun r => r = rq)) args s 0 0 (fun _ => False)) (F0 m pc ls [w]) :=
  W.aret hx hb hr (Or.inl ⟨rt, rfl⟩) (by subst hw; cases rv with | none => exact Or.inl rfl | some a => exact Or.inr ⟨a, rfl⟩) (fun t ht hW => ⟨rv, by rw [hw], hv, ht⟩) (fun q h => by cases h) hdg hlk
theorem e_wi (hx : p.tables.exec = Jvm.exec) (hb : c.code = cc) (hr : meth.sig.returnType = some .int) (hlk : meth.locks = false) (hP : va_P G.1 vwCl ws' H) (hS : va_S A s.heap H locs) (hv : v = res) (hdg : decode cc pc = .ok (.ireturn, 1)) : W p l e R s m args below meth c H locs 0 0 (MQ below (va_Qi (fun r (_ : Unit) => r = res) (fun _ t => va_P G.1 vwCl ws' t.heap) A) args s 0 0 A) (F0 m pc ls [.int v]) :=
  W.iret hx hb hr (fun t ht hW => ⟨⟨v, (), rfl, hv, by subst ht; exact hP⟩, hS.F ht⟩) hS.2.2 hdg hlk
theorem e_wz (hx : p.tables.exec = Jvm.exec) (hb : c.code = cc) (hr : meth.sig.returnType = some ty) (hlk : meth.locks = false) (hn : narrow ty (.int v) = .int v) (hP : va_P G.1 vwCl ws' H) (hS : va_S A s.heap H locs) (hv : v = res) (hdg : decode cc pc = .ok (.ireturn, 1)) : W p l e R s m args below meth c H locs 0 0 (MQ below (va_Qi (fun r (_ : Unit) => r = res) (fun _ t => va_P G.1 vwCl ws' t.heap) A) args s 0 0 A) (F0 m pc ls [.int v]) :=
  W.zret hx hb hr hn (fun t ht hW => ⟨⟨v, (), rfl, hv, by subst ht; exact hP⟩, hS.F ht⟩) hS.2.2 hdg hlk
theorem e_wv (hx : p.tables.exec = Jvm.exec) (hb : c.code = cc) (hr : meth.sig.returnType = none) (hlk : meth.locks = false) (hP : va_P G.1 vwCl ws' H) (hS : va_S A s.heap H locs) (hdg : decode cc pc = .ok (.return_, 1)) : W p l e R s m args below meth c H locs 0 0 (MQ below (va_Qv (fun (_ : Unit) => True) (fun _ t => va_P G.1 vwCl ws' t.heap) A) args s 0 0 A) (F0 m pc ls []) :=
  W.vret hx hb hr (fun t ht hW => ⟨⟨(), rfl, trivial, by subst ht; exact hP⟩, hS.F ht⟩) hS.2.2 hdg hlk
end EN
section LC
variable {p : Program} {l : Launch} {e : Env} {R : Room} {s : State} {m : MethodId} {args : Array Value} {below : List Frame} {meth : Method} {c : Code} {H : Heap} {locs : List Loc} {cells slots : Nat} {Q : State → Prop}
variable {pc : Nat} {ls : Array Slot} {rest : List Value} {cc : ByteArray} {x y : Int64} {X Y : Int}
theorem lc_lt (hX : x.toInt = X) (hY : y.toInt = Y) : (lg_cmp x y).toInt < 0 ↔ X < Y := by
  unfold lg_cmp
  have h1 : x > y ↔ Y < X := by rw [gt_iff_lt, Int64.lt_iff_toInt_lt, hX, hY]
  have h2 : x = y ↔ X = Y := by rw [← Int64.toInt_inj, hX, hY]
  by_cases q : x > y
  · rw [if_pos q]; have := h1.mp q; exact ⟨fun z => absurd z (by decide), fun z => by omega⟩
  · rw [if_neg q]
    by_cases q2 : x = y
    · rw [if_pos q2]; have := h2.mp q2; exact ⟨fun z => absurd z (by decide), fun z => by omega⟩
    · rw [if_neg q2]; have a1 : ¬ Y < X := fun z => q (h1.mpr z); have a2 : ¬ X = Y := fun z => q2 (h2.mpr z); exact ⟨fun _ => by omega, fun _ => by decide⟩
theorem lc_gt (hX : x.toInt = X) (hY : y.toInt = Y) : 0 < (lg_cmp x y).toInt ↔ Y < X := by
  unfold lg_cmp
  have h1 : x > y ↔ Y < X := by rw [gt_iff_lt, Int64.lt_iff_toInt_lt, hX, hY]
  have h2 : x = y ↔ X = Y := by rw [← Int64.toInt_inj, hX, hY]
  by_cases q : x > y
  · rw [if_pos q]; have := h1.mp q; exact ⟨fun z => by omega, fun z => by decide⟩
  · rw [if_neg q]
    have a1 : ¬ Y < X := fun z => q (h1.mpr z)
    by_cases q2 : x = y
    · rw [if_pos q2]; exact ⟨fun z => absurd z (by decide), fun z => absurd z a1⟩
    · rw [if_neg q2]; exact ⟨fun z => absurd z (by decide), fun z => absurd z a1⟩
theorem zc_lt (hx : p.tables.exec = Jvm.exec) (hb : c.code = cc) {off : Int} {tgt : Nat} (hdg : decode cc pc = .ok (.ifCond .lt off, 3)) (ht : (pc : Int) + off = (tgt : Int)) (hX : x.toInt = X) (hY : y.toInt = Y)
    (kt : X < Y → W p l e R s m args below meth c H locs cells slots Q (F0 m tgt ls rest)) (kf : Y ≤ X → W p l e R s m args below meth c H locs cells slots Q (F0 m (pc + 3) ls rest)) : W p l e R s m args below meth c H locs cells slots Q (F0 m pc ls (.int (lg_cmp x y) :: rest)) :=
  z0_lt hx hb _ hdg ht rfl (fun h => kt ((lc_lt hX hY).mp h)) (fun h => kf (by have := mt (lc_lt hX hY).mpr (Int.not_lt.mpr h); omega))
theorem zc_gt (hx : p.tables.exec = Jvm.exec) (hb : c.code = cc) {off : Int} {tgt : Nat} (hdg : decode cc pc = .ok (.ifCond .gt off, 3)) (ht : (pc : Int) + off = (tgt : Int)) (hX : x.toInt = X) (hY : y.toInt = Y)
    (kt : Y < X → W p l e R s m args below meth c H locs cells slots Q (F0 m tgt ls rest)) (kf : X ≤ Y → W p l e R s m args below meth c H locs cells slots Q (F0 m (pc + 3) ls rest)) : W p l e R s m args below meth c H locs cells slots Q (F0 m pc ls (.int (lg_cmp x y) :: rest)) :=
  z0_gt hx hb _ hdg ht rfl (fun h => kt ((lc_gt hX hY).mp h)) (fun h => kf (by have := mt (lc_gt hX hY).mpr (Int.not_lt.mpr h); omega))
theorem zc_eq (hx : p.tables.exec = Jvm.exec) (hb : c.code = cc) {off : Int} {tgt : Nat} (hdg : decode cc pc = .ok (.ifCond .eq off, 3)) (ht : (pc : Int) + off = (tgt : Int)) (hX : x.toInt = X) (hY : y.toInt = Y)
    (kt : X = Y → W p l e R s m args below meth c H locs cells slots Q (F0 m tgt ls rest)) (kf : ¬ X = Y → W p l e R s m args below meth c H locs cells slots Q (F0 m (pc + 3) ls rest)) : W p l e R s m args below meth c H locs cells slots Q (F0 m pc ls (.int (lg_cmp x y) :: rest)) := by
  have hl := lc_lt hX hY
  have hg := lc_gt hX hY
  exact z0_eq hx hb _ hdg ht rfl (fun h => kt (by
    rcases Int.lt_trichotomy X Y with q | q | q
    · exact absurd (hl.mpr q) (by omega)
    · exact q
    · exact absurd (hg.mpr q) (by omega))) (fun h => kf (fun q => by
    rcases Int.lt_trichotomy (lg_cmp x y).toInt 0 with z | z | z
    · have := hl.mp z; omega
    · exact h z
    · have := hg.mp z; omega))
end LC
theorem nI_dec {n : Nat} (h : 1 ≤ n) : nI n + Int32.ofInt (-1) = nI (n - 1) := by
  obtain ⟨k, rfl⟩ : ∃ k, n = k + 1 := ⟨n - 1, by omega⟩
  exact pk_m1 k
theorem nI_iN {x : Int32} (h : 0 ≤ x.toInt) : x = nI x.toInt.toNat := by
  apply Int32.toInt_inj.mp
  have h2 : x.toInt < 2147483648 := Int32.toInt_lt x
  rw [toI (by omega)]
  omega
theorem nI_ex {x : Int32} {X : Int} {N : Nat} (hx : x.toInt = X) (h : 0 ≤ X ∧ X < (N : Int)) : ∃ n : Nat, n < N ∧ x = nI n := ⟨x.toInt.toNat, by omega, nI_iN (by omega)⟩
section RWZ
variable {p : Program} {l : Launch} {e : Env} {R : Room} {s : State} {m : MethodId} {args : Array Value} {below : List Frame} {meth : Method} {c : Code} {H : Heap} {locs : List Loc} {cells slots : Nat} {Q : State → Prop}
variable {pc : Nat} {ls : Array Slot} {rest : List Value} {cc : ByteArray} {D : va_G} {cl : List vw_C} {tys : List (ClassId × FieldType)} {ws : va_W} {a : Nat} {A : Nat → Prop} {H0 : Heap}
theorem vp_nar_id {ty : FieldType} {x : Int32} (h : narrow ty (.int x) = .int x) : vp_nar ty x = x := by unfold vp_nar; rw [h]
theorem n_zast (hx : p.tables.exec = Jvm.exec) (hb : c.code = cc) (hK : va_K D cl tys s) (hP : va_P D cl ws H) (hD : va_D A ws) (hS : va_S A H0 H locs) (q0 t0 : Nat) {cA : ClassId} {n k : Nat} {f : Nat → Int32} (ha : ws[q0]? = some (a, .inl (cA, n, .inl f))) (ht : tys[t0]? = some (cA, .boolean)) {x : Int32} (hk : k < n) (hn : n < 2147483648) (hv : narrow .boolean (.int x) = .int x) (hdg : decode cc pc = .ok (.bastore, 1))
    (kk : ∀ (H1 : Heap) (locs1 : List Loc), va_P D cl (ws.set q0 (a, .inl (cA, n, .inl (upd f k x)))) H1 → va_D A (ws.set q0 (a, .inl (cA, n, .inl (upd f k x)))) → va_S A H0 H1 locs1 → W p l e R s m args below meth c H1 locs1 cells slots Q (F0 m (pc + 1) ls rest)) : W p l e R s m args below meth c H locs cells slots Q (F0 m pc ls (.int x :: .int (nI k) :: .ref a :: rest)) :=
  va_zast hx hb hK hP hD hS q0 t0 ha ht (vp_in_nI hk hn) hdg (by rw [nI_clamp (Nat.lt_trans hk hn), vp_nar_id hv]; exact kk)
theorem n_cast (hx : p.tables.exec = Jvm.exec) (hb : c.code = cc) (hK : va_K D cl tys s) (hP : va_P D cl ws H) (hD : va_D A ws) (hS : va_S A H0 H locs) (q0 t0 : Nat) {cA : ClassId} {n k : Nat} {f : Nat → Int32} (ha : ws[q0]? = some (a, .inl (cA, n, .inl f))) (ht : tys[t0]? = some (cA, .char)) {x : Int32} (hk : k < n) (hn : n < 2147483648) (hv : narrow .char (.int x) = .int x) (hdg : decode cc pc = .ok (.castore, 1))
    (kk : ∀ (H1 : Heap) (locs1 : List Loc), va_P D cl (ws.set q0 (a, .inl (cA, n, .inl (upd f k x)))) H1 → va_D A (ws.set q0 (a, .inl (cA, n, .inl (upd f k x)))) → va_S A H0 H1 locs1 → W p l e R s m args below meth c H1 locs1 cells slots Q (F0 m (pc + 1) ls rest)) : W p l e R s m args below meth c H locs cells slots Q (F0 m pc ls (.int x :: .int (nI k) :: .ref a :: rest)) :=
  va_cast hx hb hK hP hD hS q0 t0 ha ht (vp_in_nI hk hn) hdg (by rw [nI_clamp (Nat.lt_trans hk hn), vp_nar_id hv]; exact kk)
end RWZ
