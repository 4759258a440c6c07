/-! Z: one judgement for a method's body over an abstract heap (a partial function from addresses to cells), and Runs, a method's contract in these words. Own work, over the kit's W and Met. -/
abbrev zH : Type := Nat → Option va_E
abbrev zD : Type := (va_G × (Nat → Nat)) × (Nat → ClassId)
def zset (hp : zH) (a : Nat) (x : va_E) : zH := fun q => if q = a then some x else hp q
def zA (hp : zH) (nx : Nat) : Nat → Prop := fun q => hp q ≠ none ∨ nx ≤ q
theorem zset_self (hp : zH) (a : Nat) (x : va_E) : zset hp a x a = some x := if_pos rfl
theorem zset_ne {hp : zH} {a b : Nat} {x : va_E} (h : b ≠ a) : zset hp a x b = hp b := if_neg h
def zR (D : zD) (A : Nat → Prop) (H0 : Heap) (hp : zH) (H : Heap) (locs : List Loc) : Prop :=
  ∃ ws : va_W, va_P D.1.1 zcl ws H ∧ va_D A ws ∧ va_S A H0 H locs ∧ ∀ a x, hp a = some x ↔ ∃ k : Nat, ws[k]? = some (a, x)
/-- what the tables say, at a method's start -/
def zK (D : zD) (s : State) : Prop := va_K D.1.1 zcl (zty D.2) s ∧ (∀ w ∈ zNest, va_Nw w s) ∧ ∀ C ∈ zOver, va_AO C s
/-- a method: its name, bytes, number of locals, answer's type, frames, locals' words -/
abbrev zM : Type := MethodName × ByteArray × Nat × Option FieldType × Nat × Nat
def zw (M : zM) : List Cond := .code M.1 M.2.1 M.2.2.1 M.2.2.2.1 :: zT
def zrm (M : zM) (mc ms : Nat) : Room := { frames := M.2.2.2.2.1, cells := mc, slots := ms, locals := M.2.2.2.2.2 }
def zPc (D : zD) (as : List Value) (hp : zH) (nx : Nat) : Array Value → State → Prop := fun v U => v = as.toArray ∧ zK D U ∧ ∃ ws : va_W, va_P D.1.1 zcl ws U.heap ∧ va_D (fun _ => True) ws ∧ (∀ a x, hp a = some x ↔ ∃ k : Nat, ws[k]? = some (a, x)) ∧ U.heap.size = nx
def zQc (D : zD) (hp0 : zH) (nx0 : Nat) (Q : Option Value → zH → Prop) : Array Value → State → Outcome → State → Prop := fun _ st oc t =>
  (∃ (r : Option Value) (hp : zH), oc = .returned r ∧ Q r hp ∧ ∃ ws : va_W, va_P D.1.1 zcl ws t.heap ∧ va_D (zA hp0 nx0) ws ∧ ∀ a x, hp a = some x ↔ ∃ k : Nat, ws[k]? = some (a, x)) ∧ va_F (zA hp0 nx0) st t
def Runs (l : Launch) (D : zD) (M : zM) (as : List Value) (hp : zH) (mc ms : Nat) (Q : Option Value → zH → Prop) : Prop :=
  ∀ nx : Nat, Met l M.1 (zw M) (zrm M mc ms) (zPc D as hp nx) (zQc D hp nx Q) mc ms (zA hp nx)
def zpairs : Nat → List (Option Value) → List (Nat × Value)
  | _, [] => []
  | i, none :: t => zpairs (i + 1) t
  | i, some v :: t => (i, v) :: zpairs (i + 1) t
theorem zpairs_mem : ∀ (lv : List (Option Value)) (i j : Nat) (v : Value), (j, v) ∈ zpairs i lv ↔ ∃ k, j = i + k ∧ lv[k]? = some (some v) := by
  intro lv
  induction lv with
  | nil => intro i j v; simp [zpairs]
  | cons x t ih =>
    intro i j v
    cases x with
    | none =>
      rw [zpairs, ih]
      constructor
      · rintro ⟨k, h1, h2⟩; exact ⟨k + 1, by omega, by simpa using h2⟩
      · rintro ⟨k, h1, h2⟩
        cases k with
        | zero => simp at h2
        | succ k => exact ⟨k, by omega, by simpa using h2⟩
    | some w =>
      rw [zpairs, List.mem_cons, ih]
      constructor
      · rintro (h | ⟨k, h1, h2⟩)
        · cases h; exact ⟨0, rfl, rfl⟩
        · exact ⟨k + 1, by omega, by simpa using h2⟩
      · rintro ⟨k, h1, h2⟩
        cases k with
        | zero => left; simp at h2; subst h2; simp at h1; rw [h1]
        | succ k => right; exact ⟨k, by omega, by simpa using h2⟩
def zL (ls : Array Slot) (lv : List (Option Value)) : Prop := lv_has ls lv.length (zpairs 0 lv)
theorem zL_get {ls : Array Slot} {lv : List (Option Value)} (h : zL ls lv) {i : Nat} {v : Value} (hv : lv[i]? = some (some v)) : ls[i]? = some (.val v) :=
  h.2.2 (i, v) ((zpairs_mem lv 0 i v).2 ⟨i, by omega, hv⟩)
/-- a place before which no two-word value stands -/
def zn1 (lv : List (Option Value)) : Nat → Bool
  | 0 => true
  | i + 1 => match lv[i]? with
    | some (some v) => v.category == 1
    | _ => true
theorem zn1_ok {lv : List (Option Value)} {i j : Nat} {v : Value} (h : zn1 lv i = true) (hj : j + 1 = i) (hv : lv[j]? = some (some v)) : v.category = 1 := by
  subst hj
  simp only [zn1, hv] at h
  simpa using h
theorem zL_sub {ls : Array Slot} {n : Nat} {l : List (Nat × Value)} {lv : List (Option Value)} (h : lv_has ls n l) (hn : n = lv.length) (hs : ∀ j v, lv[j]? = some (some v) → (j, v) ∈ l) : zL ls lv := by
  subst hn
  refine ⟨h.1, h.2.1, fun q hq => h.2.2 q ?_⟩
  obtain ⟨j, v⟩ := q
  obtain ⟨k, h1, h2⟩ := (zpairs_mem lv 0 j v).1 hq
  have : j = k := by omega
  subst this
  exact hs j v h2
theorem zL_set1 {ls' : Array Slot} {n : Nat} {lv : List (Option Value)} {i : Nat} {x : Value} (hn : n = lv.length) (hi : i < n) (h1 : zn1 lv i = true) (h : lv_has ls' n ((i, x) :: (zpairs 0 lv).filter (fun q => !(q.1 == i) && !(q.1 + 1 == i && q.2.category == 2)))) : zL ls' (lv.set i (some x)) := by
  refine zL_sub h (by simp [hn]) fun j v hv => ?_
  by_cases hj : j = i
  · subst hj
    rw [List.getElem?_set_self (by omega)] at hv
    cases hv
    exact List.mem_cons_self
  · rw [List.getElem?_set_ne (fun e => hj e.symm)] at hv
    refine List.mem_cons_of_mem _ (List.mem_filter.mpr ⟨(zpairs_mem lv 0 j v).2 ⟨j, by omega, hv⟩, ?_⟩)
    by_cases h2 : j + 1 = i
    · have := zn1_ok h1 h2 hv
      simp [hj, this]
    · simp [hj, h2]
theorem zL_set2 {ls' : Array Slot} {n : Nat} {lv : List (Option Value)} {i : Nat} {x : Value} (hn : n = lv.length) (hi : i + 1 < n) (h1 : zn1 lv i = true) (h : lv_has ls' n ((i, x) :: (zpairs 0 lv).filter (fun q => !(q.1 == i) && (!(q.1 == i + 1) && !(q.1 + 1 == i && q.2.category == 2))))) : zL ls' ((lv.set i (some x)).set (i + 1) none) := by
  refine zL_sub h (by simp [hn]) fun j v hv => ?_
  by_cases h3 : j = i + 1
  · subst h3
    rw [List.getElem?_set_self (by simp; omega)] at hv
    cases hv
  · rw [List.getElem?_set_ne (fun e => h3 e.symm)] at hv
    by_cases hj : j = i
    · subst hj
      rw [List.getElem?_set_self (by omega)] at hv
      cases hv
      exact List.mem_cons_self
    · rw [List.getElem?_set_ne (fun e => hj e.symm)] at hv
      refine List.mem_cons_of_mem _ (List.mem_filter.mpr ⟨(zpairs_mem lv 0 j v).2 ⟨j, by omega, hv⟩, ?_⟩)
      by_cases h2 : j + 1 = i
      · have := zn1_ok h1 h2 hv
        simp [hj, h3, this]
      · simp [hj, h3, h2]
/-- what stands fixed while a method runs -/
def zC (D : zD) (M : zM) (p : Program) (s : State) (m : MethodId) (args : Array Value) (meth : Method) (c : Code) : Prop :=
  p.tables.exec = Jvm.exec ∧ c.code = M.2.1 ∧ c.maxLocals = M.2.2.1 ∧ s.vm.findClass M.1.cls = some m.cls ∧ (∀ w ∈ zw M, w.before args s = true) ∧ meth.locks = false ∧ meth.sig.returnType = M.2.2.2.1 ∧ meth.name = M.1.name ∧ zK D s
def Z (l : Launch) (D : zD) (M : zM) (mc ms : Nat) (Q : Option Value → zH → Prop) (hp : zH) (cu su pc : Nat) (lv : List (Option Value)) (st : List Value) : Prop :=
  ∀ (p : Program) (e : Env) (s : State) (m : MethodId) (args : Array Value) (below : List Frame) (meth : Method) (c : Code) (H : Heap) (locs : List Loc) (A : Nat → Prop) (ls : Array Slot) (Qc : Array Value → State → Outcome → State → Prop) (free : Addr → Prop),
    zC D M p s m args meth c → (∀ q, s.heap.size ≤ q → A q) → zR D A s.heap hp H locs → lv.length = M.2.2.1 → zL ls lv →
    (∀ (r : Option Value) (hp' : zH) (H' : Heap) (locs' : List Loc), zR D A s.heap hp' H' locs' → Q r hp' → (∀ t : State, t.heap = H' → s.WarmedH t.vm → Qc args s (.returned r) t) ∧ ∀ q ∈ locs', free q.base) →
    W p l e (zrm M mc ms) s m args below meth c H locs cu su (MQ below Qc args s mc ms free) (F0 m pc ls st)
section ZK
variable {l : Launch} {D : zD} {M : zM} {mc ms : Nat} {Q : Option Value → zH → Prop} {hp : zH} {cu su pc : Nat} {lv : List (Option Value)} {rest : List Value}
theorem z_iconst {n : Int} {v : Int32} (hd : decode M.2.1 pc = .ok (.iconst n, 1)) (pc' : Nat) (he : pc + 1 = pc') (hv : Int32.ofInt n = v) (k : Z l D M mc ms Q hp cu su pc' lv (.int v :: rest)) : Z l D M mc ms Q hp cu su pc lv (rest) := by
  subst he
  intro p e s m args below meth c H locs A ls Qc free hC hA hR hn hL hE
  exact lv_iconst hC.1 hC.2.1 hd hv (k p e s m args below meth c H locs A ls Qc free hC hA hR hn hL hE)
theorem z_bipush {n : Int} {v : Int32} (hd : decode M.2.1 pc = .ok (.bipush n, 2)) (pc' : Nat) (he : pc + 2 = pc') (hv : (Int8.ofInt n).toInt32 = v) (k : Z l D M mc ms Q hp cu su pc' lv (.int v :: rest)) : Z l D M mc ms Q hp cu su pc lv (rest) := by
  subst he
  intro p e s m args below meth c H locs A ls Qc free hC hA hR hn hL hE
  exact lv_bipush hC.1 hC.2.1 hd hv (k p e s m args below meth c H locs A ls Qc free hC hA hR hn hL hE)
theorem z_sipush {n : Int} {v : Int32} (hd : decode M.2.1 pc = .ok (.sipush n, 3)) (pc' : Nat) (he : pc + 3 = pc') (hv : (Int16.ofInt n).toInt32 = v) (k : Z l D M mc ms Q hp cu su pc' lv (.int v :: rest)) : Z l D M mc ms Q hp cu su pc lv (rest) := by
  subst he
  intro p e s m args below meth c H locs A ls Qc free hC hA hR hn hL hE
  exact lv_sipush hC.1 hC.2.1 hd hv (k p e s m args below meth c H locs A ls Qc free hC hA hR hn hL hE)
theorem z_lconst {n : Fin 2} {v : Int64} (hd : decode M.2.1 pc = .ok (.lconst n, 1)) (pc' : Nat) (he : pc + 1 = pc') (hv : Int64.ofNat (n : Nat) = v) (k : Z l D M mc ms Q hp cu su pc' lv (.long v :: rest)) : Z l D M mc ms Q hp cu su pc lv (rest) := by
  subst he
  intro p e s m args below meth c H locs A ls Qc free hC hA hR hn hL hE
  exact lv_lconst hC.1 hC.2.1 hd hv (k p e s m args below meth c H locs A ls Qc free hC hA hR hn hL hE)
theorem z_null  (hd : decode M.2.1 pc = .ok (.aconst_null, 1)) (pc' : Nat) (he : pc + 1 = pc')  (k : Z l D M mc ms Q hp cu su pc' lv (.null :: rest)) : Z l D M mc ms Q hp cu su pc lv (rest) := by
  subst he
  intro p e s m args below meth c H locs A ls Qc free hC hA hR hn hL hE
  exact lv_null hC.1 hC.2.1 hd  (k p e s m args below meth c H locs A ls Qc free hC hA hR hn hL hE)
theorem z_iadd {x y : Int32} (hd : decode M.2.1 pc = .ok (.iadd, 1)) (pc' : Nat) (he : pc + 1 = pc')  (k : Z l D M mc ms Q hp cu su pc' lv (.int (x + y) :: rest)) : Z l D M mc ms Q hp cu su pc lv (.int y :: .int x :: rest) := by
  subst he
  intro p e s m args below meth c H locs A ls Qc free hC hA hR hn hL hE
  exact lv_iadd hC.1 hC.2.1 hd  (k p e s m args below meth c H locs A ls Qc free hC hA hR hn hL hE)
theorem z_isub {x y : Int32} (hd : decode M.2.1 pc = .ok (.isub, 1)) (pc' : Nat) (he : pc + 1 = pc')  (k : Z l D M mc ms Q hp cu su pc' lv (.int (x - y) :: rest)) : Z l D M mc ms Q hp cu su pc lv (.int y :: .int x :: rest) := by
  subst he
  intro p e s m args below meth c H locs A ls Qc free hC hA hR hn hL hE
  exact lv_isub hC.1 hC.2.1 hd  (k p e s m args below meth c H locs A ls Qc free hC hA hR hn hL hE)
theorem z_imul {x y : Int32} (hd : decode M.2.1 pc = .ok (.imul, 1)) (pc' : Nat) (he : pc + 1 = pc')  (k : Z l D M mc ms Q hp cu su pc' lv (.int (x * y) :: rest)) : Z l D M mc ms Q hp cu su pc lv (.int y :: .int x :: rest) := by
  subst he
  intro p e s m args below meth c H locs A ls Qc free hC hA hR hn hL hE
  exact lv_imul hC.1 hC.2.1 hd  (k p e s m args below meth c H locs A ls Qc free hC hA hR hn hL hE)
theorem z_iand {x y : Int32} (hd : decode M.2.1 pc = .ok (.iand, 1)) (pc' : Nat) (he : pc + 1 = pc')  (k : Z l D M mc ms Q hp cu su pc' lv (.int (x &&& y) :: rest)) : Z l D M mc ms Q hp cu su pc lv (.int y :: .int x :: rest) := by
  subst he
  intro p e s m args below meth c H locs A ls Qc free hC hA hR hn hL hE
  exact lv_iand hC.1 hC.2.1 hd  (k p e s m args below meth c H locs A ls Qc free hC hA hR hn hL hE)
theorem z_ior {x y : Int32} (hd : decode M.2.1 pc = .ok (.ior, 1)) (pc' : Nat) (he : pc + 1 = pc')  (k : Z l D M mc ms Q hp cu su pc' lv (.int (x ||| y) :: rest)) : Z l D M mc ms Q hp cu su pc lv (.int y :: .int x :: rest) := by
  subst he
  intro p e s m args below meth c H locs A ls Qc free hC hA hR hn hL hE
  exact lv_ior hC.1 hC.2.1 hd  (k p e s m args below meth c H locs A ls Qc free hC hA hR hn hL hE)
theorem z_ixor {x y : Int32} (hd : decode M.2.1 pc = .ok (.ixor, 1)) (pc' : Nat) (he : pc + 1 = pc')  (k : Z l D M mc ms Q hp cu su pc' lv (.int (x ^^^ y) :: rest)) : Z l D M mc ms Q hp cu su pc lv (.int y :: .int x :: rest) := by
  subst he
  intro p e s m args below meth c H locs A ls Qc free hC hA hR hn hL hE
  exact lv_ixor hC.1 hC.2.1 hd  (k p e s m args below meth c H locs A ls Qc free hC hA hR hn hL hE)
theorem z_ladd {x y : Int64} (hd : decode M.2.1 pc = .ok (.ladd, 1)) (pc' : Nat) (he : pc + 1 = pc')  (k : Z l D M mc ms Q hp cu su pc' lv (.long (x + y) :: rest)) : Z l D M mc ms Q hp cu su pc lv (.long y :: .long x :: rest) := by
  subst he
  intro p e s m args below meth c H locs A ls Qc free hC hA hR hn hL hE
  exact lv_ladd hC.1 hC.2.1 hd  (k p e s m args below meth c H locs A ls Qc free hC hA hR hn hL hE)
theorem z_lsub {x y : Int64} (hd : decode M.2.1 pc = .ok (.lsub, 1)) (pc' : Nat) (he : pc + 1 = pc')  (k : Z l D M mc ms Q hp cu su pc' lv (.long (x - y) :: rest)) : Z l D M mc ms Q hp cu su pc lv (.long y :: .long x :: rest) := by
  subst he
  intro p e s m args below meth c H locs A ls Qc free hC hA hR hn hL hE
  exact lv_lsub hC.1 hC.2.1 hd  (k p e s m args below meth c H locs A ls Qc free hC hA hR hn hL hE)
theorem z_lmul {x y : Int64} (hd : decode M.2.1 pc = .ok (.lmul, 1)) (pc' : Nat) (he : pc + 1 = pc')  (k : Z l D M mc ms Q hp cu su pc' lv (.long (x * y) :: rest)) : Z l D M mc ms Q hp cu su pc lv (.long y :: .long x :: rest) := by
  subst he
  intro p e s m args below meth c H locs A ls Qc free hC hA hR hn hL hE
  exact lv_lmul hC.1 hC.2.1 hd  (k p e s m args below meth c H locs A ls Qc free hC hA hR hn hL hE)
theorem z_land {x y : Int64} (hd : decode M.2.1 pc = .ok (.land, 1)) (pc' : Nat) (he : pc + 1 = pc')  (k : Z l D M mc ms Q hp cu su pc' lv (.long (x &&& y) :: rest)) : Z l D M mc ms Q hp cu su pc lv (.long y :: .long x :: rest) := by
  subst he
  intro p e s m args below meth c H locs A ls Qc free hC hA hR hn hL hE
  exact lv_land hC.1 hC.2.1 hd  (k p e s m args below meth c H locs A ls Qc free hC hA hR hn hL hE)
theorem z_lor {x y : Int64} (hd : decode M.2.1 pc = .ok (.lor, 1)) (pc' : Nat) (he : pc + 1 = pc')  (k : Z l D M mc ms Q hp cu su pc' lv (.long (x ||| y) :: rest)) : Z l D M mc ms Q hp cu su pc lv (.long y :: .long x :: rest) := by
  subst he
  intro p e s m args below meth c H locs A ls Qc free hC hA hR hn hL hE
  exact lv_lor hC.1 hC.2.1 hd  (k p e s m args below meth c H locs A ls Qc free hC hA hR hn hL hE)
theorem z_idiv {x y : Int32} (hd : decode M.2.1 pc = .ok (.idiv, 1)) (pc' : Nat) (he : pc + 1 = pc') (hne : ¬ y = 0) (k : Z l D M mc ms Q hp cu su pc' lv (.int (x / y) :: rest)) : Z l D M mc ms Q hp cu su pc lv (.int y :: .int x :: rest) := by
  subst he
  intro p e s m args below meth c H locs A ls Qc free hC hA hR hn hL hE
  exact lv_idiv hC.1 hC.2.1 hd hne (k p e s m args below meth c H locs A ls Qc free hC hA hR hn hL hE)
theorem z_irem {x y : Int32} (hd : decode M.2.1 pc = .ok (.irem, 1)) (pc' : Nat) (he : pc + 1 = pc') (hne : ¬ y = 0) (k : Z l D M mc ms Q hp cu su pc' lv (.int (x - x / y * y) :: rest)) : Z l D M mc ms Q hp cu su pc lv (.int y :: .int x :: rest) := by
  subst he
  intro p e s m args below meth c H locs A ls Qc free hC hA hR hn hL hE
  exact lv_irem hC.1 hC.2.1 hd hne (k p e s m args below meth c H locs A ls Qc free hC hA hR hn hL hE)
theorem z_lrem {x y : Int64} (hd : decode M.2.1 pc = .ok (.lrem, 1)) (pc' : Nat) (he : pc + 1 = pc') (hne : ¬ y = 0) (k : Z l D M mc ms Q hp cu su pc' lv (.long (x - x / y * y) :: rest)) : Z l D M mc ms Q hp cu su pc lv (.long y :: .long x :: rest) := by
  subst he
  intro p e s m args below meth c H locs A ls Qc free hC hA hR hn hL hE
  exact lv_lrem hC.1 hC.2.1 hd hne (k p e s m args below meth c H locs A ls Qc free hC hA hR hn hL hE)
theorem z_ineg {x : Int32} (hd : decode M.2.1 pc = .ok (.ineg, 1)) (pc' : Nat) (he : pc + 1 = pc')  (k : Z l D M mc ms Q hp cu su pc' lv (.int (-x) :: rest)) : Z l D M mc ms Q hp cu su pc lv (.int x :: rest) := by
  subst he
  intro p e s m args below meth c H locs A ls Qc free hC hA hR hn hL hE
  exact lv_ineg hC.1 hC.2.1 hd  (k p e s m args below meth c H locs A ls Qc free hC hA hR hn hL hE)
theorem z_ishl {x y : Int32} (hd : decode M.2.1 pc = .ok (.ishl, 1)) (pc' : Nat) (he : pc + 1 = pc')  (k : Z l D M mc ms Q hp cu su pc' lv (.int (x <<< (y &&& 31)) :: rest)) : Z l D M mc ms Q hp cu su pc lv (.int y :: .int x :: rest) := by
  subst he
  intro p e s m args below meth c H locs A ls Qc free hC hA hR hn hL hE
  exact lv_ishl hC.1 hC.2.1 hd  (k p e s m args below meth c H locs A ls Qc free hC hA hR hn hL hE)
theorem z_ishr {x y : Int32} (hd : decode M.2.1 pc = .ok (.ishr, 1)) (pc' : Nat) (he : pc + 1 = pc')  (k : Z l D M mc ms Q hp cu su pc' lv (.int (x >>> (y &&& 31)) :: rest)) : Z l D M mc ms Q hp cu su pc lv (.int y :: .int x :: rest) := by
  subst he
  intro p e s m args below meth c H locs A ls Qc free hC hA hR hn hL hE
  exact lv_ishr hC.1 hC.2.1 hd  (k p e s m args below meth c H locs A ls Qc free hC hA hR hn hL hE)
theorem z_iushr {x y v : Int32} (hd : decode M.2.1 pc = .ok (.iushr, 1)) (pc' : Nat) (he : pc + 1 = pc') (hv : (x.toUInt32 >>> (y.toUInt32 &&& Int32.toUInt32 31)).toInt32 = v) (k : Z l D M mc ms Q hp cu su pc' lv (.int v :: rest)) : Z l D M mc ms Q hp cu su pc lv (.int y :: .int x :: rest) := by
  subst he
  intro p e s m args below meth c H locs A ls Qc free hC hA hR hn hL hE
  exact lv_iushr hC.1 hC.2.1 hd hv (k p e s m args below meth c H locs A ls Qc free hC hA hR hn hL hE)
theorem z_lushr {x v : Int64} {y : Int32} (hd : decode M.2.1 pc = .ok (.lushr, 1)) (pc' : Nat) (he : pc + 1 = pc') (hv : (x.toUInt64 >>> (y.toInt64.toUInt64 &&& Int64.toUInt64 63)).toInt64 = v) (k : Z l D M mc ms Q hp cu su pc' lv (.long v :: rest)) : Z l D M mc ms Q hp cu su pc lv (.int y :: .long x :: rest) := by
  subst he
  intro p e s m args below meth c H locs A ls Qc free hC hA hR hn hL hE
  exact lv_lushr hC.1 hC.2.1 hd hv (k p e s m args below meth c H locs A ls Qc free hC hA hR hn hL hE)
theorem z_lshl {x v : Int64} {y : Int32} (hd : decode M.2.1 pc = .ok (.lshl, 1)) (pc' : Nat) (he : pc + 1 = pc') (hv : x <<< (y.toInt64 &&& 63) = v) (k : Z l D M mc ms Q hp cu su pc' lv (.long v :: rest)) : Z l D M mc ms Q hp cu su pc lv (.int y :: .long x :: rest) := by
  subst he
  intro p e s m args below meth c H locs A ls Qc free hC hA hR hn hL hE
  exact lv_lshl hC.1 hC.2.1 hd hv (k p e s m args below meth c H locs A ls Qc free hC hA hR hn hL hE)
theorem z_lshr {x v : Int64} {y : Int32} (hd : decode M.2.1 pc = .ok (.lshr, 1)) (pc' : Nat) (he : pc + 1 = pc') (hv : x >>> (y.toInt64 &&& 63) = v) (k : Z l D M mc ms Q hp cu su pc' lv (.long v :: rest)) : Z l D M mc ms Q hp cu su pc lv (.int y :: .long x :: rest) := by
  subst he
  intro p e s m args below meth c H locs A ls Qc free hC hA hR hn hL hE
  exact lv_lshr hC.1 hC.2.1 hd hv (k p e s m args below meth c H locs A ls Qc free hC hA hR hn hL hE)
theorem z_i2l {x : Int32} {v : Int64} (hd : decode M.2.1 pc = .ok (.i2l, 1)) (pc' : Nat) (he : pc + 1 = pc') (hv : x.toInt64 = v) (k : Z l D M mc ms Q hp cu su pc' lv (.long v :: rest)) : Z l D M mc ms Q hp cu su pc lv (.int x :: rest) := by
  subst he
  intro p e s m args below meth c H locs A ls Qc free hC hA hR hn hL hE
  exact lv_i2l hC.1 hC.2.1 hd hv (k p e s m args below meth c H locs A ls Qc free hC hA hR hn hL hE)
theorem z_l2i {x : Int64} {v : Int32} (hd : decode M.2.1 pc = .ok (.l2i, 1)) (pc' : Nat) (he : pc + 1 = pc') (hv : x.toInt32 = v) (k : Z l D M mc ms Q hp cu su pc' lv (.int v :: rest)) : Z l D M mc ms Q hp cu su pc lv (.long x :: rest) := by
  subst he
  intro p e s m args below meth c H locs A ls Qc free hC hA hR hn hL hE
  exact lv_l2i hC.1 hC.2.1 hd hv (k p e s m args below meth c H locs A ls Qc free hC hA hR hn hL hE)
theorem z_i2b {x v : Int32} (hd : decode M.2.1 pc = .ok (.i2b, 1)) (pc' : Nat) (he : pc + 1 = pc') (hv : x.toInt8.toInt32 = v) (k : Z l D M mc ms Q hp cu su pc' lv (.int v :: rest)) : Z l D M mc ms Q hp cu su pc lv (.int x :: rest) := by
  subst he
  intro p e s m args below meth c H locs A ls Qc free hC hA hR hn hL hE
  exact lv_i2b hC.1 hC.2.1 hd hv (k p e s m args below meth c H locs A ls Qc free hC hA hR hn hL hE)
theorem z_lcmp {x y : Int64} (hd : decode M.2.1 pc = .ok (.lcmp, 1)) (pc' : Nat) (he : pc + 1 = pc')  (k : Z l D M mc ms Q hp cu su pc' lv (.int (lg_cmp x y) :: rest)) : Z l D M mc ms Q hp cu su pc lv (.long y :: .long x :: rest) := by
  subst he
  intro p e s m args below meth c H locs A ls Qc free hC hA hR hn hL hE
  exact W.lcmp hC.1 hC.2.1 hd  (k p e s m args below meth c H locs A ls Qc free hC hA hR hn hL hE)
theorem z_dup {va : Value} (hd : decode M.2.1 pc = .ok (.dup, 1)) (pc' : Nat) (he : pc + 1 = pc') (hva : va.category = 1) (k : Z l D M mc ms Q hp cu su pc' lv (va :: va :: rest)) : Z l D M mc ms Q hp cu su pc lv (va :: rest) := by
  subst he
  intro p e s m args below meth c H locs A ls Qc free hC hA hR hn hL hE
  exact lv_dup hC.1 hC.2.1 hd hva (k p e s m args below meth c H locs A ls Qc free hC hA hR hn hL hE)
theorem z_pop {va : Value} (hd : decode M.2.1 pc = .ok (.pop, 1)) (pc' : Nat) (he : pc + 1 = pc') (hva : va.category = 1) (k : Z l D M mc ms Q hp cu su pc' lv (rest)) : Z l D M mc ms Q hp cu su pc lv (va :: rest) := by
  subst he
  intro p e s m args below meth c H locs A ls Qc free hC hA hR hn hL hE
  exact lv_pop hC.1 hC.2.1 hd hva (k p e s m args below meth c H locs A ls Qc free hC hA hR hn hL hE)
theorem z_dup_x1 {va vb : Value} (hd : decode M.2.1 pc = .ok (.dup_x1, 1)) (pc' : Nat) (he : pc + 1 = pc') (hva : va.category = 1) (hvb : vb.category = 1) (k : Z l D M mc ms Q hp cu su pc' lv (va :: vb :: va :: rest)) : Z l D M mc ms Q hp cu su pc lv (va :: vb :: rest) := by
  subst he
  intro p e s m args below meth c H locs A ls Qc free hC hA hR hn hL hE
  exact lv_dup_x1 hC.1 hC.2.1 hd hva hvb (k p e s m args below meth c H locs A ls Qc free hC hA hR hn hL hE)
theorem z_dup_x2 {va vb vc : Value} (hd : decode M.2.1 pc = .ok (.dup_x2, 1)) (pc' : Nat) (he : pc + 1 = pc') (hva : va.category = 1) (hvb : vb.category = 1) (hvc : vc.category = 1) (k : Z l D M mc ms Q hp cu su pc' lv (va :: vb :: vc :: va :: rest)) : Z l D M mc ms Q hp cu su pc lv (va :: vb :: vc :: rest) := by
  subst he
  intro p e s m args below meth c H locs A ls Qc free hC hA hR hn hL hE
  exact lv_dup_x2 hC.1 hC.2.1 hd hva hvb hvc (k p e s m args below meth c H locs A ls Qc free hC hA hR hn hL hE)
theorem z_dup2 {va vb : Value} (hd : decode M.2.1 pc = .ok (.dup2, 1)) (pc' : Nat) (he : pc + 1 = pc') (hva : va.category = 1) (hvb : vb.category = 1) (k : Z l D M mc ms Q hp cu su pc' lv (va :: vb :: va :: vb :: rest)) : Z l D M mc ms Q hp cu su pc lv (va :: vb :: rest) := by
  subst he
  intro p e s m args below meth c H locs A ls Qc free hC hA hR hn hL hE
  exact lv_dup2_11 hC.1 hC.2.1 hd hva hvb (k p e s m args below meth c H locs A ls Qc free hC hA hR hn hL hE)
theorem z_if_eq {x : Int32} {off : Int} {tgt : Nat} (hd : decode M.2.1 pc = .ok (.ifCond .eq off, 3)) (pc' : Nat) (he : pc + 3 = pc') (ht : (pc : Int) + off = (tgt : Int)) (kt : x = 0 → Z l D M mc ms Q hp cu su tgt lv rest) (kf : ¬ x = 0 → Z l D M mc ms Q hp cu su pc' lv rest) : Z l D M mc ms Q hp cu su pc lv (.int x :: rest) := by
  subst he
  intro p e s m args below meth c H locs A ls Qc free hC hA hR hn hL hE
  exact lv_if_eq hC.1 hC.2.1 hd ht (fun h => kt h p e s m args below meth c H locs A ls Qc free hC hA hR hn hL hE) (fun h => kf h p e s m args below meth c H locs A ls Qc free hC hA hR hn hL hE)
theorem z_icmp_eq {x y : Int32} {off : Int} {tgt : Nat} (hd : decode M.2.1 pc = .ok (.if_icmp .eq off, 3)) (pc' : Nat) (he : pc + 3 = pc') (ht : (pc : Int) + off = (tgt : Int)) (kt : x = y → Z l D M mc ms Q hp cu su tgt lv rest) (kf : ¬ x = y → Z l D M mc ms Q hp cu su pc' lv rest) : Z l D M mc ms Q hp cu su pc lv (.int y :: .int x :: rest) := by
  subst he
  intro p e s m args below meth c H locs A ls Qc free hC hA hR hn hL hE
  exact lv_icmp_eq hC.1 hC.2.1 hd ht (fun h => kt h p e s m args below meth c H locs A ls Qc free hC hA hR hn hL hE) (fun h => kf h p e s m args below meth c H locs A ls Qc free hC hA hR hn hL hE)
theorem z_if_ne {x : Int32} {off : Int} {tgt : Nat} (hd : decode M.2.1 pc = .ok (.ifCond .ne off, 3)) (pc' : Nat) (he : pc + 3 = pc') (ht : (pc : Int) + off = (tgt : Int)) (kt : ¬ x = 0 → Z l D M mc ms Q hp cu su tgt lv rest) (kf : x = 0 → Z l D M mc ms Q hp cu su pc' lv rest) : Z l D M mc ms Q hp cu su pc lv (.int x :: rest) := by
  subst he
  intro p e s m args below meth c H locs A ls Qc free hC hA hR hn hL hE
  exact lv_if_ne hC.1 hC.2.1 hd ht (fun h => kt h p e s m args below meth c H locs A ls Qc free hC hA hR hn hL hE) (fun h => kf h p e s m args below meth c H locs A ls Qc free hC hA hR hn hL hE)
theorem z_icmp_ne {x y : Int32} {off : Int} {tgt : Nat} (hd : decode M.2.1 pc = .ok (.if_icmp .ne off, 3)) (pc' : Nat) (he : pc + 3 = pc') (ht : (pc : Int) + off = (tgt : Int)) (kt : ¬ x = y → Z l D M mc ms Q hp cu su tgt lv rest) (kf : x = y → Z l D M mc ms Q hp cu su pc' lv rest) : Z l D M mc ms Q hp cu su pc lv (.int y :: .int x :: rest) := by
  subst he
  intro p e s m args below meth c H locs A ls Qc free hC hA hR hn hL hE
  exact lv_icmp_ne hC.1 hC.2.1 hd ht (fun h => kt h p e s m args below meth c H locs A ls Qc free hC hA hR hn hL hE) (fun h => kf h p e s m args below meth c H locs A ls Qc free hC hA hR hn hL hE)
theorem z_if_lt {x : Int32} {off : Int} {tgt : Nat} (hd : decode M.2.1 pc = .ok (.ifCond .lt off, 3)) (pc' : Nat) (he : pc + 3 = pc') (ht : (pc : Int) + off = (tgt : Int)) (kt : x < 0 → Z l D M mc ms Q hp cu su tgt lv rest) (kf : ¬ x < 0 → Z l D M mc ms Q hp cu su pc' lv rest) : Z l D M mc ms Q hp cu su pc lv (.int x :: rest) := by
  subst he
  intro p e s m args below meth c H locs A ls Qc free hC hA hR hn hL hE
  exact lv_if_lt hC.1 hC.2.1 hd ht (fun h => kt h p e s m args below meth c H locs A ls Qc free hC hA hR hn hL hE) (fun h => kf h p e s m args below meth c H locs A ls Qc free hC hA hR hn hL hE)
theorem z_icmp_lt {x y : Int32} {off : Int} {tgt : Nat} (hd : decode M.2.1 pc = .ok (.if_icmp .lt off, 3)) (pc' : Nat) (he : pc + 3 = pc') (ht : (pc : Int) + off = (tgt : Int)) (kt : x < y → Z l D M mc ms Q hp cu su tgt lv rest) (kf : ¬ x < y → Z l D M mc ms Q hp cu su pc' lv rest) : Z l D M mc ms Q hp cu su pc lv (.int y :: .int x :: rest) := by
  subst he
  intro p e s m args below meth c H locs A ls Qc free hC hA hR hn hL hE
  exact lv_icmp_lt hC.1 hC.2.1 hd ht (fun h => kt h p e s m args below meth c H locs A ls Qc free hC hA hR hn hL hE) (fun h => kf h p e s m args below meth c H locs A ls Qc free hC hA hR hn hL hE)
theorem z_if_ge {x : Int32} {off : Int} {tgt : Nat} (hd : decode M.2.1 pc = .ok (.ifCond .ge off, 3)) (pc' : Nat) (he : pc + 3 = pc') (ht : (pc : Int) + off = (tgt : Int)) (kt : 0 ≤ x → Z l D M mc ms Q hp cu su tgt lv rest) (kf : ¬ 0 ≤ x → Z l D M mc ms Q hp cu su pc' lv rest) : Z l D M mc ms Q hp cu su pc lv (.int x :: rest) := by
  subst he
  intro p e s m args below meth c H locs A ls Qc free hC hA hR hn hL hE
  exact lv_if_ge hC.1 hC.2.1 hd ht (fun h => kt h p e s m args below meth c H locs A ls Qc free hC hA hR hn hL hE) (fun h => kf h p e s m args below meth c H locs A ls Qc free hC hA hR hn hL hE)
theorem z_icmp_ge {x y : Int32} {off : Int} {tgt : Nat} (hd : decode M.2.1 pc = .ok (.if_icmp .ge off, 3)) (pc' : Nat) (he : pc + 3 = pc') (ht : (pc : Int) + off = (tgt : Int)) (kt : y ≤ x → Z l D M mc ms Q hp cu su tgt lv rest) (kf : ¬ y ≤ x → Z l D M mc ms Q hp cu su pc' lv rest) : Z l D M mc ms Q hp cu su pc lv (.int y :: .int x :: rest) := by
  subst he
  intro p e s m args below meth c H locs A ls Qc free hC hA hR hn hL hE
  exact lv_icmp_ge hC.1 hC.2.1 hd ht (fun h => kt h p e s m args below meth c H locs A ls Qc free hC hA hR hn hL hE) (fun h => kf h p e s m args below meth c H locs A ls Qc free hC hA hR hn hL hE)
theorem z_if_gt {x : Int32} {off : Int} {tgt : Nat} (hd : decode M.2.1 pc = .ok (.ifCond .gt off, 3)) (pc' : Nat) (he : pc + 3 = pc') (ht : (pc : Int) + off = (tgt : Int)) (kt : 0 < x → Z l D M mc ms Q hp cu su tgt lv rest) (kf : ¬ 0 < x → Z l D M mc ms Q hp cu su pc' lv rest) : Z l D M mc ms Q hp cu su pc lv (.int x :: rest) := by
  subst he
  intro p e s m args below meth c H locs A ls Qc free hC hA hR hn hL hE
  exact lv_if_gt hC.1 hC.2.1 hd ht (fun h => kt h p e s m args below meth c H locs A ls Qc free hC hA hR hn hL hE) (fun h => kf h p e s m args below meth c H locs A ls Qc free hC hA hR hn hL hE)
theorem z_icmp_gt {x y : Int32} {off : Int} {tgt : Nat} (hd : decode M.2.1 pc = .ok (.if_icmp .gt off, 3)) (pc' : Nat) (he : pc + 3 = pc') (ht : (pc : Int) + off = (tgt : Int)) (kt : y < x → Z l D M mc ms Q hp cu su tgt lv rest) (kf : ¬ y < x → Z l D M mc ms Q hp cu su pc' lv rest) : Z l D M mc ms Q hp cu su pc lv (.int y :: .int x :: rest) := by
  subst he
  intro p e s m args below meth c H locs A ls Qc free hC hA hR hn hL hE
  exact lv_icmp_gt hC.1 hC.2.1 hd ht (fun h => kt h p e s m args below meth c H locs A ls Qc free hC hA hR hn hL hE) (fun h => kf h p e s m args below meth c H locs A ls Qc free hC hA hR hn hL hE)
theorem z_if_le {x : Int32} {off : Int} {tgt : Nat} (hd : decode M.2.1 pc = .ok (.ifCond .le off, 3)) (pc' : Nat) (he : pc + 3 = pc') (ht : (pc : Int) + off = (tgt : Int)) (kt : x ≤ 0 → Z l D M mc ms Q hp cu su tgt lv rest) (kf : ¬ x ≤ 0 → Z l D M mc ms Q hp cu su pc' lv rest) : Z l D M mc ms Q hp cu su pc lv (.int x :: rest) := by
  subst he
  intro p e s m args below meth c H locs A ls Qc free hC hA hR hn hL hE
  exact lv_if_le hC.1 hC.2.1 hd ht (fun h => kt h p e s m args below meth c H locs A ls Qc free hC hA hR hn hL hE) (fun h => kf h p e s m args below meth c H locs A ls Qc free hC hA hR hn hL hE)
theorem z_icmp_le {x y : Int32} {off : Int} {tgt : Nat} (hd : decode M.2.1 pc = .ok (.if_icmp .le off, 3)) (pc' : Nat) (he : pc + 3 = pc') (ht : (pc : Int) + off = (tgt : Int)) (kt : x ≤ y → Z l D M mc ms Q hp cu su tgt lv rest) (kf : ¬ x ≤ y → Z l D M mc ms Q hp cu su pc' lv rest) : Z l D M mc ms Q hp cu su pc lv (.int y :: .int x :: rest) := by
  subst he
  intro p e s m args below meth c H locs A ls Qc free hC hA hR hn hL hE
  exact lv_icmp_le hC.1 hC.2.1 hd ht (fun h => kt h p e s m args below meth c H locs A ls Qc free hC hA hR hn hL hE) (fun h => kf h p e s m args below meth c H locs A ls Qc free hC hA hR hn hL hE)
theorem z_acmp_eq {rx ry : Option Nat} {off : Int} {tgt : Nat} (hd : decode M.2.1 pc = .ok (.if_acmp .eq off, 3)) (pc' : Nat) (he : pc + 3 = pc') (ht : (pc : Int) + off = (tgt : Int)) (kt : rx = ry → Z l D M mc ms Q hp cu su tgt lv rest) (kf : ¬ rx = ry → Z l D M mc ms Q hp cu su pc' lv rest) : Z l D M mc ms Q hp cu su pc lv (va_rf ry :: va_rf rx :: rest) := by
  subst he
  intro p e s m args below meth c H locs A ls Qc free hC hA hR hn hL hE
  exact lv_acmp_eq hC.1 hC.2.1 hd ht (fun h => kt h p e s m args below meth c H locs A ls Qc free hC hA hR hn hL hE) (fun h => kf h p e s m args below meth c H locs A ls Qc free hC hA hR hn hL hE)
theorem z_acmp_ne {rx ry : Option Nat} {off : Int} {tgt : Nat} (hd : decode M.2.1 pc = .ok (.if_acmp .ne off, 3)) (pc' : Nat) (he : pc + 3 = pc') (ht : (pc : Int) + off = (tgt : Int)) (kt : ¬ rx = ry → Z l D M mc ms Q hp cu su tgt lv rest) (kf : rx = ry → Z l D M mc ms Q hp cu su pc' lv rest) : Z l D M mc ms Q hp cu su pc lv (va_rf ry :: va_rf rx :: rest) := by
  subst he
  intro p e s m args below meth c H locs A ls Qc free hC hA hR hn hL hE
  exact lv_acmp_ne hC.1 hC.2.1 hd ht (fun h => kt h p e s m args below meth c H locs A ls Qc free hC hA hR hn hL hE) (fun h => kf h p e s m args below meth c H locs A ls Qc free hC hA hR hn hL hE)
theorem z_goto {off : Int} {tgt : Nat} (hd : decode M.2.1 pc = .ok (.goto off, 3)) (ht : (pc : Int) + off = (tgt : Int)) (k : Z l D M mc ms Q hp cu su tgt lv rest) : Z l D M mc ms Q hp cu su pc lv rest := by
  intro p e s m args below meth c H locs A ls Qc free hC hA hR hn hL hE
  exact lv_goto hC.1 hC.2.1 hd ht (k p e s m args below meth c H locs A ls Qc free hC hA hR hn hL hE)
theorem z_ifnull {r : Option Nat} {off : Int} {tgt : Nat} (hd : decode M.2.1 pc = .ok (.ifnull off, 3)) (pc' : Nat) (he : pc + 3 = pc') (ht : (pc : Int) + off = (tgt : Int)) (kt : r = none → Z l D M mc ms Q hp cu su tgt lv rest) (kf : ∀ a, r = some a → Z l D M mc ms Q hp cu su pc' lv rest) : Z l D M mc ms Q hp cu su pc lv (va_rf r :: rest) := by
  subst he
  intro p e s m args below meth c H locs A ls Qc free hC hA hR hn hL hE
  cases r with
  | none => exact lv_ifnullN hC.1 hC.2.1 hd ht (kt rfl p e s m args below meth c H locs A ls Qc free hC hA hR hn hL hE)
  | some a => exact lv_ifnull hC.1 hC.2.1 hd (kf a rfl p e s m args below meth c H locs A ls Qc free hC hA hR hn hL hE)
theorem z_ifnonnull {r : Option Nat} {off : Int} {tgt : Nat} (hd : decode M.2.1 pc = .ok (.ifnonnull off, 3)) (pc' : Nat) (he : pc + 3 = pc') (ht : (pc : Int) + off = (tgt : Int)) (kt : ∀ a, r = some a → Z l D M mc ms Q hp cu su tgt lv rest) (kf : r = none → Z l D M mc ms Q hp cu su pc' lv rest) : Z l D M mc ms Q hp cu su pc lv (va_rf r :: rest) := by
  subst he
  intro p e s m args below meth c H locs A ls Qc free hC hA hR hn hL hE
  cases r with
  | none => exact lv_ifnonnullN hC.1 hC.2.1 hd (kf rfl p e s m args below meth c H locs A ls Qc free hC hA hR hn hL hE)
  | some a => exact lv_ifnonnull hC.1 hC.2.1 hd ht (kt a rfl p e s m args below meth c H locs A ls Qc free hC hA hR hn hL hE)
theorem z_ldc {index : Nat} {v : Int32} (hd : decode M.2.1 pc = .ok (.ldc index, 2)) (pc' : Nat) (he : pc + 2 = pc') (hw : Jvm.Cond.constant M.1.cls index v ∈ zT) (k : Z l D M mc ms Q hp cu su pc' lv (.int v :: rest)) : Z l D M mc ms Q hp cu su pc lv rest := by
  subst he
  intro p e s m args below meth c H locs A ls Qc free hC hA hR hn hL hE
  exact lv_ldc hC.1 hC.2.1 hC.2.2.2.1 (hC.2.2.2.2.1 _ (List.mem_cons_of_mem _ hw)) hd (k p e s m args below meth c H locs A ls Qc free hC hA hR hn hL hE)
theorem z_ldcw {index : Nat} {v : Int32} (hd : decode M.2.1 pc = .ok (.ldc_w index, 3)) (pc' : Nat) (he : pc + 3 = pc') (hw : Jvm.Cond.constant M.1.cls index v ∈ zT) (k : Z l D M mc ms Q hp cu su pc' lv (.int v :: rest)) : Z l D M mc ms Q hp cu su pc lv rest := by
  subst he
  intro p e s m args below meth c H locs A ls Qc free hC hA hR hn hL hE
  exact lv_ldcw hC.1 hC.2.1 hC.2.2.2.1 (hC.2.2.2.2.1 _ (List.mem_cons_of_mem _ hw)) hd (k p e s m args below meth c H locs A ls Qc free hC hA hR hn hL hE)
theorem z_ldc2 {index : Nat} {v : Int64} (hd : decode M.2.1 pc = .ok (.ldc2_w index, 3)) (pc' : Nat) (he : pc + 3 = pc') (hw : Jvm.Cond.constantLong M.1.cls index v ∈ zT) (k : Z l D M mc ms Q hp cu su pc' lv (.long v :: rest)) : Z l D M mc ms Q hp cu su pc lv rest := by
  subst he
  intro p e s m args below meth c H locs A ls Qc free hC hA hR hn hL hE
  exact lv_ldc2 hC.1 hC.2.1 hC.2.2.2.1 (hC.2.2.2.2.1 _ (List.mem_cons_of_mem _ hw)) hd (k p e s m args below meth c H locs A ls Qc free hC hA hR hn hL hE)
theorem z_iload_n {q : Fin 4} {i : Nat} {x : Int32} (hd : decode M.2.1 pc = .ok (.iload_n q, 1)) (pc' : Nat) (he : pc + 1 = pc') (hi : (q : Nat) = i) (hv : lv[i]? = some (some (.int x))) (k : Z l D M mc ms Q hp cu su pc' lv (.int x :: rest)) : Z l D M mc ms Q hp cu su pc lv rest := by
  subst he
  intro p e s m args below meth c H locs A ls Qc free hC hA hR hn hL hE
  exact lv_iload_n hC.1 hC.2.1 hd hi (zL_get hL hv) (k p e s m args below meth c H locs A ls Qc free hC hA hR hn hL hE)
theorem z_iload {i : Nat} {x : Int32} (hd : decode M.2.1 pc = .ok (.iload i, 2)) (pc' : Nat) (he : pc + 2 = pc') (hv : lv[i]? = some (some (.int x))) (k : Z l D M mc ms Q hp cu su pc' lv (.int x :: rest)) : Z l D M mc ms Q hp cu su pc lv rest := by
  subst he
  intro p e s m args below meth c H locs A ls Qc free hC hA hR hn hL hE
  exact lv_iload hC.1 hC.2.1 hd (zL_get hL hv) (k p e s m args below meth c H locs A ls Qc free hC hA hR hn hL hE)
theorem z_lload_n {q : Fin 4} {i : Nat} {x : Int64} (hd : decode M.2.1 pc = .ok (.lload_n q, 1)) (pc' : Nat) (he : pc + 1 = pc') (hi : (q : Nat) = i) (hv : lv[i]? = some (some (.long x))) (k : Z l D M mc ms Q hp cu su pc' lv (.long x :: rest)) : Z l D M mc ms Q hp cu su pc lv rest := by
  subst he
  intro p e s m args below meth c H locs A ls Qc free hC hA hR hn hL hE
  exact lv_lload_n hC.1 hC.2.1 hd hi (zL_get hL hv) (k p e s m args below meth c H locs A ls Qc free hC hA hR hn hL hE)
theorem z_lload {i : Nat} {x : Int64} (hd : decode M.2.1 pc = .ok (.lload i, 2)) (pc' : Nat) (he : pc + 2 = pc') (hv : lv[i]? = some (some (.long x))) (k : Z l D M mc ms Q hp cu su pc' lv (.long x :: rest)) : Z l D M mc ms Q hp cu su pc lv rest := by
  subst he
  intro p e s m args below meth c H locs A ls Qc free hC hA hR hn hL hE
  exact lv_lload hC.1 hC.2.1 hd (zL_get hL hv) (k p e s m args below meth c H locs A ls Qc free hC hA hR hn hL hE)
theorem z_aload_n {q : Fin 4} {i : Nat} {x : Nat} (hd : decode M.2.1 pc = .ok (.aload_n q, 1)) (pc' : Nat) (he : pc + 1 = pc') (hi : (q : Nat) = i) (hv : lv[i]? = some (some (.ref x))) (k : Z l D M mc ms Q hp cu su pc' lv (.ref x :: rest)) : Z l D M mc ms Q hp cu su pc lv rest := by
  subst he
  intro p e s m args below meth c H locs A ls Qc free hC hA hR hn hL hE
  exact lv_aload_n hC.1 hC.2.1 hd hi (zL_get hL hv) (k p e s m args below meth c H locs A ls Qc free hC hA hR hn hL hE)
theorem z_aload {i : Nat} {x : Nat} (hd : decode M.2.1 pc = .ok (.aload i, 2)) (pc' : Nat) (he : pc + 2 = pc') (hv : lv[i]? = some (some (.ref x))) (k : Z l D M mc ms Q hp cu su pc' lv (.ref x :: rest)) : Z l D M mc ms Q hp cu su pc lv rest := by
  subst he
  intro p e s m args below meth c H locs A ls Qc free hC hA hR hn hL hE
  exact lv_aload hC.1 hC.2.1 hd (zL_get hL hv) (k p e s m args below meth c H locs A ls Qc free hC hA hR hn hL hE)
theorem z_aload_nN {q : Fin 4} {i : Nat} (hd : decode M.2.1 pc = .ok (.aload_n q, 1)) (pc' : Nat) (he : pc + 1 = pc') (hi : (q : Nat) = i) (hv : lv[i]? = some (some .null)) (k : Z l D M mc ms Q hp cu su pc' lv (.null :: rest)) : Z l D M mc ms Q hp cu su pc lv rest := by
  subst he
  intro p e s m args below meth c H locs A ls Qc free hC hA hR hn hL hE
  exact lv_aload_nN hC.1 hC.2.1 hd hi (zL_get hL hv) (k p e s m args below meth c H locs A ls Qc free hC hA hR hn hL hE)
theorem z_aloadN {i : Nat} (hd : decode M.2.1 pc = .ok (.aload i, 2)) (pc' : Nat) (he : pc + 2 = pc') (hv : lv[i]? = some (some .null)) (k : Z l D M mc ms Q hp cu su pc' lv (.null :: rest)) : Z l D M mc ms Q hp cu su pc lv rest := by
  subst he
  intro p e s m args below meth c H locs A ls Qc free hC hA hR hn hL hE
  exact lv_aloadN hC.1 hC.2.1 hd (zL_get hL hv) (k p e s m args below meth c H locs A ls Qc free hC hA hR hn hL hE)
theorem z_aload_nq {q : Fin 4} {i : Nat} {r : Option Nat} (hd : decode M.2.1 pc = .ok (.aload_n q, 1)) (pc' : Nat) (he : pc + 1 = pc') (hi : (q : Nat) = i) (hv : lv[i]? = some (some (va_rf r))) (k : Z l D M mc ms Q hp cu su pc' lv (va_rf r :: rest)) : Z l D M mc ms Q hp cu su pc lv rest := by
  subst he
  cases r with
  | none => exact z_aload_nN hd _ rfl hi hv k
  | some a => exact z_aload_n hd _ rfl hi hv k
theorem z_aloadq {i : Nat} {r : Option Nat} (hd : decode M.2.1 pc = .ok (.aload i, 2)) (pc' : Nat) (he : pc + 2 = pc') (hv : lv[i]? = some (some (va_rf r))) (k : Z l D M mc ms Q hp cu su pc' lv (va_rf r :: rest)) : Z l D M mc ms Q hp cu su pc lv rest := by
  subst he
  cases r with
  | none => exact z_aloadN hd _ rfl hv k
  | some a => exact z_aload hd _ rfl hv k
theorem z_istore_n {q : Fin 4} {i : Nat} {x : Int32} (hd : decode M.2.1 pc = .ok (.istore_n q, 1)) (pc' : Nat) (he : pc + 1 = pc') (hi : (q : Nat) = i) (h1 : zn1 lv i = true) (hi9 : i < lv.length) (k : Z l D M mc ms Q hp cu su pc' (lv.set i (some (.int x))) rest) : Z l D M mc ms Q hp cu su pc lv (.int x :: rest) := by
  subst he
  intro p e s m args below meth c H locs A ls Qc free hC hA hR hn hL hE
  exact lv_istore_n hC.1 hC.2.1 hd hi hL hi9 rfl (fun ls' h' => k p e s m args below meth c H locs A ls' Qc free hC hA hR (by simpa using hn) (zL_set1 rfl hi9 h1 h') hE)
theorem z_istore {i : Nat} {x : Int32} (hd : decode M.2.1 pc = .ok (.istore i, 2)) (pc' : Nat) (he : pc + 2 = pc') (h1 : zn1 lv i = true) (hi9 : i < lv.length) (k : Z l D M mc ms Q hp cu su pc' (lv.set i (some (.int x))) rest) : Z l D M mc ms Q hp cu su pc lv (.int x :: rest) := by
  subst he
  intro p e s m args below meth c H locs A ls Qc free hC hA hR hn hL hE
  exact lv_istore hC.1 hC.2.1 hd hL hi9 rfl (fun ls' h' => k p e s m args below meth c H locs A ls' Qc free hC hA hR (by simpa using hn) (zL_set1 rfl hi9 h1 h') hE)
theorem z_astore_n {q : Fin 4} {i : Nat} {x : Nat} (hd : decode M.2.1 pc = .ok (.astore_n q, 1)) (pc' : Nat) (he : pc + 1 = pc') (hi : (q : Nat) = i) (h1 : zn1 lv i = true) (hi9 : i < lv.length) (k : Z l D M mc ms Q hp cu su pc' (lv.set i (some (.ref x))) rest) : Z l D M mc ms Q hp cu su pc lv (.ref x :: rest) := by
  subst he
  intro p e s m args below meth c H locs A ls Qc free hC hA hR hn hL hE
  exact lv_astore_n hC.1 hC.2.1 hd hi hL hi9 rfl (fun ls' h' => k p e s m args below meth c H locs A ls' Qc free hC hA hR (by simpa using hn) (zL_set1 rfl hi9 h1 h') hE)
theorem z_astore {i : Nat} {x : Nat} (hd : decode M.2.1 pc = .ok (.astore i, 2)) (pc' : Nat) (he : pc + 2 = pc') (h1 : zn1 lv i = true) (hi9 : i < lv.length) (k : Z l D M mc ms Q hp cu su pc' (lv.set i (some (.ref x))) rest) : Z l D M mc ms Q hp cu su pc lv (.ref x :: rest) := by
  subst he
  intro p e s m args below meth c H locs A ls Qc free hC hA hR hn hL hE
  exact lv_astore hC.1 hC.2.1 hd hL hi9 rfl (fun ls' h' => k p e s m args below meth c H locs A ls' Qc free hC hA hR (by simpa using hn) (zL_set1 rfl hi9 h1 h') hE)
theorem z_astore_nN {q : Fin 4} {i : Nat} (hd : decode M.2.1 pc = .ok (.astore_n q, 1)) (pc' : Nat) (he : pc + 1 = pc') (hi : (q : Nat) = i) (h1 : zn1 lv i = true) (hi9 : i < lv.length) (k : Z l D M mc ms Q hp cu su pc' (lv.set i (some .null)) rest) : Z l D M mc ms Q hp cu su pc lv (.null :: rest) := by
  subst he
  intro p e s m args below meth c H locs A ls Qc free hC hA hR hn hL hE
  exact lv_astore_nN hC.1 hC.2.1 hd hi hL hi9 rfl (fun ls' h' => k p e s m args below meth c H locs A ls' Qc free hC hA hR (by simpa using hn) (zL_set1 rfl hi9 h1 h') hE)
theorem z_astore_nq {q : Fin 4} {i : Nat} {r : Option Nat} (hd : decode M.2.1 pc = .ok (.astore_n q, 1)) (pc' : Nat) (he : pc + 1 = pc') (hi : (q : Nat) = i) (h1 : zn1 lv i = true) (hi9 : i < lv.length) (k : Z l D M mc ms Q hp cu su pc' (lv.set i (some (va_rf r))) rest) : Z l D M mc ms Q hp cu su pc lv (va_rf r :: rest) := by
  subst he
  cases r with
  | none => exact z_astore_nN hd _ rfl hi h1 hi9 k
  | some a => exact z_astore_n hd _ rfl hi h1 hi9 k
theorem z_astoreN {i : Nat} (hd : decode M.2.1 pc = .ok (.astore i, 2)) (pc' : Nat) (he : pc + 2 = pc') (h1 : zn1 lv i = true) (hi9 : i < lv.length) (k : Z l D M mc ms Q hp cu su pc' (lv.set i (some .null)) rest) : Z l D M mc ms Q hp cu su pc lv (.null :: rest) := by
  subst he
  intro p e s m args below meth c H locs A ls Qc free hC hA hR hn hL hE
  exact lv_astoreN hC.1 hC.2.1 hd hL hi9 rfl (fun ls' h' => k p e s m args below meth c H locs A ls' Qc free hC hA hR (by simpa using hn) (zL_set1 rfl hi9 h1 h') hE)
theorem z_astoreq {i : Nat} {r : Option Nat} (hd : decode M.2.1 pc = .ok (.astore i, 2)) (pc' : Nat) (he : pc + 2 = pc') (h1 : zn1 lv i = true) (hi9 : i < lv.length) (k : Z l D M mc ms Q hp cu su pc' (lv.set i (some (va_rf r))) rest) : Z l D M mc ms Q hp cu su pc lv (va_rf r :: rest) := by
  subst he
  cases r with
  | none => exact z_astoreN hd _ rfl h1 hi9 k
  | some a => exact z_astore hd _ rfl h1 hi9 k
theorem z_lstore_n {q : Fin 4} {i : Nat} {x : Int64} (hd : decode M.2.1 pc = .ok (.lstore_n q, 1)) (pc' : Nat) (he : pc + 1 = pc') (hi : (q : Nat) = i) (h1 : zn1 lv i = true) (hi9 : i + 1 < lv.length) (k : Z l D M mc ms Q hp cu su pc' ((lv.set i (some (.long x))).set (i + 1) none) rest) : Z l D M mc ms Q hp cu su pc lv (.long x :: rest) := by
  subst he
  intro p e s m args below meth c H locs A ls Qc free hC hA hR hn hL hE
  exact lv_lstore_n hC.1 hC.2.1 hd hi hL hi9 rfl (fun ls' h' => k p e s m args below meth c H locs A ls' Qc free hC hA hR (by simpa using hn) (zL_set2 rfl hi9 h1 h') hE)
theorem z_lstore {i : Nat} {x : Int64} (hd : decode M.2.1 pc = .ok (.lstore i, 2)) (pc' : Nat) (he : pc + 2 = pc') (h1 : zn1 lv i = true) (hi9 : i + 1 < lv.length) (k : Z l D M mc ms Q hp cu su pc' ((lv.set i (some (.long x))).set (i + 1) none) rest) : Z l D M mc ms Q hp cu su pc lv (.long x :: rest) := by
  subst he
  intro p e s m args below meth c H locs A ls Qc free hC hA hR hn hL hE
  exact lv_lstore hC.1 hC.2.1 hd hL hi9 rfl (fun ls' h' => k p e s m args below meth c H locs A ls' Qc free hC hA hR (by simpa using hn) (zL_set2 rfl hi9 h1 h') hE)
theorem z_iinc {i : Nat} {n : Int} {x v : Int32} (hd : decode M.2.1 pc = .ok (.iinc i n, 3)) (pc' : Nat) (he : pc + 3 = pc') (hx : lv[i]? = some (some (.int x))) (hv : x + Int32.ofInt n = v) (h1 : zn1 lv i = true) (k : Z l D M mc ms Q hp cu su pc' (lv.set i (some (.int v))) rest) : Z l D M mc ms Q hp cu su pc lv rest := by
  subst he
  intro p e s m args below meth c H locs A ls Qc free hC hA hR hn hL hE
  have hi9 : i < lv.length := (List.getElem?_eq_some_iff.mp hx).1
  obtain ⟨k9, hk9⟩ := List.getElem?_of_mem ((zpairs_mem lv 0 i (.int x)).2 ⟨i, by omega, hx⟩)
  exact lv_iinc hC.1 hC.2.1 hd hL hk9 hv hi9 rfl (fun ls' h' => k p e s m args below meth c H locs A ls' Qc free hC hA hR (by simpa using hn) (zL_set1 rfl hi9 h1 h') hE)
theorem z_iret {v : Int32} (hd : decode M.2.1 pc = .ok (.ireturn, 1)) (hr : M.2.2.2.1 = some .int) (hcu : cu ≤ mc) (hsu : su ≤ ms) (hq : Q (some (.int v)) hp) : Z l D M mc ms Q hp cu su pc lv ([.int v]) := by
  intro p e s m args below meth c H locs A ls Qc free hC hA hR hn hL hE
  obtain ⟨h1, h2⟩ := hE _ _ _ _ hR hq
  refine W.widen hcu hsu ?_
  exact W.iret hC.1 hC.2.1 (hC.2.2.2.2.2.2.1.trans hr) h1 h2 hd hC.2.2.2.2.2.1
theorem z_zret {v : Int32} {ty : FieldType} (hd : decode M.2.1 pc = .ok (.ireturn, 1)) (hr : M.2.2.2.1 = some ty) (hnar : narrow ty (.int v) = .int v) (hcu : cu ≤ mc) (hsu : su ≤ ms) (hq : Q (some (.int v)) hp) : Z l D M mc ms Q hp cu su pc lv ([.int v]) := by
  intro p e s m args below meth c H locs A ls Qc free hC hA hR hn hL hE
  obtain ⟨h1, h2⟩ := hE _ _ _ _ hR hq
  refine W.widen hcu hsu ?_
  exact W.zret hC.1 hC.2.1 (hC.2.2.2.2.2.2.1.trans hr) hnar h1 h2 hd hC.2.2.2.2.2.1
theorem z_lret {v : Int64} (hd : decode M.2.1 pc = .ok (.lreturn, 1)) (hr : M.2.2.2.1 = some .long) (hcu : cu ≤ mc) (hsu : su ≤ ms) (hq : Q (some (.long v)) hp) : Z l D M mc ms Q hp cu su pc lv ([.long v]) := by
  intro p e s m args below meth c H locs A ls Qc free hC hA hR hn hL hE
  obtain ⟨h1, h2⟩ := hE _ _ _ _ hR hq
  refine W.widen hcu hsu ?_
  exact W.lret hC.1 hC.2.1 (hC.2.2.2.2.2.2.1.trans hr) h1 h2 hd hC.2.2.2.2.2.1
theorem z_vret (hd : decode M.2.1 pc = .ok (.return_, 1)) (hr : M.2.2.2.1 = none) (hcu : cu ≤ mc) (hsu : su ≤ ms) (hq : Q (none) hp) : Z l D M mc ms Q hp cu su pc lv ([]) := by
  intro p e s m args below meth c H locs A ls Qc free hC hA hR hn hL hE
  obtain ⟨h1, h2⟩ := hE _ _ _ _ hR hq
  refine W.widen hcu hsu ?_
  exact W.vret hC.1 hC.2.1 (hC.2.2.2.2.2.2.1.trans hr) h1 h2 hd hC.2.2.2.2.2.1
theorem z_aret {r : Option Nat} {rt : FieldType} (hd : decode M.2.1 pc = .ok (.areturn, 1)) (hr : M.2.2.2.1 = some rt) (hrt : (∃ n, rt = .object n) ∨ ∃ t, rt = .array t) (hcu : cu ≤ mc) (hsu : su ≤ ms) (hq : Q (some (va_rf r)) hp) : Z l D M mc ms Q hp cu su pc lv ([va_rf r]) := by
  intro p e s m args below meth c H locs A ls Qc free hC hA hR hn hL hE
  obtain ⟨h1, h2⟩ := hE _ _ _ _ hR hq
  refine W.widen hcu hsu ?_
  exact W.aret hC.1 hC.2.1 (hC.2.2.2.2.2.2.1.trans hr) hrt (by cases r with | none => exact Or.inl rfl | some a => exact Or.inr ⟨a, rfl⟩) h1 h2 hd hC.2.2.2.2.2.1
end ZK
