/-! The law: its judgement, as Z with the script beside it; its rows and facts. Own work. -/
def zCL (X : Nat × Nat × (Nat → Int32)) (A : Nat → Prop) (D : zD) (M : zM) (p : Program) (s : State) (m : MethodId) (args : Array Value) (c : Code) : Prop :=
  p.tables.exec = Jvm.exec ∧ c.code = M.2.1 ∧ c.maxLocals = M.2.2.1 ∧ s.vm.findClass M.1.cls = some m.cls ∧ (∀ w ∈ zT, w.before args s = true) ∧ zK D s ∧ va_X X.1 X.2.1 X.2.2 s s.heap ∧ X.1 < s.heap.size ∧ ¬ A X.1
theorem zCL.t {X : Nat × Nat × (Nat → Int32)} {A : Nat → Prop} {D : zD} {M : zM} {p : Program} {s : State} {m : MethodId} {args : Array Value} {c : Code} (h : zCL X A D M p s m args c) : ∀ w ∈ zT, w.before args s = true := h.2.2.2.2.1
theorem zCL.k {X : Nat × Nat × (Nat → Int32)} {A : Nat → Prop} {D : zD} {M : zM} {p : Program} {s : State} {m : MethodId} {args : Array Value} {c : Code} (h : zCL X A D M p s m args c) : zK D s := h.2.2.2.2.2.1
theorem zCL.own {X : Nat × Nat × (Nat → Int32)} {A : Nat → Prop} {D : zD} {M : zM} {p : Program} {s : State} {m : MethodId} {args : Array Value} {c : Code} (h : zCL X A D M p s m args c) : s.vm.findClass M.1.cls = some m.cls := h.2.2.2.1
def ZL (X : Nat × Nat × (Nat → Int32)) (l : Launch) (D : zD) (M : zM) (mc ms : Nat) (Q : zH → Prop) (hp : zH) (cu su pc : Nat) (lv : List (Option Value)) (st : List Value) : Prop :=
  ∀ (p : Program) (e : Env) (s : State) (m : MethodId) (args : Array Value) (below : List Frame) (meth : Method) (c : Code) (H : Heap) (locs : List Loc) (A : Nat → Prop) (ls : Array Slot) (Qc : State → Prop) (free : Unit),
    zCL X A D M p s m args c → (∀ q, s.heap.size ≤ q → A q) → zR D A s.heap hp H locs → lv.length = M.2.2.1 → zL ls lv →
    (∀ (hp' : zH) (H' : Heap) (locs' : List Loc) (ls' : Array Slot) (pc' cu' su' : Nat), zR D A s.heap hp' H' locs' → Q hp' → cu' ≤ mc → su' ≤ ms → decode M.2.1 pc' = .ok (.ireturn, 1) → W p l e (zrm M mc ms) s m args below meth c H' locs' cu' su' Qc (F0 m pc' ls' [.int 1])) →
    W p l e (zrm M mc ms) s m args below meth c H locs cu su Qc (F0 m pc ls st)
theorem zInL {M M' : zM} {n : Nat} (hG : GoodIn zT zT) (hB : zCB M M' n) : GoodIn zT (zw M') := by
  intro w hw
  rcases List.mem_cons.mp hw with rfl | h
  · exact ⟨hB.1, (hG _ hB.1).2⟩
  · exact ⟨h, (hG _ h).2⟩
section ZLR
variable {X : Nat × Nat × (Nat → Int32)} {l : Launch} {D : zD} {M : zM} {mc ms : Nat} {Q : zH → Prop} {hp : zH} {cu su pc : Nat} {lv tl : List (Option Value)} {rest : List Value}
theorem y_ret (hd : decode M.2.1 pc = .ok (.ireturn, 1)) (hcu : cu ≤ mc) (hsu : su ≤ ms) (hq : Q hp) : ZL X l D M mc ms Q hp cu su pc lv [.int 1] := by
  intro p e s m args below meth c H locs A ls Qc free hC hA hR hn hL hE
  exact hE hp H locs ls pc cu su hR hq hcu hsu hd
theorem y_sld {i : Int32} (hd : decode M.2.1 pc = .ok (.iaload, 1)) (pc' : Nat) (he : pc + 1 = pc') (hin : vp_in i X.2.1) (k : ZL X l D M mc ms Q hp cu su pc' lv (.int (X.2.2 i.toNatClampNeg) :: rest)) : ZL X l D M mc ms Q hp cu su pc lv (.int i :: .ref X.1 :: rest) := by
  subst he
  intro p e s m args below meth c H locs A ls Qc free hC hA hR hn hL hE
  obtain ⟨ws, hP, hD, hS, hw⟩ := id hR
  exact va_sld hC.1 hC.2.1 hC.2.2.2.2.2.2.1 hC.2.2.2.2.2.2.2.1 hC.2.2.2.2.2.2.2.2 hS hin hd (k p e s m args below meth c H locs A ls Qc free hC hA hR hn hL hE)
theorem y_slen (hd : decode M.2.1 pc = .ok (.arraylength, 1)) (pc' : Nat) (he : pc + 1 = pc') (k : ZL X l D M mc ms Q hp cu su pc' lv (.int (nI X.2.1) :: rest)) : ZL X l D M mc ms Q hp cu su pc lv (.ref X.1 :: rest) := by
  subst he
  intro p e s m args below meth c H locs A ls Qc free hC hA hR hn hL hE
  obtain ⟨ws, hP, hD, hS, hw⟩ := id hR
  exact va_slen hC.1 hC.2.1 hC.2.2.2.2.2.2.1 hC.2.2.2.2.2.2.2.1 hC.2.2.2.2.2.2.2.2 hS hd (k p e s m args below meth c H locs A ls Qc free hC hA hR hn hL hE)
theorem y_iconst {n : Int} {v : Int32} (hd : decode M.2.1 pc = .ok (.iconst n, 1)) (pc' : Nat) (he : pc + 1 = pc') (hv : Int32.ofInt n = v) (k : ZL X l D M mc ms Q hp cu su pc' lv (.int v :: rest)) : ZL X l D M mc ms Q hp cu su pc lv (rest) := by
  subst he
  intro p e s m args below meth c H locs A ls Qc free hC hA hR hn hL hE
  exact lv_iconst hC.1 hC.2.1 hd hv (k p e s m args below meth c H locs A ls Qc free hC hA hR hn hL hE)
theorem y_bipush {n : Int} {v : Int32} (hd : decode M.2.1 pc = .ok (.bipush n, 2)) (pc' : Nat) (he : pc + 2 = pc') (hv : (Int8.ofInt n).toInt32 = v) (k : ZL X l D M mc ms Q hp cu su pc' lv (.int v :: rest)) : ZL X l D M mc ms Q hp cu su pc lv (rest) := by
  subst he
  intro p e s m args below meth c H locs A ls Qc free hC hA hR hn hL hE
  exact lv_bipush hC.1 hC.2.1 hd hv (k p e s m args below meth c H locs A ls Qc free hC hA hR hn hL hE)
theorem y_iload_n {q : Fin 4} {i : Nat} {x : Int32} (hd : decode M.2.1 pc = .ok (.iload_n q, 1)) (pc' : Nat) (he : pc + 1 = pc') (hi : (q : Nat) = i) (hv : lv[i]? = some (some (.int x))) (k : ZL X l D M mc ms Q hp cu su pc' lv (.int x :: rest)) : ZL X l D M mc ms Q hp cu su pc lv rest := by
  subst he
  intro p e s m args below meth c H locs A ls Qc free hC hA hR hn hL hE
  exact lv_iload_n hC.1 hC.2.1 hd hi (zL_get hL hv) (k p e s m args below meth c H locs A ls Qc free hC hA hR hn hL hE)
theorem y_aload_n {q : Fin 4} {i : Nat} {x : Nat} (hd : decode M.2.1 pc = .ok (.aload_n q, 1)) (pc' : Nat) (he : pc + 1 = pc') (hi : (q : Nat) = i) (hv : lv[i]? = some (some (.ref x))) (k : ZL X l D M mc ms Q hp cu su pc' lv (.ref x :: rest)) : ZL X l D M mc ms Q hp cu su pc lv rest := by
  subst he
  intro p e s m args below meth c H locs A ls Qc free hC hA hR hn hL hE
  exact lv_aload_n hC.1 hC.2.1 hd hi (zL_get hL hv) (k p e s m args below meth c H locs A ls Qc free hC hA hR hn hL hE)
theorem y_astore_n {q : Fin 4} {i : Nat} {x : Nat} (hd : decode M.2.1 pc = .ok (.astore_n q, 1)) (pc' : Nat) (he : pc + 1 = pc') (hi : (q : Nat) = i) (h1 : zn1 lv i = true) (hi9 : i < lv.length) (k : ZL X l D M mc ms Q hp cu su pc' (lv.set i (some (.ref x))) rest) : ZL X l D M mc ms Q hp cu su pc lv (.ref x :: rest) := by
  subst he
  intro p e s m args below meth c H locs A ls Qc free hC hA hR hn hL hE
  exact lv_astore_n hC.1 hC.2.1 hd hi hL hi9 rfl (fun ls' h' => k p e s m args below meth c H locs A ls' Qc free hC hA hR (by simpa using hn) (zL_set1 rfl hi9 h1 h') hE)
theorem y_istore_n {q : Fin 4} {i : Nat} {x : Int32} (hd : decode M.2.1 pc = .ok (.istore_n q, 1)) (pc' : Nat) (he : pc + 1 = pc') (hi : (q : Nat) = i) (h1 : zn1 lv i = true) (hi9 : i < lv.length) (k : ZL X l D M mc ms Q hp cu su pc' (lv.set i (some (.int x))) rest) : ZL X l D M mc ms Q hp cu su pc lv (.int x :: rest) := by
  subst he
  intro p e s m args below meth c H locs A ls Qc free hC hA hR hn hL hE
  exact lv_istore_n hC.1 hC.2.1 hd hi hL hi9 rfl (fun ls' h' => k p e s m args below meth c H locs A ls' Qc free hC hA hR (by simpa using hn) (zL_set1 rfl hi9 h1 h') hE)
theorem y_dup {va : Value} (hd : decode M.2.1 pc = .ok (.dup, 1)) (pc' : Nat) (he : pc + 1 = pc') (hva : va.category = 1) (k : ZL X l D M mc ms Q hp cu su pc' lv (va :: va :: rest)) : ZL X l D M mc ms Q hp cu su pc lv (va :: rest) := by
  subst he
  intro p e s m args below meth c H locs A ls Qc free hC hA hR hn hL hE
  exact lv_dup hC.1 hC.2.1 hd hva (k p e s m args below meth c H locs A ls Qc free hC hA hR hn hL hE)
theorem y_new {index ci N : Nat} {fs : List Value} (hd : decode M.2.1 pc = .ok (.new index, 3)) (pc' : Nat) (he : pc + 3 = pc') (hN : zNew M.1.cls index ci N fs) (hcu : cu + 1 ≤ mc) (hsu : su + N ≤ ms) (kk : ∀ q, hp q = none → ZL X l D M mc ms Q (zset hp q (.inr (ci, fs))) (cu + 1) (su + N) pc' lv (.ref q :: rest)) : ZL X l D M mc ms Q hp cu su pc lv rest := by
  subst he
  intro p e s m args below meth c H locs A ls Qc free hC hA hR hn hL hE
  obtain ⟨ws, hP, hD, hS, hw⟩ := hR
  obtain ⟨C, T, ty, ⟨hc, hin, hty, -⟩, h1, h2, h3, hfs⟩ := hN
  exact va_new hC.1 hC.2.1 hC.t hin ty hty hC.own (hC.t _ h1) (hC.t _ h2) (hC.t _ h3) hC.k.1 hP hD hS hA hc hfs hcu hsu hd (fun q H1 hP1 hD1 hS1 => kk q (zR_push hw hD1).1 p e s m args below meth c H1 locs A ls Qc free hC hA ⟨_, hP1, hD1, hS1, (zR_push hw hD1).2⟩ hn hL hE)
theorem y_goto {off : Int} {tgt : Nat} (hd : decode M.2.1 pc = .ok (.goto off, 3)) (ht : (pc : Int) + off = (tgt : Int)) (k : ZL X l D M mc ms Q hp cu su tgt lv rest) : ZL X l D M mc ms Q hp cu su pc lv rest := by
  intro p e s m args below meth c H locs A ls Qc free hC hA hR hn hL hE
  exact lv_goto hC.1 hC.2.1 hd ht (k p e s m args below meth c H locs A ls Qc free hC hA hR hn hL hE)
theorem y_iinc {i : Nat} {n : Int} {x v : Int32} (hd : decode M.2.1 pc = .ok (.iinc i n, 3)) (pc' : Nat) (he : pc + 3 = pc') (hx : lv[i]? = some (some (.int x))) (hv : x + Int32.ofInt n = v) (h1 : zn1 lv i = true) (k : ZL X l D M mc ms Q hp cu su pc' (lv.set i (some (.int v))) rest) : ZL X l D M mc ms Q hp cu su pc lv rest := by
  subst he
  intro p e s m args below meth c H locs A ls Qc free hC hA hR hn hL hE
  have hi9 : i < lv.length := (List.getElem?_eq_some_iff.mp hx).1
  obtain ⟨k9, hk9⟩ := List.getElem?_of_mem ((zpairs_mem lv 0 i (.int x)).2 ⟨i, by omega, hx⟩)
  exact lv_iinc hC.1 hC.2.1 hd hL hk9 hv hi9 rfl (fun ls' h' => k p e s m args below meth c H locs A ls' Qc free hC hA hR (by simpa using hn) (zL_set1 rfl hi9 h1 h') hE)
theorem y_icmp_gt {x y : Int32} {off : Int} {tgt : Nat} (hd : decode M.2.1 pc = .ok (.if_icmp .gt off, 3)) (pc' : Nat) (he : pc + 3 = pc') (ht : (pc : Int) + off = (tgt : Int)) (kt : y < x → ZL X l D M mc ms Q hp cu su tgt lv rest) (kf : ¬ y < x → ZL X l D M mc ms Q hp cu su pc' lv rest) : ZL X l D M mc ms Q hp cu su pc lv (.int y :: .int x :: rest) := by
  subst he
  intro p e s m args below meth c H locs A ls Qc free hC hA hR hn hL hE
  exact lv_icmp_gt hC.1 hC.2.1 hd ht (fun h => kt h p e s m args below meth c H locs A ls Qc free hC hA hR hn hL hE) (fun h => kf h p e s m args below meth c H locs A ls Qc free hC hA hR hn hL hE)
theorem y_icmp_eq {x y : Int32} {off : Int} {tgt : Nat} (hd : decode M.2.1 pc = .ok (.if_icmp .eq off, 3)) (pc' : Nat) (he : pc + 3 = pc') (ht : (pc : Int) + off = (tgt : Int)) (kt : x = y → ZL X l D M mc ms Q hp cu su tgt lv rest) (kf : ¬ x = y → ZL X l D M mc ms Q hp cu su pc' lv rest) : ZL X l D M mc ms Q hp cu su pc lv (.int y :: .int x :: rest) := by
  subst he
  intro p e s m args below meth c H locs A ls Qc free hC hA hR hn hL hE
  exact lv_icmp_eq hC.1 hC.2.1 hd ht (fun h => kt h p e s m args below meth c H locs A ls Qc free hC hA hR hn hL hE) (fun h => kf h p e s m args below meth c H locs A ls Qc free hC hA hR hn hL hE)
theorem y_iand {x y : Int32} (hd : decode M.2.1 pc = .ok (.iand, 1)) (pc' : Nat) (he : pc + 1 = pc')  (k : ZL X l D M mc ms Q hp cu su pc' lv (.int (x &&& y) :: rest)) : ZL X l D M mc ms Q hp cu su pc lv (.int y :: .int x :: rest) := by
  subst he
  intro p e s m args below meth c H locs A ls Qc free hC hA hR hn hL hE
  exact lv_iand hC.1 hC.2.1 hd  (k p e s m args below meth c H locs A ls Qc free hC hA hR hn hL hE)
theorem y_iadd {x y : Int32} (hd : decode M.2.1 pc = .ok (.iadd, 1)) (pc' : Nat) (he : pc + 1 = pc')  (k : ZL X l D M mc ms Q hp cu su pc' lv (.int (x + y) :: rest)) : ZL X l D M mc ms Q hp cu su pc lv (.int y :: .int x :: rest) := by
  subst he
  intro p e s m args below meth c H locs A ls Qc free hC hA hR hn hL hE
  exact lv_iadd hC.1 hC.2.1 hd  (k p e s m args below meth c H locs A ls Qc free hC hA hR hn hL hE)
theorem y_isub {x y : Int32} (hd : decode M.2.1 pc = .ok (.isub, 1)) (pc' : Nat) (he : pc + 1 = pc')  (k : ZL X l D M mc ms Q hp cu su pc' lv (.int (x - y) :: rest)) : ZL X l D M mc ms Q hp cu su pc lv (.int y :: .int x :: rest) := by
  subst he
  intro p e s m args below meth c H locs A ls Qc free hC hA hR hn hL hE
  exact lv_isub hC.1 hC.2.1 hd  (k p e s m args below meth c H locs A ls Qc free hC hA hR hn hL hE)
theorem y_i2l {x : Int32} {v : Int64} (hd : decode M.2.1 pc = .ok (.i2l, 1)) (pc' : Nat) (he : pc + 1 = pc') (hv : x.toInt64 = v) (k : ZL X l D M mc ms Q hp cu su pc' lv (.long v :: rest)) : ZL X l D M mc ms Q hp cu su pc lv (.int x :: rest) := by
  subst he
  intro p e s m args below meth c H locs A ls Qc free hC hA hR hn hL hE
  exact lv_i2l hC.1 hC.2.1 hd hv (k p e s m args below meth c H locs A ls Qc free hC hA hR hn hL hE)
theorem y_lshl {x v : Int64} {y : Int32} (hd : decode M.2.1 pc = .ok (.lshl, 1)) (pc' : Nat) (he : pc + 1 = pc') (hv : x <<< (y.toInt64 &&& 63) = v) (k : ZL X l D M mc ms Q hp cu su pc' lv (.long v :: rest)) : ZL X l D M mc ms Q hp cu su pc lv (.int y :: .long x :: rest) := by
  subst he
  intro p e s m args below meth c H locs A ls Qc free hC hA hR hn hL hE
  exact lv_lshl hC.1 hC.2.1 hd hv (k p e s m args below meth c H locs A ls Qc free hC hA hR hn hL hE)
theorem y_land {x y : Int64} (hd : decode M.2.1 pc = .ok (.land, 1)) (pc' : Nat) (he : pc + 1 = pc')  (k : ZL X l D M mc ms Q hp cu su pc' lv (.long (x &&& y) :: rest)) : ZL X l D M mc ms Q hp cu su pc lv (.long y :: .long x :: rest) := by
  subst he
  intro p e s m args below meth c H locs A ls Qc free hC hA hR hn hL hE
  exact lv_land hC.1 hC.2.1 hd  (k p e s m args below meth c H locs A ls Qc free hC hA hR hn hL hE)
theorem y_lor {x y : Int64} (hd : decode M.2.1 pc = .ok (.lor, 1)) (pc' : Nat) (he : pc + 1 = pc')  (k : ZL X l D M mc ms Q hp cu su pc' lv (.long (x ||| y) :: rest)) : ZL X l D M mc ms Q hp cu su pc lv (.long y :: .long x :: rest) := by
  subst he
  intro p e s m args below meth c H locs A ls Qc free hC hA hR hn hL hE
  exact lv_lor hC.1 hC.2.1 hd  (k p e s m args below meth c H locs A ls Qc free hC hA hR hn hL hE)
theorem y_ldc2 {index : Nat} {v : Int64} (hd : decode M.2.1 pc = .ok (.ldc2_w index, 3)) (pc' : Nat) (he : pc + 3 = pc') (hw : Jvm.Cond.constantLong M.1.cls index v ∈ zT) (k : ZL X l D M mc ms Q hp cu su pc' lv (.long v :: rest)) : ZL X l D M mc ms Q hp cu su pc lv rest := by
  subst he
  intro p e s m args below meth c H locs A ls Qc free hC hA hR hn hL hE
  exact lv_ldc2 hC.1 hC.2.1 hC.2.2.2.1 (hC.t _ hw) hd (k p e s m args below meth c H locs A ls Qc free hC hA hR hn hL hE)
theorem y_tin {dflt lo hi : Int} {offs : Array Int} {len : Nat} {x : Int32} {off : Int} (tgt : Nat) (hd : decode M.2.1 pc = .ok (.tableswitch dflt lo hi offs, len)) (h1 : ¬ x.toInt < lo) (h2 : ¬ hi < x.toInt) (ho : offs[(x.toInt - lo).toNat]? = some off) (ht : (pc : Int) + off = (tgt : Int)) (k : ZL X l D M mc ms Q hp cu su tgt lv rest) : ZL X l D M mc ms Q hp cu su pc lv (.int x :: rest) := by
  intro p e s m args below meth c H locs A ls Qc free hC hA hR hn hL hE
  exact lv_tableIn hC.1 hC.2.1 hd h1 h2 ho ht (k p e s m args below meth c H locs A ls Qc free hC hA hR hn hL hE)
theorem y_tout {dflt lo hi : Int} {offs : Array Int} {len : Nat} {x : Int32} (tgt : Nat) (hd : decode M.2.1 pc = .ok (.tableswitch dflt lo hi offs, len)) (h : x.toInt < lo ∨ hi < x.toInt) (ht : (pc : Int) + dflt = (tgt : Int)) (k : ZL X l D M mc ms Q hp cu su tgt lv rest) : ZL X l D M mc ms Q hp cu su pc lv (.int x :: rest) := by
  intro p e s m args below meth c H locs A ls Qc free hC hA hR hn hL hE
  exact lv_tableOut hC.1 hC.2.1 hd h ht (k p e s m args below meth c H locs A ls Qc free hC hA hR hn hL hE)
theorem y_ist3 {x : Int32} {a0 a1 a2 a3 : Option Value} (hd : decode M.2.1 pc = .ok (.istore_n 3, 1)) (pc' : Nat) (he : pc + 1 = pc') (h1 : zn1 (a0 :: a1 :: a2 :: a3 :: tl) 3 = true) (k : ZL X l D M mc ms Q hp cu su pc' (a0 :: a1 :: a2 :: some (.int x) :: tl) rest) : ZL X l D M mc ms Q hp cu su pc (a0 :: a1 :: a2 :: a3 :: tl) (.int x :: rest) :=
  y_istore_n (i := 3) hd pc' he rfl h1 (by simp) k
theorem y_ast1 {x : Nat} {a0 a1 : Option Value} (hd : decode M.2.1 pc = .ok (.astore_n 1, 1)) (pc' : Nat) (he : pc + 1 = pc') (h1 : zn1 (a0 :: a1 :: tl) 1 = true) (k : ZL X l D M mc ms Q hp cu su pc' (a0 :: some (.ref x) :: tl) rest) : ZL X l D M mc ms Q hp cu su pc (a0 :: a1 :: tl) (.ref x :: rest) :=
  y_astore_n (i := 1) hd pc' he rfl h1 (by simp) k
theorem y_ast2 {x : Nat} {a0 a1 a2 : Option Value} (hd : decode M.2.1 pc = .ok (.astore_n 2, 1)) (pc' : Nat) (he : pc + 1 = pc') (h1 : zn1 (a0 :: a1 :: a2 :: tl) 2 = true) (k : ZL X l D M mc ms Q hp cu su pc' (a0 :: a1 :: some (.ref x) :: tl) rest) : ZL X l D M mc ms Q hp cu su pc (a0 :: a1 :: a2 :: tl) (.ref x :: rest) :=
  y_astore_n (i := 2) hd pc' he rfl h1 (by simp) k
theorem y_inc3 {n : Int} {x v : Int32} {a0 a1 a2 : Option Value} (hd : decode M.2.1 pc = .ok (.iinc 3 n, 3)) (pc' : Nat) (he : pc + 3 = pc') (hv : x + Int32.ofInt n = v) (h1 : zn1 (a0 :: a1 :: a2 :: some (.int x) :: tl) 3 = true) (k : ZL X l D M mc ms Q hp cu su pc' (a0 :: a1 :: a2 :: some (.int v) :: tl) rest) : ZL X l D M mc ms Q hp cu su pc (a0 :: a1 :: a2 :: some (.int x) :: tl) rest :=
  y_iinc (i := 3) hd pc' he rfl hv h1 k
theorem y_callV {index n mc' ms' b ci : Nat} {M' : zM} {as st fs : List Value} {Q' : Option Value → zH → Prop} (hd : decode M.2.1 pc = .ok (.invokevirtual index, 3)) (pc' : Nat) (he : pc + 3 = pc') (hB : zCB M M' n) (hl : zLk M.1.cls M'.1 index) (hin : Cond.instanceMethod M'.1 ∈ zT) (hsel : Cond.selects M'.1.cls M'.1 M'.1 ∈ zT) (hci : ∃ r : vw_C, zcl[ci]? = some r ∧ r.1 = M'.1.cls) (hb : hp b = some (.inr (ci, fs))) (hr : Runs l D M' (.ref b :: as) hp mc' ms' Q') (hn : as.length = n) (hs : st = as.reverse ++ .ref b :: rest) (hrest : (rest.map fun v => v.category).sum ≤ 8) (hcu : cu + mc' ≤ mc) (hsu : su + ms' ≤ ms)
    (kk : ∀ (r : Option Value) (hp' : zH), Q' r hp' → ZL X l D M mc ms Q hp' (cu + mc') (su + ms') pc' lv (r.toList ++ rest)) : ZL X l D M mc ms Q hp cu su pc lv st := by
  subst he
  intro p e s m args below meth c H locs A ls Qc free hC hA hR hn9 hL hE
  have hR0 := hR
  obtain ⟨ws, hP, hD, hS, hw⟩ := hR
  have hG := zInL zGd hB
  have hsz : ls.size = M.2.2.1 := hL.1.trans hn9
  have hpre := zpre (as := .ref b :: as) zNs hC.k hP hD hw
  obtain ⟨r0, hr0, hr1⟩ := hci
  obtain ⟨q0, hq0⟩ := (hw _ _).1 hb
  have hrec := va_recv hC.k.1 hP hr0 hq0
  rw [hr1] at hrec
  have hpv : PreV s H M'.1.cls b (zPc D (.ref b :: as) hp H.size) as := ⟨hpre.1, hrec, hpre.2⟩
  refine z_after (D := D) (hp := hp) (Q' := Q') (av := (Value.ref b :: as).toArray) (mc' := mc') (ms' := ms') (st := st) (rest := rest) ?_ hR0 hA (fun r hp' H1 locs1 hq hR1 => kk r hp' hq p e s m args below meth c H1 locs1 A ls Qc free hC hA hR1 hn9 hL hE)
  rcases hl with hl | ⟨host, hl⟩
  · exact va_runV ⟨hC.1, hC.2.1, hC.2.2.1, hC.own, hC.2.2.2.2.1⟩ (hr H.size) ⟨callB_of n hC.2.2.2.2.1 hG rfl rfl rfl (hC.t _ hB.2.1) (hC.t _ hl) hB.2.2.1 hB.2.2.2, hC.t _ hin, hC.t _ hsel⟩ hpv rfl hn hsz hs (lv_room hrest) hd ⟨hcu, hsu⟩
  · exact va_runVN ⟨hC.1, hC.2.1, hC.2.2.1, hC.own, hC.2.2.2.2.1⟩ (hr H.size) ⟨va_cnB n hC.2.2.2.2.1 hG rfl rfl rfl (hC.k.2.1 _ hl) (hC.t _ hB.2.1) hB.2.2.1 hB.2.2.2, hC.t _ hin, hC.t _ hsel⟩ hpv rfl hn hsz hs (lv_room hrest) hd ⟨hcu, hsu⟩
/-- what a callee needs of the tables: static, virtual, a constructor -/
theorem y_callI {index n mc' ms' b : Nat} {M' : zM} {as st : List Value} {Q' : Option Value → zH → Prop} (hd : decode M.2.1 pc = .ok (.invokespecial index, 3)) (pc' : Nat) (he : pc + 3 = pc') (hB : zCB M M' n) (hl : zLk M.1.cls M'.1 index) (hin : Cond.instanceMethod M'.1 ∈ zT) (hnm : M'.1.name = "<init>") (hret : M'.2.2.2.1 = none) (hr : Runs l D M' (.ref b :: as) hp mc' ms' Q') (hn : as.length = n) (hs : st = as.reverse ++ .ref b :: rest) (hrest : (rest.map fun v => v.category).sum ≤ 8) (hcu : cu + mc' ≤ mc) (hsu : su + ms' ≤ ms)
    (kk : ∀ (r : Option Value) (hp' : zH), Q' r hp' → ZL X l D M mc ms Q hp' (cu + mc') (su + ms') pc' lv (r.toList ++ rest)) : ZL X l D M mc ms Q hp cu su pc lv st := by
  subst he
  intro p e s m args below meth c H locs A ls Qc free hC hA hR hn9 hL hE
  have hR0 := hR
  obtain ⟨ws, hP, hD, hS, hw⟩ := hR
  have hG := zInL zGd hB
  have hsz : ls.size = M.2.2.1 := hL.1.trans hn9
  have hpre := zpre (as := .ref b :: as) zNs hC.k hP hD hw
  have hwn : zw M' = Cond.code M'.1 M'.2.1 M'.2.2.1 none :: zT := by rw [← hret]; rfl
  refine z_after (D := D) (hp := hp) (Q' := Q') (av := (Value.ref b :: as).toArray) (mc' := mc') (ms' := ms') (st := st) (rest := rest) ?_ hR0 hA (fun r hp' H1 locs1 hq hR1 => kk r hp' hq p e s m args below meth c H1 locs1 A ls Qc free hC hA hR1 hn9 hL hE)
  rcases hl with hl | ⟨host, hl⟩
  · exact va_runI ⟨hC.1, hC.2.1, hC.2.2.1, hC.own, hC.2.2.2.2.1⟩ (hr H.size) ⟨callB_of n hC.2.2.2.2.1 hG hwn rfl rfl (hC.t _ hB.2.1) (hC.t _ hl) hB.2.2.1 hB.2.2.2, hnm, hC.t _ hin⟩ hpre rfl hn hsz hs (lv_room hrest) hd ⟨hcu, hsu⟩
  · exact va_runIN ⟨hC.1, hC.2.1, hC.2.2.1, hC.own, hC.2.2.2.2.1⟩ (hr H.size) ⟨va_cnB n hC.2.2.2.2.1 hG hwn rfl rfl (hC.k.2.1 _ hl) (hC.t _ hB.2.1) hB.2.2.1 hB.2.2.2, hnm, hC.t _ hin⟩ hpre rfl hn hsz hs (lv_room hrest) hd ⟨hcu, hsu⟩
theorem y_cV {index n mc' ms' b ci : Nat} {M' : zM} {as st : List Value} {fs : List Value} {Q' : Option Value → zH → Prop} (hd : decode M.2.1 pc = .ok (.invokevirtual index, 3)) (pc' : Nat) (he : pc + 3 = pc') (hM : zMV M' n ci) (hl : zLk M.1.cls M'.1 index) (hR : zRm M M') (cu' su' : Nat) (ec : cu + mc' = cu') (es : su + ms' = su') (hcu : cu' ≤ mc) (hsu : su' ≤ ms) (hb : hp b = some (.inr (ci, fs))) (hr : Runs l D M' (.ref b :: as) hp mc' ms' Q') (hn : as.length = n) (hs : st = as.reverse ++ .ref b :: rest) (hrest : (rest.map fun v => v.category).sum ≤ 8)
    (kk : ∀ (r : Option Value) (hp' : zH), Q' r hp' → ZL X l D M mc ms Q hp' cu' su' pc' lv (r.toList ++ rest)) : ZL X l D M mc ms Q hp cu su pc lv st := by
  subst ec
  subst es
  exact y_callV hd pc' he (hM.1.cb hR) hl hM.2.1 hM.2.2.1 hM.2.2.2 hb hr hn hs hrest hcu hsu kk
theorem y_cI {index n mc' ms' b : Nat} {M' : zM} {as st : List Value} {Q' : Option Value → zH → Prop} (hd : decode M.2.1 pc = .ok (.invokespecial index, 3)) (pc' : Nat) (he : pc + 3 = pc') (hM : zMI M' n) (hl : zLk M.1.cls M'.1 index) (hR : zRm M M') (cu' su' : Nat) (ec : cu + mc' = cu') (es : su + ms' = su') (hcu : cu' ≤ mc) (hsu : su' ≤ ms) (hr : Runs l D M' (.ref b :: as) hp mc' ms' Q') (hn : as.length = n) (hs : st = as.reverse ++ .ref b :: rest) (hrest : (rest.map fun v => v.category).sum ≤ 8)
    (kk : ∀ (r : Option Value) (hp' : zH), Q' r hp' → ZL X l D M mc ms Q hp' cu' su' pc' lv (r.toList ++ rest)) : ZL X l D M mc ms Q hp cu su pc lv st := by
  subst ec
  subst es
  exact y_callI hd pc' he (hM.1.cb hR) hl hM.2.1 hM.2.2.1 hM.2.2.2 hr hn hs hrest hcu hsu kk
end ZLR
def M_L : zM := (x, code, 4, ret, 12, 498)
set_option maxRecDepth 100000 in
theorem kl_L_9 : zLk "ArtifactBagsLaw" ⟨"ArtifactBags", "<init>", "()V"⟩ 9 := Or.inl (zin 14 rfl rfl)
set_option maxRecDepth 100000 in
theorem kl_L_12 : zLk "ArtifactBagsLaw" ⟨"ArtifactBagsModel", "<init>", "()V"⟩ 12 := Or.inl (zin 543 rfl rfl)
set_option maxRecDepth 100000 in
theorem kl_L_13 : zLk "ArtifactBagsLaw" ⟨"ArtifactBags", "card", "(III)I"⟩ 13 := Or.inl (zin 112 rfl rfl)
set_option maxRecDepth 100000 in
theorem kl_L_17 : zLk "ArtifactBagsLaw" ⟨"ArtifactBagsModel", "card", "(III)I"⟩ 17 := Or.inl (zin 599 rfl rfl)
set_option maxRecDepth 100000 in
theorem kl_L_20 : zLk "ArtifactBagsLaw" ⟨"ArtifactBags", "raw", "(JI)I"⟩ 20 := Or.inl (zin 179 rfl rfl)
set_option maxRecDepth 100000 in
theorem kl_L_24 : zLk "ArtifactBagsLaw" ⟨"ArtifactBagsModel", "raw", "(JI)I"⟩ 24 := Or.inl (zin 631 rfl rfl)
set_option maxRecDepth 100000 in
theorem kl_L_25 : zLk "ArtifactBagsLaw" ⟨"ArtifactBags", "drop", "()I"⟩ 25 := Or.inl (zin 184 rfl rfl)
set_option maxRecDepth 100000 in
theorem kl_L_29 : zLk "ArtifactBagsLaw" ⟨"ArtifactBagsModel", "drop", "()I"⟩ 29 := Or.inl (zin 636 rfl rfl)
set_option maxRecDepth 100000 in
theorem kl_L_30 : zLk "ArtifactBagsLaw" ⟨"ArtifactBags", "files", "(I)I"⟩ 30 := Or.inl (zin 188 rfl rfl)
set_option maxRecDepth 100000 in
theorem kl_L_34 : zLk "ArtifactBagsLaw" ⟨"ArtifactBagsModel", "files", "(I)I"⟩ 34 := Or.inl (zin 640 rfl rfl)
set_option maxRecDepth 100000 in
theorem kl_L_35 : zLk "ArtifactBagsLaw" ⟨"ArtifactBags", "put", "(I)I"⟩ 35 := Or.inl (zin 257 rfl rfl)
set_option maxRecDepth 100000 in
theorem kl_L_38 : zLk "ArtifactBagsLaw" ⟨"ArtifactBagsModel", "put", "(I)I"⟩ 38 := Or.inl (zin 682 rfl rfl)
set_option maxRecDepth 100000 in
theorem kl_L_39 : zLk "ArtifactBagsLaw" ⟨"ArtifactBags", "round", "(I)I"⟩ 39 := Or.inl (zin 412 rfl rfl)
set_option maxRecDepth 100000 in
theorem kl_L_42 : zLk "ArtifactBagsLaw" ⟨"ArtifactBagsModel", "round", "(I)I"⟩ 42 := Or.inl (zin 690 rfl rfl)
set_option maxRecDepth 100000 in
theorem kl_L_43 : zLk "ArtifactBagsLaw" ⟨"ArtifactBags", "held", "(I)I"⟩ 43 := Or.inl (zin 445 rfl rfl)
set_option maxRecDepth 100000 in
theorem kl_L_46 : zLk "ArtifactBagsLaw" ⟨"ArtifactBagsModel", "held", "(I)I"⟩ 46 := Or.inl (zin 734 rfl rfl)
set_option maxRecDepth 100000 in
theorem kl_L_47 : zLk "ArtifactBagsLaw" ⟨"ArtifactBags", "name", "(II)I"⟩ 47 := Or.inl (zin 449 rfl rfl)
set_option maxRecDepth 100000 in
theorem kl_L_51 : zLk "ArtifactBagsLaw" ⟨"ArtifactBagsModel", "name", "(II)I"⟩ 51 := Or.inl (zin 738 rfl rfl)
set_option maxRecDepth 100000 in
theorem kl_L_52 : zLk "ArtifactBagsLaw" ⟨"ArtifactBags", "octet", "(III)I"⟩ 52 := Or.inl (zin 453 rfl rfl)
set_option maxRecDepth 100000 in
theorem kl_L_55 : zLk "ArtifactBagsLaw" ⟨"ArtifactBagsModel", "octet", "(III)I"⟩ 55 := Or.inl (zin 742 rfl rfl)
set_option maxRecDepth 100000 in
theorem kl_L_56 : zLk "ArtifactBagsLaw" ⟨"ArtifactBags", "kind", "(II)I"⟩ 56 := Or.inl (zin 462 rfl rfl)
set_option maxRecDepth 100000 in
theorem kl_L_59 : zLk "ArtifactBagsLaw" ⟨"ArtifactBagsModel", "kind", "(II)I"⟩ 59 := Or.inl (zin 746 rfl rfl)
set_option maxRecDepth 100000 in
theorem kl_L_60 : zLk "ArtifactBagsLaw" ⟨"ArtifactBags", "wanted", "(I)I"⟩ 60 := Or.inl (zin 466 rfl rfl)
set_option maxRecDepth 100000 in
theorem kl_L_63 : zLk "ArtifactBagsLaw" ⟨"ArtifactBagsModel", "wanted", "(I)I"⟩ 63 := Or.inl (zin 750 rfl rfl)
set_option maxRecDepth 100000 in
theorem kl_L_64 : zLk "ArtifactBagsLaw" ⟨"ArtifactBags", "wants", "(II)Z"⟩ 64 := Or.inl (zin 470 rfl rfl)
set_option maxRecDepth 100000 in
theorem kl_L_68 : zLk "ArtifactBagsLaw" ⟨"ArtifactBagsModel", "wants", "(II)Z"⟩ 68 := Or.inl (zin 754 rfl rfl)
set_option maxRecDepth 100000 in
theorem kl_L_69 : zLk "ArtifactBagsLaw" ⟨"ArtifactBags", "checkIns", "(I)I"⟩ 69 := Or.inl (zin 475 rfl rfl)
set_option maxRecDepth 100000 in
theorem kl_L_72 : zLk "ArtifactBagsLaw" ⟨"ArtifactBagsModel", "checkIns", "(I)I"⟩ 72 := Or.inl (zin 758 rfl rfl)
set_option maxRecDepth 100000 in
theorem kl_L_73 : zLk "ArtifactBagsLaw" ⟨"ArtifactBags", "timeline", "(II)I"⟩ 73 := Or.inl (zin 479 rfl rfl)
set_option maxRecDepth 100000 in
theorem kl_L_76 : zLk "ArtifactBagsLaw" ⟨"ArtifactBagsModel", "timeline", "(II)I"⟩ 76 := Or.inl (zin 766 rfl rfl)
set_option maxRecDepth 100000 in
theorem kl_L_77 : zLk "ArtifactBagsLaw" ⟨"ArtifactBags", "children", "(II)I"⟩ 77 := Or.inl (zin 487 rfl rfl)
set_option maxRecDepth 100000 in
theorem kl_L_80 : zLk "ArtifactBagsLaw" ⟨"ArtifactBagsModel", "children", "(II)I"⟩ 80 := Or.inl (zin 774 rfl rfl)
set_option maxRecDepth 100000 in
theorem kl_L_81 : zLk "ArtifactBagsLaw" ⟨"ArtifactBags", "leaves", "(I)I"⟩ 81 := Or.inl (zin 499 rfl rfl)
set_option maxRecDepth 100000 in
theorem kl_L_84 : zLk "ArtifactBagsLaw" ⟨"ArtifactBagsModel", "leaves", "(I)I"⟩ 84 := Or.inl (zin 778 rfl rfl)
set_option maxRecDepth 100000 in
theorem kl_L_85 : zLk "ArtifactBagsLaw" ⟨"ArtifactBags", "tag", "(III)I"⟩ 85 := Or.inl (zin 508 rfl rfl)
set_option maxRecDepth 100000 in
theorem kl_L_88 : zLk "ArtifactBagsLaw" ⟨"ArtifactBagsModel", "tag", "(III)I"⟩ 88 := Or.inl (zin 783 rfl rfl)
set_option maxRecDepth 100000 in
theorem kl_L_89 : zLk "ArtifactBagsLaw" ⟨"ArtifactBags", "loose", "(I)I"⟩ 89 := Or.inl (zin 520 rfl rfl)
set_option maxRecDepth 100000 in
theorem kl_L_92 : zLk "ArtifactBagsLaw" ⟨"ArtifactBagsModel", "loose", "(I)I"⟩ 92 := Or.inl (zin 791 rfl rfl)
set_option maxRecDepth 100000 in
theorem kl_L_93 : zLk "ArtifactBagsLaw" ⟨"ArtifactBags", "rebuild", "(I)I"⟩ 93 := Or.inl (zin 525 rfl rfl)
set_option maxRecDepth 100000 in
theorem kl_L_96 : zLk "ArtifactBagsLaw" ⟨"ArtifactBagsModel", "rebuild", "(I)I"⟩ 96 := Or.inl (zin 795 rfl rfl)
set_option maxRecDepth 100000 in
theorem nw_L_7 : zNew "ArtifactBagsLaw" 7 1 4 [.null, .null, .null, .null] := ⟨"ArtifactBags", zF_B, zt_B, zc_B, zin 12 rfl rfl, zin 13 rfl rfl, zin 1 rfl rfl, (by decide +kernel)⟩
set_option maxRecDepth 100000 in
theorem nw_L_10 : zNew "ArtifactBagsLaw" 10 0 17 [.null, .null, .null, .null, .null, .null, .null, .null, .null, .int 0, .int 0, .int 0, .int 0, .int 0, .int 0, .int 0, .int 0] := ⟨"ArtifactBagsModel", zF_m, zt_m, zc_m, zin 541 rfl rfl, zin 542 rfl rfl, zin 6 rfl rfl, (by decide +kernel)⟩
set_option maxRecDepth 100000 in
theorem ct_L_18 : Jvm.Cond.constantLong "ArtifactBagsLaw" 18 (lN 4294967295) ∈ zT := zin 800 rfl rfl
