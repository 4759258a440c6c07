/-! Z, continued: fields, arrays, new cells, calls. Own work, over the kit's rows. -/
theorem zR_set {A : Nat → Prop} {ws : va_W} {hp : zH} {a k : Nat} {e0 x0 : va_E} (hw : ∀ b x, hp b = some x ↔ ∃ j : Nat, ws[j]? = some (b, x)) (hD : va_D A ws) (hk : ws[k]? = some (a, e0)) : ∀ b x, zset hp a x0 b = some x ↔ ∃ j : Nat, (ws.set k (a, x0))[j]? = some (b, x) := by
  have hkl : k < ws.length := (List.getElem?_eq_some_iff.mp hk).1
  intro b x
  by_cases hb : b = a
  · subst hb
    rw [zset_self]
    constructor
    · intro h
      cases h
      exact ⟨k, by rw [List.getElem?_set_self hkl]⟩
    · rintro ⟨j, hj⟩
      by_cases hjk : j = k
      · subst hjk
        rw [List.getElem?_set_self hkl] at hj
        cases hj
        rfl
      · rw [List.getElem?_set_ne (fun q => hjk q.symm)] at hj
        exact absurd (hD.1 j k _ _ hj hk rfl) hjk
  · rw [zset_ne hb, hw]
    constructor
    · rintro ⟨j, hj⟩
      have hjk : j ≠ k := by
        rintro rfl
        rw [hk] at hj
        cases hj
        exact hb rfl
      exact ⟨j, by rw [List.getElem?_set_ne (fun q => hjk q.symm)]; exact hj⟩
    · rintro ⟨j, hj⟩
      by_cases hjk : j = k
      · subst hjk
        rw [List.getElem?_set_self hkl] at hj
        cases hj
        exact absurd rfl hb
      · rw [List.getElem?_set_ne (fun q => hjk q.symm)] at hj
        exact ⟨j, hj⟩
theorem zR_push {A : Nat → Prop} {ws : va_W} {hp : zH} {q : Nat} {x0 : va_E} (hw : ∀ b x, hp b = some x ↔ ∃ j : Nat, ws[j]? = some (b, x)) (hD : va_D A (ws ++ [(q, x0)])) : hp q = none ∧ ∀ b x, zset hp q x0 b = some x ↔ ∃ j : Nat, (ws ++ [(q, x0)])[j]? = some (b, x) := by
  have hq : hp q = none := by
    cases h : hp q with
    | none => rfl
    | some x =>
      obtain ⟨j, hj⟩ := (hw q x).1 h
      have hl := (List.getElem?_eq_some_iff.mp hj).1
      have h1 : (ws ++ [(q, x0)])[j]? = some (q, x) := by rw [List.getElem?_append_left hl]; exact hj
      have h2 : (ws ++ [(q, x0)])[ws.length]? = some (q, x0) := by simp
      have := hD.1 _ _ _ _ h1 h2 rfl
      omega
  refine ⟨hq, fun b x => ?_⟩
  by_cases hb : b = q
  · subst hb
    rw [zset_self]
    constructor
    · intro h
      cases h
      exact ⟨ws.length, by simp⟩
    · rintro ⟨j, hj⟩
      have h2 : (ws ++ [(b, x0)])[ws.length]? = some (b, x0) := by simp
      have := hD.1 _ _ _ _ hj h2 rfl
      subst this
      rw [h2] at hj
      cases hj
      rfl
  · rw [zset_ne hb, hw]
    constructor
    · rintro ⟨j, hj⟩
      exact ⟨j, by rw [List.getElem?_append_left (List.getElem?_eq_some_iff.mp hj).1]; exact hj⟩
    · rintro ⟨j, hj⟩
      by_cases hl : j < ws.length
      · rw [List.getElem?_append_left hl] at hj
        exact ⟨j, hj⟩
      · rw [List.getElem?_append_right (by omega)] at hj
        have : j - ws.length = 0 := by
          have := (List.getElem?_eq_some_iff.mp hj).1
          simp at this
          omega
        rw [this] at hj
        simp at hj
        exact absurd hj.1.symm hb
/-- a class of the system: its layout's words stand in the tables, its fields' types and names -/
def zCl (ci : Nat) (C : String) (T : u_T) (N : Nat) (ty : Nat → FieldType) : Prop := zcl[ci]? = some (C, T, N) ∧ (∀ w ∈ u_ws C T N, w ∈ zT) ∧ (∀ k, k < N → parseFieldDescriptor (T k).2.2.1 = some (ty k)) ∧ ∀ a, a < N → ∀ b, b < N → a ≠ b → (T a).2.1 ≠ (T b).2.1
/-- an instruction's field: its place in the class, its link, its type -/
def zFld (own : String) (index ci k : Nat) (t : FieldType) : Prop := ∃ (C : String) (T : u_T) (N : Nat) (ty : Nat → FieldType), zCl ci C T N ty ∧ k < N ∧ ty k = t ∧ (Cond.fieldLink own index (T k).1 (T k).2.1 (T k).2.2.1 ∈ zT ∨ ∃ host, Cond.fieldLinkNest own index (T k).1 (T k).2.1 (T k).2.2.1 host ∈ zNest)
/-- a field that the method may write -/
def zFldP (own nm : String) (index ci k : Nat) (t : FieldType) : Prop := ∃ (C : String) (T : u_T) (N : Nat) (ty : Nat → FieldType), zCl ci C T N ty ∧ k < N ∧ ty k = t ∧ (((T k).2.2.2 = false ∧ (Cond.fieldLink own index (T k).1 (T k).2.1 (T k).2.2.1 ∈ zT ∨ ∃ host, Cond.fieldLinkNest own index (T k).1 (T k).2.1 (T k).2.2.1 host ∈ zNest)) ∨ ((T k).2.2.2 = true ∧ nm = "<init>" ∧ (T k).1 = own ∧ Cond.fieldLink own index (T k).1 (T k).2.1 (T k).2.2.1 ∈ zT))
section ZF
variable {l : Launch} {D : zD} {M : zM} {mc ms : Nat} {Q : Option Value → zH → Prop} {hp : zH} {cu su pc : Nat} {lv : List (Option Value)} {rest : List Value}
theorem zC.t {p : Program} {s : State} {m : MethodId} {args : Array Value} {meth : Method} {c : Code} (h : zC D M p s m args meth c) : ∀ w ∈ zT, w.before args s = true := fun w hw => h.2.2.2.2.1 w (List.mem_cons_of_mem _ hw)
theorem zC.k {p : Program} {s : State} {m : MethodId} {args : Array Value} {meth : Method} {c : Code} (h : zC D M p s m args meth c) : zK D s := h.2.2.2.2.2.2.2.2
theorem zC.own {p : Program} {s : State} {m : MethodId} {args : Array Value} {meth : Method} {c : Code} (h : zC D M p s m args meth c) : s.vm.findClass M.1.cls = some m.cls := h.2.2.2.1
theorem z_get {index ci k a : Nat} {t : FieldType} {fs : List Value} {v : Value} (hd : decode M.2.1 pc = .ok (.getfield index, 3)) (pc' : Nat) (he : pc + 3 = pc') (hF : zFld M.1.cls index ci k t) (ha : hp a = some (.inr (ci, fs))) (hv : fs[k]? = some v) (kk : Z l D M mc ms Q hp cu su pc' lv (v :: rest)) : Z l D M mc ms Q hp cu su pc lv (.ref a :: rest) := by
  subst he
  intro p e s m args below meth c H locs A ls Qc free hC hA hR hn hL hE
  have hR0 := hR
  obtain ⟨ws, hP, hD, hS, hw⟩ := hR
  obtain ⟨q0, hq0⟩ := (hw _ _).1 ha
  obtain ⟨C, T, N, ty, ⟨hc, hin, -, -⟩, hk, -, hl⟩ := hF
  rcases hl with hl | ⟨host, hl⟩
  · exact va_get hC.1 hC.2.1 hC.t hin hC.own hC.k.1 hP q0 hq0 hc k hk (hC.t _ hl) (fun _ h => h) hv hd (kk p e s m args below meth c H locs A ls Qc free hC hA hR0 hn hL hE)
  · exact va_getN hC.1 hC.2.1 hC.t hin hC.own hC.k.1 hP q0 hq0 hc k hk (va_Nw.use rfl (hC.k.2.1 _ hl)) (fun _ h => h) hv hd (kk p e s m args below meth c H locs A ls Qc free hC hA hR0 hn hL hE)
theorem z_put {index ci k a : Nat} {t : FieldType} {fs fs' : List Value} {v : Value} (hd : decode M.2.1 pc = .ok (.putfield index, 3)) (pc' : Nat) (he : pc + 3 = pc') (hF : zFldP M.1.cls M.1.name index ci k t) (ha : hp a = some (.inr (ci, fs))) (hnar : narrow t v = v) (hfit : fits t v = true) (hl : k < fs.length) (hfs : fs.set k v = fs') (kk : Z l D M mc ms Q (zset hp a (.inr (ci, fs'))) cu su pc' lv rest) : Z l D M mc ms Q hp cu su pc lv (v :: .ref a :: rest) := by
  subst he
  intro p e s m args below meth c H locs A ls Qc free hC hA hR hn hL hE
  obtain ⟨ws, hP, hD, hS, hw⟩ := hR
  obtain ⟨q0, hq0⟩ := (hw _ _).1 ha
  subst hfs
  obtain ⟨C, T, N, ty, ⟨hc, hin, hty, hnm⟩, hk, ht, h5⟩ := hF
  have hty0 : parseFieldDescriptor (T k).2.2.1 = some t := by rw [← ht]; exact hty k hk
  have go : ∀ (H1 : Heap) (locs1 : List Loc), va_P D.1.1 zcl (ws.set q0 (a, .inr (ci, fs.set k v))) H1 → va_D A (ws.set q0 (a, .inr (ci, fs.set k v))) → va_S A s.heap H1 locs1 → W p l e (zrm M mc ms) s m args below meth c H1 locs1 cu su (MQ below Qc args s mc ms free) (F0 m (pc + 3) ls rest) := fun H1 locs1 hP1 hD1 hS1 =>
    kk p e s m args below meth c H1 locs1 A ls Qc free hC hA ⟨_, hP1, hD1, hS1, zR_set hw hD hq0⟩ hn hL hE
  rcases h5 with ⟨hf, h6 | ⟨host, h6⟩⟩ | ⟨hf, hi, ho, h6⟩
  · exact va_put hC.1 hC.2.1 hC.t hin ty hty hnm hC.own hC.k.1 hP hD hS q0 hq0 hc k hk (hC.t _ h6) (fun _ h => h) hf hty0 hnar hfit hl hd go
  · exact va_putN hC.1 hC.2.1 hC.t hin ty hty hnm hC.own hC.k.1 hP hD hS q0 hq0 hc k hk (va_Nw.use rfl (hC.k.2.1 _ h6)) (fun _ h => h) hf hty0 hnar hfit hl hd go
  · exact va_putF hC.1 hC.2.1 hC.t hin ty hty hnm hC.own hC.k.1 hP hD hS q0 hq0 hc k hk (hC.t _ h6) (fun _ h => h) hf (hC.2.2.2.2.2.2.2.1.trans hi) ho hty0 hnar hfit hl hd go
theorem z_iald {a n : Nat} {f : Nat → Int32} {i : Int32} (hd : decode M.2.1 pc = .ok (.iaload, 1)) (pc' : Nat) (he : pc + 1 = pc') (ha : hp a = some (.inl (D.2 1, n, .inl f))) (hin : vp_in i n) (kk : Z l D M mc ms Q hp cu su pc' lv (.int (f i.toNatClampNeg) :: rest)) : Z l D M mc ms Q hp cu su pc lv (.int i :: .ref a :: rest) := by
  subst he
  intro p e s m args below meth c H locs A ls Qc free hC hA hR hn hL hE
  have hR0 := hR
  obtain ⟨ws, hP, hD, hS, hw⟩ := hR
  obtain ⟨q0, hq0⟩ := (hw _ _).1 ha
  exact va_iald hC.1 hC.2.1 hC.k.1 hP q0 1 hq0 rfl hin hd (kk p e s m args below meth c H locs A ls Qc free hC hA hR0 hn hL hE)
theorem z_bald {a n : Nat} {f : Nat → Int32} {i : Int32} (hd : decode M.2.1 pc = .ok (.baload, 1)) (pc' : Nat) (he : pc + 1 = pc') (ha : hp a = some (.inl (D.2 0, n, .inl f))) (hin : vp_in i n) (kk : Z l D M mc ms Q hp cu su pc' lv (.int (f i.toNatClampNeg) :: rest)) : Z l D M mc ms Q hp cu su pc lv (.int i :: .ref a :: rest) := by
  subst he
  intro p e s m args below meth c H locs A ls Qc free hC hA hR hn hL hE
  have hR0 := hR
  obtain ⟨ws, hP, hD, hS, hw⟩ := hR
  obtain ⟨q0, hq0⟩ := (hw _ _).1 ha
  exact va_bald hC.1 hC.2.1 hC.k.1 hP q0 0 hq0 rfl hin hd (kk p e s m args below meth c H locs A ls Qc free hC hA hR0 hn hL hE)
theorem z_iast {a n : Nat} {f : Nat → Int32} {i x : Int32} (hd : decode M.2.1 pc = .ok (.iastore, 1)) (pc' : Nat) (he : pc + 1 = pc') (ha : hp a = some (.inl (D.2 1, n, .inl f))) (hin : vp_in i n) (kk : Z l D M mc ms Q (zset hp a (.inl (D.2 1, n, .inl (upd f i.toNatClampNeg x)))) cu su pc' lv rest) : Z l D M mc ms Q hp cu su pc lv (.int x :: .int i :: .ref a :: rest) := by
  subst he
  intro p e s m args below meth c H locs A ls Qc free hC hA hR hn hL hE
  obtain ⟨ws, hP, hD, hS, hw⟩ := hR
  obtain ⟨q0, hq0⟩ := (hw _ _).1 ha
  exact va_iast hC.1 hC.2.1 hC.k.1 hP hD hS q0 1 hq0 rfl hin hd (fun H1 locs1 hP1 hD1 hS1 => kk p e s m args below meth c H1 locs1 A ls Qc free hC hA ⟨_, hP1, hD1, hS1, zR_set hw hD hq0⟩ hn hL hE)
theorem z_bast {a n : Nat} {f : Nat → Int32} {i x : Int32} (hd : decode M.2.1 pc = .ok (.bastore, 1)) (pc' : Nat) (he : pc + 1 = pc') (ha : hp a = some (.inl (D.2 0, n, .inl f))) (hin : vp_in i n) (kk : Z l D M mc ms Q (zset hp a (.inl (D.2 0, n, .inl (upd f i.toNatClampNeg (vp_nar .byte x))))) cu su pc' lv rest) : Z l D M mc ms Q hp cu su pc lv (.int x :: .int i :: .ref a :: rest) := by
  subst he
  intro p e s m args below meth c H locs A ls Qc free hC hA hR hn hL hE
  obtain ⟨ws, hP, hD, hS, hw⟩ := hR
  obtain ⟨q0, hq0⟩ := (hw _ _).1 ha
  exact va_bast hC.1 hC.2.1 hC.k.1 hP hD hS q0 0 hq0 rfl hin hd (fun H1 locs1 hP1 hD1 hS1 => kk p e s m args below meth c H1 locs1 A ls Qc free hC hA ⟨_, hP1, hD1, hS1, zR_set hw hD hq0⟩ hn hL hE)
theorem z_alen {a t : Nat} {ty : FieldType} {x : vp_A} {v : Int32} (hd : decode M.2.1 pc = .ok (.arraylength, 1)) (pc' : Nat) (he : pc + 1 = pc') (ht : (zty D.2)[t]? = some (D.2 t, ty)) (ha : hp a = some (.inl (D.2 t, x))) (hv : Int32.ofNat x.1 = v) (kk : Z l D M mc ms Q hp cu su pc' lv (.int v :: rest)) : Z l D M mc ms Q hp cu su pc lv (.ref a :: rest) := by
  subst he
  intro p e s m args below meth c H locs A ls Qc free hC hA hR hn hL hE
  have hR0 := hR
  obtain ⟨ws, hP, hD, hS, hw⟩ := hR
  obtain ⟨q0, hq0⟩ := (hw _ _).1 ha
  exact va_alen hC.1 hC.2.1 hC.k.1 hP q0 t hq0 ht hv hd (kk p e s m args below meth c H locs A ls Qc free hC hA hR0 hn hL hE)
theorem z_aald {a t n : Nat} {C : String} {f : Nat → Option Nat} {i : Int32} (hd : decode M.2.1 pc = .ok (.aaload, 1)) (pc' : Nat) (he : pc + 1 = pc') (ht : (zty D.2)[t]? = some (D.2 t, .object C)) (ha : hp a = some (.inl (D.2 t, n, .inr (.inr (.inr (.inr f)))))) (hin : vp_in i n) (kk : Z l D M mc ms Q hp cu su pc' lv (va_rf (f i.toNatClampNeg) :: rest)) : Z l D M mc ms Q hp cu su pc lv (.int i :: .ref a :: rest) := by
  subst he
  intro p e s m args below meth c H locs A ls Qc free hC hA hR hn hL hE
  have hR0 := hR
  obtain ⟨ws, hP, hD, hS, hw⟩ := hR
  obtain ⟨q0, hq0⟩ := (hw _ _).1 ha
  exact va_aldq hC.1 hC.2.1 hC.k.1 hP q0 t hq0 ht hin hd (kk p e s m args below meth c H locs A ls Qc free hC hA hR0 hn hL hE)
theorem z_aast {a t n b ci : Nat} {r : vw_C} {vs : List Value} {f : Nat → Option Nat} {i : Int32} (hd : decode M.2.1 pc = .ok (.aastore, 1)) (pc' : Nat) (he : pc + 1 = pc') (ht : (zty D.2)[t]? = some (D.2 t, .object r.1)) (ha : hp a = some (.inl (D.2 t, n, .inr (.inr (.inr (.inr f)))))) (hb : hp b = some (.inr (ci, vs))) (hc : zcl[ci]? = some r) (hin : vp_in i n) (kk : Z l D M mc ms Q (zset hp a (.inl (D.2 t, n, .inr (.inr (.inr (.inr (va_up f i.toNatClampNeg (some b)))))))) cu su pc' lv rest) : Z l D M mc ms Q hp cu su pc lv (.ref b :: .int i :: .ref a :: rest) := by
  subst he
  intro p e s m args below meth c H locs A ls Qc free hC hA hR hn hL hE
  obtain ⟨ws, hP, hD, hS, hw⟩ := hR
  obtain ⟨q0, hq0⟩ := (hw _ _).1 ha
  obtain ⟨q1, hq1⟩ := (hw _ _).1 hb
  exact va_astq hC.1 hC.2.1 hC.k.1 hP hD hS q0 t q1 ci hq0 ht hq1 hc hin hd (fun H1 locs1 hP1 hD1 hS1 => kk p e s m args below meth c H1 locs1 A ls Qc free hC hA ⟨_, hP1, hD1, hS1, zR_set hw hD hq0⟩ hn hL hE)
theorem z_aastN {a t n : Nat} {C : String} {f : Nat → Option Nat} {i : Int32} (hd : decode M.2.1 pc = .ok (.aastore, 1)) (pc' : Nat) (he : pc + 1 = pc') (ht : (zty D.2)[t]? = some (D.2 t, .object C)) (ha : hp a = some (.inl (D.2 t, n, .inr (.inr (.inr (.inr f)))))) (hin : vp_in i n) (kk : Z l D M mc ms Q (zset hp a (.inl (D.2 t, n, .inr (.inr (.inr (.inr (va_up f i.toNatClampNeg none))))))) cu su pc' lv rest) : Z l D M mc ms Q hp cu su pc lv (.null :: .int i :: .ref a :: rest) := by
  subst he
  intro p e s m args below meth c H locs A ls Qc free hC hA hR hn hL hE
  obtain ⟨ws, hP, hD, hS, hw⟩ := hR
  obtain ⟨q0, hq0⟩ := (hw _ _).1 ha
  exact va_astqN hC.1 hC.2.1 hC.k.1 hP hD hS q0 t hq0 ht hin hd (fun H1 locs1 hP1 hD1 hS1 => kk p e s m args below meth c H1 locs1 A ls Qc free hC hA ⟨_, hP1, hD1, hS1, zR_set hw hD hq0⟩ hn hL hE)
def zNew (own : String) (index ci N : Nat) (fs : List Value) : Prop := ∃ (C : String) (T : u_T) (ty : Nat → FieldType), zCl ci C T N ty ∧ Cond.classLink own index C ∈ zT ∧ Cond.instantiable C N ∈ zT ∧ Cond.initialized C ∈ zT ∧ ∀ j, j < N → defaultValue (ty j) = vp_V fs j
theorem z_new {index ci N : Nat} {fs : List Value} (hd : decode M.2.1 pc = .ok (.new index, 3)) (pc' : Nat) (he : pc + 3 = pc') (hN : zNew M.1.cls index ci N fs) (hcu : cu + 1 ≤ mc) (hsu : su + N ≤ ms) (kk : ∀ q, hp q = none → Z l D M mc ms Q (zset hp q (.inr (ci, fs))) (cu + 1) (su + N) pc' lv (.ref q :: rest)) : Z l D M mc ms Q hp cu su pc lv rest := by
  subst he
  intro p e s m args below meth c H locs A ls Qc free hC hA hR hn hL hE
  obtain ⟨ws, hP, hD, hS, hw⟩ := hR
  obtain ⟨C, T, ty, ⟨hc, hin, hty, -⟩, h1, h2, h3, hfs⟩ := hN
  exact va_new hC.1 hC.2.1 hC.t hin ty hty hC.own (hC.t _ h1) (hC.t _ h2) (hC.t _ h3) hC.k.1 hP hD hS hA hc hfs hcu hsu hd (fun q H1 hP1 hD1 hS1 => kk q (zR_push hw hD1).1 p e s m args below meth c H1 locs A ls Qc free hC hA ⟨_, hP1, hD1, hS1, (zR_push hw hD1).2⟩ hn hL hE)
theorem z_newB {n : Int32} {N : Nat} (hd : decode M.2.1 pc = .ok (.newarray .byte, 2)) (pc' : Nat) (he : pc + 2 = pc') (hw9 : Cond.arrayClass .byte ∈ zT) (hn0 : ¬ n < 0) (hN : n.toNatClampNeg = N) (hcu : cu + 1 ≤ mc) (hsu : su + N ≤ ms) (hb : N ≤ 536870912) (kk : ∀ q, hp q = none → Z l D M mc ms Q (zset hp q (.inl (D.2 0, N, .inl (fun _ => 0)))) (cu + 1) (su + N) pc' lv (.ref q :: rest)) : Z l D M mc ms Q hp cu su pc lv (.int n :: rest) := by
  subst he
  intro p e s m args below meth c H locs A ls Qc free hC hA hR hn hL hE
  obtain ⟨ws, hP, hD, hS, hw⟩ := hR
  refine va_newa (a0 := (N, .inl (fun _ => 0))) (atype := .byte) (ty := .byte) hC.1 hC.2.1 (hC.t _ hw9) rfl hC.k.1 hP hD hS hA (fun _ => rfl) hn0 hN (by show N * 1 ≤ _; omega) hcu hsu hd (fun q cA H1 hK1 hP1 hD1 hS1 => ?_)
  have h1 := (hC.k.1.2 0 (D.2 0, .byte) rfl).2
  have h2 := (hK1.2 (zty D.2).length (cA, .byte) (by simp)).2
  have h3 : some cA = some (D.2 0) := h2.symm.trans h1
  cases h3
  exact kk q (zR_push hw hD1).1 p e s m args below meth c H1 locs A ls Qc free hC hA ⟨_, hP1, hD1, hS1, (zR_push hw hD1).2⟩ hn hL hE
theorem z_newI {n : Int32} {N : Nat} (hd : decode M.2.1 pc = .ok (.newarray .int, 2)) (pc' : Nat) (he : pc + 2 = pc') (hw9 : Cond.arrayClass .int ∈ zT) (hn0 : ¬ n < 0) (hN : n.toNatClampNeg = N) (hcu : cu + 1 ≤ mc) (hsu : su + N ≤ ms) (hb : N ≤ 100000000) (kk : ∀ q, hp q = none → Z l D M mc ms Q (zset hp q (.inl (D.2 1, N, .inl (fun _ => 0)))) (cu + 1) (su + N) pc' lv (.ref q :: rest)) : Z l D M mc ms Q hp cu su pc lv (.int n :: rest) := by
  subst he
  intro p e s m args below meth c H locs A ls Qc free hC hA hR hn hL hE
  obtain ⟨ws, hP, hD, hS, hw⟩ := hR
  refine va_newa (a0 := (N, .inl (fun _ => 0))) (atype := .int) (ty := .int) hC.1 hC.2.1 (hC.t _ hw9) rfl hC.k.1 hP hD hS hA (fun _ => rfl) hn0 hN (by show N * 4 ≤ _; omega) hcu hsu hd (fun q cA H1 hK1 hP1 hD1 hS1 => ?_)
  have h1 := (hC.k.1.2 1 (D.2 1, .int) rfl).2
  have h2 := (hK1.2 (zty D.2).length (cA, .int) (by simp)).2
  have h3 : some cA = some (D.2 1) := h2.symm.trans h1
  cases h3
  exact kk q (zR_push hw hD1).1 p e s m args below meth c H1 locs A ls Qc free hC hA ⟨_, hP1, hD1, hS1, (zR_push hw hD1).2⟩ hn hL hE
theorem z_anew {index t N : Nat} {n : Int32} {C : String} (hd : decode M.2.1 pc = .ok (.anewarray index, 3)) (pc' : Nat) (he : pc + 3 = pc') (hcl : Cond.classLink M.1.cls index C ∈ zT) (ho : C ∈ zOver) (ht : (zty D.2)[t]? = some (D.2 t, .object C)) (hn0 : ¬ n < 0) (hN : n.toNatClampNeg = N) (hcu : cu + 1 ≤ mc) (hsu : su + N ≤ ms) (hb : N ≤ 100000000) (kk : ∀ q, hp q = none → Z l D M mc ms Q (zset hp q (.inl (D.2 t, N, .inr (.inr (.inr (.inr (fun _ => none))))))) (cu + 1) (su + N) pc' lv (.ref q :: rest)) : Z l D M mc ms Q hp cu su pc lv (.int n :: rest) := by
  subst he
  intro p e s m args below meth c H locs A ls Qc free hC hA hR hn hL hE
  obtain ⟨ws, hP, hD, hS, hw⟩ := hR
  refine va_newq hC.1 hC.2.1 hC.own (hC.t _ hcl) (hC.k.2.2 _ ho) hC.k.1 hP hD hS hA hn0 hN (by omega) hcu hsu hd (fun q cA H1 hK1 hP1 hD1 hS1 => ?_)
  obtain ⟨-, -, -, -, -, h1⟩ := (hC.k.1.2 t (D.2 t, .object C) ht).2
  obtain ⟨-, -, -, -, -, h2⟩ := (hK1.2 (zty D.2).length (cA, .object C) (by simp)).2
  have h3 : some cA = some (D.2 t) := h2.symm.trans h1
  cases h3
  exact kk q (zR_push hw hD1).1 p e s m args below meth c H1 locs A ls Qc free hC hA ⟨_, hP1, hD1, hS1, (zR_push hw hD1).2⟩ hn hL hE
/-- arraycopy of ints or bytes -/
theorem z_copy {index t : Nat} {ty : FieldType} {a b n0 n1 sp dp n : Nat} {f g : Nat → Int32} (hd : decode M.2.1 pc = .ok (.invokestatic index, 3)) (pc' : Nat) (he : pc + 3 = pc') (hl9 : Cond.methodLink M.1.cls index arraycopyName ∈ zT) (hnat : Cond.native arraycopyName ∈ zT) (hst : Cond.static arraycopyName ∈ zT) (hini : Cond.initialized "java/lang/System" ∈ zT)
    (ht : (zty D.2)[t]? = some (D.2 t, ty)) (hprim : refKind ty = false) (ha : hp a = some (.inl (D.2 t, n0, .inl f))) (hb : hp b = some (.inl (D.2 t, n1, .inl g))) (h4 : sp + n ≤ n0) (h5 : dp + n ≤ n1) (hz : n0 < 2 ^ 31) (hz1 : n1 < 2 ^ 31) (hfit : ∀ i, i < n → fits ty (.int (f (sp + i))) = true)
    (hfr : 1 ≤ M.2.2.2.2.1) (hlo : (rest.map fun v => v.category).sum + (nativeFrameWords "java/lang/System" "arraycopy" 5 + 11) ≤ M.2.2.2.2.2)
    (kk : Z l D M mc ms Q (zset hp b (.inl (D.2 t, n1, .inl (va_cpy f g sp dp n)))) cu su pc' lv rest) : Z l D M mc ms Q hp cu su pc lv (.int (nI n) :: .int (nI dp) :: .ref b :: .int (nI sp) :: .ref a :: rest) := by
  subst he
  intro p e s m args below meth c H locs A ls Qc free hC hA hR hn hL hE
  obtain ⟨ws, hP, hD, hS, hw⟩ := hR
  obtain ⟨q0, hq0⟩ := (hw _ _).1 ha
  obtain ⟨q1, hq1⟩ := (hw _ _).1 hb
  have e1 := nI_clamp (n := sp) (by omega)
  have e2 := nI_clamp (n := dp) (by omega)
  have e3 := nI_clamp (n := n) (by omega)
  refine va_copyi hC.1 hC.2.1 (by rw [hC.2.2.1, ← hn]; exact hL.1.symm) hC.own (hC.t _ hl9) (hC.t _ hnat) (hC.t _ hst) (hC.t _ hini) hC.k.1 hP hD hS q0 q1 t t hq0 hq1 ht ht hprim (nI_pos (by omega)) (nI_pos (by omega)) (nI_pos (by omega)) (by rw [e1, e3]; exact h4) (by rw [e2, e3]; exact h5) (by rw [e1, e3]; exact hfit) hfr hlo hd (fun H1 locs1 hP1 hD1 hS1 => ?_)
  rw [e1, e2, e3] at hP1 hD1
  exact kk p e s m args below meth c H1 locs1 A ls Qc free hC hA ⟨_, hP1, hD1, hS1, zR_set hw hD hq1⟩ hn hL hE
theorem z_objInit {index a : Nat} (hd : decode M.2.1 pc = .ok (.invokespecial index, 3)) (pc' : Nat) (he : pc + 3 = pc') (hl9 : Cond.methodLink M.1.cls index Lib.objectInit ∈ zT) (hi : Cond.instanceMethod Lib.objectInit ∈ zT) (hc9 : Cond.code Lib.objectInit ⟨#[0xb1]⟩ 1 none ∈ zT) (hfr : 1 ≤ M.2.2.2.2.1) (hlo : (rest.map fun v => v.category).sum + 12 ≤ M.2.2.2.2.2) (kk : Z l D M mc ms Q hp cu su pc' lv rest) : Z l D M mc ms Q hp cu su pc lv (.ref a :: rest) := by
  subst he
  intro p e s m args below meth c H locs A ls Qc free hC hA hR hn hL hE
  refine W.objInit hC.1 hC.2.1 hC.own (hC.t _ hl9) (hC.t _ hi) (hC.t _ hc9) rfl (by rw [hC.2.2.1, ← hn]; exact hL.1) rfl hd hfr (by show _ ≤ M.2.2.2.2.2; simpa [JFrame.monitorRoom] using hlo) ?_
  exact W.eq (g2 := F0 m (pc + 3) ls rest) rfl (kk p e s m args below meth c H locs A ls Qc free hC hA hR hn hL hE)
end ZF
