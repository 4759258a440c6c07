/-! Z, continued: a method's start, calls. Own work, over the kit's rows. -/
def zar : List Value → List (Option Value)
  | [] => []
  | v :: vs => if v.category = 2 then some v :: none :: zar vs else some v :: zar vs
theorem zar_pairs : ∀ (vs : List Value) (i : Nat), zpairs i (zar vs) = lv_args i vs := by
  intro vs
  induction vs with
  | nil => intro i; rfl
  | cons v t ih =>
    intro i
    by_cases h : v.category = 2
    · simp only [zar, lv_args, if_pos h, zpairs, ih]
    · simp only [zar, lv_args, if_neg h, zpairs, ih]
theorem zar_len : ∀ vs : List Value, (zar vs).length = (lg_sl vs).length := by
  intro vs
  induction vs with
  | nil => rfl
  | cons v t ih =>
    by_cases h : v.category = 2
    · simp only [zar, if_pos h, List.length_cons, ih, lg_sl, List.flatMap_cons, List.length_append]
      simp only [List.length_nil]
      omega
    · simp only [zar, if_neg h, List.length_cons, ih, lg_sl, List.flatMap_cons, List.length_append]
      simp only [List.length_nil]
      omega
theorem zpairs_pad : ∀ (l : List (Option Value)) (i k : Nat), zpairs i (l ++ List.replicate k none) = zpairs i l := by
  intro l
  induction l with
  | nil =>
    intro i k
    induction k generalizing i with
    | zero => rfl
    | succ k ih => simp only [List.nil_append, List.replicate_succ, zpairs]; exact ih (i + 1)
  | cons x t ih =>
    intro i k
    cases x with
    | none => simp only [List.cons_append, zpairs]; exact ih _ _
    | some v => simp only [List.cons_append, zpairs]; rw [ih]
theorem zK.same {D : zD} {s U : State} (h : s.vm = U.vm) (hN : zNest.all zisN = true) (hK : zK D s) : zK D U := by
  have ha : s.vm.Alike U.vm := h ▸ Vm.Alike.refl s.vm
  refine ⟨va_K.moved ha hK.1, fun w hw => ?_, fun C hC => va_AO.moved ha (hK.2.2 C hC)⟩
  have h1 := List.all_eq_true.mp hN w hw
  have h2 := hK.2.1 w hw
  cases w <;> first | exact va_Nw.same rfl h h2 | (simp [zisN] at h1)
theorem zK.warm {D : zD} {s U : State} (hW : s.WarmedH U.vm) (hN : zNest.all zisN = true) (hK : zK D s) : zK D U := by
  refine ⟨va_K.moved hW.alike hK.1, fun w hw => ?_, fun C hC => va_AO.moved hW.alike (hK.2.2 C hC)⟩
  have h1 := List.all_eq_true.mp hN w hw
  have h2 := hK.2.1 w hw
  cases w <;> first | exact va_Nw.warmF hW h2 | exact va_Nw.warmM hW h2 | exact va_Nw.warmC hW h2 | (simp [zisN] at h1)
section ZS
variable {l : Launch} {D : zD} {M : zM} {mc ms : Nat} {Q : Option Value → zH → Prop} {hp : zH} {cu su pc : Nat} {lv : List (Option Value)} {rest : List Value}
theorem Runs.of {as : List Value} (hy : plainName M.1.cls = true) (hlv : zar as ++ List.replicate (M.2.2.1 - (zar as).length) none = lv) (hlen : (zar as).length ≤ M.2.2.1) (hz : Z l D M mc ms Q hp 0 0 0 lv []) : Runs l D M as hp mc ms Q := by
  intro nx
  refine Met.ofW (cc := M.2.1) (maxL := M.2.2.1) (ret := M.2.2.2.1) hy rfl ?_
  intro p e s m args below meth c s₁ B hml hv
  obtain ⟨rfl, hK, ws, hP, hD, hw, hsz⟩ := hv
  have hts := atoms_spec (ws := zw M) B.pre
  have hown : s.vm.findClass M.1.cls = some m.cls := findClass_of_methodNamed B.named
  have hin : meth.name = M.1.name := (name_of_methodNamed B.named B.method).1
  have hl := lv_entry as (n := M.2.2.1) (by rw [← zar_len]; exact hlen)
  have hll : lv.length = M.2.2.1 := by
    rw [← hlv]
    simp only [List.length_append, List.length_replicate]
    omega
  rw [lg_entry_eq]
  refine hz p e s m as.toArray below meth c s.heap [] (zA hp nx) _ (zQc D hp nx Q) (zA hp nx) ⟨B.exec, B.bytes, hml, hown, hts, B.notSynchronized, B.returns, hin, hK⟩ (fun q hq => Or.inr (hsz ▸ hq)) ⟨ws, hP, ⟨hD.1, fun k q hk => Or.inl (by rw [(hw q.1 q.2).2 ⟨k, hk⟩]; exact fun h => by cases h)⟩, va_S.rf, hw⟩ hll ?_ (fun r hp' H' locs' hR' hq => ?_)
  · show lv_has _ lv.length (zpairs 0 lv)
    rw [hll, ← hlv, zpairs_pad, zar_pairs]
    exact hl
  · obtain ⟨ws', hP', hD', hS', hw'⟩ := hR'
    exact ⟨fun t ht hW => ⟨⟨r, hp', rfl, hq, ws', by rw [ht]; exact hP', hD', hw'⟩, hS'.F ht⟩, hS'.2.2⟩
theorem z_after {p : Program} {e : Env} {R : Room} {s : State} {m : MethodId} {args : Array Value} {below : List Frame} {meth : Method} {c : Code} {H : Heap} {locs : List Loc} {A : Nat → Prop} {ls : Array Slot} {Qf : State → Prop} {mc' ms' : Nat} {Q' : Option Value → zH → Prop} {av : Array Value} {st : List Value}
    (hr : va_Run p l e R s m args below meth c H locs cu su mc' ms' (F0 m pc ls st) rest (zQc D hp H.size Q' av) (zA hp H.size)) (hR : zR D A s.heap hp H locs) (hA : ∀ q, s.heap.size ≤ q → A q)
    (kk : ∀ (r : Option Value) (hp' : zH) (H1 : Heap) (locs1 : List Loc), Q' r hp' → zR D A s.heap hp' H1 locs1 → W p l e R s m args below meth c H1 locs1 (cu + mc') (su + ms') Qf (F0 m (pc + 3) ls (r.toList ++ rest))) : W p l e R s m args below meth c H locs cu su Qf (F0 m pc ls st) := by
  intro T hT X
  obtain ⟨v, st₀, t, T', L, h0, X', hL, e1, e2, ⟨⟨r, hp', hv, hq, ws', hP', hD', hw'⟩, hz, hk⟩, st⟩ := hr T hT X
  cases hv
  rw [h0] at hz hk
  obtain ⟨ws, hP, hD, hS, hw⟩ := hR
  have hsub : ∀ q, zA hp H.size q → A q := by
    rintro q (h | h)
    · cases hx : hp q with
      | none => exact absurd hx h
      | some x =>
        obtain ⟨k, hk⟩ := (hw q x).1 hx
        exact hD.2 k _ hk
    · exact hA q (Nat.le_trans hS.1 h)
  obtain ⟨t2, a1, b1⟩ := kk v hp' T'.heap (locs ++ L) hq ⟨ws', by rw [e1]; exact hP', hD'.weaken (fun _ q _ h => hsub q.1 h), ⟨Nat.le_trans hS.1 (by rw [e1]; exact hz), fun q h1 h2 => by rw [e1, hk q (Nat.lt_of_lt_of_le h1 hS.1) (fun z => h2 (hsub q z))]; exact hS.2.1 q h1 h2, fun q hq => by
      rcases List.mem_append.mp hq with h | h
      · exact hS.2.2 q h
      · exact hsub _ (hL q h)⟩, hw'⟩ T' rfl X'
  exact ⟨t2, st t2 a1, b1⟩
/-- what a call needs of the tables and of the room -/
def zCB (M M' : zM) (n : Nat) : Prop := Cond.code M'.1 M'.2.1 M'.2.2.1 M'.2.2.2.1 ∈ zT ∧ Cond.initialized M'.1.cls ∈ zT ∧ (M'.1.cls ≠ "java/lang/invoke/MethodHandle" ∧ M'.1.cls ≠ "java/lang/invoke/VarHandle" ∧ (parseMethodDescriptor M'.1.desc).map (fun d => d.parameters.length) = some n) ∧ M'.2.2.2.2.1 + 1 ≤ M.2.2.2.2.1 ∧ 8 + (M'.2.2.1 + 11) + M'.2.2.2.2.2 ≤ M.2.2.2.2.2
def zLk (own : String) (y : MethodName) (index : Nat) : Prop := Cond.methodLink own index y ∈ zT ∨ ∃ host, Cond.methodLinkNest own index y host ∈ zNest
theorem zIn {M M' : zM} {n : Nat} (hG : GoodIn zT zT) (hB : zCB M M' n) : GoodIn (zw M) (zw M') := by
  intro w hw
  rcases List.mem_cons.mp hw with rfl | h
  · exact ⟨List.mem_cons_of_mem _ hB.1, (hG _ hB.1).2⟩
  · exact ⟨List.mem_cons_of_mem _ h, (hG _ h).2⟩
theorem zpre {s : State} {H : Heap} {as : List Value} {ws : va_W} {A : Nat → Prop} (hN : zNest.all zisN = true) (hK : zK D s) (hP : va_P D.1.1 zcl ws H) (hD : va_D A ws) (hw : ∀ a x, hp a = some x ↔ ∃ k : Nat, ws[k]? = some (a, x)) : PreS s H (zPc D as hp H.size) as :=
  ⟨fun _ U _ _ h => ⟨h.1, zK.same (s := U) rfl hN h.2.1, h.2.2⟩, fun U hU hW => ⟨rfl, zK.warm hW hN hK, ws, by rw [hU]; exact hP, hD.weaken (fun _ _ _ _ => trivial), hw, by rw [hU]⟩⟩
theorem z_callS {index n mc' ms' : Nat} {M' : zM} {as st : List Value} {Q' : Option Value → zH → Prop} (hd : decode M.2.1 pc = .ok (.invokestatic index, 3)) (pc' : Nat) (he : pc + 3 = pc') (hB : zCB M M' n) (hl : zLk M.1.cls M'.1 index) (hst : Cond.static M'.1 ∈ zT) (hr : Runs l D M' as hp mc' ms' Q') (hn : as.length = n) (hs : st = as.reverse ++ rest) (hrest : (rest.map fun v => v.category).sum ≤ 8) (hcu : cu + mc' ≤ mc) (hsu : su + ms' ≤ ms)
    (kk : ∀ (r : Option Value) (hp' : zH), Q' r hp' → Z l D M mc ms Q hp' (cu + mc') (su + ms') pc' lv (r.toList ++ rest)) : Z l D M mc ms Q hp cu su pc lv st := by
  subst he
  intro p e s m args below meth c H locs A ls Qc free hC hA hR hn9 hL hE
  have hR0 := hR
  obtain ⟨ws, hP, hD, hS, hw⟩ := hR
  have hG := zIn (M := M) zGd hB
  have hsz : ls.size = M.2.2.1 := hL.1.trans hn9
  have hpre := zpre (as := as) zNs hC.k hP hD hw
  refine z_after (D := D) (hp := hp) (Q' := Q') (av := as.toArray) (mc' := mc') (ms' := ms') (st := st) (rest := rest) ?_ hR0 hA (fun r hp' H1 locs1 hq hR1 => kk r hp' hq p e s m args below meth c H1 locs1 A ls Qc free hC hA hR1 hn9 hL hE)
  rcases hl with hl | ⟨host, hl⟩
  · exact va_runS ⟨hC.1, hC.2.1, hC.2.2.1, hC.own, hC.2.2.2.2.1⟩ (hr H.size) ⟨callB_of n hC.2.2.2.2.1 hG rfl rfl rfl (hC.t _ hB.2.1) (hC.t _ hl) hB.2.2.1 hB.2.2.2, hC.t _ hst⟩ hpre rfl hn hsz hs (lv_room hrest) hd ⟨hcu, hsu⟩
  · exact va_runSN ⟨hC.1, hC.2.1, hC.2.2.1, hC.own, hC.2.2.2.2.1⟩ (hr H.size) ⟨va_cnB n hC.2.2.2.2.1 hG rfl rfl rfl (hC.k.2.1 _ hl) (hC.t _ hB.2.1) hB.2.2.1 hB.2.2.2, hC.t _ hst, trivial⟩ hpre rfl hn hsz hs (lv_room hrest) hd ⟨hcu, hsu⟩
theorem z_callI {index n mc' ms' b : Nat} {M' : zM} {as st : List Value} {Q' : Option Value → zH → Prop} (hd : decode M.2.1 pc = .ok (.invokespecial index, 3)) (pc' : Nat) (he : pc + 3 = pc') (hB : zCB M M' n) (hl : zLk M.1.cls M'.1 index) (hin : Cond.instanceMethod M'.1 ∈ zT) (hnm : M'.1.name = "<init>") (hret : M'.2.2.2.1 = none) (hr : Runs l D M' (.ref b :: as) hp mc' ms' Q') (hn : as.length = n) (hs : st = as.reverse ++ .ref b :: rest) (hrest : (rest.map fun v => v.category).sum ≤ 8) (hcu : cu + mc' ≤ mc) (hsu : su + ms' ≤ ms)
    (kk : ∀ (r : Option Value) (hp' : zH), Q' r hp' → Z l D M mc ms Q hp' (cu + mc') (su + ms') pc' lv (r.toList ++ rest)) : Z l D M mc ms Q hp cu su pc lv st := by
  subst he
  intro p e s m args below meth c H locs A ls Qc free hC hA hR hn9 hL hE
  have hR0 := hR
  obtain ⟨ws, hP, hD, hS, hw⟩ := hR
  have hG := zIn (M := M) zGd hB
  have hsz : ls.size = M.2.2.1 := hL.1.trans hn9
  have hpre := zpre (as := .ref b :: as) zNs hC.k hP hD hw
  have hwn : zw M' = Cond.code M'.1 M'.2.1 M'.2.2.1 none :: zT := by rw [← hret]; rfl
  refine z_after (D := D) (hp := hp) (Q' := Q') (av := (Value.ref b :: as).toArray) (mc' := mc') (ms' := ms') (st := st) (rest := rest) ?_ hR0 hA (fun r hp' H1 locs1 hq hR1 => kk r hp' hq p e s m args below meth c H1 locs1 A ls Qc free hC hA hR1 hn9 hL hE)
  rcases hl with hl | ⟨host, hl⟩
  · exact va_runI ⟨hC.1, hC.2.1, hC.2.2.1, hC.own, hC.2.2.2.2.1⟩ (hr H.size) ⟨callB_of n hC.2.2.2.2.1 hG hwn rfl rfl (hC.t _ hB.2.1) (hC.t _ hl) hB.2.2.1 hB.2.2.2, hnm, hC.t _ hin⟩ hpre rfl hn hsz hs (lv_room hrest) hd ⟨hcu, hsu⟩
  · exact va_runIN ⟨hC.1, hC.2.1, hC.2.2.1, hC.own, hC.2.2.2.2.1⟩ (hr H.size) ⟨va_cnB n hC.2.2.2.2.1 hG hwn rfl rfl (hC.k.2.1 _ hl) (hC.t _ hB.2.1) hB.2.2.1 hB.2.2.2, hnm, hC.t _ hin⟩ hpre rfl hn hsz hs (lv_room hrest) hd ⟨hcu, hsu⟩
theorem z_callV {index n mc' ms' b ci : Nat} {M' : zM} {as st fs : List Value} {Q' : Option Value → zH → Prop} (hd : decode M.2.1 pc = .ok (.invokevirtual index, 3)) (pc' : Nat) (he : pc + 3 = pc') (hB : zCB M M' n) (hl : zLk M.1.cls M'.1 index) (hin : Cond.instanceMethod M'.1 ∈ zT) (hsel : Cond.selects M'.1.cls M'.1 M'.1 ∈ zT) (hci : ∃ r : vw_C, zcl[ci]? = some r ∧ r.1 = M'.1.cls) (hb : hp b = some (.inr (ci, fs))) (hr : Runs l D M' (.ref b :: as) hp mc' ms' Q') (hn : as.length = n) (hs : st = as.reverse ++ .ref b :: rest) (hrest : (rest.map fun v => v.category).sum ≤ 8) (hcu : cu + mc' ≤ mc) (hsu : su + ms' ≤ ms)
    (kk : ∀ (r : Option Value) (hp' : zH), Q' r hp' → Z l D M mc ms Q hp' (cu + mc') (su + ms') pc' lv (r.toList ++ rest)) : Z l D M mc ms Q hp cu su pc lv st := by
  subst he
  intro p e s m args below meth c H locs A ls Qc free hC hA hR hn9 hL hE
  have hR0 := hR
  obtain ⟨ws, hP, hD, hS, hw⟩ := hR
  have hG := zIn (M := M) zGd hB
  have hsz : ls.size = M.2.2.1 := hL.1.trans hn9
  have hpre := zpre (as := .ref b :: as) zNs hC.k hP hD hw
  obtain ⟨r0, hr0, hr1⟩ := hci
  obtain ⟨q0, hq0⟩ := (hw _ _).1 hb
  have hrec := va_recv hC.k.1 hP hr0 hq0
  rw [hr1] at hrec
  have hpv : PreV s H M'.1.cls b (zPc D (.ref b :: as) hp H.size) as := ⟨hpre.1, hrec, hpre.2⟩
  refine z_after (D := D) (hp := hp) (Q' := Q') (av := (Value.ref b :: as).toArray) (mc' := mc') (ms' := ms') (st := st) (rest := rest) ?_ hR0 hA (fun r hp' H1 locs1 hq hR1 => kk r hp' hq p e s m args below meth c H1 locs1 A ls Qc free hC hA hR1 hn9 hL hE)
  rcases hl with hl | ⟨host, hl⟩
  · exact va_runV ⟨hC.1, hC.2.1, hC.2.2.1, hC.own, hC.2.2.2.2.1⟩ (hr H.size) ⟨callB_of n hC.2.2.2.2.1 hG rfl rfl rfl (hC.t _ hB.2.1) (hC.t _ hl) hB.2.2.1 hB.2.2.2, hC.t _ hin, hC.t _ hsel⟩ hpv rfl hn hsz hs (lv_room hrest) hd ⟨hcu, hsu⟩
  · exact va_runVN ⟨hC.1, hC.2.1, hC.2.2.1, hC.own, hC.2.2.2.2.1⟩ (hr H.size) ⟨va_cnB n hC.2.2.2.2.1 hG rfl rfl rfl (hC.k.2.1 _ hl) (hC.t _ hB.2.1) hB.2.2.1 hB.2.2.2, hC.t _ hin, hC.t _ hsel⟩ hpv rfl hn hsz hs (lv_room hrest) hd ⟨hcu, hsu⟩
/-- what a callee needs of the tables: static, virtual, a constructor -/
def zMB (M' : zM) (n : Nat) : Prop := Cond.code M'.1 M'.2.1 M'.2.2.1 M'.2.2.2.1 ∈ zT ∧ Cond.initialized M'.1.cls ∈ zT ∧ M'.1.cls ≠ "java/lang/invoke/MethodHandle" ∧ M'.1.cls ≠ "java/lang/invoke/VarHandle" ∧ (parseMethodDescriptor M'.1.desc).map (fun d => d.parameters.length) = some n
def zMS (M' : zM) (n : Nat) : Prop := zMB M' n ∧ Cond.static M'.1 ∈ zT
def zMV (M' : zM) (n ci : Nat) : Prop := zMB M' n ∧ Cond.instanceMethod M'.1 ∈ zT ∧ Cond.selects M'.1.cls M'.1 M'.1 ∈ zT ∧ ∃ r : vw_C, zcl[ci]? = some r ∧ r.1 = M'.1.cls
def zMI (M' : zM) (n : Nat) : Prop := zMB M' n ∧ Cond.instanceMethod M'.1 ∈ zT ∧ M'.1.name = "<init>" ∧ M'.2.2.2.1 = none
/-- the room for a call -/
abbrev zRm (M M' : zM) : Prop := M'.2.2.2.2.1 + 1 ≤ M.2.2.2.2.1 ∧ 8 + (M'.2.2.1 + 11) + M'.2.2.2.2.2 ≤ M.2.2.2.2.2
theorem zMB.cb {M' : zM} {n : Nat} (h : zMB M' n) (hR : zRm M M') : zCB M M' n := ⟨h.1, h.2.1, h.2.2, hR⟩
theorem z_cS {index n mc' ms' : Nat} {M' : zM} {as st : List Value} {Q' : Option Value → zH → Prop} (hd : decode M.2.1 pc = .ok (.invokestatic index, 3)) (pc' : Nat) (he : pc + 3 = pc') (hM : zMS M' n) (hl : zLk M.1.cls M'.1 index) (hR : zRm M M') (cu' su' : Nat) (ec : cu + mc' = cu') (es : su + ms' = su') (hcu : cu' ≤ mc) (hsu : su' ≤ ms) (hr : Runs l D M' (as) hp mc' ms' Q') (hn : as.length = n) (hs : st = as.reverse ++ rest) (hrest : (rest.map fun v => v.category).sum ≤ 8)
    (kk : ∀ (r : Option Value) (hp' : zH), Q' r hp' → Z l D M mc ms Q hp' cu' su' pc' lv (r.toList ++ rest)) : Z l D M mc ms Q hp cu su pc lv st := by
  subst ec
  subst es
  exact z_callS hd pc' he (hM.1.cb hR) hl hM.2 hr hn hs hrest hcu hsu kk
theorem z_cS1 {index n mc' ms' : Nat} {M' : zM} {as st : List Value} {v : Value} {hp' : zH} (hd : decode M.2.1 pc = .ok (.invokestatic index, 3)) (pc' : Nat) (he : pc + 3 = pc') (hM : zMS M' n) (hl : zLk M.1.cls M'.1 index) (hR : zRm M M') (cu' su' : Nat) (ec : cu + mc' = cu') (es : su + ms' = su') (hcu : cu' ≤ mc) (hsu : su' ≤ ms) (hr : ∀ Q' : Option Value → zH → Prop, Q' (some v) hp' → Runs l D M' (as) hp mc' ms' Q') (hn : as.length = n) (hs : st = as.reverse ++ rest) (hrest : (rest.map fun v => v.category).sum ≤ 8)
    (kk : Z l D M mc ms Q hp' cu' su' pc' lv (v :: rest)) : Z l D M mc ms Q hp cu su pc lv st := by
  refine z_cS (Q' := fun r h => r = some v ∧ h = hp') hd pc' he hM hl hR cu' su' ec es hcu hsu (hr _ ⟨rfl, rfl⟩) hn hs hrest ?_
  rintro r h ⟨rfl, rfl⟩
  exact kk
theorem z_cS0 {index n mc' ms' : Nat} {M' : zM} {as st : List Value} {hp' : zH} (hd : decode M.2.1 pc = .ok (.invokestatic index, 3)) (pc' : Nat) (he : pc + 3 = pc') (hM : zMS M' n) (hl : zLk M.1.cls M'.1 index) (hR : zRm M M') (cu' su' : Nat) (ec : cu + mc' = cu') (es : su + ms' = su') (hcu : cu' ≤ mc) (hsu : su' ≤ ms) (hr : ∀ Q' : Option Value → zH → Prop, Q' none hp' → Runs l D M' (as) hp mc' ms' Q') (hn : as.length = n) (hs : st = as.reverse ++ rest) (hrest : (rest.map fun v => v.category).sum ≤ 8)
    (kk : Z l D M mc ms Q hp' cu' su' pc' lv rest) : Z l D M mc ms Q hp cu su pc lv st := by
  refine z_cS (Q' := fun r h => r = none ∧ h = hp') hd pc' he hM hl hR cu' su' ec es hcu hsu (hr _ ⟨rfl, rfl⟩) hn hs hrest ?_
  rintro r h ⟨rfl, rfl⟩
  exact kk
theorem z_cV {index n mc' ms' b ci : Nat} {M' : zM} {as st : List Value} {fs : List Value} {Q' : Option Value → zH → Prop} (hd : decode M.2.1 pc = .ok (.invokevirtual index, 3)) (pc' : Nat) (he : pc + 3 = pc') (hM : zMV M' n ci) (hl : zLk M.1.cls M'.1 index) (hR : zRm M M') (cu' su' : Nat) (ec : cu + mc' = cu') (es : su + ms' = su') (hcu : cu' ≤ mc) (hsu : su' ≤ ms) (hb : hp b = some (.inr (ci, fs))) (hr : Runs l D M' (.ref b :: as) hp mc' ms' Q') (hn : as.length = n) (hs : st = as.reverse ++ .ref b :: rest) (hrest : (rest.map fun v => v.category).sum ≤ 8)
    (kk : ∀ (r : Option Value) (hp' : zH), Q' r hp' → Z l D M mc ms Q hp' cu' su' pc' lv (r.toList ++ rest)) : Z l D M mc ms Q hp cu su pc lv st := by
  subst ec
  subst es
  exact z_callV hd pc' he (hM.1.cb hR) hl hM.2.1 hM.2.2.1 hM.2.2.2 hb hr hn hs hrest hcu hsu kk
theorem z_cV1 {index n mc' ms' b ci : Nat} {M' : zM} {as st : List Value} {fs : List Value} {v : Value} {hp' : zH} (hd : decode M.2.1 pc = .ok (.invokevirtual index, 3)) (pc' : Nat) (he : pc + 3 = pc') (hM : zMV M' n ci) (hl : zLk M.1.cls M'.1 index) (hR : zRm M M') (cu' su' : Nat) (ec : cu + mc' = cu') (es : su + ms' = su') (hcu : cu' ≤ mc) (hsu : su' ≤ ms) (hb : hp b = some (.inr (ci, fs))) (hr : ∀ Q' : Option Value → zH → Prop, Q' (some v) hp' → Runs l D M' (.ref b :: as) hp mc' ms' Q') (hn : as.length = n) (hs : st = as.reverse ++ .ref b :: rest) (hrest : (rest.map fun v => v.category).sum ≤ 8)
    (kk : Z l D M mc ms Q hp' cu' su' pc' lv (v :: rest)) : Z l D M mc ms Q hp cu su pc lv st := by
  refine z_cV (Q' := fun r h => r = some v ∧ h = hp') hd pc' he hM hl hR cu' su' ec es hcu hsu hb (hr _ ⟨rfl, rfl⟩) hn hs hrest ?_
  rintro r h ⟨rfl, rfl⟩
  exact kk
theorem z_cV0 {index n mc' ms' b ci : Nat} {M' : zM} {as st : List Value} {fs : List Value} {hp' : zH} (hd : decode M.2.1 pc = .ok (.invokevirtual index, 3)) (pc' : Nat) (he : pc + 3 = pc') (hM : zMV M' n ci) (hl : zLk M.1.cls M'.1 index) (hR : zRm M M') (cu' su' : Nat) (ec : cu + mc' = cu') (es : su + ms' = su') (hcu : cu' ≤ mc) (hsu : su' ≤ ms) (hb : hp b = some (.inr (ci, fs))) (hr : ∀ Q' : Option Value → zH → Prop, Q' none hp' → Runs l D M' (.ref b :: as) hp mc' ms' Q') (hn : as.length = n) (hs : st = as.reverse ++ .ref b :: rest) (hrest : (rest.map fun v => v.category).sum ≤ 8)
    (kk : Z l D M mc ms Q hp' cu' su' pc' lv rest) : Z l D M mc ms Q hp cu su pc lv st := by
  refine z_cV (Q' := fun r h => r = none ∧ h = hp') hd pc' he hM hl hR cu' su' ec es hcu hsu hb (hr _ ⟨rfl, rfl⟩) hn hs hrest ?_
  rintro r h ⟨rfl, rfl⟩
  exact kk
theorem z_cI {index n mc' ms' b : Nat} {M' : zM} {as st : List Value} {Q' : Option Value → zH → Prop} (hd : decode M.2.1 pc = .ok (.invokespecial index, 3)) (pc' : Nat) (he : pc + 3 = pc') (hM : zMI M' n) (hl : zLk M.1.cls M'.1 index) (hR : zRm M M') (cu' su' : Nat) (ec : cu + mc' = cu') (es : su + ms' = su') (hcu : cu' ≤ mc) (hsu : su' ≤ ms) (hr : Runs l D M' (.ref b :: as) hp mc' ms' Q') (hn : as.length = n) (hs : st = as.reverse ++ .ref b :: rest) (hrest : (rest.map fun v => v.category).sum ≤ 8)
    (kk : ∀ (r : Option Value) (hp' : zH), Q' r hp' → Z l D M mc ms Q hp' cu' su' pc' lv (r.toList ++ rest)) : Z l D M mc ms Q hp cu su pc lv st := by
  subst ec
  subst es
  exact z_callI hd pc' he (hM.1.cb hR) hl hM.2.1 hM.2.2.1 hM.2.2.2 hr hn hs hrest hcu hsu kk
theorem z_cI1 {index n mc' ms' b : Nat} {M' : zM} {as st : List Value} {v : Value} {hp' : zH} (hd : decode M.2.1 pc = .ok (.invokespecial index, 3)) (pc' : Nat) (he : pc + 3 = pc') (hM : zMI M' n) (hl : zLk M.1.cls M'.1 index) (hR : zRm M M') (cu' su' : Nat) (ec : cu + mc' = cu') (es : su + ms' = su') (hcu : cu' ≤ mc) (hsu : su' ≤ ms) (hr : ∀ Q' : Option Value → zH → Prop, Q' (some v) hp' → Runs l D M' (.ref b :: as) hp mc' ms' Q') (hn : as.length = n) (hs : st = as.reverse ++ .ref b :: rest) (hrest : (rest.map fun v => v.category).sum ≤ 8)
    (kk : Z l D M mc ms Q hp' cu' su' pc' lv (v :: rest)) : Z l D M mc ms Q hp cu su pc lv st := by
  refine z_cI (Q' := fun r h => r = some v ∧ h = hp') hd pc' he hM hl hR cu' su' ec es hcu hsu (hr _ ⟨rfl, rfl⟩) hn hs hrest ?_
  rintro r h ⟨rfl, rfl⟩
  exact kk
theorem z_cI0 {index n mc' ms' b : Nat} {M' : zM} {as st : List Value} {hp' : zH} (hd : decode M.2.1 pc = .ok (.invokespecial index, 3)) (pc' : Nat) (he : pc + 3 = pc') (hM : zMI M' n) (hl : zLk M.1.cls M'.1 index) (hR : zRm M M') (cu' su' : Nat) (ec : cu + mc' = cu') (es : su + ms' = su') (hcu : cu' ≤ mc) (hsu : su' ≤ ms) (hr : ∀ Q' : Option Value → zH → Prop, Q' none hp' → Runs l D M' (.ref b :: as) hp mc' ms' Q') (hn : as.length = n) (hs : st = as.reverse ++ .ref b :: rest) (hrest : (rest.map fun v => v.category).sum ≤ 8)
    (kk : Z l D M mc ms Q hp' cu' su' pc' lv rest) : Z l D M mc ms Q hp cu su pc lv st := by
  refine z_cI (Q' := fun r h => r = none ∧ h = hp') hd pc' he hM hl hR cu' su' ec es hcu hsu (hr _ ⟨rfl, rfl⟩) hn hs hrest ?_
  rintro r h ⟨rfl, rfl⟩
  exact kk
theorem Runs.mono {as : List Value} {Q' : Option Value → zH → Prop} (h : Runs l D M as hp mc ms Q) (hq : ∀ r hp', Q r hp' → Q' r hp') : Runs l D M as hp mc ms Q' := by
  intro nx
  refine MetFree.mono (h nx) (fun _ _ q => q) (fun _ _ _ _ _ q => q) (fun a s o s' _ q => ?_)
  obtain ⟨⟨⟨r, hp', h1, h2, h3⟩, h4⟩, h5⟩ := q
  exact ⟨⟨⟨r, hp', h1, hq r hp' h2, h3⟩, h4⟩, h5⟩
end ZS
