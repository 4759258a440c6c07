/-! What the tables say at the law's start. Own work. -/
theorem arr_prim {s : State} {args : Array Value} {t : FieldType} (h : (Cond.arrayClass t).before args s = true) : ∃ cA, ArrOfT s cA t ∧ s.vm.findClass ("[" ++ t.toString) = some cA := by
  obtain ⟨c, k, comp, h1, h2, h3⟩ := Cond.arrayClass_spec h
  exact ⟨c, fun n z => ⟨fun k h => (by cases h), k, h2, comp, h3⟩, h1⟩
theorem arr_obj {s : State} {args : Array Value} {C : String} (h : (Cond.arrayOver (.object C)).before args s = true) : ∃ cA, ArrOfT s cA (.object C) ∧ va_RA s cA (.object C) := by
  obtain ⟨comp, c, k, h1, h2, h3, h4, h5⟩ := Cond.arrayOver_spec h
  exact ⟨c, fun n z => ⟨fun k h => (by cases h), k, h3, comp, h4⟩, k, comp, h3, h4, h1, h5⟩
theorem zisN_on {w : Cond} (h : zisN w = true) : w.onTables = true := by
  unfold zisN at h
  split at h
  · rfl
  · rfl
  · rfl
  · cases h
set_option maxRecDepth 100000 in
theorem ib_m : Cond.instantiable "ArtifactBagsModel" 17 ∈ zT := zin 542 rfl rfl
set_option maxRecDepth 100000 in
theorem ib_B : Cond.instantiable "ArtifactBags" 4 ∈ zT := zin 13 rfl rfl
set_option maxRecDepth 100000 in
theorem ib_A : Cond.instantiable "ArtifactBags$Artifact" 6 ∈ zT := zin 315 rfl rfl
set_option maxRecDepth 100000 in
theorem ib_G : Cond.instantiable "ArtifactBags$Bag" 6 ∈ zT := zin 21 rfl rfl
set_option maxRecDepth 100000 in
theorem ib_C : Cond.instantiable "ArtifactBags$Card" 5 ∈ zT := zin 204 rfl rfl
set_option maxRecDepth 100000 in
theorem ib_H : Cond.instantiable "ArtifactBags$History" 2 ∈ zT := zin 29 rfl rfl
set_option maxRecDepth 100000 in
theorem ib_N : Cond.instantiable "ArtifactBags$NameSet" 2 ∈ zT := zin 44 rfl rfl
set_option maxRecDepth 100000 in
theorem ib_R : Cond.instantiable "ArtifactBags$Row" 2 ∈ zT := zin 82 rfl rfl
set_option maxRecDepth 100000 in
theorem ao_A : Cond.arrayOver (.object "ArtifactBags$Artifact") ∈ lw_tbl := List.mem_append_right _ (List.mem_of_getElem? (i := 27) rfl)
set_option maxRecDepth 100000 in
theorem ao_C : Cond.arrayOver (.object "ArtifactBags$Card") ∈ lw_tbl := List.mem_append_right _ (List.mem_of_getElem? (i := 292) rfl)
theorem zK_ex {s : State} {args : Array Value} (hts : ∀ w ∈ lw_tbl, w.before args s = true) : ∃ D : zD, zK D s := by
  have ht : ∀ w ∈ zT, w.before args s = true := fun w hw => hts w (List.mem_filter.mp hw).1
  obtain ⟨cm, im, km⟩ := u_known ht zc_m.2.1 (ht _ ib_m)
  obtain ⟨cB, iB, kB⟩ := u_known ht zc_B.2.1 (ht _ ib_B)
  obtain ⟨cA, iA, kA⟩ := u_known ht zc_A.2.1 (ht _ ib_A)
  obtain ⟨cG, iG, kG⟩ := u_known ht zc_G.2.1 (ht _ ib_G)
  obtain ⟨cC, iC, kC⟩ := u_known ht zc_C.2.1 (ht _ ib_C)
  obtain ⟨cH, iH, kH⟩ := u_known ht zc_H.2.1 (ht _ ib_H)
  obtain ⟨cN, iN, kN⟩ := u_known ht zc_N.2.1 (ht _ ib_N)
  obtain ⟨cR, iR, kR⟩ := u_known ht zc_R.2.1 (ht _ ib_R)
  obtain ⟨a0, p0, q0⟩ := arr_prim (ht _ ac_byte)
  obtain ⟨a1, p1, q1⟩ := arr_prim (ht _ ac_int)
  obtain ⟨a2, p2, q2⟩ := arr_obj (hts _ ao_A)
  obtain ⟨a3, p3, q3⟩ := arr_obj (hts _ ao_C)
  refine ⟨((((fun c => match c with
    | 0 => cm | 1 => cB | 2 => cA | 3 => cG | 4 => cC | 5 => cH | 6 => cN | _ => cR), (fun c => match c with
    | 0 => im | 1 => iB | 2 => iA | 3 => iG | 4 => iC | 5 => iH | 6 => iN | _ => iR)), fun _ => 0), fun k => match k with
    | 0 => a0 | 1 => a1 | 2 => a2 | _ => a3), ⟨?_, ?_⟩, ?_, ?_⟩
  · intro c q hq
    match c with
    | 0 => cases hq; exact km
    | 1 => cases hq; exact kB
    | 2 => cases hq; exact kA
    | 3 => cases hq; exact kG
    | 4 => cases hq; exact kC
    | 5 => cases hq; exact kH
    | 6 => cases hq; exact kN
    | 7 => cases hq; exact kR
    | n + 8 => cases hq
  · intro k q hq
    match k with
    | 0 => cases hq; exact ⟨p0, q0⟩
    | 1 => cases hq; exact ⟨p1, q1⟩
    | 2 => cases hq; exact ⟨p2, q2⟩
    | 3 => cases hq; exact ⟨p3, q3⟩
    | n + 4 => cases hq
  · intro w hw
    have h := List.mem_filter.mp hw
    exact va_Nw.of (zisN_on h.2) (hts w (List.mem_append_right _ h.1))
  · intro C hC
    rcases List.mem_cons.1 hC with rfl | hC
    · exact va_AO.of (hts _ ao_A)
    · rcases List.mem_cons.1 hC with rfl | hC
      · exact va_AO.of (hts _ ao_C)
      · cases hC

