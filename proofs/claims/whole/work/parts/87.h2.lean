/-! Bags without addresses. Own work. -/
/-- a bag's value without the addresses -/
def BV.str (V : BV) : List (List Nat) × NS × NS × NS := (V.L.map (·.2), V.m, V.c, V.a)
theorem str_iff {V V' : BV} : V.str = V'.str ↔ V.L.map (·.2) = V'.L.map (·.2) ∧ V.m = V'.m ∧ V.c = V'.c ∧ V.a = V'.a := by
  unfold BV.str
  simp only [Prod.mk.injEq]
theorem str_pot {V V' : BV} (h : V.str = V'.str) : V.pot = V'.pot := by
  obtain ⟨_, h2, h3, h4⟩ := str_iff.1 h
  unfold BV.pot
  rw [h2, h3, h4]
theorem fdA_str {x : Int32} : ∀ {L L' : List (Nat × List Nat)}, L.map (·.2) = L'.map (·.2) → (fdA x L).isSome = (fdA x L').isSome
  | [], [], _ => rfl
  | [], _ :: _, h => by cases h
  | _ :: _, [], h => by cases h
  | a :: t, a' :: t', h => by
    simp only [List.map_cons, List.cons.injEq] at h
    rw [fdA, fdA, h.1]
    split
    · rfl
    · exact fdA_str h.2
theorem map_get {L L' : List (Nat × List Nat)} (h : L.map (·.2) = L'.map (·.2)) (i : Nat) : (L[i]?).map (·.2) = (L'[i]?).map (·.2) := by
  rw [← List.getElem?_map, ← List.getElem?_map, h]
theorem map_len {L L' : List (Nat × List Nat)} (h : L.map (·.2) = L'.map (·.2)) : L.length = L'.length := by
  have := congrArg List.length h
  simpa using this
theorem plG_str {x : List Nat} {L L' : List (Nat × List Nat)} (h : L.map (·.2) = L'.map (·.2)) : ∀ p, plG x L p = plG x L' p
  | 0 => rfl
  | p + 1 => by
    have hg := map_get h p
    rw [plG, plG]
    cases h1 : L[p]? with
    | none =>
      cases h2 : L'[p]? with
      | none => rfl
      | some y => rw [h1, h2] at hg; cases hg
    | some y =>
      cases h2 : L'[p]? with
      | none => rw [h1, h2] at hg; cases hg
      | some y' =>
        rw [h1, h2] at hg
        simp only [Option.map_some, Option.some.injEq] at hg
        simp only
        rw [hg, plG_str h p]
theorem gIns_str {L L' : List (Nat × List Nat)} {x x' : Nat × List Nat} (h : L.map (·.2) = L'.map (·.2)) (hx : x.2 = x'.2) : (gIns L x).map (·.2) = (gIns L' x').map (·.2) := by
  unfold gIns
  rw [map_len h, hx, plG_str h]
  simp only [List.map_append, List.map_cons, List.map_take, List.map_drop, h, hx]
theorem wnS_str {L L' : List (Nat × List Nat)} (h : L.map (·.2) = L'.map (·.2)) (x : Option Nat) (m : NS) : wnS L x m = wnS L' x m := by
  unfold wnS
  cases x with
  | none => rfl
  | some v => simp only; rw [fdA_str h]
theorem nnM_str {L L' : List (Nat × List Nat)} (h : L.map (·.2) = L'.map (·.2)) : ∀ (cs : List CV) (m : NS), nnM L cs m = nnM L' cs m
  | [], _ => rfl
  | c :: t, m => by rw [nnM, nnM, wnS_str h, wnS_str h, nnM_str h t]
theorem takeV_str {V V' : BV} {x x' : Nat × List Nat} (h : V.str = V'.str) (hx : x.2 = x'.2) : (takeV V x).str = (takeV V' x').str := by
  have h0 := h
  obtain ⟨h1, h2, h3, h4⟩ := str_iff.1 h
  unfold takeV
  rw [map_len h1, hx, fdA_str h1]
  split
  · exact h0
  · refine str_iff.2 ⟨gIns_str h1 hx, ?_, ?_, h4⟩
    · simp only [BV.km, BV.kc]; rw [nnM_str (gIns_str h1 hx), h2]
    · simp only [BV.km, BV.kc]; rw [h3]
theorem lsL_str {L L' : List (Nat × List Nat)} (h : L.map (·.2) = L'.map (·.2)) (c : List Nat) : lsL L c = lsL L' c := by
  have h1 : ∀ M : List (Nat × List Nat), (M.map fun y => dg 7 y.2) = (M.map (·.2)).map (dg 7) := fun M => by rw [List.map_map]; rfl
  unfold lsL
  rw [h1, h1, h]
theorem gatV_str {V V' : BV} {q q' : Nat} (h : V.str = V'.str) : (gatV V q).str = (gatV V' q').str := by
  have h0 := h
  obtain ⟨h1, h2, h3, h4⟩ := str_iff.1 h
  unfold gatV
  rw [lsL_str h1, h3]
  split
  · exact h0
  · exact takeV_str h0 rfl
theorem sndF_str (K : List Nat) : ∀ {t t' : List (Nat × List Nat)} {z z' : Nat × Nat × BV}, t.map (·.2) = t'.map (·.2) → z.1 = z'.1 → z.2.1 = z'.2.1 → z.2.2.str = z'.2.2.str → (sndF K t z).1 = (sndF K t' z').1 ∧ (sndF K t z).2.1 = (sndF K t' z').2.1 ∧ (sndF K t z).2.2.str = (sndF K t' z').2.2.str
  | [], [], _, _, _, h1, h2, h3 => ⟨h1, h2, h3⟩
  | [], _ :: _, _, _, h, _, _, _ => by cases h
  | _ :: _, [], _, _, h, _, _, _ => by cases h
  | y :: t, y' :: t', z, z', h, h1, h2, h3 => by
    simp only [List.map_cons, List.cons.injEq] at h
    rw [sndF, sndF, h.1, h1]
    by_cases hc : dg 7 y'.2 ∈ K ∧ y'.2.length ≤ z'.1
    · rw [if_pos hc, if_pos hc]
      exact sndF_str K h.2 rfl (by simp only; rw [h2]) (takeV_str h3 h.1)
    · rw [if_neg hc, if_neg hc]
      exact sndF_str K h.2 h1 h2 h3
theorem telF_str {R R' : List (Nat × List Nat)} (c : List Nat) (hR : R.map (·.2) = R'.map (·.2)) : ∀ {t t' : List (Nat × List Nat)} (m : NS), t.map (·.2) = t'.map (·.2) → telF R c t m = telF R' c t' m
  | [], [], _, _ => rfl
  | [], _ :: _, _, h => by cases h
  | _ :: _, [], _, h => by cases h
  | y :: t, y' :: t', m, h => by
    simp only [List.map_cons, List.cons.injEq] at h
    rw [telF, telF, h.1, wnS_str hR]
    exact telF_str c hR _ h.2
theorem sndV_str {S S' R R' : BV} (hS : S.str = S'.str) (hR : R.str = R'.str) (b : Nat) : (sndV S R b).str = (sndV S' R' b).str := by
  obtain ⟨h1, h2, h3, h4⟩ := str_iff.1 hS
  have hz := (sndF_str S.a.2 (t := S.L) (t' := S'.L) (z := (b, 0, R)) (z' := (b, 0, R')) h1 rfl rfl hR).2.2
  obtain ⟨k1, k2, k3, k4⟩ := str_iff.1 hz
  unfold sndV
  rw [← h4]
  refine str_iff.2 ⟨k1, ?_, k3, ?_⟩
  · simp only [BV.km, BV.ka]
    rw [telF_str _ k1 _ h1, k2, h3]
  · simp only [BV.km, BV.ka]
    rw [k4, h2]
/-- a round's two bags -/
def rndV (V0 V1 : BV) (q0 q1 b : Nat) : BV × BV := (sndV (sndV (gatV V0 q0) (gatV V1 q1) b) (gatV V0 q0) b, sndV (gatV V0 q0) (gatV V1 q1) b)
theorem rndV_pot (V0 V1 : BV) (q0 q1 p0 p1 b : Nat) : (rndV V0 V1 q0 q1 b).1.pot = (rndV V0 V1 p0 p1 b).1.pot ∧ (rndV V0 V1 q0 q1 b).2.pot = (rndV V0 V1 p0 p1 b).2.pot := by
  have e0 := gatV_str (V := V0) (q := q0) (q' := p0) rfl
  have e1 := gatV_str (V := V1) (q := q1) (q' := p1) rfl
  have e2 := sndV_str e0 e1 b
  exact ⟨str_pot (sndV_str e2 e0 b), str_pot e2⟩
theorem sndV_pot {S R : BV} (b : Nat) (hS : okS S.m) (hR : okS (sndF S.a.2 S.L (b, 0, R)).2.2.a) : R.pot ≤ (sndV S R b).pot := by
  have h1 := (sndF_a S.a.2 S.L (b, 0, R)).2
  have h2 := (telF_up (sndF S.a.2 S.L (b, 0, R)).2.2.L S.c.2 S.L (sndF S.a.2 S.L (b, 0, R)).2.2.m).2
  have h3 := (cpyS_up hR hS).1
  unfold sndV BV.pot at *
  simp only [BV.km, BV.kc, BV.ka] at *
  omega
theorem okS_pot {V : BV} (h1 : okS V.m) (h2 : okS V.c) (h3 : okS V.a) : V.pot ≤ 3072 ∧ 48 ≤ V.pot := by
  have a := h1.2.2
  have b := h2.2.2
  have c := h3.2.2
  unfold okN at a b c
  unfold BV.pot
  omega
