/-! Rounds keep the bounds. Own work. -/
theorem tOk_tlk {As : Nat → List (List Nat)} {T : Nat → List Nat} (h : tOk As T) (hl : ∀ q, q < 2 → (As q).length ≤ 32) {q : Nat} (hq : q < 2) : tlk (T q) := by
  obtain ⟨h1, h2⟩ := h q hq
  refine ⟨?_, ?_⟩
  · have := nodup_len h1 (U := (As (1 - q)).map (dg 7)) (fun x hx => by
      obtain ⟨a, ha, he⟩ := h2 x hx
      exact List.mem_map.2 ⟨a, ha, he⟩)
    have h3 := hl (1 - q) (by omega)
    rw [List.length_map] at this
    omega
  · intro x hx
    obtain ⟨a, ha, he⟩ := h2 x hx
    have := dg7 a
    omega
theorem addA_len {As : List (List Nat)} {bs : List Nat} (h : As.length ≤ 32) : (addA As bs).length ≤ 32 := by
  unfold addA
  split
  next hc => rw [List.length_append]; have := hc.2; simp only [List.length_cons, List.length_nil]; omega
  next => exact h
theorem mkCl_len {As : List (List Nat)} (h : As.length ≤ 32) : (mkCl As).length ≤ 32 := by
  unfold mkCl
  split
  · exact h
  · exact addA_len h
theorem sendF_len (Ar : List (List Nat)) : ∀ (l : List Nat) (z : Nat × Nat × List (List Nat)), z.2.2.length ≤ 32 → (sendF Ar l z).2.2.length ≤ 32
  | [], _, h => h
  | n :: t, z, h => by
    rw [sendF]
    split
    · split
      · exact sendF_len Ar t _ (addA_len h)
      · exact sendF_len Ar t _ h
    · exact sendF_len Ar t _ h
theorem tOk_rd {As : Nat → List (List Nat)} {T : Nat → List Nat} (h : tOk As T) : tOk (rdA As) T := by
  unfold rdA
  have h1 := tOk_round h (q := 0) (B := mkCl (As 0)) (fun a ha => mkCl_sub ha)
  exact tOk_round h1 (q := 1) (B := mkCl (As 1)) (fun a ha => mkCl_sub (by
    have e : upF As 0 (mkCl (As 0)) 1 = As 1 := rfl
    rw [e] at ha
    exact ha))
theorem rd_len {As : Nat → List (List Nat)} (hl : ∀ q, q < 2 → (As q).length ≤ 32) : ∀ q, q < 2 → (rdA As q).length ≤ 32 := by
  intro q hq
  have hq2 : q = 0 ∨ q = 1 := by omega
  rcases hq2 with rfl | rfl
  · exact mkCl_len (hl 0 (by omega))
  · exact mkCl_len (hl 1 (by omega))
theorem msg_len {As : Nat → List (List Nat)} {K : Nat → List Nat} {r b : Nat} (hl : ∀ q, q < 2 → (As q).length ≤ 32) : ∀ q, q < 2 → (msgA As K r b q).length ≤ 32 := by
  intro q hq
  unfold msgA upF
  split
  · exact sendF_len _ _ _ (hl (1 - r) (by omega))
  · exact hl q hq
/-- an empty repository -/
theorem bgR_new : bgR ⟨[], [], (16, []), (16, []), (16, [])⟩ [] [] [] := by
  have e0 : okS (16, []) := ⟨⟨List.Pairwise.nil, fun n hn => by cases hn⟩, Nat.zero_le _, Or.inl rfl⟩
  refine ⟨⟨List.Pairwise.nil, List.Pairwise.nil, fun b => by simp [BV.kL]⟩, Nat.zero_le _, fun b hb => (by cases hb), ⟨List.Pairwise.nil, fun z => by simp [BV.kL, BV.kH]⟩, e0, rfl, e0, fun x => by simp [BV.kc], e0, rfl⟩
/-- no more names than places -/
def lcS (S : NS) : Prop := S.2.length ≤ S.1 ∧ 0 < S.1
theorem addS_lc {S : NS} (h : lcS S) (v : Nat) : lcS (addS S v) := by
  obtain ⟨h1, h2⟩ := h
  unfold addS
  split
  · exact ⟨h1, h2⟩
  next hn =>
    refine ⟨?_, ?_⟩
    · simp only [insS_len hn]; split <;> omega
    · simp only; split <;> omega
theorem wnS_lc {S : NS} (h : lcS S) (L : List (Nat × List Nat)) (x : Option Nat) : lcS (wnS L x S) := by
  unfold wnS
  split
  · exact h
  · split
    · exact h
    · exact addS_lc h _
theorem nnM_lc (L : List (Nat × List Nat)) : ∀ (cs : List CV) {S : NS}, lcS S → lcS (nnM L cs S)
  | [], _, h => h
  | c :: t, S, h => by
    rw [nnM]
    refine nnM_lc L t ?_
    split
    · exact wnS_lc (wnS_lc h _ _) _ _
    · exact h
theorem telF_lc (R : List (Nat × List Nat)) (c : List Nat) : ∀ (t : List (Nat × List Nat)) {S : NS}, lcS S → lcS (telF R c t S)
  | [], _, h => h
  | y :: t, S, h => by
    rw [telF]
    refine telF_lc R c t ?_
    split
    · exact h
    · exact wnS_lc h _ _
theorem takeV_lc {V : BV} (h : lcS V.m) (x : Nat × List Nat) : lcS (takeV V x).m := by
  unfold takeV
  split
  · exact h
  · exact nnM_lc _ _ ⟨Nat.le_trans (remS_len _ _) h.1, h.2⟩
theorem gatV_lc {V : BV} (h : lcS V.m) (q : Nat) : lcS (gatV V q).m := by
  unfold gatV
  split
  · exact h
  · exact takeV_lc h _
theorem sndF_lc (K : List Nat) : ∀ (t : List (Nat × List Nat)) {z : Nat × Nat × BV}, lcS z.2.2.m → lcS (sndF K t z).2.2.m
  | [], _, h => h
  | y :: t, z, h => by
    rw [sndF]
    refine sndF_lc K t ?_
    split
    · exact takeV_lc h y
    · exact h
theorem sndV_lc {S R : BV} (h : lcS R.m) (b : Nat) : lcS (sndV S R b).m := telF_lc _ _ _ (sndF_lc _ _ (z := (b, 0, R)) h)
theorem sndV_up {S R : BV} (b : Nat) (hS : lcS S.m) : R.pot ≤ (sndV S R b).pot := by
  have h1 := (sndF_a S.a.2 S.L (b, 0, R)).2
  have h2 := (telF_up (sndF S.a.2 S.L (b, 0, R)).2.2.L S.c.2 S.L (sndF S.a.2 S.L (b, 0, R)).2.2.m).2
  have h3 : (sndF S.a.2 S.L (b, 0, R)).2.2.a.1 ≤ (cpyS (sndF S.a.2 S.L (b, 0, R)).2.2.a S.m).1 := by
    have := hS.1
    unfold cpyS
    simp only
    split <;> omega
  unfold sndV BV.pot at *
  simp only [BV.km, BV.kc, BV.ka] at *
  omega
theorem okS.lc {S : NS} (h : okS S) : lcS S := by
  have := h.2.2
  unfold okN at this
  exact ⟨h.2.1, by omega⟩
/-- what a round's four steps add -/
theorem rnd_us {V0 V1 : BV} (h0 : lcS V0.m) (h1 : lcS V1.m) (b : Nat) : ∃ u1 u2 u3 u4, ∀ q0 q1, (gatV V0 q0).pot = V0.pot + u1 ∧ (gatV V1 q1).pot = V1.pot + u2 ∧ (sndV (gatV V0 q0) (gatV V1 q1) b).pot = (gatV V1 q1).pot + u3 ∧ (sndV (sndV (gatV V0 q0) (gatV V1 q1) b) (gatV V0 q0) b).pot = (gatV V0 q0).pot + u4 := by
  obtain ⟨u1, e1⟩ := Nat.exists_eq_add_of_le (gatV_pot V0 0)
  obtain ⟨u2, e2⟩ := Nat.exists_eq_add_of_le (gatV_pot V1 0)
  obtain ⟨u3, e3⟩ := Nat.exists_eq_add_of_le (sndV_up (S := gatV V0 0) (R := gatV V1 0) b (gatV_lc h0 0))
  obtain ⟨u4, e4⟩ := Nat.exists_eq_add_of_le (sndV_up (S := sndV (gatV V0 0) (gatV V1 0) b) (R := gatV V0 0) b (sndV_lc (gatV_lc h1 0) b))
  refine ⟨u1, u2, u3, u4, fun q0 q1 => ?_⟩
  have s0 := gatV_str (V := V0) (q := q0) (q' := 0) rfl
  have s1 := gatV_str (V := V1) (q := q1) (q' := 0) rfl
  have s2 := sndV_str s0 s1 b
  have s3 := sndV_str s2 s0 b
  exact ⟨(str_pot s0).trans e1, (str_pot s1).trans e2, by rw [str_pot s2, e3, str_pot s1], by rw [str_pot s3, e4, str_pot s0]⟩
