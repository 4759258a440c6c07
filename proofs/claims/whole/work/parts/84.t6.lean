/-! Bags as values: clusters and messages. Own work. -/
/-- the loose names in order -/
def lsL (L : List (Nat × List Nat)) (c : List Nat) : List Nat := (L.map fun y => dg 7 y.2).filter fun x => decide (¬ x ∈ c)
theorem losC_len (c : List Nat) : ∀ L : List (Nat × List Nat), losC c L = (lsL L c).length
  | [] => rfl
  | y :: t => by
    rw [losC, losC_len c t]
    unfold lsL
    rw [List.map_cons, List.filter_cons]
    by_cases h : dg 7 y.2 ∈ c
    · simp [h]
    · simp [h]; omega
theorem clu_mN {As : List (List Nat)} {x : Nat} (hx : x < 16777216) : clu As (nI x) = true ↔ ∃ b, b ∈ As ∧ x ∈ mN b := by
  unfold clu
  rw [List.any_eq_true]
  constructor
  · rintro ⟨b, h1, h2⟩
    simp only [Bool.and_eq_true, decide_eq_true_eq] at h2
    exact ⟨b, h1, (mN_mem hx).2 h2⟩
  · rintro ⟨b, h1, h2⟩
    exact ⟨b, h1, by simpa using (mN_mem hx).1 h2⟩
theorem bgR.loose {V : BV} {As : List (List Nat)} {T K : List Nat} (h : bgR V As T K) : lsL V.L V.c.2 = looseL As := by
  refine SS_ext (h.s.1.filter _) (srt_SS _) ?_
  intro x
  rw [looseL_mem]
  unfold lsL
  rw [List.mem_filter, List.mem_map]
  simp only [decide_eq_true_eq]
  constructor
  · rintro ⟨⟨y, hy, rfl⟩, h2⟩
    refine ⟨y.2, (h.s.2.2 _).2 ⟨y.1, hy⟩, rfl, ?_⟩
    rw [← Bool.not_eq_true, clu_mN (by have := dg7 y.2; omega), ← h.c]
    exact h2
  · rintro ⟨b, hb, rfl, h2⟩
    obtain ⟨a, ha⟩ := (h.s.2.2 b).1 hb
    refine ⟨⟨(a, b), ha, rfl⟩, ?_⟩
    rw [← Bool.not_eq_true, clu_mN (by have := dg7 b; omega), ← h.c] at h2
    exact h2
theorem clT_len (L : List Nat) : (clT L).length ≤ 189 := by
  unfold clT
  rw [List.length_append, bodyT_len]
  have : (L.take 20).length ≤ 20 := by simp; omega
  simp [nmB]
  omega
def gatV (V : BV) (a : Nat) : BV := if (lsL V.L V.c.2).length ≤ 5 then V else takeV V (a, clT (lsL V.L V.c.2))
theorem bgR.gat {V : BV} {As : List (List Nat)} {T K : List Nat} {a : Nat} (h : bgR V As T K) (hT : tlk T) (hA : lk As (nI (dg 7 (clT (lsL V.L V.c.2)))) = none → ∀ y, y ∈ V.L → y.1 ≠ a) : bgR (gatV V a) (mkCl As) T K := by
  unfold gatV mkCl
  rw [← h.loose]
  split
  · exact h
  · exact h.take hT (by have := clT_len (lsL V.L V.c.2); omega) hA
theorem gatV_pot (V : BV) (a : Nat) : V.pot ≤ (gatV V a).pot := by
  unfold gatV
  split
  · exact Nat.le_refl _
  · exact takeV_pot _ _
def sndF (K : List Nat) : List (Nat × List Nat) → Nat × Nat × BV → Nat × Nat × BV
  | [], z => z
  | y :: t, z => sndF K t (if dg 7 y.2 ∈ K ∧ y.2.length ≤ z.1 then (z.1 - y.2.length, z.2.1 + 1, takeV z.2.2 y) else z)
def telF (R : List (Nat × List Nat)) (c : List Nat) : List (Nat × List Nat) → NS → NS
  | [], m => m
  | y :: t, m => telF R c t (if dg 7 y.2 ∈ c then m else wnS R (some (dg 7 y.2)) m)
def sndV (S R : BV) (b : Nat) : BV := ⟨(sndF S.a.2 S.L (b, 0, R)).2.2.L, (sndF S.a.2 S.L (b, 0, R)).2.2.H, telF (sndF S.a.2 S.L (b, 0, R)).2.2.L S.c.2 S.L (sndF S.a.2 S.L (b, 0, R)).2.2.m, (sndF S.a.2 S.L (b, 0, R)).2.2.c, cpyS (sndF S.a.2 S.L (b, 0, R)).2.2.a S.m⟩
def sendL : List (Nat × List Nat) → Nat × Nat × List (List Nat) → Nat × Nat × List (List Nat)
  | [], z => z
  | y :: t, z => sendL t (if y.2.length ≤ z.1 then (z.1 - y.2.length, z.2.1 + 1, addA z.2.2 y.2) else z)
theorem sendF_held (Ar : List (List Nat)) : ∀ (K : List Nat) (z : Nat × Nat × List (List Nat)), sendF Ar K z = sendF Ar (K.filter fun n => (lk Ar (nI n)).isSome) z
  | [], _ => rfl
  | n :: t, z => by
    rw [sendF, List.filter_cons]
    cases h : lk Ar (nI n) with
    | none => simp only [Option.isSome_none, Bool.false_eq_true, if_false]; exact sendF_held Ar t z
    | some b =>
      simp only [Option.isSome_some, if_true]
      rw [sendF, h]
      simp only
      split
      · exact sendF_held Ar t _
      · exact sendF_held Ar t z
theorem lk_of {L : List (Nat × List Nat)} {As : List (List Nat)} (h : smA L As) {y : Nat × List Nat} (hy : y ∈ L) : lk As (nI (dg 7 y.2)) = some y.2 := by
  cases hl : lk As (nI (dg 7 y.2)) with
  | none => exact absurd rfl (lk_none.1 hl y.2 ((h.2.2 _).2 ⟨y.1, hy⟩))
  | some b =>
    obtain ⟨h1, h2⟩ := lk_some hl
    obtain ⟨a, ha⟩ := (h.2.2 b).1 h1
    have := pw_uniq h.1 hy ha (dgI_eq.1 h2.symm)
    rw [this]
theorem sendF_L {L : List (Nat × List Nat)} {As : List (List Nat)} (h : smA L As) : ∀ (M : List (Nat × List Nat)) (z : Nat × Nat × List (List Nat)), (∀ y, y ∈ M → y ∈ L) → sendF As (M.map fun y => dg 7 y.2) z = sendL M z
  | [], _, _ => rfl
  | y :: t, z, hM => by
    rw [List.map_cons, sendF, sendL, lk_of h (hM y (by simp))]
    simp only
    split
    · exact sendF_L h t _ (fun w hw => hM w (List.mem_cons_of_mem _ hw))
    · exact sendF_L h t z (fun w hw => hM w (List.mem_cons_of_mem _ hw))
theorem send_eq {L : List (Nat × List Nat)} {As : List (List Nat)} {K : List Nat} (h : smA L As) (hK : SS K) (z : Nat × Nat × List (List Nat)) (hlt : ∀ x, x ∈ K → x < 16777216) : sendF As K z = sendL (L.filter fun y => decide (dg 7 y.2 ∈ K)) z := by
  rw [sendF_held, ← sendF_L h _ z (fun y hy => (List.mem_filter.1 hy).1)]
  congr 1
  refine SS_ext (hK.filter _) ?_ ?_
  · rw [SS, List.pairwise_map]
    have := h.1
    rw [List.pairwise_map] at this
    exact this.filter _
  · intro x
    rw [List.mem_filter, List.mem_map]
    constructor
    · rintro ⟨h1, h2⟩
      cases hl : lk As (nI x) with
      | none => rw [hl] at h2; cases h2
      | some b =>
        obtain ⟨h3, h4⟩ := lk_some hl
        obtain ⟨a, ha⟩ := (h.2.2 b).1 h3
        have h5 : dg 7 b = x := (nI_eq (by have := dg7 b; omega) (by have := hlt x h1; omega)).1 h4
        exact ⟨(a, b), List.mem_filter.2 ⟨ha, by simp [h5, h1]⟩, h5⟩
    · rintro ⟨y, hy, rfl⟩
      obtain ⟨h1, h2⟩ := List.mem_filter.1 hy
      rw [lk_of h h1]
      exact ⟨by simpa using h2, rfl⟩
/-- an address tells a name -/
def adr (A B : List (Nat × List Nat)) : Prop := ∀ p q, p ∈ A → q ∈ B → p.1 = q.1 → dg 7 p.2 = dg 7 q.2
theorem takeV_L {V : BV} {x y : Nat × List Nat} (h : y ∈ (takeV V x).L) : y = x ∨ y ∈ V.L := by
  unfold takeV at h
  split at h
  · exact Or.inr h
  · exact gIns_mem.1 h
theorem adr.take {A : List (Nat × List Nat)} {V : BV} {x : Nat × List Nat} (h : adr A V.L) (hA : adr A A) (hx : x ∈ A) : adr A (takeV V x).L := by
  intro p q hp hq he
  rcases takeV_L hq with h1 | h1
  · rw [h1] at he ⊢; exact hA p x hp hx he
  · exact h p q hp h1 he
theorem bgR.take' {A : List (Nat × List Nat)} {V : BV} {As : List (List Nat)} {T K : List Nat} {x : Nat × List Nat} (h : bgR V As T K) (hT : tlk T) (hb : x.2.length ≤ 240) (hx : x ∈ A) (ha : adr A V.L) : bgR (takeV V x) (addA As x.2) T K := by
  refine h.take (a := x.1) (bs := x.2) hT hb ?_
  intro hn y hy he
  have h1 := ha x y hx hy he.symm
  exact lk_none.1 hn y.2 ((h.s.2.2 _).2 ⟨y.1, hy⟩) (by rw [h1])
theorem sndF_R {A : List (Nat × List Nat)} {T K2 : List Nat} (K : List Nat) (hT : tlk T) (hA : adr A A) (hb : ∀ y, y ∈ A → y.2.length ≤ 240) : ∀ (t : List (Nat × List Nat)) (z : Nat × Nat × BV) (As : List (List Nat)), (∀ y, y ∈ t → y ∈ A) → adr A z.2.2.L → bgR z.2.2 As T K2 →
    (sndF K t z).1 = (sendL (t.filter fun y => decide (dg 7 y.2 ∈ K)) (z.1, z.2.1, As)).1 ∧ (sndF K t z).2.1 = (sendL (t.filter fun y => decide (dg 7 y.2 ∈ K)) (z.1, z.2.1, As)).2.1 ∧ adr A (sndF K t z).2.2.L ∧ bgR (sndF K t z).2.2 (sendL (t.filter fun y => decide (dg 7 y.2 ∈ K)) (z.1, z.2.1, As)).2.2 T K2
  | [], z, As, _, ha, h => ⟨rfl, rfl, ha, h⟩
  | y :: t, z, As, ht, ha, h => by
    rw [sndF, List.filter_cons]
    by_cases hk : dg 7 y.2 ∈ K
    · simp only [hk, decide_true, if_true, true_and, sendL]
      by_cases hl : y.2.length ≤ z.1
      · simp only [hl, if_true]
        exact sndF_R K hT hA hb t _ _ (fun w hw => ht w (List.mem_cons_of_mem _ hw)) (ha.take hA (ht y (by simp))) (h.take' hT (hb y (ht y (by simp))) (ht y (by simp)) ha)
      · simp only [hl, if_false]
        exact sndF_R K hT hA hb t _ _ (fun w hw => ht w (List.mem_cons_of_mem _ hw)) ha h
    · simp only [hk, decide_false, Bool.false_eq_true, if_false, false_and]
      exact sndF_R K hT hA hb t _ _ (fun w hw => ht w (List.mem_cons_of_mem _ hw)) ha h
theorem sndF_a (K : List Nat) : ∀ (t : List (Nat × List Nat)) (z : Nat × Nat × BV), (sndF K t z).2.2.a = z.2.2.a ∧ z.2.2.pot ≤ (sndF K t z).2.2.pot
  | [], z => ⟨rfl, Nat.le_refl _⟩
  | y :: t, z => by
    rw [sndF]
    have h := sndF_a K t (if dg 7 y.2 ∈ K ∧ y.2.length ≤ z.1 then (z.1 - y.2.length, z.2.1 + 1, takeV z.2.2 y) else z)
    split at h
    next hc =>
      rw [if_pos hc]
      have hp := takeV_pot z.2.2 y
      simp only at h
      refine ⟨h.1.trans ?_, Nat.le_trans hp h.2⟩
      unfold takeV
      split <;> rfl
    next hc => rw [if_neg hc]; exact h
theorem telF_up (R : List (Nat × List Nat)) (c : List Nat) : ∀ (t : List (Nat × List Nat)) (m : NS), m.2.length ≤ (telF R c t m).2.length ∧ m.1 ≤ (telF R c t m).1
  | [], m => ⟨Nat.le_refl _, Nat.le_refl _⟩
  | y :: t, m => by
    rw [telF]
    have h := telF_up R c t (if dg 7 y.2 ∈ c then m else wnS R (some (dg 7 y.2)) m)
    split at h
    next hc => rw [if_pos hc]; exact h
    next hc =>
      rw [if_neg hc]
      have := wnS_up R (some (dg 7 y.2)) m
      omega
theorem telF_ok (R : List (Nat × List Nat)) (c : List Nat) : ∀ (t : List (Nat × List Nat)) (m : NS), okS m → (telF R c t m).2.length < 1000 → okS (telF R c t m)
  | [], m, h, _ => h
  | y :: t, m, h, hl => by
    rw [telF] at hl ⊢
    refine telF_ok R c t _ ?_ hl
    have hu := telF_up R c t (if dg 7 y.2 ∈ c then m else wnS R (some (dg 7 y.2)) m)
    split
    · exact h
    next hc =>
      rw [if_neg hc] at hu hl
      have := wnS_up R (some (dg 7 y.2)) m
      exact wnS_ok h (by intro v hv; cases hv; have := dg7 y.2; omega) (by omega)
theorem telF_mem (R : List (Nat × List Nat)) (c : List Nat) {x : Nat} : ∀ (t : List (Nat × List Nat)) (m : NS), x ∈ (telF R c t m).2 ↔ x ∈ m.2 ∨ (x ∈ lsL t c ∧ fdA (nI x) R = none)
  | [], m => by simp [telF, lsL]
  | y :: t, m => by
    rw [telF, telF_mem R c t]
    have h1 : x ∈ lsL (y :: t) c ↔ (x = dg 7 y.2 ∧ ¬ x ∈ c) ∨ x ∈ lsL t c := by
      unfold lsL
      rw [List.map_cons, List.mem_filter, List.mem_filter, List.mem_cons]
      simp only [decide_eq_true_eq]
      constructor
      · rintro ⟨h1 | h1, h2⟩
        · exact Or.inl ⟨h1, h2⟩
        · exact Or.inr ⟨h1, h2⟩
      · rintro (⟨h1, h2⟩ | ⟨h1, h2⟩)
        · exact ⟨Or.inl h1, h2⟩
        · exact ⟨Or.inr h1, h2⟩
    rw [h1]
    by_cases hc : dg 7 y.2 ∈ c
    · rw [if_pos hc]
      constructor
      · rintro (h | h)
        · exact Or.inl h
        · exact Or.inr ⟨Or.inr h.1, h.2⟩
      · rintro (h | ⟨h | h, h2⟩)
        · exact Or.inl h
        · rw [h.1] at h; exact absurd hc h.2
        · exact Or.inr ⟨h, h2⟩
    · rw [if_neg hc, wnS_mem]
      constructor
      · rintro ((h | ⟨h, h2⟩) | h)
        · exact Or.inl h
        · cases h; exact Or.inr ⟨Or.inl ⟨rfl, hc⟩, h2⟩
        · exact Or.inr ⟨Or.inr h.1, h.2⟩
      · rintro (h | ⟨h | h, h2⟩)
        · exact Or.inl (Or.inl h)
        · exact Or.inl (Or.inr ⟨by rw [h.1], h2⟩)
        · exact Or.inr ⟨h, h2⟩
theorem telF_SS (R : List (Nat × List Nat)) (c : List Nat) : ∀ (t : List (Nat × List Nat)) (m : NS), SS m.2 → SS (telF R c t m).2
  | [], _, h => h
  | y :: t, m, h => by
    rw [telF]
    refine telF_SS R c t _ ?_
    split
    · exact h
    · unfold wnS
      simp only
      split
      · exact h
      · unfold addS
        split
        · exact h
        · exact insS_SS _ _ h
theorem tellF_mem (At : List (List Nat)) {x : Nat} : ∀ (l T : List Nat), x ∈ tellF At l T ↔ x ∈ T ∨ (x ∈ l ∧ lk At (nI x) = none)
  | [], T => by simp [tellF]
  | n :: t, T => by
    rw [tellF, tellF_mem At t, List.mem_cons]
    by_cases h : lk At (nI n) ≠ none ∨ n ∈ T
    · rw [if_pos h]
      constructor
      · rintro (h1 | h1)
        · exact Or.inl h1
        · exact Or.inr ⟨Or.inr h1.1, h1.2⟩
      · rintro (h1 | ⟨h1 | h1, h2⟩)
        · exact Or.inl h1
        · subst h1
          rcases h with h | h
          · exact absurd h2 h
          · exact Or.inl h
        · exact Or.inr ⟨h1, h2⟩
    · rw [if_neg h, List.mem_append, List.mem_singleton]
      have h0 : lk At (nI n) = none := by
        cases hx : lk At (nI n) with
        | none => rfl
        | some b => exact absurd (Or.inl (by rw [hx]; simp)) h
      constructor
      · rintro ((h1 | h1) | h1)
        · exact Or.inl h1
        · subst h1; exact Or.inr ⟨Or.inl rfl, h0⟩
        · exact Or.inr ⟨Or.inr h1.1, h1.2⟩
      · rintro (h1 | ⟨h1 | h1, h2⟩)
        · exact Or.inl (Or.inl h1)
        · exact Or.inl (Or.inr h1)
        · exact Or.inr ⟨h1, h2⟩
/-- one message: what the class does and what the reference does -/
theorem sndV_R {S R : BV} {Ar At : List (List Nat)} {Tr Tt Ks Kr : List Nat} {b : Nat} (hS : bgR S Ar Tr Ks) (hR : bgR R At Tt Kr) (hT : tlk Tt) (hT2 : tlk (tellF (sendF Ar Ks (b, 0, At)).2.2 (looseL Ar) Tt)) (hA : adr S.L S.L) (hA2 : adr S.L R.L) :
    bgR (sndV S R b) (sendF Ar Ks (b, 0, At)).2.2 (tellF (sendF Ar Ks (b, 0, At)).2.2 (looseL Ar) Tt) (wantL Ar Tr) ∧ (sndF S.a.2 S.L (b, 0, R)).2.1 = (sendF Ar Ks (b, 0, At)).2.1 := by
  have hb : ∀ y, y ∈ S.L → y.2.length ≤ 240 := fun y hy => hS.b _ ((hS.s.2.2 _).2 ⟨y.1, hy⟩)
  obtain ⟨r1, r2, r3, r4⟩ := sndF_R (K2 := Kr) S.a.2 hT hA hb S.L (b, 0, R) At (fun y hy => hy) hA2 hR
  have he := send_eq hS.s hS.ao.1.1 (b, 0, At) hS.ao.1.2
  rw [← he, hS.a] at r1 r2 r4
  rw [hS.a]
  refine ⟨?_, r2⟩
  have hm : (telF (sndF Ks S.L (b, 0, R)).2.2.L S.c.2 S.L (sndF Ks S.L (b, 0, R)).2.2.m).2 = wantL (sendF Ar Ks (b, 0, At)).2.2 (tellF (sendF Ar Ks (b, 0, At)).2.2 (looseL Ar) Tt) := by
    refine SS_ext (telF_SS _ _ _ _ r4.mo.1.1) (srt_SS _) ?_
    intro x
    rw [telF_mem, r4.m, wantL_mem, wantL_mem, tellF_mem, hS.loose, r4.s.fdn]
    constructor
    · rintro (⟨h1 | h1, h2⟩ | ⟨h1, h2⟩)
      · exact ⟨Or.inl (Or.inl h1), h2⟩
      · exact ⟨Or.inr h1, h2⟩
      · exact ⟨Or.inl (Or.inr ⟨h1, h2⟩), h2⟩
    · rintro ⟨(h1 | h1) | h1, h2⟩
      · exact Or.inl ⟨Or.inl h1, h2⟩
      · exact Or.inr h1
      · exact Or.inl ⟨Or.inr h1, h2⟩
  have hl : (telF (sndF Ks S.L (b, 0, R)).2.2.L S.c.2 S.L (sndF Ks S.L (b, 0, R)).2.2.m).2.length < 1000 := by
    have := wantL_len hT2.1 r4.l r4.b
    rw [hm]; omega
  unfold sndV
  rw [hS.a]
  exact ⟨r4.s, r4.l, r4.b, r4.h, telF_ok _ _ _ _ r4.mo hl, hm, r4.co, r4.c, cpyS_ok r4.ao hS.mo, hS.m⟩
