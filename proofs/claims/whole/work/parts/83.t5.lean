/-! Bags as values: an artifact is taken, all is derived anew. Own work. -/
theorem aCs_9 (bs : List Nat) : 9 * cnt 77 (aCs bs) ≤ bs.length := by
  by_cases h : sortM bs = 0
  · rw [aCs_0 h]; exact Nat.zero_le _
  · obtain ⟨cs, h1, h2⟩ := sort_wf h
    have ha : aCs bs = cs := by rw [aCs, if_neg (by rw [aS_sort]; exact h), (wf_rdC h1).1]
    have := (wf_all h1).2.1
    rw [ha]
    omega
theorem mN_len {bs : List Nat} (h : bs.length ≤ 240) : (mN bs).length ≤ 26 := by
  have h1 := aCs_9 bs
  have h2 : ∀ cs : List CV, (cs.filterMap fun c => if c.1 = 77 then c.2.2.2.1 else none).length ≤ cnt 77 cs := by
    intro cs
    induction cs with
    | nil => simp
    | cons c t ih =>
      rw [cnt_cons, List.filterMap_cons]
      by_cases h7 : c.1 = 77
      · rw [if_pos h7, if_pos h7]
        cases c.2.2.2.1 <;> simp <;> omega
      · rw [if_neg h7, if_neg h7]; simp only; omega
  have h3 := h2 (aCs bs)
  unfold mN
  omega
theorem flat_len {α : Type} {f : α → List Nat} {n : Nat} : ∀ {l : List α}, (∀ a, a ∈ l → (f a).length ≤ n) → (l.flatMap f).length ≤ l.length * n
  | [], _ => by simp
  | a :: t, h => by
    rw [List.flatMap_cons, List.length_append, List.length_cons]
    have h1 := h a (by simp)
    have h2 := flat_len (l := t) (fun x hx => h x (List.mem_cons_of_mem _ hx))
    rw [Nat.add_mul]
    omega
theorem wantL_len {As : List (List Nat)} {T : List Nat} (hT : T.length ≤ 32) (hA : As.length ≤ 32) (hb : ∀ b, b ∈ As → b.length ≤ 240) : (wantL As T).length ≤ 896 := by
  have h1 := SS_len (srt_SS _) (U := T ++ As.flatMap needA) (fun x hx => (List.mem_filter.1 ((srt_mem x _).1 hx)).1) (L := wantL As T)
  have h2 := flat_len (f := needA) (n := 27) (l := As) (fun a ha => needA_len (hb a ha))
  rw [List.length_append] at h1
  have h3 : As.length * 27 ≤ 32 * 27 := Nat.mul_le_mul_right _ hA
  omega
theorem need_lt {bs : List Nat} {x : Nat} (h : x ∈ needA bs) : x < 16777216 := by
  rw [← need_cls, List.mem_flatMap] at h
  obtain ⟨c, hc, hx⟩ := h
  have hcv := aCs_cv hc
  unfold needC at hx
  simp only at hx
  split at hx
  · rw [List.mem_append] at hx
    rcases hx with hx | hx
    · exact hcv.2.1 x (by simpa using hx)
    · split at hx
      · exact hcv.2.2.1 x (by simpa using hx)
      · cases hx
  · cases hx
/-- a bag as a value: its artifacts, its history, what is missing, clustered, asked -/
abbrev BV : Type := List (Nat × List Nat) × List (Nat × List Nat) × NS × NS × NS
def BV.L (V : BV) : List (Nat × List Nat) := V.1
def BV.H (V : BV) : List (Nat × List Nat) := V.2.1
def BV.m (V : BV) : NS := V.2.2.1
def BV.c (V : BV) : NS := V.2.2.2.1
def BV.a (V : BV) : NS := V.2.2.2.2
section BVK
variable (L H : List (Nat × List Nat)) (m c a : NS)
theorem BV.kL : BV.L (L, H, m, c, a) = L := rfl
theorem BV.kH : BV.H (L, H, m, c, a) = H := rfl
theorem BV.km : BV.m (L, H, m, c, a) = m := rfl
theorem BV.kc : BV.c (L, H, m, c, a) = c := rfl
theorem BV.ka : BV.a (L, H, m, c, a) = a := rfl
end BVK
def BV.pot (V : BV) : Nat := V.m.1 + V.c.1 + V.a.1
def takeV (V : BV) (x : Nat × List Nat) : BV := if 32 ≤ V.L.length ∨ (fdA (nI (dg 7 x.2)) V.L).isSome = true then V else ⟨gIns V.L x, hisT (gIns V.L x) x (gIns V.L x) V.H, nnM (gIns V.L x) (aCs x.2) (remS V.m (dg 7 x.2)), nnC (aCs x.2) V.c, V.a⟩
def drvF (L : List (Nat × List Nat)) : List (Nat × List Nat) → List (Nat × List Nat) × NS × NS → List (Nat × List Nat) × NS × NS
  | [], z => z
  | y :: t, z => drvF L t (nci L z.1 y, nnM L (aCs y.2) z.2.1, nnC (aCs y.2) z.2.2)
def drvV (V : BV) : BV := ⟨V.L, (drvF V.L V.L ([], (V.m.1, []), (V.c.1, []))).1, (drvF V.L V.L ([], (V.m.1, []), (V.c.1, []))).2.1, (drvF V.L V.L ([], (V.m.1, []), (V.c.1, []))).2.2, V.a⟩
/-- a bag's value and the reference's repository: what is held, told and (by the other) asked for -/
def bgR (V : BV) (As : List (List Nat)) (T K : List Nat) : Prop := smA V.L As ∧ As.length ≤ 32 ∧ (∀ b, b ∈ As → b.length ≤ 240) ∧ hsR V.L V.H As ∧ okS V.m ∧ V.m.2 = wantL As T ∧ okS V.c ∧ (∀ x, x ∈ V.c.2 ↔ ∃ b, b ∈ As ∧ x ∈ mN b) ∧ okS V.a ∧ V.a.2 = K
theorem bgR.s {V : BV} {As : List (List Nat)} {T K : List Nat} (h : bgR V As T K) : smA V.L As := h.1
theorem bgR.l {V : BV} {As : List (List Nat)} {T K : List Nat} (h : bgR V As T K) : As.length ≤ 32 := h.2.1
theorem bgR.b {V : BV} {As : List (List Nat)} {T K : List Nat} (h : bgR V As T K) : ∀ b, b ∈ As → b.length ≤ 240 := h.2.2.1
theorem bgR.h {V : BV} {As : List (List Nat)} {T K : List Nat} (h : bgR V As T K) : hsR V.L V.H As := h.2.2.2.1
theorem bgR.mo {V : BV} {As : List (List Nat)} {T K : List Nat} (h : bgR V As T K) : okS V.m := h.2.2.2.2.1
theorem bgR.m {V : BV} {As : List (List Nat)} {T K : List Nat} (h : bgR V As T K) : V.m.2 = wantL As T := h.2.2.2.2.2.1
theorem bgR.co {V : BV} {As : List (List Nat)} {T K : List Nat} (h : bgR V As T K) : okS V.c := h.2.2.2.2.2.2.1
theorem bgR.c {V : BV} {As : List (List Nat)} {T K : List Nat} (h : bgR V As T K) : ∀ x, x ∈ V.c.2 ↔ ∃ b, b ∈ As ∧ x ∈ mN b := h.2.2.2.2.2.2.2.1
theorem bgR.ao {V : BV} {As : List (List Nat)} {T K : List Nat} (h : bgR V As T K) : okS V.a := h.2.2.2.2.2.2.2.2.1
theorem bgR.a {V : BV} {As : List (List Nat)} {T K : List Nat} (h : bgR V As T K) : V.a.2 = K := h.2.2.2.2.2.2.2.2.2
def tlk (T : List Nat) : Prop := T.length ≤ 32 ∧ ∀ x, x ∈ T → x < 16777216
theorem bgR.ml {V : BV} {As : List (List Nat)} {T K : List Nat} (h : bgR V As T K) (hT : tlk T) : V.m.2.length < 1000 := by
  have := wantL_len hT.1 h.l h.b
  rw [h.m]; omega
theorem c_len {c : List Nat} {As : List (List Nat)} (hs : c.Pairwise (· < ·)) (hc : ∀ x, x ∈ c → ∃ b, b ∈ As ∧ x ∈ mN b) (hA : As.length ≤ 32) (hb : ∀ b, b ∈ As → b.length ≤ 240) : c.length < 1000 := by
  have h1 := SS_len hs (U := As.flatMap mN) (fun x hx => List.mem_flatMap.2 (hc x hx))
  have h2 := flat_len (f := mN) (n := 26) (l := As) (fun a ha => mN_len (hb a ha))
  have h3 : As.length * 26 ≤ 32 * 26 := Nat.mul_le_mul_right _ hA
  omega
theorem bgR.cl {V : BV} {As : List (List Nat)} {T K : List Nat} (h : bgR V As T K) : V.c.2.length < 1000 := c_len h.co.1.1 (fun x hx => (h.c x).1 hx) h.l h.b
theorem nnM_SS (L : List (Nat × List Nat)) : ∀ (cs : List CV) (m : NS), SS m.2 → SS (nnM L cs m).2 := by
  have h1 : ∀ (S : NS) v, SS S.2 → SS (addS S v).2 := by
    intro S v h
    unfold addS
    split
    · exact h
    · exact insS_SS v _ h
  have h2 : ∀ x (m : NS), SS m.2 → SS (wnS L x m).2 := by
    intro x m h
    unfold wnS
    split
    · exact h
    · split
      · exact h
      · exact h1 _ _ h
  intro cs
  induction cs with
  | nil => intro m h; exact h
  | cons c t ih =>
    intro m h
    rw [nnM]
    refine ih _ ?_
    split
    · exact h2 _ _ (h2 _ _ h)
    · exact h
theorem nnC_SS : ∀ (cs : List CV) (m : NS), SS m.2 → SS (nnC cs m).2 := by
  intro cs
  induction cs with
  | nil => intro m h; exact h
  | cons c t ih =>
    intro m h
    rw [nnC]
    refine ih _ ?_
    split
    · split
      · exact h
      · unfold addS
        split
        · exact h
        · exact insS_SS _ _ h
    · exact h
theorem lkn_app {As : List (List Nat)} {bs : List Nat} {nm : Int32} : lk (As ++ [bs]) nm = none ↔ lk As nm = none ∧ nI (dg 7 bs) ≠ nm := by
  rw [lk_app]
  cases lk As nm <;> simp
theorem want_take {L : List (Nat × List Nat)} {As : List (List Nat)} {T : List Nat} {m : NS} {a : Nat} {bs : List Nat} (h : smA L As) (hn : lk As (nI (dg 7 bs)) = none) (hs : SS m.2) (hlt : ∀ x, x ∈ m.2 → x < 16777216) (hm : m.2 = wantL As T) :
    (nnM (gIns L (a, bs)) (aCs bs) (remS m (dg 7 bs))).2 = wantL (As ++ [bs]) T := by
  refine SS_ext (nnM_SS _ _ _ (by exact hs.filter _)) (srt_SS _) ?_
  intro x
  rw [nnM_mem _ _ _ (fun c hc => aCs_cv hc), remS_mem, hm, wantL_mem, wantL_mem, need_cls, (h.ins (a := a) hn).fdn, lkn_app]
  have hne : x < 16777216 → (x ≠ dg 7 bs ↔ nI (dg 7 bs) ≠ nI x) := by
    intro hx
    have := dg7 bs
    rw [Ne, Ne, nI_eq (by omega) (by omega)]
    exact ⟨fun h1 h2 => h1 h2.symm, fun h1 h2 => h1 h2.symm⟩
  constructor
  · rintro (⟨⟨h1, h2⟩, h3⟩ | ⟨h1, h2⟩)
    · have hx : x < 16777216 := hlt x (by rw [hm, wantL_mem]; exact ⟨h1, h2⟩)
      refine ⟨h1.imp id (fun ⟨b, hb, hx⟩ => ⟨b, by simp [hb], hx⟩), h2, (hne hx).1 h3⟩
    · exact ⟨Or.inr ⟨bs, by simp, h1⟩, h2⟩
  · rintro ⟨h1, h2, h3⟩
    by_cases hb : x ∈ needA bs
    · exact Or.inr ⟨hb, h2, h3⟩
    · left
      have h4 : x ∈ T ∨ ∃ b, b ∈ As ∧ x ∈ needA b := by
        rcases h1 with h1 | ⟨b, h5, h6⟩
        · exact Or.inl h1
        · rw [List.mem_append] at h5
          rcases h5 with h5 | h5
          · exact Or.inr ⟨b, h5, h6⟩
          · simp at h5; rw [h5] at h6; exact absurd h6 hb
      have hx : x < 16777216 := hlt x (by rw [hm, wantL_mem]; exact ⟨h4, h2⟩)
      exact ⟨⟨h4, h2⟩, (hne hx).2 h3⟩
theorem bgR.take {V : BV} {As : List (List Nat)} {T K : List Nat} {a : Nat} {bs : List Nat} (h : bgR V As T K) (hT : tlk T) (hb : bs.length ≤ 240) (hA : lk As (nI (dg 7 bs)) = none → ∀ y, y ∈ V.L → y.1 ≠ a) : bgR (takeV V (a, bs)) (addA As bs) T K := by
  unfold takeV addA
  have hl := h.s.len
  by_cases hc : lk As (nI (dg 7 bs)) = none ∧ As.length < 32
  · have hf := (h.s.fdn (nI (dg 7 bs))).2 hc.1
    rw [if_neg (by rintro (h1 | h1); · omega
                   · rw [hf] at h1; cases h1), if_pos hc]
    have hm := want_take (a := a) h.s hc.1 h.mo.1.1 h.mo.1.2 h.m
    have hb2 : ∀ b, b ∈ As ++ [bs] → b.length ≤ 240 := by
      intro b hb3
      rw [List.mem_append] at hb3
      rcases hb3 with hb3 | hb3
      · exact h.b b hb3
      · simp at hb3; rw [hb3]; exact hb
    have hl2 : (As ++ [bs]).length ≤ 32 := by simp; omega
    have hcm : ∀ x, x ∈ (nnC (aCs bs) V.c).2 ↔ ∃ b, b ∈ As ++ [bs] ∧ x ∈ mN b := by
      intro x
      rw [nnC_mem, h.c]
      constructor
      · rintro (⟨b, h1, h2⟩ | h1)
        · exact ⟨b, by simp [h1], h2⟩
        · exact ⟨bs, by simp, h1⟩
      · rintro ⟨b, h1, h2⟩
        rw [List.mem_append] at h1
        rcases h1 with h1 | h1
        · exact Or.inl ⟨b, h1, h2⟩
        · simp at h1; rw [h1] at h2; exact Or.inr h2
    refine ⟨h.s.ins hc.1, hl2, hb2, hsR_take h.s hc.2 h.h hc.1 (hA hc.1), nnM_ok _ _ _ (remS_ok h.mo) (fun c hc => aCs_cv hc) ?_, hm, nnC_ok _ _ h.co (fun c hc => aCs_cv hc) ?_, hcm, h.ao, h.a⟩
    · have := wantL_len hT.1 hl2 hb2
      simp only
      rw [hm]; omega
    · exact c_len (nnC_SS _ _ h.co.1.1) (fun x hx => (hcm x).1 hx) hl2 hb2
  · rw [if_neg hc]
    by_cases hf : lk As (nI (dg 7 bs)) = none
    · rw [if_pos (Or.inl (by rw [hl]; exact Nat.le_of_not_lt (fun h9 => hc ⟨hf, h9⟩)))]
      exact h
    · rw [if_pos (Or.inr (by
        have := mt (h.s.fdn (nI (dg 7 bs))).1 hf
        cases hx : fdA (nI (dg 7 bs)) V.L with
        | none => exact absurd hx this
        | some y => rfl))]
      exact h
theorem takeV_pot (V : BV) (x : Nat × List Nat) : V.pot ≤ (takeV V x).pot := by
  unfold takeV
  split
  · exact Nat.le_refl _
  · have h1 := (nnM_up (gIns V.L x) (aCs x.2) (remS V.m (dg 7 x.2))).2
    have h2 := (nnC_up (aCs x.2) V.c).2
    have h3 : (remS V.m (dg 7 x.2)).1 = V.m.1 := rfl
    simp only [BV.pot, BV.kL, BV.kH, BV.km, BV.kc, BV.ka]
    omega
theorem drvF_spec {L : List (Nat × List Nat)} (hL : (L.map fun y => dg 7 y.2).Pairwise (· < ·)) (h32 : L.length ≤ 32) : ∀ (t : List (Nat × List Nat)) (z : List (Nat × List Nat) × NS × NS), (∀ y, y ∈ t → y ∈ L) → t.Nodup → z.1.Pairwise (fun x y => eB x.2 y.2 = true) → (∀ y, y ∈ z.1 → y ∈ L ∧ ¬ y ∈ t) → SS z.2.1.2 → SS z.2.2.2 →
    (drvF L t z).1.Pairwise (fun x y => eB x.2 y.2 = true) ∧ (∀ y, y ∈ (drvF L t z).1 ↔ y ∈ z.1 ∨ (y ∈ t ∧ ciC L y.2 = true)) ∧ SS (drvF L t z).2.1.2 ∧ SS (drvF L t z).2.2.2 ∧ (∀ x, x ∈ (drvF L t z).2.1.2 ↔ x ∈ z.2.1.2 ∨ ((∃ y, y ∈ t ∧ x ∈ needA y.2) ∧ fdA (nI x) L = none)) ∧ (∀ x, x ∈ (drvF L t z).2.2.2 ↔ x ∈ z.2.2.2 ∨ ∃ y, y ∈ t ∧ x ∈ mN y.2)
  | [], z, _, _, hp, hs, s1, s2 => ⟨hp, fun y => by simp [drvF], s1, s2, fun x => by simp [drvF], fun x => by simp [drvF]⟩
  | y :: t, z, ht, hnd, hp, hs, s1, s2 => by
    rw [List.nodup_cons] at hnd
    rw [drvF]
    obtain ⟨n1, n2⟩ := nci_spec hL h32 hp (fun y hy => (hs y hy).1) (ht y (by simp)) (fun _ hm => (hs y hm).2 (by simp))
    obtain ⟨i1, i2, i3, i4, i5, i6⟩ := drvF_spec hL h32 t (nci L z.1 y, nnM L (aCs y.2) z.2.1, nnC (aCs y.2) z.2.2) (fun w hw => ht w (List.mem_cons_of_mem _ hw)) hnd.2 n1 (by
      intro w hw
      rcases (n2 w).1 hw with h | h
      · exact ⟨(hs w h).1, fun h2 => (hs w h).2 (List.mem_cons_of_mem _ h2)⟩
      · rw [h.1]; exact ⟨ht y (by simp), hnd.1⟩) (nnM_SS _ _ _ s1) (nnC_SS _ _ s2)
    refine ⟨i1, ?_, i3, i4, ?_, ?_⟩
    · intro w
      rw [i2, n2]
      constructor
      · rintro ((h | h) | h)
        · exact Or.inl h
        · rw [h.1]; exact Or.inr ⟨by simp, h.2⟩
        · exact Or.inr ⟨List.mem_cons_of_mem _ h.1, h.2⟩
      · rintro (h | ⟨h, h2⟩)
        · exact Or.inl (Or.inl h)
        · rcases List.mem_cons.1 h with h | h
          · rw [h] at h2 ⊢; exact Or.inl (Or.inr ⟨rfl, h2⟩)
          · exact Or.inr ⟨h, h2⟩
    · intro x
      rw [i5, nnM_mem _ _ _ (fun c hc => aCs_cv hc), need_cls]
      constructor
      · rintro ((h | h) | ⟨⟨w, hw, h⟩, h2⟩)
        · exact Or.inl h
        · exact Or.inr ⟨⟨y, by simp, h.1⟩, h.2⟩
        · exact Or.inr ⟨⟨w, List.mem_cons_of_mem _ hw, h⟩, h2⟩
      · rintro (h | ⟨⟨w, hw, h⟩, h2⟩)
        · exact Or.inl (Or.inl h)
        · rcases List.mem_cons.1 hw with hw | hw
          · rw [hw] at h; exact Or.inl (Or.inr ⟨h, h2⟩)
          · exact Or.inr ⟨⟨w, hw, h⟩, h2⟩
    · intro x
      rw [i6, nnC_mem]
      constructor
      · rintro ((h | h) | ⟨w, hw, h⟩)
        · exact Or.inl h
        · exact Or.inr ⟨y, by simp, h⟩
        · exact Or.inr ⟨w, List.mem_cons_of_mem _ hw, h⟩
      · rintro (h | ⟨w, hw, h⟩)
        · exact Or.inl (Or.inl h)
        · rcases List.mem_cons.1 hw with hw | hw
          · rw [hw] at h; exact Or.inl (Or.inr h)
          · exact Or.inr ⟨w, hw, h⟩
theorem drvF_up (L : List (Nat × List Nat)) : ∀ (t : List (Nat × List Nat)) (z : List (Nat × List Nat) × NS × NS), z.2.1.2.length ≤ (drvF L t z).2.1.2.length ∧ z.2.1.1 ≤ (drvF L t z).2.1.1 ∧ z.2.2.2.length ≤ (drvF L t z).2.2.2.length ∧ z.2.2.1 ≤ (drvF L t z).2.2.1
  | [], z => ⟨Nat.le_refl _, Nat.le_refl _, Nat.le_refl _, Nat.le_refl _⟩
  | y :: t, z => by
    rw [drvF]
    have h := drvF_up L t (nci L z.1 y, nnM L (aCs y.2) z.2.1, nnC (aCs y.2) z.2.2)
    have h1 := nnM_up L (aCs y.2) z.2.1
    have h2 := nnC_up (aCs y.2) z.2.2
    simp only at h
    omega
theorem drvF_ok (L : List (Nat × List Nat)) : ∀ (t : List (Nat × List Nat)) (z : List (Nat × List Nat) × NS × NS), okS z.2.1 → okS z.2.2 → (drvF L t z).2.1.2.length < 1000 → (drvF L t z).2.2.2.length < 1000 → okS (drvF L t z).2.1 ∧ okS (drvF L t z).2.2
  | [], z, h1, h2, _, _ => ⟨h1, h2⟩
  | y :: t, z, h1, h2, l1, l2 => by
    rw [drvF] at l1 l2 ⊢
    have h := drvF_up L t (nci L z.1 y, nnM L (aCs y.2) z.2.1, nnC (aCs y.2) z.2.2)
    simp only at h
    exact drvF_ok L t _ (nnM_ok _ _ _ h1 (fun c hc => aCs_cv hc) (by omega)) (nnC_ok _ _ h2 (fun c hc => aCs_cv hc) (by omega)) l1 l2
theorem bgR.drv {V : BV} {As : List (List Nat)} {T K : List Nat} (h : bgR V As T K) : bgR (drvV V) As [] K := by
  have hl := h.s.len
  have hl2 := h.l
  obtain ⟨i1, i2, i3, i4, i5, i6⟩ := drvF_spec h.s.1 (by omega) V.L ([], (V.m.1, []), (V.c.1, [])) (fun y hy => hy) (map_nod h.s.1) List.Pairwise.nil (fun y hy => by cases hy) List.Pairwise.nil List.Pairwise.nil
  have hm : (drvV V).m.2 = wantL As [] := by
    refine SS_ext i3 (srt_SS _) ?_
    intro x
    rw [show (drvV V).m = (drvF V.L V.L ([], (V.m.1, []), (V.c.1, []))).2.1 from rfl, i5, wantL_mem, h.s.fdn]
    simp only [List.not_mem_nil, false_or]
    constructor
    · rintro ⟨⟨y, hy, hx⟩, h2⟩; exact ⟨⟨y.2, (h.s.2.2 _).2 ⟨y.1, hy⟩, hx⟩, h2⟩
    · rintro ⟨⟨b, hb, hx⟩, h2⟩
      obtain ⟨a, ha⟩ := (h.s.2.2 b).1 hb
      exact ⟨⟨(a, b), ha, hx⟩, h2⟩
  have hc : ∀ x, x ∈ (drvV V).c.2 ↔ ∃ b, b ∈ As ∧ x ∈ mN b := by
    intro x
    rw [show (drvV V).c = (drvF V.L V.L ([], (V.m.1, []), (V.c.1, []))).2.2 from rfl, i6]
    simp only [List.not_mem_nil, false_or]
    constructor
    · rintro ⟨y, hy, hx⟩; exact ⟨y.2, (h.s.2.2 _).2 ⟨y.1, hy⟩, hx⟩
    · rintro ⟨b, hb, hx⟩
      obtain ⟨a, ha⟩ := (h.s.2.2 b).1 hb
      exact ⟨(a, b), ha, hx⟩
  have l1 : (drvV V).m.2.length < 1000 := by
    have := wantL_len (T := []) (by simp) h.l h.b
    rw [hm]; omega
  have l2 : (drvV V).c.2.length < 1000 := c_len i4 (fun x hx => (hc x).1 hx) h.l h.b
  have e0 : ∀ {S : NS}, okS S → okS (S.1, []) := fun {S} hS => ⟨⟨List.Pairwise.nil, fun n hn => by cases hn⟩, Nat.zero_le _, hS.2.2⟩
  obtain ⟨k1, k2⟩ := drvF_ok V.L V.L ([], (V.m.1, []), (V.c.1, [])) (e0 h.mo) (e0 h.co) l1 l2
  refine ⟨h.s, h.l, h.b, ⟨i1, fun z => ?_⟩, k1, hm, k2, hc, h.ao, h.a⟩
  rw [show (drvV V).H = (drvF V.L V.L ([], (V.m.1, []), (V.c.1, []))).1 from rfl, i2, ciC_is h.s]
  simp [drvV, BV.kL]
theorem drvV_pot (V : BV) : V.pot ≤ (drvV V).pot := by
  have h := drvF_up V.L V.L ([], (V.m.1, []), (V.c.1, []))
  simp only at h
  simp only [BV.pot, BV.kL, BV.kH, BV.km, BV.kc, BV.ka, drvV]
  omega
