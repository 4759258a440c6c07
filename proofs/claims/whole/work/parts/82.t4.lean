/-! Artifacts in order, histories as values. Own work. -/
def gIns (L : List (Nat × List Nat)) (x : Nat × List Nat) : List (Nat × List Nat) := L.take (plG x.2 L L.length) ++ x :: L.drop (plG x.2 L L.length)
theorem ins_mem {α : Type} {L : List α} {p : Nat} {x y : α} : y ∈ L.take p ++ x :: L.drop p ↔ y = x ∨ y ∈ L := by
  rw [List.mem_append, List.mem_cons]
  constructor
  · rintro (h | h | h)
    · exact Or.inr (List.mem_of_mem_take h)
    · exact Or.inl h
    · exact Or.inr (List.mem_of_mem_drop h)
  · rintro (h | h)
    · exact Or.inr (Or.inl h)
    · rw [← List.take_append_drop p L, List.mem_append] at h
      rcases h with h | h
      · exact Or.inl h
      · exact Or.inr (Or.inr h)
theorem ins_len {α : Type} {L : List α} {p : Nat} {x : α} (h : p ≤ L.length) : (L.take p ++ x :: L.drop p).length = L.length + 1 := by
  simp
  omega
/-- a list in order with one more, at a place before which are the less and behind which the greater -/
theorem pw_ins {α : Type} {R : α → α → Prop} {L : List α} {p : Nat} {x : α} (h : L.Pairwise R) (h1 : ∀ y, y ∈ L.take p → R y x) (h2 : ∀ y, y ∈ L.drop p → R x y) : (L.take p ++ x :: L.drop p).Pairwise R := by
  have h0 := h
  rw [← List.take_append_drop p L, List.pairwise_append] at h0
  rw [List.pairwise_append, List.pairwise_cons]
  refine ⟨h0.1, ⟨h2, h0.2.1⟩, ?_⟩
  intro a ha b hb
  rcases List.mem_cons.1 hb with hb | hb
  · rw [hb]; exact h1 a ha
  · exact h0.2.2 a ha b hb
theorem mem_take_get {α : Type} {L : List α} {p : Nat} {y : α} (h : y ∈ L.take p) : ∃ i : Nat, i < p ∧ L[i]? = some y := by
  obtain ⟨i, hi⟩ := List.mem_iff_getElem?.1 h
  rw [List.getElem?_take] at hi
  split at hi
  next h1 => exact ⟨i, h1, hi⟩
  next => cases hi
theorem mem_drop_get {α : Type} {L : List α} {p : Nat} {y : α} (h : y ∈ L.drop p) : ∃ i : Nat, p ≤ i ∧ L[i]? = some y := by
  obtain ⟨i, hi⟩ := List.mem_iff_getElem?.1 h
  rw [List.getElem?_drop] at hi
  exact ⟨p + i, by omega, hi⟩
theorem pw_get {α : Type} {R : α → α → Prop} {L : List α} (h : L.Pairwise R) {i j : Nat} {x y : α} (hij : i < j) (hi : L[i]? = some x) (hj : L[j]? = some y) : R x y := by
  obtain ⟨h1, e1⟩ := List.getElem?_eq_some_iff.1 hi
  obtain ⟨h2, e2⟩ := List.getElem?_eq_some_iff.1 hj
  rw [← e1, ← e2]
  exact List.pairwise_iff_getElem.1 h i j h1 h2 hij
/-- a place looked for from behind -/
theorem plG_spec (x : List Nat) (L : List (Nat × List Nat)) : ∀ p, p ≤ L.length → (∀ (i : Nat) y, plG x L p ≤ i → i < p → L[i]? = some y → dg 7 x < dg 7 y.2) ∧ (plG x L p = 0 ∨ ∃ y, L[plG x L p - 1]? = some y ∧ ¬ dg 7 x < dg 7 y.2)
  | 0, _ => ⟨fun i y _ h => by omega, Or.inl rfl⟩
  | p + 1, hp => by
    have ih := plG_spec x L p (by omega)
    rw [plG]
    have hg : L[p]? = some L[p] := List.getElem?_eq_getElem (by omega)
    rw [hg]
    simp only
    split
    next h =>
      refine ⟨?_, ih.2⟩
      intro i y h1 h2 h3
      by_cases hi : i = p
      · subst hi
        rw [hg] at h3
        cases h3
        exact h
      · exact ih.1 i y h1 (by omega) h3
    next h =>
      refine ⟨fun i y h1 h2 => by omega, Or.inr ⟨L[p], by simp, h⟩⟩
theorem plH_spec (x : List Nat) (L : List (Nat × List Nat)) : ∀ p, p ≤ L.length → (∀ (i : Nat) y, plH x L p ≤ i → i < p → L[i]? = some y → eB x y.2 = true) ∧ (plH x L p = 0 ∨ ∃ y, L[plH x L p - 1]? = some y ∧ eB x y.2 = false)
  | 0, _ => ⟨fun i y _ h => by omega, Or.inl rfl⟩
  | p + 1, hp => by
    have ih := plH_spec x L p (by omega)
    rw [plH]
    have hg : L[p]? = some L[p] := List.getElem?_eq_getElem (by omega)
    rw [hg]
    simp only
    split
    next h =>
      refine ⟨?_, ih.2⟩
      intro i y h1 h2 h3
      by_cases hi : i = p
      · subst hi
        rw [hg] at h3
        cases h3
        exact h
      · exact ih.1 i y h1 (by omega) h3
    next h =>
      refine ⟨fun i y h1 h2 => by omega, Or.inr ⟨L[p], by simp, by simpa using h⟩⟩
theorem gIns_mem {L : List (Nat × List Nat)} {x y : Nat × List Nat} : y ∈ gIns L x ↔ y = x ∨ y ∈ L := ins_mem
theorem gIns_len (L : List (Nat × List Nat)) (x : Nat × List Nat) : (gIns L x).length = L.length + 1 := ins_len (plG_le _ _ _)
theorem gIns_pw {L : List (Nat × List Nat)} {x : Nat × List Nat} (h : (L.map fun y => dg 7 y.2).Pairwise (· < ·)) (hn : ∀ y, y ∈ L → dg 7 y.2 ≠ dg 7 x.2) : ((gIns L x).map fun y => dg 7 y.2).Pairwise (· < ·) := by
  rw [List.pairwise_map] at h ⊢
  obtain ⟨s1, s2⟩ := plG_spec x.2 L L.length (Nat.le_refl _)
  refine pw_ins h ?_ ?_
  · intro y hy
    obtain ⟨i, hi, hg⟩ := mem_take_get hy
    rcases s2 with s2 | ⟨z, hz, hz2⟩
    · omega
    · have hyL : y ∈ L := List.mem_of_getElem? hg
      have hzL : z ∈ L := List.mem_of_getElem? hz
      have n1 := hn y hyL
      have n2 := hn z hzL
      by_cases he : i = plG x.2 L L.length - 1
      · subst he
        rw [hg] at hz
        cases hz
        omega
      · have := pw_get h (by omega : i < plG x.2 L L.length - 1) hg hz
        omega
  · intro y hy
    obtain ⟨i, hi, hg⟩ := mem_drop_get hy
    exact s1 i y hi (List.getElem?_eq_some_iff.1 hg).1 hg
theorem smA.ins {L : List (Nat × List Nat)} {As : List (List Nat)} {a : Nat} {bs : List Nat} (h : smA L As) (hn : lk As (nI (dg 7 bs)) = none) : smA (gIns L (a, bs)) (As ++ [bs]) := by
  have hn1 : ∀ b, b ∈ As → dg 7 b ≠ dg 7 bs := fun b hb he => lk_none.1 hn b hb (by rw [he])
  refine ⟨gIns_pw h.1 (fun y hy => hn1 y.2 ((h.2.2 _).2 ⟨y.1, hy⟩)), ?_, ?_⟩
  · rw [List.map_append, List.nodup_append]
    refine ⟨h.2.1, by simp, ?_⟩
    intro x hx y hy
    obtain ⟨b, hb, rfl⟩ := List.mem_map.1 hx
    simp at hy
    subst hy
    exact hn1 b hb
  · intro b
    rw [List.mem_append]
    constructor
    · rintro (hb | hb)
      · obtain ⟨q, hq⟩ := (h.2.2 b).1 hb
        exact ⟨q, gIns_mem.2 (Or.inr hq)⟩
      · simp at hb
        subst hb
        exact ⟨a, gIns_mem.2 (Or.inl rfl)⟩
    · rintro ⟨q, hq⟩
      rcases gIns_mem.1 hq with hq | hq
      · simp at hq
        right
        simp [hq.2]
      · exact Or.inl ((h.2.2 b).2 ⟨q, hq⟩)
theorem eB_tr {x y z : List Nat} (h1 : eB x y = true) (h2 : eB y z = true) : eB x z = true := by
  unfold eB at *
  have t1 : ∀ {a b c : Int32}, a < b → b < c → a < c := fun h g => by rw [Int32.lt_iff_toInt_lt] at *; omega
  by_cases e1 : numC 68 (aCs x) = numC 68 (aCs y)
  · rw [if_pos e1, decide_eq_true_eq] at h1
    by_cases e2 : numC 68 (aCs y) = numC 68 (aCs z)
    · rw [if_pos e2, decide_eq_true_eq] at h2
      rw [if_pos (e1.trans e2), decide_eq_true_eq]
      exact t1 h1 h2
    · rw [if_neg e2, decide_eq_true_eq] at h2
      rw [if_neg (by rw [e1]; exact e2), decide_eq_true_eq, e1]
      exact h2
  · rw [if_neg e1, decide_eq_true_eq] at h1
    by_cases e2 : numC 68 (aCs y) = numC 68 (aCs z)
    · rw [if_neg (by rw [← e2]; exact e1), decide_eq_true_eq, ← e2]
      exact h1
    · rw [if_neg e2, decide_eq_true_eq] at h2
      have h3 := t1 h1 h2
      rw [if_neg (by intro he; rw [he, Int32.lt_iff_toInt_lt] at h3; omega), decide_eq_true_eq]
      exact h3
theorem eB_to {x y : List Nat} (h : eB x y = false) (hn : dg 7 x ≠ dg 7 y) : eB y x = true := by
  unfold eB at *
  have t1 : ∀ {a b : Int32}, ¬ a < b → a ≠ b → b < a := fun h g => by
    rw [Int32.lt_iff_toInt_lt] at *
    have : _ ≠ _ := fun he => g (Int32.toInt_inj.1 he)
    omega
  by_cases e1 : numC 68 (aCs x) = numC 68 (aCs y)
  · rw [if_pos e1, decide_eq_false_iff_not] at h
    rw [if_pos e1.symm, decide_eq_true_eq]
    exact t1 h (fun he => hn (dgI_eq.1 he))
  · rw [if_neg e1, decide_eq_false_iff_not] at h
    rw [if_neg (fun he => e1 he.symm), decide_eq_true_eq]
    exact t1 h e1
/-- a history with a check-in more -/
def hAdd (H : List (Nat × List Nat)) (x : Nat × List Nat) : List (Nat × List Nat) := if H.length < 32 then H.take (plH x.2 H H.length) ++ x :: H.drop (plH x.2 H H.length) else H
theorem hAdd_mem {H : List (Nat × List Nat)} {x y : Nat × List Nat} (hl : H.length < 32) : y ∈ hAdd H x ↔ y = x ∨ y ∈ H := by
  rw [hAdd, if_pos hl]
  exact ins_mem
theorem hAdd_len {H : List (Nat × List Nat)} (x : Nat × List Nat) (hl : H.length ≤ 32) : (hAdd H x).length ≤ 32 := by
  unfold hAdd
  split
  · rw [ins_len (plH_le _ _ _)]; omega
  · exact hl
theorem hAdd_pw {H : List (Nat × List Nat)} {x : Nat × List Nat} (h : H.Pairwise (fun x y => eB x.2 y.2 = true)) (hn : ∀ y, y ∈ H → dg 7 y.2 ≠ dg 7 x.2) : (hAdd H x).Pairwise (fun x y => eB x.2 y.2 = true) := by
  unfold hAdd
  split
  · obtain ⟨s1, s2⟩ := plH_spec x.2 H H.length (Nat.le_refl _)
    refine pw_ins h ?_ ?_
    · intro y hy
      obtain ⟨i, hi, hg⟩ := mem_take_get hy
      rcases s2 with s2 | ⟨z, hz, hz2⟩
      · omega
      · have hzx := eB_to hz2 (fun he => hn z (List.mem_of_getElem? hz) he.symm)
        by_cases he : i = plH x.2 H H.length - 1
        · subst he
          rw [hg] at hz
          cases hz
          exact hzx
        · exact eB_tr (pw_get h (by omega : i < plH x.2 H H.length - 1) hg hz) hzx
    · intro y hy
      obtain ⟨i, hi, hg⟩ := mem_drop_get hy
      exact s1 i y hi (List.getElem?_eq_some_iff.1 hg).1 hg
  · exact h
def nci (L H : List (Nat × List Nat)) (x : Nat × List Nat) : List (Nat × List Nat) := if ciC L x.2 = true then hAdd H x else H
/-- the history while an artifact is taken -/
def hisT (L : List (Nat × List Nat)) (x : Nat × List Nat) : List (Nat × List Nat) → List (Nat × List Nat) → List (Nat × List Nat)
  | [], H => H
  | y :: t, H => hisT L x t (if y.1 = x.1 ∨ nfC (nI (dg 7 x.2)) (aCs y.2) = true then nci L H y else H)
theorem eB_ir (x : List Nat) : eB x x = false := by simp [eB]
theorem pw_nod {L H : List (Nat × List Nat)} (hL : (L.map fun y => dg 7 y.2).Pairwise (· < ·)) (h : H.Pairwise (fun x y => eB x.2 y.2 = true)) (hs : ∀ y, y ∈ H → y ∈ L) : (H.map fun y => dg 7 y.2).Nodup := by
  rw [List.Nodup, List.pairwise_map]
  refine h.imp_of_mem ?_
  intro a b ha hb hab he
  have := pw_uniq hL (hs a ha) (hs b hb) he
  subst this
  rw [eB_ir] at hab
  cases hab
theorem pw_len1 {L H : List (Nat × List Nat)} (hL : (L.map fun y => dg 7 y.2).Pairwise (· < ·)) (h : H.Pairwise (fun x y => eB x.2 y.2 = true)) (hs : ∀ y, y ∈ H → y ∈ L) {y : Nat × List Nat} (hy : y ∈ L) (hn : ¬ y ∈ H) : H.length + 1 ≤ L.length := by
  have hnd : ((y :: H).map fun y => dg 7 y.2).Nodup := by
    rw [List.map_cons, List.nodup_cons]
    refine ⟨?_, pw_nod hL h hs⟩
    intro hm
    obtain ⟨z, hz, he⟩ := List.mem_map.1 hm
    have := pw_uniq hL (hs z hz) hy he
    subst this
    exact hn hz
  have := nodup_len hnd (U := L.map fun y => dg 7 y.2) (by
    intro x hx
    obtain ⟨z, hz, rfl⟩ := List.mem_map.1 hx
    refine List.mem_map_of_mem (f := fun y : Nat × List Nat => dg 7 y.2) ?_
    rcases List.mem_cons.1 hz with hz | hz
    · rw [hz]; exact hy
    · exact hs z hz)
  simpa using this
theorem nci_spec {L H : List (Nat × List Nat)} {y : Nat × List Nat} (hL : (L.map fun y => dg 7 y.2).Pairwise (· < ·)) (h32 : L.length ≤ 32) (hp : H.Pairwise (fun x y => eB x.2 y.2 = true)) (hs : ∀ y, y ∈ H → y ∈ L) (hy : y ∈ L) (hn : ciC L y.2 = true → ¬ y ∈ H) :
    (nci L H y).Pairwise (fun x y => eB x.2 y.2 = true) ∧ ∀ z, z ∈ nci L H y ↔ z ∈ H ∨ (z = y ∧ ciC L y.2 = true) := by
  unfold nci
  split
  next hc =>
    have h1 := pw_len1 hL hp hs hy (hn hc)
    refine ⟨hAdd_pw hp ?_, ?_⟩
    · intro z hz he
      have := pw_uniq hL (hs z hz) hy he
      subst this
      exact hn hc hz
    · intro z
      rw [hAdd_mem (by omega)]
      constructor
      · rintro (h | h)
        · exact Or.inr ⟨h, hc⟩
        · exact Or.inl h
      · rintro (h | h)
        · exact Or.inr h
        · exact Or.inl h.1
  next hc => exact ⟨hp, fun z => ⟨Or.inl, fun h => h.elim id (fun h => absurd h.2 hc)⟩⟩
theorem hisT_spec {L : List (Nat × List Nat)} {x : Nat × List Nat} (hL : (L.map fun y => dg 7 y.2).Pairwise (· < ·)) (h32 : L.length ≤ 32) : ∀ (t H : List (Nat × List Nat)), (∀ z, z ∈ t → z ∈ L) → t.Nodup → H.Pairwise (fun x y => eB x.2 y.2 = true) → (∀ y, y ∈ H → y ∈ L) → (∀ z, z ∈ t → (z.1 = x.1 ∨ nfC (nI (dg 7 x.2)) (aCs z.2) = true) → ciC L z.2 = true → ¬ z ∈ H) →
    (hisT L x t H).Pairwise (fun x y => eB x.2 y.2 = true) ∧ ∀ z, z ∈ hisT L x t H ↔ z ∈ H ∨ (z ∈ t ∧ (z.1 = x.1 ∨ nfC (nI (dg 7 x.2)) (aCs z.2) = true) ∧ ciC L z.2 = true)
  | [], H, _, _, hp, _, _ => ⟨hp, fun z => by simp [hisT]⟩
  | y :: t, H, ht, hnd, hp, hs, hn => by
    rw [hisT]
    rw [List.nodup_cons] at hnd
    by_cases hc : y.1 = x.1 ∨ nfC (nI (dg 7 x.2)) (aCs y.2) = true
    · rw [if_pos hc]
      obtain ⟨n1, n2⟩ := nci_spec hL h32 hp hs (ht y (by simp)) (hn y (by simp) hc)
      obtain ⟨i1, i2⟩ := hisT_spec hL h32 t (nci L H y) (fun z hz => ht z (List.mem_cons_of_mem _ hz)) hnd.2 n1 (by
        intro z hz
        rcases (n2 z).1 hz with h | h
        · exact hs z h
        · rw [h.1]; exact ht y (by simp)) (by
        intro z hz h1 h2 h3
        rcases (n2 z).1 h3 with h | h
        · exact hn z (List.mem_cons_of_mem _ hz) h1 h2 h
        · rw [h.1] at hz; exact hnd.1 hz)
      refine ⟨i1, fun z => ?_⟩
      rw [i2, n2]
      constructor
      · rintro ((h | h) | h)
        · exact Or.inl h
        · rw [h.1]; exact Or.inr ⟨by simp, hc, h.2⟩
        · exact Or.inr ⟨List.mem_cons_of_mem _ h.1, h.2⟩
      · rintro (h | ⟨h, h2⟩)
        · exact Or.inl (Or.inl h)
        · rcases List.mem_cons.1 h with h | h
          · rw [h] at h2 ⊢; exact Or.inl (Or.inr ⟨rfl, h2.2⟩)
          · exact Or.inr ⟨h, h2⟩
    · rw [if_neg hc]
      obtain ⟨i1, i2⟩ := hisT_spec hL h32 t H (fun z hz => ht z (List.mem_cons_of_mem _ hz)) hnd.2 hp hs (fun z hz => hn z (List.mem_cons_of_mem _ hz))
      refine ⟨i1, fun z => ?_⟩
      rw [i2]
      constructor
      · rintro (h | h)
        · exact Or.inl h
        · exact Or.inr ⟨List.mem_cons_of_mem _ h.1, h.2⟩
      · rintro (h | ⟨h, h2⟩)
        · exact Or.inl h
        · rcases List.mem_cons.1 h with h | h
          · rw [h] at h2; exact absurd h2.1 hc
          · exact Or.inr ⟨h, h2⟩
theorem files_nf {As : List (List Nat)} {nm : Int32} (h : lk As nm = none) : ∀ {cs : List CV} (d : Nat), nfC nm cs = true → filesL As (cs.map some) d = none
  | [], _, hn => by cases hn
  | c :: t, d, hn => by
    rw [nfC] at hn
    rw [List.map_cons, filesL]
    by_cases h7 : c.1 = 70
    · rw [if_pos h7]
      by_cases hx : oI c.2.2.2.1 = nm
      · rw [hx, h]
      · rw [if_neg (fun h9 => hx h9.2)] at hn
        split
        · rfl
        · exact files_nf h _ hn
    · rw [if_neg h7]
      rw [if_neg (fun h9 => h7 h9.1)] at hn
      exact files_nf h d hn
theorem lk_app {As : List (List Nat)} {bs : List Nat} {nm : Int32} : lk (As ++ [bs]) nm = (lk As nm).or (if nI (dg 7 bs) = nm then some bs else none) := by
  unfold lk
  rw [List.find?_append]
  congr 1
  by_cases h : nI (dg 7 bs) = nm <;> simp [h]
theorem files_mono {As : List (List Nat)} (bs : List Nat) : ∀ {cs : List CV} {d e : Nat}, filesL As (cs.map some) d = some e → filesL (As ++ [bs]) (cs.map some) d = some e
  | [], _, _, h => h
  | c :: t, d, e, h => by
    rw [List.map_cons, filesL] at h ⊢
    by_cases h7 : c.1 = 70
    · rw [if_pos h7] at h ⊢
      cases hl : lk As (oI c.2.2.2.1) with
      | none => rw [hl] at h; cases h
      | some b =>
        rw [hl] at h
        rw [lk_app, hl]
        exact files_mono bs h
    · rw [if_neg h7] at h ⊢
      exact files_mono bs h
theorem files_same {As : List (List Nat)} {bs : List Nat} : ∀ {cs : List CV} (d : Nat), nfC (nI (dg 7 bs)) cs = false → filesL (As ++ [bs]) (cs.map some) d = filesL As (cs.map some) d
  | [], _, _ => rfl
  | c :: t, d, hn => by
    rw [nfC] at hn
    rw [List.map_cons, filesL, filesL]
    by_cases h7 : c.1 = 70
    · rw [if_pos h7, if_pos h7]
      by_cases hx : oI c.2.2.2.1 = nI (dg 7 bs)
      · rw [if_pos ⟨h7, hx⟩] at hn; cases hn
      · rw [if_neg (fun h9 => hx h9.2)] at hn
        rw [lk_app, if_neg (fun h9 => hx h9.symm), Option.or_none]
        cases lk As (oI c.2.2.2.1) with
        | none => rfl
        | some b => exact files_same _ hn
    · rw [if_neg h7, if_neg h7]
      rw [if_neg (fun h9 => h7 h9.1)] at hn
      exact files_same d hn
theorem isCI_mono {As : List (List Nat)} {b : List Nat} (bs : List Nat) (h : isCI As b = true) : isCI (As ++ [bs]) b = true := by
  have hs := isCI_sort h
  have ha := aCs_lns (bs := b) (by omega)
  unfold isCI at h ⊢
  rw [ha.1] at h ⊢
  cases hf : filesL As ((aCs b).map some) 7 with
  | none => rw [hf] at h; simp at h
  | some d => rw [hf] at h; rw [files_mono bs hf]; exact h
theorem isCI_new {As : List (List Nat)} {b bs : List Nat} (hn : nfC (nI (dg 7 bs)) (aCs b) = false) (h : isCI (As ++ [bs]) b = true) : isCI As b = true := by
  have hs := isCI_sort h
  have ha := aCs_lns (bs := b) (by omega)
  unfold isCI at h ⊢
  rw [ha.1] at h ⊢
  rw [files_same 7 hn] at h
  exact h
theorem isCI_nf {As : List (List Nat)} {b : List Nat} {nm : Int32} (hl : lk As nm = none) (hn : nfC nm (aCs b) = true) : isCI As b = false := by
  by_cases hs : sortM b = 1
  · have ha := aCs_lns (bs := b) (by omega)
    unfold isCI
    rw [ha.1, files_nf hl 7 hn]
    simp
  · simp [isCI, hs]
/-- a history is the check-ins by time and name -/
def hsR (L H : List (Nat × List Nat)) (As : List (List Nat)) : Prop := H.Pairwise (fun x y => eB x.2 y.2 = true) ∧ ∀ z, z ∈ H ↔ z ∈ L ∧ isCI As z.2 = true
theorem map_nod {L : List (Nat × List Nat)} (hL : (L.map fun y => dg 7 y.2).Pairwise (· < ·)) : L.Nodup := by
  rw [List.pairwise_map] at hL
  exact hL.imp (fun h he => by rw [he] at h; omega)
theorem hsR_take {L H : List (Nat × List Nat)} {As : List (List Nat)} {a : Nat} {bs : List Nat} (h : smA L As) (h32 : As.length < 32) (hH : hsR L H As) (hn : lk As (nI (dg 7 bs)) = none) (hA : ∀ y, y ∈ L → y.1 ≠ a) : hsR (gIns L (a, bs)) (hisT (gIns L (a, bs)) (a, bs) (gIns L (a, bs)) H) (As ++ [bs]) := by
  have hs := h.ins (a := a) hn
  have hlen := hs.len
  simp at hlen
  obtain ⟨r1, r2⟩ := hisT_spec (x := (a, bs)) hs.1 (by omega) (gIns L (a, bs)) H (fun z hz => hz) (map_nod hs.1) hH.1 (fun y hy => gIns_mem.2 (Or.inr ((hH.2 y).1 hy).1)) (by
    intro z hz h1 h2 h3
    have h4 := (hH.2 z).1 h3
    rcases h1 with h1 | h1
    · exact hA z h4.1 h1
    · have h5 := isCI_nf hn h1
      rw [h5] at h4
      cases h4.2)
  refine ⟨r1, fun z => ?_⟩
  rw [r2, hH.2, ciC_is hs]
  constructor
  · rintro (h1 | h1)
    · exact ⟨gIns_mem.2 (Or.inr h1.1), isCI_mono bs h1.2⟩
    · exact ⟨h1.1, h1.2.2⟩
  · rintro ⟨h1, h2⟩
    by_cases hc : z.1 = a ∨ nfC (nI (dg 7 bs)) (aCs z.2) = true
    · exact Or.inr ⟨h1, hc, h2⟩
    · left
      have hc1 : z.1 ≠ a := fun he => hc (Or.inl he)
      have hc2 : nfC (nI (dg 7 bs)) (aCs z.2) = false := by
        cases hx : nfC (nI (dg 7 bs)) (aCs z.2) with
        | false => rfl
        | true => exact absurd (Or.inr hx) hc
      refine ⟨?_, isCI_new hc2 h2⟩
      rcases gIns_mem.1 h1 with h3 | h3
      · rw [h3] at hc1; exact absurd rfl hc1
      · exact h3
