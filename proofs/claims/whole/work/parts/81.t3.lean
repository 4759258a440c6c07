/-! Sets of names as values. Own work. -/
/-- a set of names as a value: the length of its array, its names -/
abbrev NS : Type := Nat × List Nat
def addS (S : NS) (v : Nat) : NS := if v ∈ S.2 then S else (if S.2.length = S.1 then 2 * S.1 else S.1, insS v S.2)
def remS (S : NS) (v : Nat) : NS := (S.1, S.2.filter fun x => decide (x ≠ v))
def cpyS (S S2 : NS) : NS := (if S.1 < S2.2.length then S2.1 else S.1, S2.2)
/-- the lengths that a set's array can have -/
def okN (n : Nat) : Prop := n = 16 ∨ n = 32 ∨ n = 64 ∨ n = 128 ∨ n = 256 ∨ n = 512 ∨ n = 1024
def okS (S : NS) : Prop := risL S.2 ∧ S.2.length ≤ S.1 ∧ okN S.1
theorem insS_len {v : Nat} : ∀ {l : List Nat}, ¬ v ∈ l → (insS v l).length = l.length + 1
  | [], _ => rfl
  | a :: t, h => by
    simp only [List.mem_cons, not_or] at h
    rw [insS]
    split
    · rfl
    · rw [if_neg h.1, List.length_cons, insS_len h.2]; rfl
theorem insS_in {v : Nat} {l : List Nat} (h : v ∈ l) (hs : SS l) : insS v l = l :=
  SS_ext (insS_SS v l hs) hs (fun x => by rw [insS_mem]; exact ⟨fun h1 => h1.elim (fun h2 => h2 ▸ h) id, Or.inr⟩)
theorem addS_mem {S : NS} {v x : Nat} : x ∈ (addS S v).2 ↔ x = v ∨ x ∈ S.2 := by
  unfold addS
  split
  next h => exact ⟨Or.inr, fun h1 => h1.elim (fun h2 => h2 ▸ h) id⟩
  next => exact insS_mem v x S.2
theorem addS_len (S : NS) (v : Nat) : S.2.length ≤ (addS S v).2.length ∧ (¬ v ∈ S.2 → (addS S v).2.length = S.2.length + 1) := by
  unfold addS
  split
  next h => exact ⟨Nat.le_refl _, fun h1 => absurd h h1⟩
  next h => rw [insS_len h]; exact ⟨Nat.le_succ _, fun _ => rfl⟩
theorem addS_cap (S : NS) (v : Nat) : S.1 ≤ (addS S v).1 := by
  unfold addS
  split
  · exact Nat.le_refl _
  · simp only; split <;> omega
theorem addS_ok {S : NS} {v : Nat} (h : okS S) (hv : v < 16777216) (hl : S.2.length < 1000) : okS (addS S v) := by
  obtain ⟨h1, h2, h3⟩ := h
  refine ⟨⟨?_, ?_⟩, ?_⟩
  · unfold addS
    split
    · exact h1.1
    · exact insS_SS v _ h1.1
  · intro n hn
    rcases addS_mem.1 hn with hn | hn
    · omega
    · exact h1.2 n hn
  · unfold addS
    split
    · exact ⟨h2, h3⟩
    next h =>
      simp only [insS_len h]
      unfold okN at *
      split <;> omega
theorem remS_mem {S : NS} {v x : Nat} : x ∈ (remS S v).2 ↔ x ∈ S.2 ∧ x ≠ v := by simp [remS]
theorem remS_len (S : NS) (v : Nat) : (remS S v).2.length ≤ S.2.length := List.length_filter_le _ _
theorem remS_ok {S : NS} {v : Nat} (h : okS S) : okS (remS S v) := by
  obtain ⟨h1, h2, h3⟩ := h
  refine ⟨⟨h1.1.filter _, fun n hn => h1.2 n (remS_mem.1 hn).1⟩, ?_, h3⟩
  exact Nat.le_trans (remS_len S v) h2
theorem cpyS_ok {S S2 : NS} (h : okS S) (h2 : okS S2) : okS (cpyS S S2) := by
  obtain ⟨_, a, b⟩ := h
  obtain ⟨d, e, f⟩ := h2
  refine ⟨d, ?_⟩
  unfold cpyS
  simp only
  split
  · exact ⟨e, f⟩
  · exact ⟨by omega, b⟩
/-- what a copy may take is twice what the array grows by -/
theorem cpyS_up {S S2 : NS} (h : okS S) (h2 : okS S2) : S.1 ≤ (cpyS S S2).1 ∧ (S.1 < S2.2.length → S.1 + 1 ≤ S2.1 ∧ S2.1 ≤ 2 * (S2.1 - S.1)) := by
  obtain ⟨_, a, b⟩ := h
  obtain ⟨d, e, f⟩ := h2
  unfold cpyS
  simp only
  unfold okN at *
  refine ⟨by split <;> omega, fun h => ⟨by omega, by omega⟩⟩
theorem addS_u {S : NS} {v u : Nat} (h : okS S) (hu : (addS S v).1 = S.1 + u) : ¬ v ∈ S.2 → S.2.length = S.1 → 1 ≤ u ∧ 2 * S.1 ≤ 2 * u := by
  intro h1 h2
  have h3 := h.2.2
  unfold okN at h3
  rw [addS, if_neg h1] at hu
  simp only [h2, if_true] at hu
  omega
/-- a name is wanted, unless it is held -/
def wnS (L : List (Nat × List Nat)) (x : Option Nat) (m : NS) : NS := match x with
  | none => m
  | some v => if (fdA (nI v) L).isSome = true then m else addS m v
def ndB (c : CV) : Bool := decide (c.1 = 70) || decide (c.1 = 77) || decide (c.1 = 80)
def nnM (L : List (Nat × List Nat)) : List CV → NS → NS
  | [], m => m
  | c :: t, m => nnM L t (if ndB c = true then wnS L c.2.2.2.2.1 (wnS L c.2.2.2.1 m) else m)
def nnC : List CV → NS → NS
  | [], s => s
  | c :: t, s => nnC t (if c.1 = 77 then (match c.2.2.2.1 with
    | none => s
    | some v => addS s v) else s)
theorem wnS_mem {L : List (Nat × List Nat)} {x : Option Nat} {m : NS} {y : Nat} : y ∈ (wnS L x m).2 ↔ y ∈ m.2 ∨ (x = some y ∧ fdA (nI y) L = none) := by
  unfold wnS
  cases x with
  | none => simp
  | some v =>
    simp only
    split
    next h =>
      constructor
      · exact Or.inl
      · rintro (h1 | ⟨h1, h2⟩)
        · exact h1
        · cases h1; rw [h2] at h; cases h
    next h =>
      rw [addS_mem]
      have h0 : fdA (nI v) L = none := by simpa using h
      constructor
      · rintro (h1 | h1)
        · subst h1; exact Or.inr ⟨rfl, h0⟩
        · exact Or.inl h1
      · rintro (h1 | ⟨h1, h2⟩)
        · exact Or.inr h1
        · cases h1; exact Or.inl rfl
theorem wnS_up (L : List (Nat × List Nat)) (x : Option Nat) (m : NS) : m.2.length ≤ (wnS L x m).2.length ∧ m.1 ≤ (wnS L x m).1 := by
  unfold wnS
  cases x with
  | none => exact ⟨Nat.le_refl _, Nat.le_refl _⟩
  | some v =>
    simp only
    split
    · exact ⟨Nat.le_refl _, Nat.le_refl _⟩
    · exact ⟨(addS_len m v).1, addS_cap m v⟩
theorem wnS_ok {L : List (Nat × List Nat)} {x : Option Nat} {m : NS} (h : okS m) (hx : ∀ v, x = some v → v < 16777216) (hl : m.2.length < 1000) : okS (wnS L x m) := by
  unfold wnS
  cases x with
  | none => exact h
  | some v =>
    simp only
    split
    · exact h
    · exact addS_ok h (hx v rfl) hl
theorem nnM_up (L : List (Nat × List Nat)) : ∀ (cs : List CV) (m : NS), m.2.length ≤ (nnM L cs m).2.length ∧ m.1 ≤ (nnM L cs m).1
  | [], m => ⟨Nat.le_refl _, Nat.le_refl _⟩
  | c :: t, m => by
    rw [nnM]
    have h := nnM_up L t (if ndB c = true then wnS L c.2.2.2.2.1 (wnS L c.2.2.2.1 m) else m)
    split at h
    next hn =>
      rw [if_pos hn]
      have h1 := wnS_up L c.2.2.2.1 m
      have h2 := wnS_up L c.2.2.2.2.1 (wnS L c.2.2.2.1 m)
      omega
    next hn => rw [if_neg hn]; exact h
theorem nnM_ok (L : List (Nat × List Nat)) : ∀ (cs : List CV) (m : NS), okS m → (∀ c, c ∈ cs → cvOk c) → (nnM L cs m).2.length < 1000 → okS (nnM L cs m)
  | [], m, h, _, _ => h
  | c :: t, m, h, ho, hl => by
    rw [nnM] at hl ⊢
    have hu := nnM_up L t (if ndB c = true then wnS L c.2.2.2.2.1 (wnS L c.2.2.2.1 m) else m)
    refine nnM_ok L t _ ?_ (fun x hx => ho x (List.mem_cons_of_mem _ hx)) hl
    have hc := ho c (by simp)
    split
    next hn =>
      rw [if_pos hn] at hu hl
      have h1 := wnS_up L c.2.2.2.1 m
      have h2 := wnS_up L c.2.2.2.2.1 (wnS L c.2.2.2.1 m)
      exact wnS_ok (wnS_ok h hc.2.1 (by omega)) hc.2.2.1 (by omega)
    next => exact h
theorem nnM_mem (L : List (Nat × List Nat)) {y : Nat} : ∀ (cs : List CV) (m : NS), (∀ c, c ∈ cs → cvOk c) → (y ∈ (nnM L cs m).2 ↔ y ∈ m.2 ∨ (y ∈ cs.flatMap (fun c => needC (some c)) ∧ fdA (nI y) L = none))
  | [], m, _ => by simp [nnM]
  | c :: t, m, ho => by
    rw [nnM, nnM_mem L t _ (fun x hx => ho x (List.mem_cons_of_mem _ hx))]
    have hc := ho c (by simp)
    rw [List.flatMap_cons, List.mem_append]
    have key : y ∈ (if ndB c = true then wnS L c.2.2.2.2.1 (wnS L c.2.2.2.1 m) else m).2 ↔ y ∈ m.2 ∨ (y ∈ needC (some c) ∧ fdA (nI y) L = none) := by
      by_cases hn : ndB c = true
      · rw [if_pos hn, wnS_mem, wnS_mem]
        have hn2 : c.1 = 70 ∨ c.1 = 77 ∨ c.1 = 80 := by
          simp only [ndB, Bool.or_eq_true, decide_eq_true_eq] at hn
          omega
        have hm : y ∈ needC (some c) ↔ c.2.2.2.1 = some y ∨ c.2.2.2.2.1 = some y := by
          simp only [needC, if_pos hn2, List.mem_append, Option.mem_toList]
          by_cases h8 : c.1 = 80
          · simp [h8]
          · simp [h8, hc.2.2.2.2.2.2.2 h8]
        rw [hm]
        constructor
        · rintro ((h | h) | h)
          · exact Or.inl h
          · exact Or.inr ⟨Or.inl h.1, h.2⟩
          · exact Or.inr ⟨Or.inr h.1, h.2⟩
        · rintro (h | ⟨h | h, h2⟩)
          · exact Or.inl (Or.inl h)
          · exact Or.inl (Or.inr ⟨h, h2⟩)
          · exact Or.inr ⟨h, h2⟩
      · rw [if_neg hn]
        have hn2 : ¬ (c.1 = 70 ∨ c.1 = 77 ∨ c.1 = 80) := by
          simp only [ndB, Bool.or_eq_true, decide_eq_true_eq] at hn
          omega
        simp [needC, if_neg hn2]
    rw [key]
    constructor
    · rintro ((h | h) | h)
      · exact Or.inl h
      · exact Or.inr ⟨Or.inl h.1, h.2⟩
      · exact Or.inr ⟨Or.inr h.1, h.2⟩
    · rintro (h | ⟨h | h, h2⟩)
      · exact Or.inl (Or.inl h)
      · exact Or.inl (Or.inr ⟨h, h2⟩)
      · exact Or.inr ⟨h, h2⟩
def nnCs (c : CV) (s : NS) : NS := if c.1 = 77 then (match c.2.2.2.1 with
    | none => s
    | some v => addS s v) else s
theorem nnCs_up (c : CV) (s : NS) : s.2.length ≤ (nnCs c s).2.length ∧ s.1 ≤ (nnCs c s).1 := by
  unfold nnCs
  split
  · cases c.2.2.2.1 with
    | none => exact ⟨Nat.le_refl _, Nat.le_refl _⟩
    | some v => exact ⟨(addS_len s v).1, addS_cap s v⟩
  · exact ⟨Nat.le_refl _, Nat.le_refl _⟩
theorem nnC_up : ∀ (cs : List CV) (s : NS), s.2.length ≤ (nnC cs s).2.length ∧ s.1 ≤ (nnC cs s).1
  | [], m => ⟨Nat.le_refl _, Nat.le_refl _⟩
  | c :: t, s => by
    have h := nnC_up t (nnCs c s)
    have h1 := nnCs_up c s
    rw [show nnC (c :: t) s = nnC t (nnCs c s) from rfl]
    omega
theorem nnC_ok : ∀ (cs : List CV) (s : NS), okS s → (∀ c, c ∈ cs → cvOk c) → (nnC cs s).2.length < 1000 → okS (nnC cs s)
  | [], m, h, _, _ => h
  | c :: t, s, h, ho, hl => by
    rw [show nnC (c :: t) s = nnC t (nnCs c s) from rfl] at hl ⊢
    refine nnC_ok t _ ?_ (fun x hx => ho x (List.mem_cons_of_mem _ hx)) hl
    have hc := ho c (by simp)
    have h1 := nnC_up t (nnCs c s)
    have h2 := nnCs_up c s
    unfold nnCs
    split
    · split
      · exact h
      next v hv => exact addS_ok h (hc.2.1 v hv) (by omega)
    · exact h
theorem nnC_mem {y : Nat} : ∀ (cs : List CV) (s : NS), y ∈ (nnC cs s).2 ↔ y ∈ s.2 ∨ y ∈ cs.filterMap (fun c => if c.1 = 77 then c.2.2.2.1 else none)
  | [], m => by simp [nnC]
  | c :: t, s => by
    rw [show nnC (c :: t) s = nnC t (nnCs c s) from rfl, nnC_mem t]
    have key : y ∈ (nnCs c s).2 ↔ y ∈ s.2 ∨ (c.1 = 77 ∧ c.2.2.2.1 = some y) := by
      unfold nnCs
      split
      next h7 =>
        split
        next hn => simp [hn]
        next v hv =>
          rw [addS_mem, hv]
          simp only [h7, Option.some.injEq, true_and]
          constructor
          · rintro (h | h)
            · exact Or.inr h.symm
            · exact Or.inl h
          · rintro (h | h)
            · exact Or.inr h
            · exact Or.inl h.symm
      next h7 => simp [h7]
    rw [key]
    have k2 : y ∈ (c :: t).filterMap (fun c => if c.1 = 77 then c.2.2.2.1 else none) ↔ (c.1 = 77 ∧ c.2.2.2.1 = some y) ∨ y ∈ t.filterMap (fun c => if c.1 = 77 then c.2.2.2.1 else none) := by
      simp only [List.mem_filterMap, List.mem_cons]
      constructor
      · rintro ⟨d, rfl | hd, h⟩
        · split at h
          next h7 => exact Or.inl ⟨h7, h⟩
          next => cases h
        · exact Or.inr ⟨d, hd, h⟩
      · rintro (h | ⟨d, hd, h⟩)
        · exact ⟨c, Or.inl rfl, by rw [if_pos h.1]; exact h.2⟩
        · exact ⟨d, Or.inr hd, h⟩
    rw [k2]
    constructor
    · rintro ((h | h) | h)
      · exact Or.inl h
      · exact Or.inr (Or.inl h)
      · exact Or.inr (Or.inr h)
    · rintro (h | h | h)
      · exact Or.inl (Or.inl h)
      · exact Or.inl (Or.inr h)
      · exact Or.inr h
