/-! Rising lists with a name more. Own work. -/
theorem insL_mem {ns : List Nat} {T v w : Nat} : w ∈ insL ns T v ↔ w = v ∨ w ∈ ns := by
  unfold insL
  conv => rhs; rw [← List.take_append_drop T ns]
  simp only [List.mem_append, List.mem_cons]
  constructor
  · rintro (h | h | h)
    · exact Or.inr (Or.inl h)
    · exact Or.inl h
    · exact Or.inr (Or.inr h)
  · rintro (h | h | h)
    · exact Or.inr (Or.inl h)
    · exact Or.inl h
    · exact Or.inr (Or.inr h)
theorem insL_ris {ns : List Nat} {T v : Nat} (hr : risL ns) (hv : v < 16777216) (hT : plT (nI v) ns T) (hm : ¬ v ∈ ns) : risL (insL ns T v) := by
  refine ⟨?_, fun n hn => ?_⟩
  · unfold insL
    have hp := hr.1
    rw [← List.take_append_drop T ns] at hp
    obtain ⟨p1, p2, p3⟩ := List.pairwise_append.mp hp
    refine List.pairwise_append.mpr ⟨p1, List.pairwise_cons.mpr ⟨?_, p2⟩, ?_⟩
    · intro w hw
      obtain ⟨i, hi⟩ := List.mem_iff_getElem?.mp hw
      rw [List.getElem?_drop] at hi
      have hl := (List.getElem?_eq_some_iff.mp hi).1
      have hmem := List.mem_of_getElem? hi
      have hb := hr.2 _ hmem
      have e : ns.getD (T + i) 0 = w := by rw [List.getD_eq_getElem?_getD, hi]; rfl
      have h1 := hT.2 (T + i) hl
      rw [e, nI_ltI (by omega) (by omega)] at h1
      have : w ≠ v := fun e9 => hm (e9 ▸ hmem)
      omega
    · intro w hw u hu
      obtain ⟨i, hi⟩ := List.mem_iff_getElem?.mp hw
      have hiT : i < T := by
        have := (List.getElem?_eq_some_iff.mp hi).1
        rw [List.length_take] at this
        omega
      rw [List.getElem?_take_of_lt hiT] at hi
      have hl := (List.getElem?_eq_some_iff.mp hi).1
      have hmem := List.mem_of_getElem? hi
      have hb := hr.2 _ hmem
      have e : ns.getD i 0 = w := by rw [List.getD_eq_getElem?_getD, hi]; rfl
      have h1 := (hT.2 i hl).2 hiT
      rw [e, nI_ltI (by omega) (by omega)] at h1
      rcases List.mem_cons.mp hu with rfl | hu
      · exact h1
      · exact p3 w hw u hu
  · rcases insL_mem.mp hn with rfl | h
    · exact hv
    · exact hr.2 n h
