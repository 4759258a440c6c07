/-! Rising lists with a name less. Own work. -/
theorem delL_sub {ns : List Nat} {T : Nat} : (delL ns T).Sublist ns := by
  unfold delL
  have h : (ns.take T ++ ns.drop (T + 1)).Sublist (ns.take T ++ ns.drop T) := List.Sublist.append_left (by rw [← List.drop_drop]; exact List.drop_sublist 1 _) _
  rwa [List.take_append_drop] at h
theorem delL_ris {ns : List Nat} {T : Nat} (hr : risL ns) : risL (delL ns T) := ⟨hr.1.sublist delL_sub, fun n hn => hr.2 n (delL_sub.subset hn)⟩
theorem delL_mem {ns : List Nat} {T w : Nat} (hr : risL ns) (hT : T < ns.length) : w ∈ delL ns T ↔ w ∈ ns ∧ w ≠ ns.getD T 0 := by
  have e : ns.drop T = ns.getD T 0 :: ns.drop (T + 1) := drop_consB hT
  have hp := hr.1
  rw [← List.take_append_drop T ns, e] at hp
  obtain ⟨p1, p2, p3⟩ := List.pairwise_append.mp hp
  have p4 := (List.pairwise_cons.mp p2).1
  have hm : w ∈ ns ↔ w ∈ ns.take T ∨ w = ns.getD T 0 ∨ w ∈ ns.drop (T + 1) := by
    conv => lhs; rw [← List.take_append_drop T ns, e]
    rw [List.mem_append, List.mem_cons]
  unfold delL
  rw [hm, List.mem_append]
  constructor
  · rintro (h | h)
    · exact ⟨Or.inl h, Nat.ne_of_lt (p3 w h _ (List.mem_cons_self))⟩
    · exact ⟨Or.inr (Or.inr h), Nat.ne_of_gt (p4 w h)⟩
  · rintro ⟨h | h | h, h2⟩
    · exact Or.inl h
    · exact absurd h h2
    · exact Or.inr h
