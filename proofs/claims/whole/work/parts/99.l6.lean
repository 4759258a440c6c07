/-! The law: from its entry to its loop. Own work. -/
section LAW2
variable {X : Nat × Nat × (Nat → Int32)} {l : Launch} {D : zD}
theorem mSt_new : mSt (fun _ => []) (fun _ => []) (fun _ => []) [] (fun _ _ => 0) := by
  have e : (0 : Int32) = nI 0 := by decide
  refine ⟨fun q _ => ⟨Nat.zero_le _, e, fun i hi => absurd hi (Nat.not_lt_zero i)⟩, fun q _ => ⟨e, Nat.zero_le _, fun i hi => absurd hi (Nat.not_lt_zero i)⟩, fun q _ => ⟨e, (Nat.succ_le_succ (Nat.zero_le _) : 0 < 900), fun i hi => absurd hi (Nat.not_lt_zero i)⟩, fun i hi => absurd hi (Nat.not_lt_zero i), e, Nat.zero_le _⟩
theorem inv_new {x o : Nat} {h1 : zH} {W1 : Nat → Nat} {ad : Nat → Nat} {e0 : va_E} (ha : abW W1 D h1 x (fun _ => nV) []) (no : h1 o = none) (hok : zok ((D.1.1, ad), D.2) o) (had : ∀ j, j < 9 → zset h1 o e0 (ad j) = none) : INV ((D.1.1, ad), D.2) x o 96 (zmod ((D.1.1, ad), D.2) o (zset h1 o e0) (fun _ _ => 0) (fun _ => 0)) := by
  have had2 : ∀ j, j < 9 → h1 (ad j) = none := fun j hj => by
    have h2 := had j hj
    rw [zset_ne (hok.2 j hj)] at h2
    exact h2
  have s : stp (fun _ => False) W1 h1 (fun q => if (decide (q = o) || (List.range 9).any fun j => decide (q = ad j)) = true then 30 else W1 q) (zmod ((D.1.1, ad), D.2) o (zset h1 o e0) (fun _ _ => 0) (fun _ => 0)) := by
    intro q e he _
    have q1 : q ≠ o := some_ne he no
    have q2 : ∀ j, j < 9 → q ≠ ad j := fun j hj => some_ne he (had2 j hj)
    refine ⟨?_, ?_⟩
    · refine if_neg (fun h9 => ?_)
      rw [Bool.or_eq_true, decide_eq_true_eq, List.any_eq_true] at h9
      rcases h9 with h9 | ⟨j, hj, h9⟩
      · exact q1 h9
      · exact q2 j (List.mem_range.1 hj) (of_decide_eq_true h9)
    · unfold zmod
      rw [if_neg q1, zmA_other (fun j hj => by rw [zad_ok hok]; exact q2 j hj) 9 (Nat.le_refl 9), zset_ne q1]
      exact he
  refine ⟨_, fun _ => nV, fun _ _ => 0, fun _ => 0, fun _ => [], fun _ => [], fun _ => [], [], ha.st s (fun _ _ e => e), ⟨?_, ?_, zmod_o _ _ _ _ _, fun j hj => zmod_a _ _ _ _ _ hj⟩, mSt_new, fun q _ => bgR_new, fun q _ => ⟨List.Pairwise.nil, fun x hx => by cases hx⟩, rfl⟩
  · exact if_pos (by rw [Bool.or_eq_true]; exact Or.inl (decide_eq_true rfl))
  · intro j hj
    rw [zad_ok hok]
    exact if_pos (by rw [Bool.or_eq_true, List.any_eq_true]; exact Or.inr ⟨j, List.mem_range.2 hj, decide_eq_true rfl⟩)
theorem law_start (hL : X.2.1 ≤ 2048) : ZL X l D M_L 600000 7302250 (fun _ => True) (fun _ => none) 0 0 0 [some (.ref X.1), none, none, none] [] := by
  refine y_new d_L_0 3 rfl nw_L_7 (by decide) (by decide) (fun x nx => ?_)
  refine y_dup d_L_3 4 rfl rfl ?_
  refine y_cI (Q' := fun r h' => r = none ∧ ∃ W', abW W' D h' x (fun _ => nV) []) d_L_4 7 rfl mi_B_init kl_L_9 (by decide) (0 + 1 + 24) (0 + 4 + 736) rfl rfl (by decide) (by decide) (c_B_init (W := fun _ => 3) (zset_self _ _ _) rfl (fun W' h' s y => ⟨rfl, W', y⟩)) rfl rfl (Nat.le_of_ble_eq_true rfl) ?_
  rintro _ h1 ⟨rfl, W1, ha⟩
  refine y_ast1 d_L_7 8 rfl rfl ?_
  refine y_new d_L_8 11 rfl nw_L_10 (by decide) (by decide) (fun o no => ?_)
  refine y_dup d_L_11 12 rfl rfl ?_
  refine y_cI (Q' := fun r h' => r = none ∧ ∃ ad, zok ((D.1.1, ad), D.2) o ∧ (∀ j, j < 9 → zset h1 o (.inr (ciM, [.null, .null, .null, .null, .null, .null, .null, .null, .null, .int 0, .int 0, .int 0, .int 0, .int 0, .int 0, .int 0, .int 0])) (ad j) = none) ∧ zmod ((D.1.1, ad), D.2) o (zset h1 o (.inr (ciM, [.null, .null, .null, .null, .null, .null, .null, .null, .null, .int 0, .int 0, .int 0, .int 0, .int 0, .int 0, .int 0, .int 0]))) (fun _ _ => 0) (fun _ => 0) = h') d_L_12 15 rfl mi_m_init kl_L_12 (by decide) (0 + 1 + 24 + 1 + 9) (0 + 4 + 736 + 17 + 18742) rfl rfl (by decide) (by decide) (c_m_init (zset_self _ _ _) (fun ad k1 k2 => ⟨rfl, ad, k1, k2, rfl⟩)) rfl rfl (Nat.le_of_ble_eq_true rfl) ?_
  rintro _ _ ⟨rfl, ad, hok, had, rfl⟩
  refine y_ast2 d_L_15 16 rfl rfl ?_
  refine y_iconst (v := nI 0) d_L_16 17 rfl rfl ?_
  refine y_ist3 d_L_17 18 rfl rfl ?_
  exact law_loop (D := ((D.1.1, ad), D.2)) (l := l) hL X.2.1 0 96 _ _ _ (by omega) (inv_new ha no hok had) ⟨by omega, by omega, by omega⟩
end LAW2
