/-! The class: what is asked of a repository. Own work. -/
theorem bgV_of (r : Int32) (g : Nat → Nat) : (isRp r = false ∧ bgV r (g 0) (g 1) = none) ∨ ∃ q, q < 2 ∧ r = nI q ∧ isRp r = true ∧ toN r = q ∧ bgV r (g 0) (g 1) = some (g q) := by
  by_cases h0 : r = nI 0
  · right
    subst h0
    exact ⟨0, by decide, rfl, by decide, by decide, rfl⟩
  · by_cases h1 : r = nI 1
    · right
      subst h1
      exact ⟨1, by decide, rfl, by decide, by decide, rfl⟩
    · left
      refine ⟨by simp [isRp, h0, h1], ?_⟩
      unfold bgV
      rw [if_neg (show ¬ r = 0 from h0), if_neg h1]
section C36
variable {l : Launch} {D : zD} {M : zM} {W : Nat → Nat} {h : zH} {x dA sA : Nat} {g bb hh mm cc aa : Nat → Nat} {V : Nat → BV} {Q : Option Value → zH → Prop}

theorem c_B_held (a1 : Int32) (hx : h x = some (.inr (1, [.ref (g 0), .ref (g 1), .ref dA, .ref sA]))) (hV : ∀ q, q < 2 → bgA W D h (10 + 10 * q) (g q) (bb q) (hh q) (mm q) (cc q) (aa q) (V q)) (hQ : Q (some (.int (if isRp a1 = true then nI (V (toN a1)).L.length else -1))) h) : Runs l D M_B_held [.ref x, .int a1] h 0 0 Q := by
  refine Runs.of rfl rfl (Nat.le_of_ble_eq_true rfl) ?_
  refine z_aload_n d_B_held_0 1 rfl rfl rfl ?_
  refine z_iload_n d_B_held_1 2 rfl rfl rfl ?_
  refine z_cV1 d_B_held_2 5 rfl mv_B_bagOf kl_B_56 (by decide) 0 0 rfl rfl (Nat.zero_le _) (Nat.zero_le _) hx (fun Q' q => c_B_bagOf a1 hx q) rfl rfl (Nat.le_of_ble_eq_true rfl) ?_
  rcases bgV_of a1 g with ⟨e1, e2⟩ | ⟨q, hq2, -, e1, e3, e2⟩
  · rw [e2]
    rw [if_neg (by rw [e1]; decide)] at hQ
    refine z_astN2 d_B_held_5 6 rfl rfl ?_
    refine z_aload_nN d_B_held_6 7 rfl rfl rfl ?_
    refine z_ifnonnull (r := none) (tgt := 14) d_B_held_7 10 rfl rfl (fun a9 h9 => by cases h9) (fun h9 => ?_)
    refine z_iconst (v := -1) d_B_held_10 11 rfl (by decide) ?_
    refine z_goto (tgt := 18) d_B_held_11 rfl ?_
    exact z_iret d_B_held_18 rfl (Nat.zero_le _) (Nat.zero_le _) hQ
  · rw [e2]
    rw [if_pos e1, e3] at hQ
    have y := hV q hq2
    obtain ⟨f, hf⟩ := y.L
    refine z_ast2 d_B_held_5 6 rfl rfl ?_
    refine z_aload_n d_B_held_6 7 rfl rfl rfl ?_
    refine z_ifnonnull (r := some (g q)) (tgt := 14) d_B_held_7 10 rfl rfl (fun a9 h9 => ?_) (fun h9 => by cases h9)
    refine z_aload_n d_B_held_14 15 rfl rfl rfl ?_
    refine z_get d_B_held_15 18 rfl f_B_102 y.o rfl ?_
    exact z_iret d_B_held_18 rfl (Nat.zero_le _) (Nat.zero_le _) hQ

theorem c_B_wanted (a1 : Int32) (hx : h x = some (.inr (1, [.ref (g 0), .ref (g 1), .ref dA, .ref sA]))) (hV : ∀ q, q < 2 → bgA W D h (10 + 10 * q) (g q) (bb q) (hh q) (mm q) (cc q) (aa q) (V q)) (hQ : Q (some (.int (if isRp a1 = true then nI (V (toN a1)).m.2.length else -1))) h) : Runs l D M_B_wanted [.ref x, .int a1] h 0 0 Q := by
  refine Runs.of rfl rfl (Nat.le_of_ble_eq_true rfl) ?_
  refine z_aload_n d_B_wanted_0 1 rfl rfl rfl ?_
  refine z_iload_n d_B_wanted_1 2 rfl rfl rfl ?_
  refine z_cV1 d_B_wanted_2 5 rfl mv_B_bagOf kl_B_56 (by decide) 0 0 rfl rfl (Nat.zero_le _) (Nat.zero_le _) hx (fun Q' q => c_B_bagOf a1 hx q) rfl rfl (Nat.le_of_ble_eq_true rfl) ?_
  rcases bgV_of a1 g with ⟨e1, e2⟩ | ⟨q, hq2, -, e1, e3, e2⟩
  · rw [e2]
    rw [if_neg (by rw [e1]; decide)] at hQ
    refine z_astN2 d_B_wanted_5 6 rfl rfl ?_
    refine z_aload_nN d_B_wanted_6 7 rfl rfl rfl ?_
    refine z_ifnonnull (r := none) (tgt := 14) d_B_wanted_7 10 rfl rfl (fun a9 h9 => by cases h9) (fun h9 => ?_)
    refine z_iconst (v := -1) d_B_wanted_10 11 rfl (by decide) ?_
    refine z_goto (tgt := 21) d_B_wanted_11 rfl ?_
    exact z_iret d_B_wanted_21 rfl (Nat.zero_le _) (Nat.zero_le _) hQ
  · rw [e2]
    rw [if_pos e1, e3] at hQ
    have y := hV q hq2
    obtain ⟨f, hf⟩ := y.L
    refine z_ast2 d_B_wanted_5 6 rfl rfl ?_
    refine z_aload_n d_B_wanted_6 7 rfl rfl rfl ?_
    refine z_ifnonnull (r := some (g q)) (tgt := 14) d_B_wanted_7 10 rfl rfl (fun a9 h9 => ?_) (fun h9 => by cases h9)
    obtain ⟨b2, f2, -, -, hn2, -⟩ := y.m
    refine z_aload_n d_B_wanted_14 15 rfl rfl rfl ?_
    refine z_get d_B_wanted_15 18 rfl f_B_120 y.o rfl ?_
    refine z_get d_B_wanted_18 21 rfl f_B_124 hn2.1 rfl ?_
    exact z_iret d_B_wanted_21 rfl (Nat.zero_le _) (Nat.zero_le _) hQ

theorem c_B_checkIns (a1 : Int32) (hx : h x = some (.inr (1, [.ref (g 0), .ref (g 1), .ref dA, .ref sA]))) (hV : ∀ q, q < 2 → bgA W D h (10 + 10 * q) (g q) (bb q) (hh q) (mm q) (cc q) (aa q) (V q)) (hQ : Q (some (.int (if isRp a1 = true then nI (V (toN a1)).H.length else -1))) h) : Runs l D M_B_checkIns [.ref x, .int a1] h 0 0 Q := by
  refine Runs.of rfl rfl (Nat.le_of_ble_eq_true rfl) ?_
  refine z_aload_n d_B_checkIns_0 1 rfl rfl rfl ?_
  refine z_iload_n d_B_checkIns_1 2 rfl rfl rfl ?_
  refine z_cV1 d_B_checkIns_2 5 rfl mv_B_bagOf kl_B_56 (by decide) 0 0 rfl rfl (Nat.zero_le _) (Nat.zero_le _) hx (fun Q' q => c_B_bagOf a1 hx q) rfl rfl (Nat.le_of_ble_eq_true rfl) ?_
  rcases bgV_of a1 g with ⟨e1, e2⟩ | ⟨q, hq2, -, e1, e3, e2⟩
  · rw [e2]
    rw [if_neg (by rw [e1]; decide)] at hQ
    refine z_astN2 d_B_checkIns_5 6 rfl rfl ?_
    refine z_aload_nN d_B_checkIns_6 7 rfl rfl rfl ?_
    refine z_ifnonnull (r := none) (tgt := 14) d_B_checkIns_7 10 rfl rfl (fun a9 h9 => by cases h9) (fun h9 => ?_)
    refine z_iconst (v := -1) d_B_checkIns_10 11 rfl (by decide) ?_
    refine z_goto (tgt := 21) d_B_checkIns_11 rfl ?_
    exact z_iret d_B_checkIns_21 rfl (Nat.zero_le _) (Nat.zero_le _) hQ
  · rw [e2]
    rw [if_pos e1, e3] at hQ
    have y := hV q hq2
    obtain ⟨f, hf⟩ := y.L
    refine z_ast2 d_B_checkIns_5 6 rfl rfl ?_
    refine z_aload_n d_B_checkIns_6 7 rfl rfl rfl ?_
    refine z_ifnonnull (r := some (g q)) (tgt := 14) d_B_checkIns_7 10 rfl rfl (fun a9 h9 => ?_) (fun h9 => by cases h9)
    obtain ⟨b2, f2, -, -, hn2, -⟩ := y.H
    refine z_aload_n d_B_checkIns_14 15 rfl rfl rfl ?_
    refine z_get d_B_checkIns_15 18 rfl f_B_132 y.o rfl ?_
    refine z_get d_B_checkIns_18 21 rfl f_B_136 hn2 rfl ?_
    exact z_iret d_B_checkIns_21 rfl (Nat.zero_le _) (Nat.zero_le _) hQ

theorem c_B_children (a1 : Int32) (a2 : Int32) (hx : h x = some (.inr (1, [.ref (g 0), .ref (g 1), .ref dA, .ref sA]))) (hV : ∀ q, q < 2 → bgA W D h (10 + 10 * q) (g q) (bb q) (hh q) (mm q) (cc q) (aa q) (V q)) (hQ : Q (some (.int (if isRp a1 = true then nI (kidC a2 (V (toN a1)).H) else -1))) h) : Runs l D M_B_children [.ref x, .int a1, .int a2] h 0 0 Q := by
  refine Runs.of rfl rfl (Nat.le_of_ble_eq_true rfl) ?_
  refine z_aload_n d_B_children_0 1 rfl rfl rfl ?_
  refine z_iload_n d_B_children_1 2 rfl rfl rfl ?_
  refine z_cV1 d_B_children_2 5 rfl mv_B_bagOf kl_B_56 (by decide) 0 0 rfl rfl (Nat.zero_le _) (Nat.zero_le _) hx (fun Q' q => c_B_bagOf a1 hx q) rfl rfl (Nat.le_of_ble_eq_true rfl) ?_
  rcases bgV_of a1 g with ⟨e1, e2⟩ | ⟨q, hq2, -, e1, e3, e2⟩
  · rw [e2]
    rw [if_neg (by rw [e1]; decide)] at hQ
    refine z_astN3 d_B_children_5 6 rfl rfl ?_
    refine z_aload_nN d_B_children_6 7 rfl rfl rfl ?_
    refine z_ifnonnull (r := none) (tgt := 14) d_B_children_7 10 rfl rfl (fun a9 h9 => by cases h9) (fun h9 => ?_)
    refine z_iconst (v := -1) d_B_children_10 11 rfl (by decide) ?_
    refine z_goto (tgt := 22) d_B_children_11 rfl ?_
    exact z_iret d_B_children_22 rfl (Nat.zero_le _) (Nat.zero_le _) hQ
  · rw [e2]
    rw [if_pos e1, e3] at hQ
    have y := hV q hq2
    obtain ⟨f, hf⟩ := y.L
    refine z_ast3 d_B_children_5 6 rfl rfl ?_
    refine z_aload_n d_B_children_6 7 rfl rfl rfl ?_
    refine z_ifnonnull (r := some (g q)) (tgt := 14) d_B_children_7 10 rfl rfl (fun a9 h9 => ?_) (fun h9 => by cases h9)
    obtain ⟨b2, f2, -, -, hn2, hn3⟩ := y.H
    refine z_aload_n d_B_children_14 15 rfl rfl rfl ?_
    refine z_get d_B_children_15 18 rfl f_B_132 y.o rfl ?_
    refine z_iload_n d_B_children_18 19 rfl rfl rfl ?_
    refine z_cV1 d_B_children_19 22 rfl mv_H_countChildren kl_B_143 (by decide) 0 0 rfl rfl (Nat.zero_le _) (Nat.zero_le _) hn2 (fun Q' q => c_H_countChildren a2 hn2 hn3 q) rfl rfl (Nat.le_of_ble_eq_true rfl) ?_
    exact z_iret d_B_children_22 rfl (Nat.zero_le _) (Nat.zero_le _) hQ

theorem c_B_leaves (a1 : Int32) (hx : h x = some (.inr (1, [.ref (g 0), .ref (g 1), .ref dA, .ref sA]))) (hV : ∀ q, q < 2 → bgA W D h (10 + 10 * q) (g q) (bb q) (hh q) (mm q) (cc q) (aa q) (V q)) (hQ : Q (some (.int (if isRp a1 = true then nI (leafC (V (toN a1)).H (V (toN a1)).H) else -1))) h) : Runs l D M_B_leaves [.ref x, .int a1] h 0 0 Q := by
  refine Runs.of rfl rfl (Nat.le_of_ble_eq_true rfl) ?_
  refine z_aload_n d_B_leaves_0 1 rfl rfl rfl ?_
  refine z_iload_n d_B_leaves_1 2 rfl rfl rfl ?_
  refine z_cV1 d_B_leaves_2 5 rfl mv_B_bagOf kl_B_56 (by decide) 0 0 rfl rfl (Nat.zero_le _) (Nat.zero_le _) hx (fun Q' q => c_B_bagOf a1 hx q) rfl rfl (Nat.le_of_ble_eq_true rfl) ?_
  rcases bgV_of a1 g with ⟨e1, e2⟩ | ⟨q, hq2, -, e1, e3, e2⟩
  · rw [e2]
    rw [if_neg (by rw [e1]; decide)] at hQ
    refine z_astN2 d_B_leaves_5 6 rfl rfl ?_
    refine z_aload_nN d_B_leaves_6 7 rfl rfl rfl ?_
    refine z_ifnonnull (r := none) (tgt := 14) d_B_leaves_7 10 rfl rfl (fun a9 h9 => by cases h9) (fun h9 => ?_)
    refine z_iconst (v := -1) d_B_leaves_10 11 rfl (by decide) ?_
    refine z_goto (tgt := 21) d_B_leaves_11 rfl ?_
    exact z_iret d_B_leaves_21 rfl (Nat.zero_le _) (Nat.zero_le _) hQ
  · rw [e2]
    rw [if_pos e1, e3] at hQ
    have y := hV q hq2
    obtain ⟨f, hf⟩ := y.L
    refine z_ast2 d_B_leaves_5 6 rfl rfl ?_
    refine z_aload_n d_B_leaves_6 7 rfl rfl rfl ?_
    refine z_ifnonnull (r := some (g q)) (tgt := 14) d_B_leaves_7 10 rfl rfl (fun a9 h9 => ?_) (fun h9 => by cases h9)
    obtain ⟨b2, f2, -, -, hn2, hn3⟩ := y.H
    refine z_aload_n d_B_leaves_14 15 rfl rfl rfl ?_
    refine z_get d_B_leaves_15 18 rfl f_B_132 y.o rfl ?_
    refine z_cV1 d_B_leaves_18 21 rfl mv_H_countLeaves kl_B_146 (by decide) 0 0 rfl rfl (Nat.zero_le _) (Nat.zero_le _) hn2 (fun Q' q => c_H_countLeaves hn2 hn3 q) rfl rfl (Nat.le_of_ble_eq_true rfl) ?_
    exact z_iret d_B_leaves_21 rfl (Nat.zero_le _) (Nat.zero_le _) hQ

theorem c_B_loose (a1 : Int32) (hx : h x = some (.inr (1, [.ref (g 0), .ref (g 1), .ref dA, .ref sA]))) (hV : ∀ q, q < 2 → bgA W D h (10 + 10 * q) (g q) (bb q) (hh q) (mm q) (cc q) (aa q) (V q)) (hQ : Q (some (.int (if isRp a1 = true then nI (lsL (V (toN a1)).L (V (toN a1)).c.2).length else -1))) h) : Runs l D M_B_loose [.ref x, .int a1] h 0 0 Q := by
  refine Runs.of rfl rfl (Nat.le_of_ble_eq_true rfl) ?_
  refine z_aload_n d_B_loose_0 1 rfl rfl rfl ?_
  refine z_iload_n d_B_loose_1 2 rfl rfl rfl ?_
  refine z_cV1 d_B_loose_2 5 rfl mv_B_bagOf kl_B_56 (by decide) 0 0 rfl rfl (Nat.zero_le _) (Nat.zero_le _) hx (fun Q' q => c_B_bagOf a1 hx q) rfl rfl (Nat.le_of_ble_eq_true rfl) ?_
  rcases bgV_of a1 g with ⟨e1, e2⟩ | ⟨q, hq2, -, e1, e3, e2⟩
  · rw [e2]
    rw [if_neg (by rw [e1]; decide)] at hQ
    refine z_astN2 d_B_loose_5 6 rfl rfl ?_
    refine z_aload_nN d_B_loose_6 7 rfl rfl rfl ?_
    refine z_ifnonnull (r := none) (tgt := 14) d_B_loose_7 10 rfl rfl (fun a9 h9 => by cases h9) (fun h9 => ?_)
    refine z_iconst (v := -1) d_B_loose_10 11 rfl (by decide) ?_
    refine z_goto (tgt := 18) d_B_loose_11 rfl ?_
    exact z_iret d_B_loose_18 rfl (Nat.zero_le _) (Nat.zero_le _) hQ
  · rw [e2]
    rw [if_pos e1, e3] at hQ
    have y := hV q hq2
    obtain ⟨f, hf⟩ := y.L
    refine z_ast2 d_B_loose_5 6 rfl rfl ?_
    refine z_aload_n d_B_loose_6 7 rfl rfl rfl ?_
    refine z_ifnonnull (r := some (g q)) (tgt := 14) d_B_loose_7 10 rfl rfl (fun a9 h9 => ?_) (fun h9 => by cases h9)
    obtain ⟨b2, f2, -, -, hn2, ok2⟩ := y.c
    rw [← losC_len] at hQ
    refine z_aload_n d_B_loose_14 15 rfl rfl rfl ?_
    refine z_cV1 d_B_loose_15 18 rfl mv_G_countLoose kl_B_156 (by decide) 0 0 rfl rfl (Nat.zero_le _) (Nat.zero_le _) y.o (fun Q' q => c_G_countLoose y.o hf hn2 ok2.1 q) rfl rfl (Nat.le_of_ble_eq_true rfl) ?_
    exact z_iret d_B_loose_18 rfl (Nat.zero_le _) (Nat.zero_le _) hQ

theorem c_B_timeline (a1 a2 : Int32) (hx : h x = some (.inr (1, [.ref (g 0), .ref (g 1), .ref dA, .ref sA]))) (hV : ∀ q, q < 2 → bgA W D h (10 + 10 * q) (g q) (bb q) (hh q) (mm q) (cc q) (aa q) (V q)) (hQ0 : isRp a1 = false → Q (some (.int (-1))) h) (hQ1 : ∀ q, q < 2 → a1 = nI q → (a2 < 0 ∨ nI (V q).H.length ≤ a2) → Q (some (.int (-1))) h) (hQ2 : ∀ q i z, q < 2 → a1 = nI q → a2 = nI i → (V q).H[i]? = some z → Q (some (.int (nI (dg 7 z.2)))) h) : Runs l D M_B_timeline [.ref x, .int a1, .int a2] h 0 0 Q := by
  refine Runs.of rfl rfl (Nat.le_of_ble_eq_true rfl) ?_
  refine z_aload_n d_B_timeline_0 1 rfl rfl rfl ?_
  refine z_iload_n d_B_timeline_1 2 rfl rfl rfl ?_
  refine z_cV1 d_B_timeline_2 5 rfl mv_B_bagOf kl_B_56 (by decide) 0 0 rfl rfl (Nat.zero_le _) (Nat.zero_le _) hx (fun Q' q => c_B_bagOf a1 hx q) rfl rfl (Nat.le_of_ble_eq_true rfl) ?_
  rcases bgV_of a1 g with ⟨e1, e2⟩ | ⟨q, hq2, e0, e1, e3, e2⟩
  · rw [e2]
    refine z_astN3 d_B_timeline_5 6 rfl rfl ?_
    refine z_aload_nN d_B_timeline_6 7 rfl rfl rfl ?_
    refine z_ifnonnull (r := none) (tgt := 14) d_B_timeline_7 10 rfl rfl (fun a9 h9 => by cases h9) (fun h9 => ?_)
    refine z_iconst (v := -1) d_B_timeline_10 11 rfl (by decide) ?_
    refine z_goto (tgt := 22) d_B_timeline_11 rfl ?_
    exact z_iret d_B_timeline_22 rfl (Nat.zero_le _) (Nat.zero_le _) (hQ0 e1)
  · rw [e2]
    have y := hV q hq2
    refine z_ast3 d_B_timeline_5 6 rfl rfl ?_
    refine z_aload_n d_B_timeline_6 7 rfl rfl rfl ?_
    refine z_ifnonnull (r := some (g q)) (tgt := 14) d_B_timeline_7 10 rfl rfl (fun a9 h9 => ?_) (fun h9 => by cases h9)
    obtain ⟨b2, f2, -, -, hn2, hn3⟩ := y.H
    refine z_aload_n d_B_timeline_14 15 rfl rfl rfl ?_
    refine z_get d_B_timeline_15 18 rfl f_B_132 y.o rfl ?_
    refine z_iload_n d_B_timeline_18 19 rfl rfl rfl ?_
    refine z_cV (Q' := fun r h' => ((a2 < 0 ∨ nI (V q).H.length ≤ a2) ∧ r = some (.int (-1)) ∧ h = h') ∨ ∃ i z, a2 = nI i ∧ (V q).H[i]? = some z ∧ r = some (.int (nI (dg 7 z.2))) ∧ h = h') d_B_timeline_19 22 rfl mv_H_nameAt kl_B_139 (by decide) 0 0 rfl rfl (Nat.zero_le _) (Nat.zero_le _) hn2 (c_H_nameAt a2 hn2 hn3 (fun e => Or.inl ⟨e, rfl, rfl⟩) (fun i z e e' => Or.inr ⟨i, z, e, e', rfl, rfl⟩)) rfl rfl (Nat.le_of_ble_eq_true rfl) ?_; rintro _ _ (⟨e, rfl, rfl⟩ | ⟨i, z, e, e', rfl, rfl⟩)
    · exact z_iret d_B_timeline_22 rfl (Nat.zero_le _) (Nat.zero_le _) (hQ1 q hq2 e0 e)
    · exact z_iret d_B_timeline_22 rfl (Nat.zero_le _) (Nat.zero_le _) (hQ2 q i z hq2 e0 e e')
theorem c_B_wants (a1 a2 : Int32) (hx : h x = some (.inr (1, [.ref (g 0), .ref (g 1), .ref dA, .ref sA]))) (hV : ∀ q, q < 2 → bgA W D h (10 + 10 * q) (g q) (bb q) (hh q) (mm q) (cc q) (aa q) (V q)) (hQ : Q (some (.int (zb (isRp a1 && (V (toN a1)).m.2.any fun n => decide (nI n = a2))))) h) : Runs l D M_B_wants [.ref x, .int a1, .int a2] h 0 0 Q := by
  refine Runs.of rfl rfl (Nat.le_of_ble_eq_true rfl) ?_
  refine z_aload_n d_B_wants_0 1 rfl rfl rfl ?_
  refine z_iload_n d_B_wants_1 2 rfl rfl rfl ?_
  refine z_cV1 d_B_wants_2 5 rfl mv_B_bagOf kl_B_56 (by decide) 0 0 rfl rfl (Nat.zero_le _) (Nat.zero_le _) hx (fun Q' q => c_B_bagOf a1 hx q) rfl rfl (Nat.le_of_ble_eq_true rfl) ?_
  rcases bgV_of a1 g with ⟨e1, e2⟩ | ⟨q, hq2, e0, e1, e3, e2⟩
  · rw [e2]
    rw [e1, Bool.false_and] at hQ
    refine z_astN3 d_B_wants_5 6 rfl rfl ?_
    refine z_aload_nN d_B_wants_6 7 rfl rfl rfl ?_
    refine z_ifnull (r := none) (tgt := 25) d_B_wants_7 10 rfl rfl (fun h9 => ?_) (fun a9 h9 => by cases h9)
    refine z_iconst (v := nI 0) d_B_wants_25 26 rfl rfl ?_
    exact z_zretB (b := false) d_B_wants_26 rfl (Nat.zero_le _) (Nat.zero_le _) hQ
  · rw [e2]
    rw [e1, e3, Bool.true_and] at hQ
    have y := hV q hq2
    refine z_ast3 d_B_wants_5 6 rfl rfl ?_
    refine z_aload_n d_B_wants_6 7 rfl rfl rfl ?_
    refine z_ifnull (r := some (g q)) (tgt := 25) d_B_wants_7 10 rfl rfl (fun h9 => by cases h9) (fun a9 h9 => ?_)
    obtain ⟨b2, f2, -, -, hn2, -⟩ := y.m
    refine z_aload_n d_B_wants_10 11 rfl rfl rfl ?_
    refine z_get d_B_wants_11 14 rfl f_B_120 y.o rfl ?_
    refine z_iload_n d_B_wants_14 15 rfl rfl rfl ?_
    refine z_cV1 d_B_wants_15 18 rfl mv_N_contains kl_B_129 (by decide) 0 0 rfl rfl (Nat.zero_le _) (Nat.zero_le _) hn2.1 (fun Q' q => c_N_containsX a2 y.m q) rfl rfl (Nat.le_of_ble_eq_true rfl) ?_
    refine z_if_eqB (tgt := 25) d_B_wants_18 21 rfl rfl (fun h18 => ?_) (fun h18 => ?_)
    · rw [h18] at hQ
      refine z_iconst (v := nI 0) d_B_wants_25 26 rfl rfl ?_
      exact z_zretB (b := false) d_B_wants_26 rfl (Nat.zero_le _) (Nat.zero_le _) hQ
    · rw [h18] at hQ
      refine z_iconst (v := nI 1) d_B_wants_21 22 rfl rfl ?_
      refine z_goto (tgt := 26) d_B_wants_22 rfl ?_
      exact z_zretB (b := true) d_B_wants_26 rfl (Nat.zero_le _) (Nat.zero_le _) hQ
theorem c_B_tag (a1 a2 a3 : Int32) (hx : h x = some (.inr (1, [.ref (g 0), .ref (g 1), .ref dA, .ref sA]))) (hV : ∀ q, q < 2 → bgA W D h (10 + 10 * q) (g q) (bb q) (hh q) (mm q) (cc q) (aa q) (V q)) (hQ0 : (isRp a1 = false ∨ dgI a3 = false) → Q (some (.int (-1))) h) (hQ1 : ∀ q, q < 2 → a1 = nI q → dgI a3 = true → tgF a2 a3 (V q).L none (-1) = none → Q (some (.int (-1))) h) (hQ2 : ∀ q c, q < 2 → a1 = nI q → dgI a3 = true → tgF a2 a3 (V q).L none (-1) = some c → Q (some (.int (zb c.2.2.1))) h) : Runs l D M_B_tag [.ref x, .int a1, .int a2, .int a3] h 0 0 Q := by
  refine Runs.of rfl rfl (Nat.le_of_ble_eq_true rfl) ?_
  refine z_aload_n d_B_tag_0 1 rfl rfl rfl ?_
  refine z_iload_n d_B_tag_1 2 rfl rfl rfl ?_
  refine z_cV1 d_B_tag_2 5 rfl mv_B_bagOf kl_B_56 (by decide) 0 0 rfl rfl (Nat.zero_le _) (Nat.zero_le _) hx (fun Q' q => c_B_bagOf a1 hx q) rfl rfl (Nat.le_of_ble_eq_true rfl) ?_
  rcases bgV_of a1 g with ⟨e1, e2⟩ | ⟨q, hq2, e0, e1, e3, e2⟩
  · rw [e2]
    refine z_astN4 d_B_tag_5 7 rfl rfl ?_
    refine z_aloadN d_B_tag_7 9 rfl rfl ?_
    refine z_ifnull (r := none) (tgt := 19) d_B_tag_9 12 rfl rfl (fun h9 => ?_) (fun a9 h9 => by cases h9)
    refine z_iconst (v := -1) d_B_tag_19 20 rfl (by decide) ?_
    refine z_goto (tgt := 30) d_B_tag_20 rfl ?_
    exact z_iret d_B_tag_30 rfl (Nat.zero_le _) (Nat.zero_le _) (hQ0 (Or.inl e1))
  · rw [e2]
    have y := hV q hq2
    obtain ⟨f, hf⟩ := y.L
    refine z_ast4 d_B_tag_5 7 rfl rfl ?_
    refine z_aload d_B_tag_7 9 rfl rfl ?_
    refine z_ifnull (r := some (g q)) (tgt := 19) d_B_tag_9 12 rfl rfl (fun h9 => by cases h9) (fun a9 h9 => ?_)
    refine z_iload_n d_B_tag_12 13 rfl rfl rfl ?_
    refine z_cS1 d_B_tag_13 16 rfl ms_B_isDigit kl_B_149 (by decide) 0 0 rfl rfl (Nat.zero_le _) (Nat.zero_le _) (fun Q' q => c_B_isDigit a3 q) rfl rfl (Nat.le_of_ble_eq_true rfl) ?_
    refine z_if_neB (tgt := 23) d_B_tag_16 19 rfl rfl (fun h16 => ?_) (fun h16 => ?_)
    · refine z_aload d_B_tag_23 25 rfl rfl ?_
      refine z_iload_n d_B_tag_25 26 rfl rfl rfl ?_
      refine z_iload_n d_B_tag_26 27 rfl rfl rfl ?_
      refine z_cV (Q' := fun r h' => (tgF a2 a3 (V q).L none (-1) = none ∧ r = some (.int (-1)) ∧ h = h') ∨ ∃ c, tgF a2 a3 (V q).L none (-1) = some c ∧ r = some (.int (zb c.2.2.1)) ∧ h = h') d_B_tag_27 30 rfl mv_G_tagOf kl_B_152 (by decide) 0 0 rfl rfl (Nat.zero_le _) (Nat.zero_le _) y.o (c_G_tagOf a2 a3 y.o hf (fun e => Or.inl ⟨e, rfl, rfl⟩) (fun c e => Or.inr ⟨c, e, rfl, rfl⟩)) rfl rfl (Nat.le_of_ble_eq_true rfl) ?_; rintro _ _ (⟨e, rfl, rfl⟩ | ⟨c, e, rfl, rfl⟩)
      · exact z_iret d_B_tag_30 rfl (Nat.zero_le _) (Nat.zero_le _) (hQ1 q hq2 e0 h16 e)
      · exact z_iret d_B_tag_30 rfl (Nat.zero_le _) (Nat.zero_le _) (hQ2 q c hq2 e0 h16 e)
    · refine z_iconst (v := -1) d_B_tag_19 20 rfl (by decide) ?_
      refine z_goto (tgt := 30) d_B_tag_20 rfl ?_
      exact z_iret d_B_tag_30 rfl (Nat.zero_le _) (Nat.zero_le _) (hQ0 (Or.inr h16))
theorem c_B_name (a1 a2 : Int32) (hx : h x = some (.inr (1, [.ref (g 0), .ref (g 1), .ref dA, .ref sA]))) (hV : ∀ q, q < 2 → bgA W D h (10 + 10 * q) (g q) (bb q) (hh q) (mm q) (cc q) (aa q) (V q)) (hQ0 : isRp a1 = false → Q (some (.int (-1))) h) (hQ1 : ∀ q, q < 2 → a1 = nI q → (a2 < 0 ∨ nI (V q).L.length ≤ a2) → Q (some (.int (-1))) h) (hQ2 : ∀ q i z, q < 2 → a1 = nI q → a2 = nI i → (V q).L[i]? = some z → Q (some (.int (nI (dg 7 z.2)))) h) : Runs l D M_B_name [.ref x, .int a1, .int a2] h 0 0 Q := by
  refine Runs.of rfl rfl (Nat.le_of_ble_eq_true rfl) ?_
  refine z_aload_n d_B_name_0 1 rfl rfl rfl ?_
  refine z_iload_n d_B_name_1 2 rfl rfl rfl ?_
  refine z_cV1 d_B_name_2 5 rfl mv_B_bagOf kl_B_56 (by decide) 0 0 rfl rfl (Nat.zero_le _) (Nat.zero_le _) hx (fun Q' q => c_B_bagOf a1 hx q) rfl rfl (Nat.le_of_ble_eq_true rfl) ?_
  rcases bgV_of a1 g with ⟨e1, e2⟩ | ⟨q, hq2, e0, e1, e3, e2⟩
  · rw [e2]
    refine z_astN3 d_B_name_5 6 rfl rfl ?_
    refine z_aload_nN d_B_name_6 7 rfl rfl rfl ?_
    refine z_ifnull (r := none) (tgt := 22) d_B_name_7 10 rfl rfl (fun h9 => ?_) (fun a9 h9 => by cases h9)
    refine z_iconst (v := -1) d_B_name_22 23 rfl (by decide) ?_
    refine z_goto (tgt := 35) d_B_name_23 rfl ?_
    exact z_iret d_B_name_35 rfl (Nat.zero_le _) (Nat.zero_le _) (hQ0 e1)
  · rw [e2]
    have y := hV q hq2
    obtain ⟨f, hf⟩ := y.L
    have hlen := hf.2.1
    refine z_ast3 d_B_name_5 6 rfl rfl ?_
    refine z_aload_n d_B_name_6 7 rfl rfl rfl ?_
    refine z_ifnull (r := some (g q)) (tgt := 22) d_B_name_7 10 rfl rfl (fun h9 => by cases h9) (fun a9 h9 => ?_)
    refine z_iload_n d_B_name_10 11 rfl rfl rfl ?_
    refine z_if_lt (tgt := 22) d_B_name_11 14 rfl rfl (fun h11 => ?_) (fun h11 => ?_)
    · refine z_iconst (v := -1) d_B_name_22 23 rfl (by decide) ?_
      refine z_goto (tgt := 35) d_B_name_23 rfl ?_
      exact z_iret d_B_name_35 rfl (Nat.zero_le _) (Nat.zero_le _) (hQ1 q hq2 e0 (Or.inl h11))
    · obtain ⟨i, hi, rfl⟩ := nI_of h11
      refine z_iload_n d_B_name_14 15 rfl rfl rfl ?_
      refine z_aload_n d_B_name_15 16 rfl rfl rfl ?_
      refine z_get d_B_name_16 19 rfl f_B_102 y.o rfl ?_
      refine z_icmp_ltN (tgt := 26) d_B_name_19 22 rfl rfl (by omega) (by omega) (fun h19 => ?_) (fun h19 => ?_)
      · obtain ⟨z, hz⟩ : ∃ c, (V q).L[i]? = some c := ⟨(V q).L[i]'(by omega), List.getElem?_eq_getElem (by omega)⟩
        obtain ⟨-, -, c1, c2, c3, -, hzO, -⟩ := hf.2.2 i z hz
        refine z_aload_n d_B_name_26 27 rfl rfl rfl ?_
        refine z_get d_B_name_27 30 rfl f_B_105 y.o rfl ?_
        refine z_iload_n d_B_name_30 31 rfl rfl rfl ?_
        refine z_aaldA d_B_name_31 32 rfl hf hz ?_
        refine z_get d_B_name_32 35 rfl f_B_109 hzO rfl ?_
        exact z_iret d_B_name_35 rfl (Nat.zero_le _) (Nat.zero_le _) (hQ2 q i z hq2 e0 rfl hz)
      · refine z_iconst (v := -1) d_B_name_22 23 rfl (by decide) ?_
        refine z_goto (tgt := 35) d_B_name_23 rfl ?_
        exact z_iret d_B_name_35 rfl (Nat.zero_le _) (Nat.zero_le _) (hQ1 q hq2 e0 (Or.inr (nI_le (by omega) (by omega))))
theorem c_B_artifactOf (a1 a2 : Int32) (hx : h x = some (.inr (1, [.ref (g 0), .ref (g 1), .ref dA, .ref sA]))) (hV : ∀ q, q < 2 → bgA W D h (10 + 10 * q) (g q) (bb q) (hh q) (mm q) (cc q) (aa q) (V q)) (hQ : Q (some (va_rf (if isRp a1 = true then (fdA a2 (V (toN a1)).L).map (·.1) else none))) h) : Runs l D M_B_artifactOf [.ref x, .int a1, .int a2] h 0 0 Q := by
  refine Runs.of rfl rfl (Nat.le_of_ble_eq_true rfl) ?_
  refine z_aload_n d_B_artifactOf_0 1 rfl rfl rfl ?_
  refine z_iload_n d_B_artifactOf_1 2 rfl rfl rfl ?_
  refine z_cV1 d_B_artifactOf_2 5 rfl mv_B_bagOf kl_B_56 (by decide) 0 0 rfl rfl (Nat.zero_le _) (Nat.zero_le _) hx (fun Q' q => c_B_bagOf a1 hx q) rfl rfl (Nat.le_of_ble_eq_true rfl) ?_
  rcases bgV_of a1 g with ⟨e1, e2⟩ | ⟨q, hq2, e0, e1, e3, e2⟩
  · rw [e2]
    rw [if_neg (by rw [e1]; decide)] at hQ
    refine z_astN3 d_B_artifactOf_5 6 rfl rfl ?_
    refine z_aload_nN d_B_artifactOf_6 7 rfl rfl rfl ?_
    refine z_ifnonnull (r := none) (tgt := 14) d_B_artifactOf_7 10 rfl rfl (fun a9 h9 => by cases h9) (fun h9 => ?_)
    refine z_null d_B_artifactOf_10 11 rfl ?_
    refine z_goto (tgt := 19) d_B_artifactOf_11 rfl ?_
    exact z_aret (r := none) d_B_artifactOf_19 rfl (Or.inl ⟨_, rfl⟩) (Nat.zero_le _) (Nat.zero_le _) hQ
  · rw [e2]
    rw [if_pos e1, e3] at hQ
    have y := hV q hq2
    obtain ⟨f, hf⟩ := y.L
    refine z_ast3 d_B_artifactOf_5 6 rfl rfl ?_
    refine z_aload_n d_B_artifactOf_6 7 rfl rfl rfl ?_
    refine z_ifnonnull (r := some (g q)) (tgt := 14) d_B_artifactOf_7 10 rfl rfl (fun a9 h9 => ?_) (fun h9 => by cases h9)
    refine z_aload_n d_B_artifactOf_14 15 rfl rfl rfl ?_
    refine z_iload_n d_B_artifactOf_15 16 rfl rfl rfl ?_
    refine z_cV1 d_B_artifactOf_16 19 rfl mv_G_find kl_B_162 (by decide) 0 0 rfl rfl (Nat.zero_le _) (Nat.zero_le _) y.o (fun Q' q => c_G_find a2 y.o hf q) rfl rfl (Nat.le_of_ble_eq_true rfl) ?_
    exact z_aret d_B_artifactOf_19 rfl (Or.inl ⟨_, rfl⟩) (Nat.zero_le _) (Nat.zero_le _) hQ
end C36
