/-! The class: kind, octet, files, rebuild. Own work. -/
section C37
variable {l : Launch} {D : zD} {M : zM} {W : Nat → Nat} {h : zH} {x dA sA dB : Nat} {g bb hh mm cc aa : Nat → Nat} {V : Nat → BV} {fd : Nat → Int32} {dr : List Nat} {Q : Option Value → zH → Prop}
theorem c_B_kind (a1 a2 : Int32) (hx : h x = some (.inr (1, [.ref (g 0), .ref (g 1), .ref dA, .ref sA]))) (hV : ∀ q, q < 2 → bgA W D h (10 + 10 * q) (g q) (bb q) (hh q) (mm q) (cc q) (aa q) (V q)) (hQ : Q (some (.int (if isRp a1 = true then (match fdA a2 (V (toN a1)).L with | none => -1 | some y => nI (aS y.2)) else -1))) h) : Runs l D M_B_kind [.ref x, .int a1, .int a2] h 0 0 Q := by
  refine Runs.of rfl rfl (Nat.le_of_ble_eq_true rfl) ?_
  have hnone : (if isRp a1 = true then (fdA a2 (V (toN a1)).L).map (·.1) else none) = none → Q (some (.int (-1))) h := by
    intro e
    split at e
    next hr =>
      rw [if_pos hr] at hQ
      cases e9 : fdA a2 (V (toN a1)).L with
      | none => rw [e9] at hQ; exact hQ
      | some y => rw [e9] at e; cases e
    next hr => rw [if_neg hr] at hQ; exact hQ
  refine z_aload_n d_B_kind_0 1 rfl rfl rfl ?_
  refine z_iload_n d_B_kind_1 2 rfl rfl rfl ?_
  refine z_iload_n d_B_kind_2 3 rfl rfl rfl ?_
  refine z_cV1 d_B_kind_3 6 rfl mv_B_artifactOf kl_B_112 (by decide) 0 0 rfl rfl (Nat.zero_le _) (Nat.zero_le _) hx (fun Q' q => c_B_artifactOf a1 a2 hx hV q) rfl rfl (Nat.le_of_ble_eq_true rfl) ?_
  cases e : (if isRp a1 = true then (fdA a2 (V (toN a1)).L).map (·.1) else none) with
  | none =>
    refine z_astN3 d_B_kind_6 7 rfl rfl ?_
    refine z_aload_nN d_B_kind_7 8 rfl rfl rfl ?_
    refine z_ifnonnull (r := none) (tgt := 15) d_B_kind_8 11 rfl rfl (fun a9 h9 => by cases h9) (fun h9 => ?_)
    refine z_iconst (v := -1) d_B_kind_11 12 rfl (by decide) ?_
    refine z_goto (tgt := 19) d_B_kind_12 rfl ?_
    exact z_iret d_B_kind_19 rfl (Nat.zero_le _) (Nat.zero_le _) (hnone e)
  | some p =>
    split at e
    next hr =>
      rw [if_pos hr] at hQ
      cases e9 : fdA a2 (V (toN a1)).L with
      | none => rw [e9] at e; cases e
      | some y =>
        rw [e9] at hQ e
        cases e
        obtain ⟨q, hq2, rfl⟩ := isRp_of hr
        rw [toN_nI (by omega)] at e9
        obtain ⟨f, hf⟩ := (hV q hq2).L
        obtain ⟨i, hi⟩ := fdA_at e9
        obtain ⟨-, -, c1, c2, c3, -, hyO, -⟩ := hf.2.2 i y hi
        refine z_ast3 d_B_kind_6 7 rfl rfl ?_
        refine z_aload_n d_B_kind_7 8 rfl rfl rfl ?_
        refine z_ifnonnull (r := some y.1) (tgt := 15) d_B_kind_8 11 rfl rfl (fun a9 h9 => ?_) (fun h9 => by cases h9)
        refine z_aload_n d_B_kind_15 16 rfl rfl rfl ?_
        refine z_get d_B_kind_16 19 rfl f_B_117 hyO rfl ?_
        exact z_iret d_B_kind_19 rfl (Nat.zero_le _) (Nat.zero_le _) hQ
    next hr => cases e
theorem c_B_octet (a1 a2 a3 : Int32) (hx : h x = some (.inr (1, [.ref (g 0), .ref (g 1), .ref dA, .ref sA]))) (hV : ∀ q, q < 2 → bgA W D h (10 + 10 * q) (g q) (bb q) (hh q) (mm q) (cc q) (aa q) (V q)) (hQ : Q (some (.int (if isRp a1 = true then (match fdA a2 (V (toN a1)).L with | none => -1 | some y => if ¬ a3 < 0 ∧ toN a3 < y.2.length then nI (y.2.getD (toN a3) 0) else -1) else -1))) h) : Runs l D M_B_octet [.ref x, .int a1, .int a2, .int a3] h 0 0 Q := by
  refine Runs.of rfl rfl (Nat.le_of_ble_eq_true rfl) ?_
  have hnone : (if isRp a1 = true then (fdA a2 (V (toN a1)).L).map (·.1) else none) = none → Q (some (.int (-1))) h := by
    intro e
    split at e
    next hr =>
      rw [if_pos hr] at hQ
      cases e9 : fdA a2 (V (toN a1)).L with
      | none => rw [e9] at hQ; exact hQ
      | some y => rw [e9] at e; cases e
    next hr => rw [if_neg hr] at hQ; exact hQ
  refine z_aload_n d_B_octet_0 1 rfl rfl rfl ?_
  refine z_iload_n d_B_octet_1 2 rfl rfl rfl ?_
  refine z_iload_n d_B_octet_2 3 rfl rfl rfl ?_
  refine z_cV1 d_B_octet_3 6 rfl mv_B_artifactOf kl_B_112 (by decide) 0 0 rfl rfl (Nat.zero_le _) (Nat.zero_le _) hx (fun Q' q => c_B_artifactOf a1 a2 hx hV q) rfl rfl (Nat.le_of_ble_eq_true rfl) ?_
  cases e : (if isRp a1 = true then (fdA a2 (V (toN a1)).L).map (·.1) else none) with
  | none =>
    refine z_astN4 d_B_octet_6 8 rfl rfl ?_
    refine z_aloadN d_B_octet_8 10 rfl rfl ?_
    refine z_ifnull (r := none) (tgt := 27) d_B_octet_10 13 rfl rfl (fun h9 => ?_) (fun a9 h9 => by cases h9)
    refine z_iconst (v := -1) d_B_octet_27 28 rfl (by decide) ?_
    exact z_iret d_B_octet_28 rfl (Nat.zero_le _) (Nat.zero_le _) (hnone e)
  | some p =>
    split at e
    next hr =>
      rw [if_pos hr] at hQ
      cases e9 : fdA a2 (V (toN a1)).L with
      | none => rw [e9] at e; cases e
      | some y =>
        rw [e9] at hQ e
        cases e
        dsimp only at hQ
        obtain ⟨q, hq2, rfl⟩ := isRp_of hr
        rw [toN_nI (by omega)] at e9
        obtain ⟨f, hf⟩ := (hV q hq2).L
        obtain ⟨i, hi⟩ := fdA_at e9
        obtain ⟨-, y240, c1, c2, c3, -, hyO, -, hyb, hyf, -⟩ := hf.2.2 i y hi
        refine z_ast4 d_B_octet_6 8 rfl rfl ?_
        refine z_aload d_B_octet_8 10 rfl rfl ?_
        refine z_ifnull (r := some y.1) (tgt := 27) d_B_octet_10 13 rfl rfl (fun h9 => by cases h9) (fun a9 h9 => ?_)
        refine z_iload_n d_B_octet_13 14 rfl rfl rfl ?_
        refine z_if_lt (tgt := 27) d_B_octet_14 17 rfl rfl (fun h14 => ?_) (fun h14 => ?_)
        · rw [if_neg (fun e => e.1 h14)] at hQ
          refine z_iconst (v := -1) d_B_octet_27 28 rfl (by decide) ?_
          exact z_iret d_B_octet_28 rfl (Nat.zero_le _) (Nat.zero_le _) hQ
        · obtain ⟨j, hj, rfl⟩ := nI_of h14
          rw [toN_nI hj] at hQ
          refine z_iload_n d_B_octet_17 18 rfl rfl rfl ?_
          refine z_aload d_B_octet_18 20 rfl rfl ?_
          refine z_get d_B_octet_20 23 rfl f_B_116 hyO rfl ?_
          refine z_alen d_B_octet_23 24 rfl (t := 0) (v := nI y.2.length) rfl hyb rfl ?_
          refine z_icmp_ltN (tgt := 29) d_B_octet_24 27 rfl rfl (by omega) (by omega) (fun h24 => ?_) (fun h24 => ?_)
          · rw [if_pos ⟨h14, by omega⟩] at hQ
            have hjb := hyf j (by omega)
            refine z_aload d_B_octet_29 31 rfl rfl ?_
            refine z_get d_B_octet_31 34 rfl f_B_116 hyO rfl ?_
            refine z_iload_n d_B_octet_34 35 rfl rfl rfl ?_
            refine z_baldN d_B_octet_35 36 rfl hyb (by omega) (by omega) ?_
            rw [hjb.2]
            refine z_sipush (v := nI 255) d_B_octet_36 39 rfl rfl ?_
            refine z_iand d_B_octet_39 40 rfl ?_
            rw [sb_and hjb.1]
            exact z_iret d_B_octet_40 rfl (Nat.zero_le _) (Nat.zero_le _) hQ
          · rw [if_neg (fun e => by omega)] at hQ
            refine z_iconst (v := -1) d_B_octet_27 28 rfl (by decide) ?_
            exact z_iret d_B_octet_28 rfl (Nat.zero_le _) (Nat.zero_le _) hQ
    next hr => cases e
theorem c_B_rebuild (a1 : Int32) (u : Nat) (hx : h x = some (.inr (1, [.ref (g 0), .ref (g 1), .ref dA, .ref sA]))) (hV : ∀ q, q < 2 → bgA W D h (10 + 10 * q) (g q) (bb q) (hh q) (mm q) (cc q) (aa q) (V q)) (hB : ∀ q, q < 2 → a1 = nI q → (drvV (V q)).m.2.length < 1000 ∧ (drvV (V q)).c.2.length < 1000 ∧ (drvV (V q)).pot = (V q).pot + u) (hQ0 : isRp a1 = false → Q (some (.int (-1))) h) (hQ1 : ∀ q W' h', q < 2 → a1 = nI q → stp (fun j => 10 + 10 * q ≤ j ∧ j ≤ 10 + 10 * q + 3) W h W' h' → bgA W' D h' (10 + 10 * q) (g q) (bb q) (hh q) (mm q) (cc q) (aa q) (drvV (V q)) → Q (some (.int (nI (drvV (V q)).H.length))) h') : Runs l D M_B_rebuild [.ref x, .int a1] h u (2 * u) Q := by
  refine Runs.of rfl rfl (Nat.le_of_ble_eq_true rfl) ?_
  refine z_aload_n d_B_rebuild_0 1 rfl rfl rfl ?_
  refine z_iload_n d_B_rebuild_1 2 rfl rfl rfl ?_
  refine z_cV1 d_B_rebuild_2 5 rfl mv_B_bagOf kl_B_56 (by decide) 0 0 rfl rfl (Nat.zero_le _) (Nat.zero_le _) hx (fun Q' q => c_B_bagOf a1 hx q) rfl rfl (Nat.le_of_ble_eq_true rfl) ?_
  rcases bgV_of a1 g with ⟨e1, e2⟩ | ⟨q, hq2, e0, e1, e3, e2⟩
  · rw [e2]
    refine z_astN2 d_B_rebuild_5 6 rfl rfl ?_
    refine z_aload_nN d_B_rebuild_6 7 rfl rfl rfl ?_
    refine z_ifnonnull (r := none) (tgt := 12) d_B_rebuild_7 10 rfl rfl (fun a9 h9 => by cases h9) (fun h9 => ?_)
    refine z_iconst (v := -1) d_B_rebuild_10 11 rfl (by decide) ?_
    exact z_iret d_B_rebuild_11 rfl (Nat.zero_le _) (Nat.zero_le _) (hQ0 e1)
  · rw [e2]
    have y := hV q hq2
    obtain ⟨hb1, hb2, hb3⟩ := hB q hq2 e0
    refine z_ast2 d_B_rebuild_5 6 rfl rfl ?_
    refine z_aload_n d_B_rebuild_6 7 rfl rfl rfl ?_
    refine z_ifnonnull (r := some (g q)) (tgt := 12) d_B_rebuild_7 10 rfl rfl (fun a9 h9 => ?_) (fun h9 => by cases h9)
    refine z_aload_n d_B_rebuild_12 13 rfl rfl rfl ?_
    refine z_cV (Q' := fun r h' => r = none ∧ ∃ W', stp (fun j => 10 + 10 * q ≤ j ∧ j ≤ 10 + 10 * q + 3) W h W' h' ∧ bgA W' D h' (10 + 10 * q) (g q) (bb q) (hh q) (mm q) (cc q) (aa q) (drvV (V q))) d_B_rebuild_13 16 rfl mv_G_deriveAnew kl_B_159 (by decide) (0 + u) (0 + 2 * u) rfl rfl (by omega) (by omega) y.o (c_G_derive u y (by omega) hb1 hb2 hb3 (fun W' h' s z => ⟨rfl, W', s, z⟩)) rfl rfl (Nat.le_of_ble_eq_true rfl) ?_; rintro _ h1 ⟨rfl, W1, s1, x1⟩
    obtain ⟨b2, f2, -, -, hn2, -⟩ := x1.H
    refine z_aload_n d_B_rebuild_16 17 rfl rfl rfl ?_
    refine z_get d_B_rebuild_17 20 rfl f_B_132 x1.o rfl ?_
    refine z_get d_B_rebuild_20 23 rfl f_B_136 hn2 rfl ?_
    exact z_iret d_B_rebuild_23 rfl (by omega) (by omega) (hQ1 q W1 h1 hq2 e0 s1 x1)
end C37
