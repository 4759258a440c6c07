/-! The class: sets of names. Own work. -/
/-- a set of names: its object, its array -/
def nsP (D : zD) (h : zH) (o b N : Nat) (f : Nat → Int32) (ns : List Nat) : Prop := h o = some (.inr (6, [.ref b, .int (nI ns.length)])) ∧ h b = some (.inl (D.2 1, N, .inl f)) ∧ ns.length ≤ N ∧ ns.length < 1024 ∧ N < 2 ^ 20 ∧ ∀ i, i < ns.length → f i = nI (ns.getD i 0)
/-- T names are less than x, and they are the first -/
def plT (x : Int32) (ns : List Nat) (T : Nat) : Prop := T ≤ ns.length ∧ ∀ i, i < ns.length → (nI (ns.getD i 0) < x ↔ i < T)
section C16
variable {l : Launch} {D : zD} {M : zM} {h : zH} {o b N T : Nat} {f : Nat → Int32} {ns : List Nat} {Q : Option Value → zH → Prop}
theorem c_N_placeOf (x : Int32) (hs : nsP D h o b N f ns) (hT : plT x ns T) (hQ : Q (some (.int (nI T))) h) : Runs l D M_N_placeOf [.ref o, .int x] h 0 0 Q := by
  refine Runs.of rfl rfl (Nat.le_of_ble_eq_true rfl) ?_
  obtain ⟨ho, hb, hN, h10, hN2, hf⟩ := hs
  obtain ⟨hT1, hT2⟩ := hT
  refine z_iconst (v := nI 0) d_N_placeOf_0 1 rfl rfl ?_
  refine z_ist2 d_N_placeOf_1 2 rfl rfl ?_
  refine z_sipush (v := nI 512) d_N_placeOf_2 5 rfl rfl ?_
  refine z_ist3 d_N_placeOf_5 6 rfl rfl ?_
  have loop : ∀ (e P : Nat), e ≤ 10 → P ≤ T → T < P + 2 ^ e → Z l D M_N_placeOf 0 0 Q h 0 0 6 [some (.ref o), some (.int x), some (.int (nI P)), some (.int (nI (2 ^ e / 2)))] [] := by
    intro e
    induction e with
    | zero =>
      intro P _ h1 h2
      have : P = T := by omega
      subst this
      refine z_iload_n d_N_placeOf_6 7 rfl rfl rfl ?_
      refine z_if_leN (tgt := 45) d_N_placeOf_7 10 rfl rfl (by omega) (fun h7 => ?_) (fun h7 => ?_)
      · refine z_iload_n d_N_placeOf_45 46 rfl rfl rfl ?_
        exact z_iret d_N_placeOf_46 rfl (Nat.le_refl 0) (Nat.le_refl 0) hQ
      · omega
    | succ e ih =>
      intro P he h1 h2
      have hs1 : 2 ^ (e + 1) / 2 = 2 ^ e := by rw [Nat.pow_succ]; omega
      have hs2 : 2 ^ e ≤ 2 ^ 9 := Nat.pow_le_pow_right (by decide) (by omega)
      have hs3 : 0 < 2 ^ e := Nat.pow_pos (by decide)
      rw [Nat.pow_succ] at h2
      rw [hs1]
      have ih' := fun P => ih P (by omega)
      generalize 2 ^ e = s at hs2 hs3 h2 ih'
      refine z_iload_n d_N_placeOf_6 7 rfl rfl rfl ?_
      refine z_if_leN (tgt := 45) d_N_placeOf_7 10 rfl rfl (by omega) (fun h7 => ?_) (fun h7 => ?_)
      · omega
      · refine z_iload_n d_N_placeOf_10 11 rfl rfl rfl ?_
        refine z_iload_n d_N_placeOf_11 12 rfl rfl rfl ?_
        first | refine z_iaddN d_N_placeOf_12 13 rfl ?_ | refine z_iadd d_N_placeOf_12 13 rfl ?_
        refine z_aload_n d_N_placeOf_13 14 rfl rfl rfl ?_
        refine z_get d_N_placeOf_14 17 rfl f_N_13 ho rfl ?_
        refine z_icmp_gtN (tgt := 38) d_N_placeOf_17 20 rfl rfl (by omega) (by omega) (fun h17 => ?_) (fun h17 => ?_)
        · refine z_iload_n d_N_placeOf_38 39 rfl rfl rfl ?_
          refine z_iconst (v := nI 2) d_N_placeOf_39 40 rfl rfl ?_
          refine z_idivN d_N_placeOf_40 41 rfl (by omega) (by omega) (by omega) ?_
          refine z_ist3 d_N_placeOf_41 42 rfl rfl ?_
          refine z_goto (tgt := 6) d_N_placeOf_42 rfl ?_
          exact ih' P h1 (by omega)
        · refine z_aload_n d_N_placeOf_20 21 rfl rfl rfl ?_
          refine z_get d_N_placeOf_21 24 rfl f_N_7 ho rfl ?_
          refine z_iload_n d_N_placeOf_24 25 rfl rfl rfl ?_
          refine z_iload_n d_N_placeOf_25 26 rfl rfl rfl ?_
          first | refine z_iaddN d_N_placeOf_26 27 rfl ?_ | refine z_iadd d_N_placeOf_26 27 rfl ?_
          refine z_iconst (v := nI 1) d_N_placeOf_27 28 rfl rfl ?_
          refine z_isubN d_N_placeOf_28 29 rfl (by omega) ?_
          refine z_ialdN d_N_placeOf_29 30 rfl hb (by omega) (by omega) ?_
          rw [hf _ (by omega)]
          refine z_iload_n d_N_placeOf_30 31 rfl rfl rfl ?_
          have hi := hT2 (P + s - 1) (by omega)
          refine z_icmp_ge (tgt := 38) d_N_placeOf_31 34 rfl rfl (fun h31 => ?_) (fun h31 => ?_)
          · have : ¬ P + s - 1 < T := fun e => Int32.not_lt.mpr h31 (hi.2 e)
            refine z_iload_n d_N_placeOf_38 39 rfl rfl rfl ?_
            refine z_iconst (v := nI 2) d_N_placeOf_39 40 rfl rfl ?_
            refine z_idivN d_N_placeOf_40 41 rfl (by omega) (by omega) (by omega) ?_
            refine z_ist3 d_N_placeOf_41 42 rfl rfl ?_
            refine z_goto (tgt := 6) d_N_placeOf_42 rfl ?_
            exact ih' P h1 (by omega)
          · have := hi.1 (Int32.not_le.mp h31)
            refine z_iload_n d_N_placeOf_34 35 rfl rfl rfl ?_
            refine z_iload_n d_N_placeOf_35 36 rfl rfl rfl ?_
            first | refine z_iaddN d_N_placeOf_36 37 rfl ?_ | refine z_iadd d_N_placeOf_36 37 rfl ?_
            refine z_ist2 d_N_placeOf_37 38 rfl rfl ?_
            refine z_iload_n d_N_placeOf_38 39 rfl rfl rfl ?_
            refine z_iconst (v := nI 2) d_N_placeOf_39 40 rfl rfl ?_
            refine z_idivN d_N_placeOf_40 41 rfl (by omega) (by omega) (by omega) ?_
            refine z_ist3 d_N_placeOf_41 42 rfl rfl ?_
            refine z_goto (tgt := 6) d_N_placeOf_42 rfl ?_
            exact ih' (P + s) (by omega) (by omega)
  exact loop 10 0 (Nat.le_refl _) (Nat.zero_le _) (by omega)
theorem c_N_contains (x : Int32) (hs : nsP D h o b N f ns) (hT : plT x ns T) (hQ : Q (some (.int (zb (decide (T < ns.length ∧ nI (ns.getD T 0) = x))))) h) : Runs l D M_N_contains [.ref o, .int x] h 0 0 Q := by
  refine Runs.of rfl rfl (Nat.le_of_ble_eq_true rfl) ?_
  have hs' := hs
  obtain ⟨ho, hb, hN, h10, hN2, hf⟩ := hs'
  have hT1 := hT.1
  refine z_aload_n d_N_contains_0 1 rfl rfl rfl ?_
  refine z_iload_n d_N_contains_1 2 rfl rfl rfl ?_
  refine z_cV1 d_N_contains_2 5 rfl mv_N_placeOf kl_N_17 (by decide) 0 0 rfl rfl (Nat.zero_le _) (Nat.zero_le _) ho (fun Q' q => c_N_placeOf x hs hT q) rfl rfl (Nat.le_of_ble_eq_true rfl) ?_
  refine z_ist2 d_N_contains_5 6 rfl rfl ?_
  refine z_iload_n d_N_contains_6 7 rfl rfl rfl ?_
  refine z_aload_n d_N_contains_7 8 rfl rfl rfl ?_
  refine z_get d_N_contains_8 11 rfl f_N_13 ho rfl ?_
  refine z_icmp_geN (tgt := 28) d_N_contains_11 14 rfl rfl (by omega) (by omega) (fun h11 => ?_) (fun h11 => ?_)
  · refine z_iconst (v := nI 0) d_N_contains_28 29 rfl rfl ?_
    exact z_zretB (b := false) d_N_contains_29 rfl (Nat.le_refl 0) (Nat.le_refl 0) (by rw [decide_eq_false (fun e => by omega)] at hQ; exact hQ)
  · refine z_aload_n d_N_contains_14 15 rfl rfl rfl ?_
    refine z_get d_N_contains_15 18 rfl f_N_7 ho rfl ?_
    refine z_iload_n d_N_contains_18 19 rfl rfl rfl ?_
    refine z_ialdN d_N_contains_19 20 rfl hb (by omega) (by omega) ?_
    rw [hf _ (by omega)]
    refine z_iload_n d_N_contains_20 21 rfl rfl rfl ?_
    refine z_icmp_ne (tgt := 28) d_N_contains_21 24 rfl rfl (fun h21 => ?_) (fun h21 => ?_)
    · refine z_iconst (v := nI 0) d_N_contains_28 29 rfl rfl ?_
      exact z_zretB (b := false) d_N_contains_29 rfl (Nat.le_refl 0) (Nat.le_refl 0) (by rw [decide_eq_false (fun e => h21 e.2)] at hQ; exact hQ)
    · refine z_iconst (v := nI 1) d_N_contains_24 25 rfl rfl ?_
      refine z_goto (tgt := 29) d_N_contains_25 rfl ?_
      exact z_zretB (b := true) d_N_contains_29 rfl (Nat.le_refl 0) (Nat.le_refl 0) (by rw [decide_eq_true ⟨by omega, h21⟩] at hQ; exact hQ)
theorem c_N_clear (hs : nsP D h o b N f ns) (hQ : Q none (zset h o (.inr (6, [.ref b, .int (nI 0)])))) : Runs l D M_N_clear [.ref o] h 0 0 Q := by
  refine Runs.of rfl rfl (Nat.le_of_ble_eq_true rfl) ?_
  have ho := hs.1
  refine z_aload_n d_N_clear_0 1 rfl rfl rfl ?_
  refine z_iconst (v := nI 0) d_N_clear_1 2 rfl rfl ?_
  refine z_put d_N_clear_2 5 rfl (p_N_13 _) ho rfl rfl (Nat.le_of_ble_eq_true rfl) rfl ?_; dsimp only [List.set]
  exact z_vret d_N_clear_5 rfl (Nat.le_refl 0) (Nat.le_refl 0) hQ
end C16
