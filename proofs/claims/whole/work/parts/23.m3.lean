/-! The reference: numbers, cards, lines. Own work. -/
theorem nuF_lt (g : Nat → Nat) : ∀ (c k v : Nat), dgF g k c = true → nuF g k c v < 10 ^ c * (v + 1) := by
  intro c
  induction c with
  | zero => intro k v _; simp [nuF]
  | succ c ih =>
    intro k v h
    simp only [dgF, Bool.and_eq_true, isDg, decide_eq_true_eq] at h
    have h1 := ih (k + 1) (10 * v + (g k - 48)) h.2
    calc nuF g k (c + 1) v < 10 ^ c * (10 * v + (g k - 48) + 1) := h1
      _ ≤ 10 ^ c * (10 * (v + 1)) := Nat.mul_le_mul_left _ (by omega)
      _ = 10 ^ (c + 1) * (v + 1) := by rw [Nat.pow_succ, Nat.mul_assoc]
section M3
variable {l : Launch} {D : zD} {hp : zH} {o : Nat} {va : Nat → Nat → Int32} {vf : Nat → Int32} {Q : Option Value → zH → Prop}
theorem c_m_isNumber (s k n : Nat) {bs : List Nat} (hr : zrow va s bs) (hn : 3 ≤ n) (hk : k + n ≤ bs.length) (hs : s < 66) (hl : bs.length ≤ 240)
    (hQ : ∀ vf' : Nat → Int32, (∀ j, j ≠ 16 → vf' j = vf j) → (∀ c, cardD (gB bs k) n = some c → vf' 16 = nI c.2.2.2.2.2) → Q (some (.int (zb (cardD (gB bs k) n).isSome))) (zmod D o hp va vf')) :
    Runs l D M_m_isNumber [.ref o, .int (nI s), .int (nI (k + 2)), .int (nI (n - 2))] (zmod D o hp va vf) 0 0 Q := by
  refine Runs.of rfl rfl (Nat.le_of_ble_eq_true rfl) ?_
  have hlt := gB_lt hr k
  have hlt2 := hlt 2
  have bad : cardD (gB bs k) n = none → Q (some (.int (zb false))) (zmod D o hp va vf) := fun h => by
    have := hQ vf (fun _ _ => rfl) (fun c hc => by rw [h] at hc; cases hc)
    rw [h] at this
    exact this
  have loop : n ≤ 6 → ¬ (3 < n ∧ gB bs k 2 = 48) → ∀ (c j v : Nat) (b : Bool) (x : Int32) (z : Option Value), j + c = n → 2 ≤ j → (b = true → x = nI v ∧ v < 10 ^ (6 - c) ∧ dgF (gB bs k) 2 (n - 2) = dgF (gB bs k) j c ∧ nuF (gB bs k) 2 (n - 2) 0 = nuF (gB bs k) j c v) → (b = false → dgF (gB bs k) 2 (n - 2) = false) → Z l D M_m_isNumber 0 0 Q (zmod D o hp va (upd vf 16 x)) 0 0 34 [some (.ref o), some (.int (nI s)), some (.int (nI (k + 2))), some (.int (nI (n - 2))), some (.int (zb b)), some (.int (nI (k + j)))] [] := by
    intro h6 h48 c
    induction c with
    | zero =>
      intro j v b x z hj h2 hb1 hb2
      refine z_iload d_m_isNumber_34 36 rfl rfl ?_
      refine z_iload_n d_m_isNumber_36 37 rfl rfl rfl ?_
      refine z_iload_n d_m_isNumber_37 38 rfl rfl rfl ?_
      first | refine z_iaddN d_m_isNumber_38 39 rfl ?_ | refine z_iadd d_m_isNumber_38 39 rfl ?_
      refine z_icmp_geN (tgt := 95) d_m_isNumber_39 42 rfl rfl (by omega) (by omega) (fun h39 => ?_) (fun h39 => ?_)
      · refine z_iload d_m_isNumber_95 97 rfl rfl ?_
        have e : (cardD (gB bs k) n).isSome = b := by
          cases b with
          | true => have := (hb1 rfl).2.2.1; simp [dgF] at this; simp [cardD, this, h6]; omega
          | false => simp [cardD, hb2 rfl]
        rw [← e]
        exact z_zretB d_m_isNumber_97 rfl (Nat.le_refl 0) (Nat.le_refl 0) (hQ _ (fun j h => by simp [upd, h]) (fun c hc => by cases b with | true => (simp [cardD] at hc; obtain ⟨-, rfl⟩ := hc; have := (hb1 rfl); simp [upd, this.1, this.2.2.2, nuF]) | false => (exfalso; rw [hc] at e; simp at e)))
      · omega
    | succ c ih =>
      intro j v b x z hj h2 hb1 hb2
      have hg := hlt j
      have join : ∀ b', b' = (b && isDg (gB bs k j)) → Z l D M_m_isNumber 0 0 Q (zmod D o hp va (upd vf 16 x)) 0 0 65 [some (.ref o), some (.int (nI s)), some (.int (nI (k + 2))), some (.int (nI (n - 2))), some (.int (zb b)), some (.int (nI (k + j)))] [.int (zb b')] := by
        intro b' hb'
        cases b' with
        | true =>
          have hbb := (Bool.and_eq_true_iff.mp hb'.symm).1
          have hdd := (Bool.and_eq_true_iff.mp hb'.symm).2
          obtain ⟨rfl, hv, e1, e2⟩ := hb1 hbb
          have hd2 := hdd
          simp only [isDg, Bool.and_eq_true, decide_eq_true_eq] at hd2
          have h10 : 10 ^ (6 - c) = 10 ^ (6 - (c + 1)) * 10 := by rw [← Nat.pow_succ]; congr 1; omega
          have h11 : 10 ^ (6 - c) ≤ 10 ^ 6 := Nat.pow_le_pow_right (by decide) (by omega)
          refine z_ist4 d_m_isNumber_65 67 rfl rfl ?_
          refine z_aload_n d_m_isNumber_67 68 rfl rfl rfl ?_
          refine z_bipush (v := nI 10) d_m_isNumber_68 70 rfl rfl ?_
          refine z_aload_n d_m_isNumber_70 71 rfl rfl rfl ?_
          refine zm_getF 16 d_m_isNumber_71 74 rfl f_m_83 rfl ?_; try simp only [pk_us, pk_un, ne_eq, Nat.reduceEqDiff, not_false_eq_true]
          first | refine z_imulN d_m_isNumber_74 75 rfl ?_ | refine z_imul d_m_isNumber_74 75 rfl ?_
          refine z_aload_n d_m_isNumber_75 76 rfl rfl rfl ?_
          refine z_iload_n d_m_isNumber_76 77 rfl rfl rfl ?_
          refine z_iload d_m_isNumber_77 79 rfl rfl ?_
          refine zm_cV1 d_m_isNumber_79 82 rfl mv_m_at kl_m_40 (by decide) (fun Q' h => c_m_atG s k j hr (by omega) hs hl h) rfl rfl (Nat.le_of_ble_eq_true rfl) ?_
          first | refine z_iaddN d_m_isNumber_82 83 rfl ?_ | refine z_iadd d_m_isNumber_82 83 rfl ?_
          refine z_bipush (v := nI 48) d_m_isNumber_83 85 rfl rfl ?_
          refine z_isubN d_m_isNumber_85 86 rfl (by omega) ?_
          refine zm_putF 16 d_m_isNumber_86 89 rfl (p_m_83 _) (by decide) (by decide) ?_
          rw [show upd (upd vf 16 (nI v)) 16 (nI (10 * v + gB bs k j - 48)) = upd vf 16 (nI (10 * v + gB bs k j - 48)) by funext q; simp only [upd]; split <;> rfl]
          first | refine z_incN5 d_m_isNumber_89 92 rfl rfl ?_ | refine z_inc5 d_m_isNumber_89 92 rfl rfl rfl ?_
          refine z_goto (tgt := 34) d_m_isNumber_92 rfl ?_
          exact ih (j + 1) (10 * v + gB bs k j - 48) true _ z (by omega) (by omega) (fun _ => ⟨rfl, by omega, by rw [e1]; simp only [dgF, hdd, Bool.true_and], by rw [e2]; simp only [nuF]; congr 1; omega⟩) (fun h => by cases h)
        | false =>
          have hF : dgF (gB bs k) 2 (n - 2) = false := by
            cases b with
            | true => rw [(hb1 rfl).2.2.1]; simp only [dgF]; rw [Bool.true_and] at hb'; rw [← hb']; rfl
            | false => exact hb2 rfl
          refine z_ist4 d_m_isNumber_65 67 rfl rfl ?_
          refine z_aload_n d_m_isNumber_67 68 rfl rfl rfl ?_
          refine z_bipush (v := nI 10) d_m_isNumber_68 70 rfl rfl ?_
          refine z_aload_n d_m_isNumber_70 71 rfl rfl rfl ?_
          refine zm_getF 16 d_m_isNumber_71 74 rfl f_m_83 rfl ?_; try simp only [pk_us, pk_un, ne_eq, Nat.reduceEqDiff, not_false_eq_true]
          refine z_imul d_m_isNumber_74 75 rfl ?_
          refine z_aload_n d_m_isNumber_75 76 rfl rfl rfl ?_
          refine z_iload_n d_m_isNumber_76 77 rfl rfl rfl ?_
          refine z_iload d_m_isNumber_77 79 rfl rfl ?_
          refine zm_cV1 d_m_isNumber_79 82 rfl mv_m_at kl_m_40 (by decide) (fun Q' h => c_m_atG s k j hr (by omega) hs hl h) rfl rfl (Nat.le_of_ble_eq_true rfl) ?_
          refine z_iadd d_m_isNumber_82 83 rfl ?_
          refine z_bipush (v := nI 48) d_m_isNumber_83 85 rfl rfl ?_
          refine z_isub d_m_isNumber_85 86 rfl ?_
          refine zm_putF 16 d_m_isNumber_86 89 rfl (p_m_83 _) (by decide) (by decide) ?_
          rw [show ∀ y, upd (upd vf 16 x) 16 y = upd vf 16 y by intro y; funext q; simp only [upd]; split <;> rfl]
          first | refine z_incN5 d_m_isNumber_89 92 rfl rfl ?_ | refine z_inc5 d_m_isNumber_89 92 rfl rfl rfl ?_
          refine z_goto (tgt := 34) d_m_isNumber_92 rfl ?_
          exact ih (j + 1) 0 false _ z (by omega) (by omega) (fun h => by cases h) (fun _ => hF)
      refine z_iload d_m_isNumber_34 36 rfl rfl ?_
      refine z_iload_n d_m_isNumber_36 37 rfl rfl rfl ?_
      refine z_iload_n d_m_isNumber_37 38 rfl rfl rfl ?_
      first | refine z_iaddN d_m_isNumber_38 39 rfl ?_ | refine z_iadd d_m_isNumber_38 39 rfl ?_
      refine z_icmp_geN (tgt := 95) d_m_isNumber_39 42 rfl rfl (by omega) (by omega) (fun h39 => ?_) (fun h39 => ?_)
      · omega
      · refine z_iload d_m_isNumber_42 44 rfl rfl ?_
        refine z_if_eqB (tgt := 64) d_m_isNumber_44 47 rfl rfl (fun h44 => ?_) (fun h44 => ?_)
        · refine z_iconst (v := nI 0) d_m_isNumber_64 65 rfl rfl ?_
          exact join false (by rw [h44]; rfl)
        · refine z_aload_n d_m_isNumber_47 48 rfl rfl rfl ?_
          refine z_iload_n d_m_isNumber_48 49 rfl rfl rfl ?_
          refine z_iload d_m_isNumber_49 51 rfl rfl ?_
          refine zm_cV1 d_m_isNumber_51 54 rfl mv_m_at kl_m_40 (by decide) (fun Q' h => c_m_atG s k j hr (by omega) hs hl h) rfl rfl (Nat.le_of_ble_eq_true rfl) ?_
          refine zm_cS1 d_m_isNumber_54 57 rfl ms_m_isDigit kl_m_70 (by decide) (fun Q' h => c_m_isDigit _ (by omega) h) rfl rfl (Nat.le_of_ble_eq_true rfl) ?_
          refine z_if_eqB (tgt := 64) d_m_isNumber_57 60 rfl rfl (fun h57 => ?_) (fun h57 => ?_)
          · refine z_iconst (v := nI 0) d_m_isNumber_64 65 rfl rfl ?_
            exact join false (by rw [h44, h57]; rfl)
          · refine z_iconst (v := nI 1) d_m_isNumber_60 61 rfl rfl ?_
            refine z_goto (tgt := 65) d_m_isNumber_61 rfl ?_
            exact join true (by rw [h44, h57]; rfl)
  have go : n ≤ 6 → ¬ (3 < n ∧ gB bs k 2 = 48) → Z l D M_m_isNumber 0 0 Q (zmod D o hp va vf) 0 0 23 [some (.ref o), some (.int (nI s)), some (.int (nI (k + 2))), some (.int (nI (n - 2))), none, none] [] := by
    intro h6 h48
    refine z_aload_n d_m_isNumber_23 24 rfl rfl rfl ?_
    refine z_iconst (v := nI 0) d_m_isNumber_24 25 rfl rfl ?_
    refine zm_putF 16 d_m_isNumber_25 28 rfl (p_m_83 _) (by decide) (by decide) ?_
    refine z_iconst (v := nI 1) d_m_isNumber_28 29 rfl rfl ?_
    refine z_ist4 d_m_isNumber_29 31 rfl rfl ?_
    refine z_iload_n d_m_isNumber_31 32 rfl rfl rfl ?_
    refine z_ist5 d_m_isNumber_32 34 rfl rfl ?_
    exact loop h6 h48 (n - 2) 2 0 true (nI 0) none (by omega) (by omega) (fun _ => ⟨rfl, Nat.pow_pos (by decide), rfl, rfl⟩) (fun h => by cases h)
  refine z_iload_n d_m_isNumber_0 1 rfl rfl rfl ?_
  refine z_iconst (v := nI 4) d_m_isNumber_1 2 rfl rfl ?_
  refine z_icmp_gtN (tgt := 21) d_m_isNumber_2 5 rfl rfl (by omega) (by omega) (fun h2 => ?_) (fun h2 => ?_)
  · refine z_iconst (v := nI 0) d_m_isNumber_21 22 rfl rfl ?_
    exact z_zretB (b := false) d_m_isNumber_22 rfl (Nat.le_refl 0) (Nat.le_refl 0) (bad (by simp [cardD]; omega))
  · refine z_iload_n d_m_isNumber_5 6 rfl rfl rfl ?_
    refine z_iconst (v := nI 1) d_m_isNumber_6 7 rfl rfl ?_
    refine z_icmp_leN (tgt := 23) d_m_isNumber_7 10 rfl rfl (by omega) (by omega) (fun h7 => ?_) (fun h7 => ?_)
    · exact go (by omega) (by omega)
    · refine z_aload_n d_m_isNumber_10 11 rfl rfl rfl ?_
      refine z_iload_n d_m_isNumber_11 12 rfl rfl rfl ?_
      refine z_iload_n d_m_isNumber_12 13 rfl rfl rfl ?_
      refine zm_cV1 d_m_isNumber_13 16 rfl mv_m_at kl_m_40 (by decide) (fun Q' h => c_m_atG s k 2 hr (by omega) hs hl h) rfl rfl (Nat.le_of_ble_eq_true rfl) ?_
      refine z_bipush (v := nI 48) d_m_isNumber_16 18 rfl rfl ?_
      refine z_icmp_neN (tgt := 23) d_m_isNumber_18 21 rfl rfl (by omega) (by omega) (fun h18 => ?_) (fun h18 => ?_)
      · exact go (by omega) (by omega)
      · refine z_iconst (v := nI 0) d_m_isNumber_21 22 rfl rfl ?_
        exact z_zretB (b := false) d_m_isNumber_22 rfl (Nat.le_refl 0) (Nat.le_refl 0) (bad (by simp [cardD]; omega))
end M3
