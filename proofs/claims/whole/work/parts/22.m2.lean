/-! The reference: numbers, parents, tags, cards. Own work. -/
theorem gB_lt {va : Nat → Nat → Int32} {s : Nat} {bs : List Nat} (hr : zrow va s bs) (k i : Nat) : gB bs k i < 256 := by
  by_cases h : k + i < bs.length
  · exact (hr (k + i) h).1
  · have : gB bs k i = 0 := by simp [gB, List.getElem?_eq_none (Nat.le_of_not_lt h)]
    omega
section M2
variable {l : Launch} {D : zD} {hp : zH} {o : Nat} {va : Nat → Nat → Int32} {vf : Nat → Int32} {Q : Option Value → zH → Prop}
theorem c_m_isParent (s k n : Nat) {bs : List Nat} (hr : zrow va s bs) (hk : k + n ≤ bs.length) (hs : s < 66) (hl : bs.length ≤ 240) (hy : vf 15 = oI none)
    (hQ : ∀ vf' : Nat → Int32, (∀ j, j ≠ 14 → j ≠ 15 → vf' j = vf j) → (∀ c, cardP (gB bs k) n = some c → vf' 14 = oI c.2.2.2.1 ∧ vf' 15 = oI c.2.2.2.2.1) → Q (some (.int (zb (cardP (gB bs k) n).isSome))) (zmod D o hp va vf')) :
    Runs l D M_m_isParent [.ref o, .int (nI s), .int (nI k), .int (nI n)] (zmod D o hp va vf) 0 0 Q := by
  refine Runs.of rfl rfl (Nat.le_of_ble_eq_true rfl) ?_
  have hlt := gB_lt hr k
  have hlt8 := hlt 8
  refine z_iload_n d_m_isParent_0 1 rfl rfl rfl ?_
  refine z_bipush (v := nI 8) d_m_isParent_1 3 rfl rfl ?_
  refine z_icmp_eqN (tgt := 14) d_m_isParent_3 6 rfl rfl (by omega) (by omega) (fun h3 => ?_) (fun h3 => ?_)
  · refine z_aload_n d_m_isParent_14 15 rfl rfl rfl ?_
    refine z_aload_n d_m_isParent_15 16 rfl rfl rfl ?_
    refine z_iload_n d_m_isParent_16 17 rfl rfl rfl ?_
    refine z_iload_n d_m_isParent_17 18 rfl rfl rfl ?_
    refine z_iconst (v := nI 2) d_m_isParent_18 19 rfl rfl ?_
    first | refine z_iaddN d_m_isParent_19 20 rfl ?_ | refine z_iadd d_m_isParent_19 20 rfl ?_
    refine zm_cV1 d_m_isParent_20 23 rfl mv_m_nameAt kl_m_67 (by decide) (fun Q' h => c_m_nameAtG s k 2 hr (by omega) hs hl h) rfl rfl (Nat.le_of_ble_eq_true rfl) ?_
    refine zm_putF 14 d_m_isParent_23 26 rfl (p_m_58 _) (by decide) (by decide) ?_
    refine z_iload_n d_m_isParent_26 27 rfl rfl rfl ?_
    refine z_bipush (v := nI 8) d_m_isParent_27 29 rfl rfl ?_
    refine z_icmp_eqN (tgt := 39) d_m_isParent_29 32 rfl rfl (by omega) (by omega) (fun h29 => ?_) (fun h29 => ?_)
    · refine z_aload_n d_m_isParent_39 40 rfl rfl rfl ?_
      refine zm_getF 14 d_m_isParent_40 43 rfl f_m_58 rfl ?_; try simp only [pk_us, pk_un, ne_eq, Nat.reduceEqDiff, not_false_eq_true]
      refine z_if_ltO (tgt := 50) d_m_isParent_43 46 rfl rfl (fun v h => by have := nm6_lt h; omega) (fun h43 => ?_) (fun w43 h43 => ?_)
      · refine z_iconst (v := nI 0) d_m_isParent_50 51 rfl rfl ?_
        exact z_zretB (b := false) d_m_isParent_51 rfl (Nat.le_refl 0) (Nat.le_refl 0) (by first | (exfalso; omega) | (have e : (cardP (gB bs k) n).isSome = false := (by simp [cardP, *]); rw [← e]; exact hQ _ (fun j h1 h2 => by simp [upd, h1, h2]) (fun c hc => by first | (exfalso; rw [hc] at e; simp at e; done) | (simp [cardP, *] at hc; subst hc; simp [upd, *]))) | (exfalso; simp_all; done))
      · refine z_iconst (v := nI 1) d_m_isParent_46 47 rfl rfl ?_
        refine z_goto (tgt := 51) d_m_isParent_47 rfl ?_
        exact z_zretB (b := true) d_m_isParent_51 rfl (Nat.le_refl 0) (Nat.le_refl 0) (by first | (exfalso; omega) | (have e : (cardP (gB bs k) n).isSome = true := (by simp [cardP, *]); rw [← e]; exact hQ _ (fun j h1 h2 => by simp [upd, h1, h2]) (fun c hc => by first | (exfalso; rw [hc] at e; simp at e; done) | (simp [cardP, *] at hc; subst hc; simp [upd, *]))) | (exfalso; simp_all; done))
    · refine z_aload_n d_m_isParent_32 33 rfl rfl rfl ?_
      refine zm_getF 14 d_m_isParent_33 36 rfl f_m_58 rfl ?_; try simp only [pk_us, pk_un, ne_eq, Nat.reduceEqDiff, not_false_eq_true]
      refine z_if_geO (tgt := 52) d_m_isParent_36 39 rfl rfl (fun v h => by have := nm6_lt h; omega) (fun w36 h36 => ?_) (fun h36 => ?_)
      · refine z_aload_n d_m_isParent_52 53 rfl rfl rfl ?_
        refine z_aload_n d_m_isParent_53 54 rfl rfl rfl ?_
        refine z_iload_n d_m_isParent_54 55 rfl rfl rfl ?_
        refine z_iload_n d_m_isParent_55 56 rfl rfl rfl ?_
        refine z_bipush (v := nI 9) d_m_isParent_56 58 rfl rfl ?_
        first | refine z_iaddN d_m_isParent_58 59 rfl ?_ | refine z_iadd d_m_isParent_58 59 rfl ?_
        refine zm_cV1 d_m_isParent_59 62 rfl mv_m_nameAt kl_m_67 (by decide) (fun Q' h => c_m_nameAtG s k 9 hr (by omega) hs hl h) rfl rfl (Nat.le_of_ble_eq_true rfl) ?_
        refine zm_putF 15 d_m_isParent_62 65 rfl (p_m_61 _) (by decide) (by decide) ?_
        refine z_aload_n d_m_isParent_65 66 rfl rfl rfl ?_
        refine z_iload_n d_m_isParent_66 67 rfl rfl rfl ?_
        refine z_iload_n d_m_isParent_67 68 rfl rfl rfl ?_
        refine z_bipush (v := nI 8) d_m_isParent_68 70 rfl rfl ?_
        first | refine z_iaddN d_m_isParent_70 71 rfl ?_ | refine z_iadd d_m_isParent_70 71 rfl ?_
        refine zm_cV1 d_m_isParent_71 74 rfl mv_m_at kl_m_40 (by decide) (fun Q' h => c_m_atG s k 8 hr (by omega) hs hl h) rfl rfl (Nat.le_of_ble_eq_true rfl) ?_
        refine z_bipush (v := nI 32) d_m_isParent_74 76 rfl rfl ?_
        refine z_icmp_neN (tgt := 101) d_m_isParent_76 79 rfl rfl (by omega) (by omega) (fun h76 => ?_) (fun h76 => ?_)
        · refine z_iconst (v := nI 0) d_m_isParent_101 102 rfl rfl ?_
          exact z_zretB (b := false) d_m_isParent_102 rfl (Nat.le_refl 0) (Nat.le_refl 0) (by first | (exfalso; omega) | (have e : (cardP (gB bs k) n).isSome = false := (by simp [cardP, *]); rw [← e]; exact hQ _ (fun j h1 h2 => by simp [upd, h1, h2]) (fun c hc => by first | (exfalso; rw [hc] at e; simp at e; done) | (simp [cardP, *] at hc; subst hc; simp [upd, *]))) | (exfalso; simp_all; done))
        · refine z_aload_n d_m_isParent_79 80 rfl rfl rfl ?_
          refine zm_getF 15 d_m_isParent_80 83 rfl f_m_61 rfl ?_; try simp only [pk_us, pk_un, ne_eq, Nat.reduceEqDiff, not_false_eq_true]
          refine z_if_ltO (tgt := 101) d_m_isParent_83 86 rfl rfl (fun v h => by have := nm6_lt h; omega) (fun h83 => ?_) (fun w83 h83 => ?_)
          · refine z_iconst (v := nI 0) d_m_isParent_101 102 rfl rfl ?_
            exact z_zretB (b := false) d_m_isParent_102 rfl (Nat.le_refl 0) (Nat.le_refl 0) (by first | (exfalso; omega) | (have e : (cardP (gB bs k) n).isSome = false := (by simp [cardP, *]); rw [← e]; exact hQ _ (fun j h1 h2 => by simp [upd, h1, h2]) (fun c hc => by first | (exfalso; rw [hc] at e; simp at e; done) | (simp [cardP, *] at hc; subst hc; simp [upd, *]))) | (exfalso; simp_all; done))
          · refine z_aload_n d_m_isParent_86 87 rfl rfl rfl ?_
            refine zm_getF 14 d_m_isParent_87 90 rfl f_m_58 rfl ?_; try simp only [pk_us, pk_un, ne_eq, Nat.reduceEqDiff, not_false_eq_true]
            refine z_aload_n d_m_isParent_90 91 rfl rfl rfl ?_
            refine zm_getF 15 d_m_isParent_91 94 rfl f_m_61 rfl ?_; try simp only [pk_us, pk_un, ne_eq, Nat.reduceEqDiff, not_false_eq_true]
            (rw [h36, h83]; have b1 := nm6_lt h36; have b2 := nm6_lt h83); refine z_icmp_eqN (tgt := 101) d_m_isParent_94 97 rfl rfl (by omega) (by omega) (fun h94 => ?_) (fun h94 => ?_)
            · refine z_iconst (v := nI 0) d_m_isParent_101 102 rfl rfl ?_
              exact z_zretB (b := false) d_m_isParent_102 rfl (Nat.le_refl 0) (Nat.le_refl 0) (by first | (exfalso; omega) | (have e : (cardP (gB bs k) n).isSome = false := (by simp [cardP, *]); rw [← e]; exact hQ _ (fun j h1 h2 => by simp [upd, h1, h2]) (fun c hc => by first | (exfalso; rw [hc] at e; simp at e; done) | (simp [cardP, *] at hc; subst hc; simp [upd, *]))) | (exfalso; simp_all; done))
            · refine z_iconst (v := nI 1) d_m_isParent_97 98 rfl rfl ?_
              refine z_goto (tgt := 102) d_m_isParent_98 rfl ?_
              exact z_zretB (b := true) d_m_isParent_102 rfl (Nat.le_refl 0) (Nat.le_refl 0) (by first | (exfalso; omega) | (have e : (cardP (gB bs k) n).isSome = true := (by simp [cardP, *]); rw [← e]; exact hQ _ (fun j h1 h2 => by simp [upd, h1, h2]) (fun c hc => by first | (exfalso; rw [hc] at e; simp at e; done) | (simp [cardP, *] at hc; subst hc; simp [upd, *]))) | (exfalso; simp_all; done))
      · refine z_aload_n d_m_isParent_39 40 rfl rfl rfl ?_
        refine zm_getF 14 d_m_isParent_40 43 rfl f_m_58 rfl ?_; try simp only [pk_us, pk_un, ne_eq, Nat.reduceEqDiff, not_false_eq_true]
        refine z_if_ltO (tgt := 50) d_m_isParent_43 46 rfl rfl (fun v h => by have := nm6_lt h; omega) (fun h43 => ?_) (fun w43 h43 => ?_)
        · refine z_iconst (v := nI 0) d_m_isParent_50 51 rfl rfl ?_
          exact z_zretB (b := false) d_m_isParent_51 rfl (Nat.le_refl 0) (Nat.le_refl 0) (by first | (exfalso; omega) | (have e : (cardP (gB bs k) n).isSome = false := (by simp [cardP, *]); rw [← e]; exact hQ _ (fun j h1 h2 => by simp [upd, h1, h2]) (fun c hc => by first | (exfalso; rw [hc] at e; simp at e; done) | (simp [cardP, *] at hc; subst hc; simp [upd, *]))) | (exfalso; simp_all; done))
        · refine z_iconst (v := nI 1) d_m_isParent_46 47 rfl rfl ?_
          refine z_goto (tgt := 51) d_m_isParent_47 rfl ?_
          exact z_zretB (b := true) d_m_isParent_51 rfl (Nat.le_refl 0) (Nat.le_refl 0) (by first | (exfalso; omega) | (have e : (cardP (gB bs k) n).isSome = true := (by simp [cardP, *]); rw [← e]; exact hQ _ (fun j h1 h2 => by simp [upd, h1, h2]) (fun c hc => by first | (exfalso; rw [hc] at e; simp at e; done) | (simp [cardP, *] at hc; subst hc; simp [upd, *]))) | (exfalso; simp_all; done))
  · refine z_iload_n d_m_isParent_6 7 rfl rfl rfl ?_
    refine z_bipush (v := nI 15) d_m_isParent_7 9 rfl rfl ?_
    refine z_icmp_eqN (tgt := 14) d_m_isParent_9 12 rfl rfl (by omega) (by omega) (fun h9 => ?_) (fun h9 => ?_)
    · refine z_aload_n d_m_isParent_14 15 rfl rfl rfl ?_
      refine z_aload_n d_m_isParent_15 16 rfl rfl rfl ?_
      refine z_iload_n d_m_isParent_16 17 rfl rfl rfl ?_
      refine z_iload_n d_m_isParent_17 18 rfl rfl rfl ?_
      refine z_iconst (v := nI 2) d_m_isParent_18 19 rfl rfl ?_
      first | refine z_iaddN d_m_isParent_19 20 rfl ?_ | refine z_iadd d_m_isParent_19 20 rfl ?_
      refine zm_cV1 d_m_isParent_20 23 rfl mv_m_nameAt kl_m_67 (by decide) (fun Q' h => c_m_nameAtG s k 2 hr (by omega) hs hl h) rfl rfl (Nat.le_of_ble_eq_true rfl) ?_
      refine zm_putF 14 d_m_isParent_23 26 rfl (p_m_58 _) (by decide) (by decide) ?_
      refine z_iload_n d_m_isParent_26 27 rfl rfl rfl ?_
      refine z_bipush (v := nI 8) d_m_isParent_27 29 rfl rfl ?_
      refine z_icmp_eqN (tgt := 39) d_m_isParent_29 32 rfl rfl (by omega) (by omega) (fun h29 => ?_) (fun h29 => ?_)
      · refine z_aload_n d_m_isParent_39 40 rfl rfl rfl ?_
        refine zm_getF 14 d_m_isParent_40 43 rfl f_m_58 rfl ?_; try simp only [pk_us, pk_un, ne_eq, Nat.reduceEqDiff, not_false_eq_true]
        refine z_if_ltO (tgt := 50) d_m_isParent_43 46 rfl rfl (fun v h => by have := nm6_lt h; omega) (fun h43 => ?_) (fun w43 h43 => ?_)
        · refine z_iconst (v := nI 0) d_m_isParent_50 51 rfl rfl ?_
          exact z_zretB (b := false) d_m_isParent_51 rfl (Nat.le_refl 0) (Nat.le_refl 0) (by first | (exfalso; omega) | (have e : (cardP (gB bs k) n).isSome = false := (by simp [cardP, *]); rw [← e]; exact hQ _ (fun j h1 h2 => by simp [upd, h1, h2]) (fun c hc => by first | (exfalso; rw [hc] at e; simp at e; done) | (simp [cardP, *] at hc; subst hc; simp [upd, *]))) | (exfalso; simp_all; done))
        · refine z_iconst (v := nI 1) d_m_isParent_46 47 rfl rfl ?_
          refine z_goto (tgt := 51) d_m_isParent_47 rfl ?_
          exact z_zretB (b := true) d_m_isParent_51 rfl (Nat.le_refl 0) (Nat.le_refl 0) (by first | (exfalso; omega) | (have e : (cardP (gB bs k) n).isSome = true := (by simp [cardP, *]); rw [← e]; exact hQ _ (fun j h1 h2 => by simp [upd, h1, h2]) (fun c hc => by first | (exfalso; rw [hc] at e; simp at e; done) | (simp [cardP, *] at hc; subst hc; simp [upd, *]))) | (exfalso; simp_all; done))
      · refine z_aload_n d_m_isParent_32 33 rfl rfl rfl ?_
        refine zm_getF 14 d_m_isParent_33 36 rfl f_m_58 rfl ?_; try simp only [pk_us, pk_un, ne_eq, Nat.reduceEqDiff, not_false_eq_true]
        refine z_if_geO (tgt := 52) d_m_isParent_36 39 rfl rfl (fun v h => by have := nm6_lt h; omega) (fun w36 h36 => ?_) (fun h36 => ?_)
        · refine z_aload_n d_m_isParent_52 53 rfl rfl rfl ?_
          refine z_aload_n d_m_isParent_53 54 rfl rfl rfl ?_
          refine z_iload_n d_m_isParent_54 55 rfl rfl rfl ?_
          refine z_iload_n d_m_isParent_55 56 rfl rfl rfl ?_
          refine z_bipush (v := nI 9) d_m_isParent_56 58 rfl rfl ?_
          first | refine z_iaddN d_m_isParent_58 59 rfl ?_ | refine z_iadd d_m_isParent_58 59 rfl ?_
          refine zm_cV1 d_m_isParent_59 62 rfl mv_m_nameAt kl_m_67 (by decide) (fun Q' h => c_m_nameAtG s k 9 hr (by omega) hs hl h) rfl rfl (Nat.le_of_ble_eq_true rfl) ?_
          refine zm_putF 15 d_m_isParent_62 65 rfl (p_m_61 _) (by decide) (by decide) ?_
          refine z_aload_n d_m_isParent_65 66 rfl rfl rfl ?_
          refine z_iload_n d_m_isParent_66 67 rfl rfl rfl ?_
          refine z_iload_n d_m_isParent_67 68 rfl rfl rfl ?_
          refine z_bipush (v := nI 8) d_m_isParent_68 70 rfl rfl ?_
          first | refine z_iaddN d_m_isParent_70 71 rfl ?_ | refine z_iadd d_m_isParent_70 71 rfl ?_
          refine zm_cV1 d_m_isParent_71 74 rfl mv_m_at kl_m_40 (by decide) (fun Q' h => c_m_atG s k 8 hr (by omega) hs hl h) rfl rfl (Nat.le_of_ble_eq_true rfl) ?_
          refine z_bipush (v := nI 32) d_m_isParent_74 76 rfl rfl ?_
          refine z_icmp_neN (tgt := 101) d_m_isParent_76 79 rfl rfl (by omega) (by omega) (fun h76 => ?_) (fun h76 => ?_)
          · refine z_iconst (v := nI 0) d_m_isParent_101 102 rfl rfl ?_
            exact z_zretB (b := false) d_m_isParent_102 rfl (Nat.le_refl 0) (Nat.le_refl 0) (by first | (exfalso; omega) | (have e : (cardP (gB bs k) n).isSome = false := (by simp [cardP, *]); rw [← e]; exact hQ _ (fun j h1 h2 => by simp [upd, h1, h2]) (fun c hc => by first | (exfalso; rw [hc] at e; simp at e; done) | (simp [cardP, *] at hc; subst hc; simp [upd, *]))) | (exfalso; simp_all; done))
          · refine z_aload_n d_m_isParent_79 80 rfl rfl rfl ?_
            refine zm_getF 15 d_m_isParent_80 83 rfl f_m_61 rfl ?_; try simp only [pk_us, pk_un, ne_eq, Nat.reduceEqDiff, not_false_eq_true]
            refine z_if_ltO (tgt := 101) d_m_isParent_83 86 rfl rfl (fun v h => by have := nm6_lt h; omega) (fun h83 => ?_) (fun w83 h83 => ?_)
            · refine z_iconst (v := nI 0) d_m_isParent_101 102 rfl rfl ?_
              exact z_zretB (b := false) d_m_isParent_102 rfl (Nat.le_refl 0) (Nat.le_refl 0) (by first | (exfalso; omega) | (have e : (cardP (gB bs k) n).isSome = false := (by simp [cardP, *]); rw [← e]; exact hQ _ (fun j h1 h2 => by simp [upd, h1, h2]) (fun c hc => by first | (exfalso; rw [hc] at e; simp at e; done) | (simp [cardP, *] at hc; subst hc; simp [upd, *]))) | (exfalso; simp_all; done))
            · refine z_aload_n d_m_isParent_86 87 rfl rfl rfl ?_
              refine zm_getF 14 d_m_isParent_87 90 rfl f_m_58 rfl ?_; try simp only [pk_us, pk_un, ne_eq, Nat.reduceEqDiff, not_false_eq_true]
              refine z_aload_n d_m_isParent_90 91 rfl rfl rfl ?_
              refine zm_getF 15 d_m_isParent_91 94 rfl f_m_61 rfl ?_; try simp only [pk_us, pk_un, ne_eq, Nat.reduceEqDiff, not_false_eq_true]
              (rw [h36, h83]; have b1 := nm6_lt h36; have b2 := nm6_lt h83); refine z_icmp_eqN (tgt := 101) d_m_isParent_94 97 rfl rfl (by omega) (by omega) (fun h94 => ?_) (fun h94 => ?_)
              · refine z_iconst (v := nI 0) d_m_isParent_101 102 rfl rfl ?_
                exact z_zretB (b := false) d_m_isParent_102 rfl (Nat.le_refl 0) (Nat.le_refl 0) (by first | (exfalso; omega) | (have e : (cardP (gB bs k) n).isSome = false := (by simp [cardP, *]); rw [← e]; exact hQ _ (fun j h1 h2 => by simp [upd, h1, h2]) (fun c hc => by first | (exfalso; rw [hc] at e; simp at e; done) | (simp [cardP, *] at hc; subst hc; simp [upd, *]))) | (exfalso; simp_all; done))
              · refine z_iconst (v := nI 1) d_m_isParent_97 98 rfl rfl ?_
                refine z_goto (tgt := 102) d_m_isParent_98 rfl ?_
                exact z_zretB (b := true) d_m_isParent_102 rfl (Nat.le_refl 0) (Nat.le_refl 0) (by first | (exfalso; omega) | (have e : (cardP (gB bs k) n).isSome = true := (by simp [cardP, *]); rw [← e]; exact hQ _ (fun j h1 h2 => by simp [upd, h1, h2]) (fun c hc => by first | (exfalso; rw [hc] at e; simp at e; done) | (simp [cardP, *] at hc; subst hc; simp [upd, *]))) | (exfalso; simp_all; done))
        · refine z_aload_n d_m_isParent_39 40 rfl rfl rfl ?_
          refine zm_getF 14 d_m_isParent_40 43 rfl f_m_58 rfl ?_; try simp only [pk_us, pk_un, ne_eq, Nat.reduceEqDiff, not_false_eq_true]
          refine z_if_ltO (tgt := 50) d_m_isParent_43 46 rfl rfl (fun v h => by have := nm6_lt h; omega) (fun h43 => ?_) (fun w43 h43 => ?_)
          · refine z_iconst (v := nI 0) d_m_isParent_50 51 rfl rfl ?_
            exact z_zretB (b := false) d_m_isParent_51 rfl (Nat.le_refl 0) (Nat.le_refl 0) (by first | (exfalso; omega) | (have e : (cardP (gB bs k) n).isSome = false := (by simp [cardP, *]); rw [← e]; exact hQ _ (fun j h1 h2 => by simp [upd, h1, h2]) (fun c hc => by first | (exfalso; rw [hc] at e; simp at e; done) | (simp [cardP, *] at hc; subst hc; simp [upd, *]))) | (exfalso; simp_all; done))
          · refine z_iconst (v := nI 1) d_m_isParent_46 47 rfl rfl ?_
            refine z_goto (tgt := 51) d_m_isParent_47 rfl ?_
            exact z_zretB (b := true) d_m_isParent_51 rfl (Nat.le_refl 0) (Nat.le_refl 0) (by first | (exfalso; omega) | (have e : (cardP (gB bs k) n).isSome = true := (by simp [cardP, *]); rw [← e]; exact hQ _ (fun j h1 h2 => by simp [upd, h1, h2]) (fun c hc => by first | (exfalso; rw [hc] at e; simp at e; done) | (simp [cardP, *] at hc; subst hc; simp [upd, *]))) | (exfalso; simp_all; done))
    · refine z_iconst (v := nI 0) d_m_isParent_12 13 rfl rfl ?_
      exact z_zretB (b := false) d_m_isParent_13 rfl (Nat.le_refl 0) (Nat.le_refl 0) (by first | (exfalso; omega) | (have e : (cardP (gB bs k) n).isSome = false := (by simp [cardP, *]); rw [← e]; exact hQ _ (fun j h1 h2 => by simp [upd, h1, h2]) (fun c hc => by first | (exfalso; rw [hc] at e; simp at e; done) | (simp [cardP, *] at hc; subst hc; simp [upd, *]))) | (exfalso; simp_all; done))
theorem c_m_isTag (s k n : Nat) {bs : List Nat} (hr : zrow va s bs) (hk : k + n ≤ bs.length) (hs : s < 66) (hl : bs.length ≤ 240) (hx : vf 14 = oI none) (hy : vf 15 = oI none)
    (hQ : ∀ vf' : Nat → Int32, (∀ j, j ≠ 12 → j ≠ 13 → j ≠ 14 → vf' j = vf j) → (∀ c, cardT (gB bs k) n = some c → vf' 14 = oI c.2.2.2.1 ∧ vf' 15 = oI c.2.2.2.2.1 ∧ vf' 12 = nI c.2.1 ∧ vf' 13 = zb c.2.2.1) → Q (some (.int (zb (cardT (gB bs k) n).isSome))) (zmod D o hp va vf')) :
    Runs l D M_m_isTag [.ref o, .int (nI s), .int (nI k), .int (nI n)] (zmod D o hp va vf) 0 0 Q := by
  refine Runs.of rfl rfl (Nat.le_of_ble_eq_true rfl) ?_
  have hlt := gB_lt hr k
  have h2 := hlt 2
  have h3 := hlt 3
  have h4 := hlt 4
  have h5 := hlt 5
  refine z_iload_n d_m_isTag_0 1 rfl rfl rfl ?_
  refine z_bipush (v := nI 6) d_m_isTag_1 3 rfl rfl ?_
  refine z_icmp_eqN (tgt := 14) d_m_isTag_3 6 rfl rfl (by omega) (by omega) (fun h3 => ?_) (fun h3 => ?_)
  · refine z_aload_n d_m_isTag_14 15 rfl rfl rfl ?_
    refine z_iload_n d_m_isTag_15 16 rfl rfl rfl ?_
    refine z_iload_n d_m_isTag_16 17 rfl rfl rfl ?_
    refine z_iconst (v := nI 2) d_m_isTag_17 18 rfl rfl ?_
    first | refine z_iaddN d_m_isTag_18 19 rfl ?_ | refine z_iadd d_m_isTag_18 19 rfl ?_
    refine zm_cV1 d_m_isTag_19 22 rfl mv_m_at kl_m_40 (by decide) (fun Q' h => c_m_atG s k 2 hr (by omega) hs hl h) rfl rfl (Nat.le_of_ble_eq_true rfl) ?_
    refine z_ist4 d_m_isTag_22 24 rfl rfl ?_
    refine z_iload d_m_isTag_24 26 rfl rfl ?_
    refine z_bipush (v := nI 43) d_m_isTag_26 28 rfl rfl ?_
    refine z_icmp_eqN (tgt := 38) d_m_isTag_28 31 rfl rfl (by omega) (by omega) (fun h28 => ?_) (fun h28 => ?_)
    · refine z_aload_n d_m_isTag_38 39 rfl rfl rfl ?_
      refine z_iload_n d_m_isTag_39 40 rfl rfl rfl ?_
      refine z_iload_n d_m_isTag_40 41 rfl rfl rfl ?_
      refine z_iconst (v := nI 3) d_m_isTag_41 42 rfl rfl ?_
      first | refine z_iaddN d_m_isTag_42 43 rfl ?_ | refine z_iadd d_m_isTag_42 43 rfl ?_
      refine zm_cV1 d_m_isTag_43 46 rfl mv_m_at kl_m_40 (by decide) (fun Q' h => c_m_atG s k 3 hr (by omega) hs hl h) rfl rfl (Nat.le_of_ble_eq_true rfl) ?_
      refine zm_cS1 d_m_isTag_46 49 rfl ms_m_isDigit kl_m_70 (by decide) (fun Q' h => c_m_isDigit _ (by omega) h) rfl rfl (Nat.le_of_ble_eq_true rfl) ?_
      refine z_if_eqB (tgt := 65) d_m_isTag_49 52 rfl rfl (fun h49 => ?_) (fun h49 => ?_)
      · refine z_iconst (v := nI 0) d_m_isTag_65 66 rfl rfl ?_
        exact z_zretB (b := false) d_m_isTag_66 rfl (Nat.le_refl 0) (Nat.le_refl 0) (by first | (exfalso; omega) | (have e : (cardT (gB bs k) n).isSome = false := (by simp [cardT, *]); rw [← e]; exact hQ _ (fun j h1 h2 h3 => by simp [upd, h1, h2, h3]) (fun c hc => by first | (exfalso; rw [hc] at e; simp at e; done) | (simp [cardT, *] at hc; subst hc; simp [upd, zb, *]))) | (exfalso; simp_all; done))
      · refine z_aload_n d_m_isTag_52 53 rfl rfl rfl ?_
        refine z_iload_n d_m_isTag_53 54 rfl rfl rfl ?_
        refine z_iload_n d_m_isTag_54 55 rfl rfl rfl ?_
        refine z_iconst (v := nI 4) d_m_isTag_55 56 rfl rfl ?_
        first | refine z_iaddN d_m_isTag_56 57 rfl ?_ | refine z_iadd d_m_isTag_56 57 rfl ?_
        refine zm_cV1 d_m_isTag_57 60 rfl mv_m_at kl_m_40 (by decide) (fun Q' h => c_m_atG s k 4 hr (by omega) hs hl h) rfl rfl (Nat.le_of_ble_eq_true rfl) ?_
        refine z_bipush (v := nI 32) d_m_isTag_60 62 rfl rfl ?_
        refine z_icmp_eqN (tgt := 67) d_m_isTag_62 65 rfl rfl (by omega) (by omega) (fun h62 => ?_) (fun h62 => ?_)
        · refine z_aload_n d_m_isTag_67 68 rfl rfl rfl ?_
          refine z_iload d_m_isTag_68 70 rfl rfl ?_
          refine z_bipush (v := nI 43) d_m_isTag_70 72 rfl rfl ?_
          refine z_icmp_neN (tgt := 79) d_m_isTag_72 75 rfl rfl (by omega) (by omega) (fun h72 => ?_) (fun h72 => ?_)
          · refine z_iconst (v := nI 0) d_m_isTag_79 80 rfl rfl ?_
            refine zm_putZ 13 d_m_isTag_80 83 rfl (p_m_86 _) (by decide) (by decide) (by first | exact Or.inl rfl | exact Or.inr rfl) ?_
            refine z_aload_n d_m_isTag_83 84 rfl rfl rfl ?_
            refine z_aload_n d_m_isTag_84 85 rfl rfl rfl ?_
            refine z_iload_n d_m_isTag_85 86 rfl rfl rfl ?_
            refine z_iload_n d_m_isTag_86 87 rfl rfl rfl ?_
            refine z_iconst (v := nI 3) d_m_isTag_87 88 rfl rfl ?_
            first | refine z_iaddN d_m_isTag_88 89 rfl ?_ | refine z_iadd d_m_isTag_88 89 rfl ?_
            refine zm_cV1 d_m_isTag_89 92 rfl mv_m_at kl_m_40 (by decide) (fun Q' h => c_m_atG s k 3 hr (by omega) hs hl h) rfl rfl (Nat.le_of_ble_eq_true rfl) ?_
            refine z_bipush (v := nI 48) d_m_isTag_92 94 rfl rfl ?_
            refine z_isubN d_m_isTag_94 95 rfl (by simp [isDg] at *; omega) ?_
            refine zm_putF 12 d_m_isTag_95 98 rfl (p_m_74 _) (by decide) (by decide) ?_
            refine z_iload_n d_m_isTag_98 99 rfl rfl rfl ?_
            refine z_bipush (v := nI 6) d_m_isTag_99 101 rfl rfl ?_
            refine z_icmp_neN (tgt := 123) d_m_isTag_101 104 rfl rfl (by omega) (by omega) (fun h101 => ?_) (fun h101 => ?_)
            · refine z_aload_n d_m_isTag_123 124 rfl rfl rfl ?_
              refine z_aload_n d_m_isTag_124 125 rfl rfl rfl ?_
              refine z_iload_n d_m_isTag_125 126 rfl rfl rfl ?_
              refine z_iload_n d_m_isTag_126 127 rfl rfl rfl ?_
              refine z_iconst (v := nI 5) d_m_isTag_127 128 rfl rfl ?_
              first | refine z_iaddN d_m_isTag_128 129 rfl ?_ | refine z_iadd d_m_isTag_128 129 rfl ?_
              refine zm_cV1 d_m_isTag_129 132 rfl mv_m_nameAt kl_m_67 (by decide) (fun Q' h => c_m_nameAtG s k 5 hr (by omega) hs hl h) rfl rfl (Nat.le_of_ble_eq_true rfl) ?_
              refine zm_putF 14 d_m_isTag_132 135 rfl (p_m_58 _) (by decide) (by decide) ?_
              refine z_aload_n d_m_isTag_135 136 rfl rfl rfl ?_
              refine zm_getF 14 d_m_isTag_136 139 rfl f_m_58 rfl ?_; try simp only [pk_us, pk_un, ne_eq, Nat.reduceEqDiff, not_false_eq_true]
              refine z_if_ltO (tgt := 146) d_m_isTag_139 142 rfl rfl (fun v h => by have := nm6_lt h; omega) (fun h139 => ?_) (fun w139 h139 => ?_)
              · refine z_iconst (v := nI 0) d_m_isTag_146 147 rfl rfl ?_
                exact z_zretB (b := false) d_m_isTag_147 rfl (Nat.le_refl 0) (Nat.le_refl 0) (by first | (exfalso; omega) | (have e : (cardT (gB bs k) n).isSome = false := (by simp [cardT, *]); rw [← e]; exact hQ _ (fun j h1 h2 h3 => by simp [upd, h1, h2, h3]) (fun c hc => by first | (exfalso; rw [hc] at e; simp at e; done) | (simp [cardT, *] at hc; subst hc; simp [upd, zb, *]))) | (exfalso; simp_all; done))
              · refine z_iconst (v := nI 1) d_m_isTag_142 143 rfl rfl ?_
                refine z_goto (tgt := 147) d_m_isTag_143 rfl ?_
                exact z_zretB (b := true) d_m_isTag_147 rfl (Nat.le_refl 0) (Nat.le_refl 0) (by first | (exfalso; omega) | (have e : (cardT (gB bs k) n).isSome = true := (by simp [cardT, *]); rw [← e]; exact hQ _ (fun j h1 h2 h3 => by simp [upd, h1, h2, h3]) (fun c hc => by first | (exfalso; rw [hc] at e; simp at e; done) | (simp [cardT, *] at hc; subst hc; simp [upd, zb, *]))) | (exfalso; simp_all; done))
            · refine z_aload_n d_m_isTag_104 105 rfl rfl rfl ?_
              refine z_iload_n d_m_isTag_105 106 rfl rfl rfl ?_
              refine z_iload_n d_m_isTag_106 107 rfl rfl rfl ?_
              refine z_iconst (v := nI 5) d_m_isTag_107 108 rfl rfl ?_
              first | refine z_iaddN d_m_isTag_108 109 rfl ?_ | refine z_iadd d_m_isTag_108 109 rfl ?_
              refine zm_cV1 d_m_isTag_109 112 rfl mv_m_at kl_m_40 (by decide) (fun Q' h => c_m_atG s k 5 hr (by omega) hs hl h) rfl rfl (Nat.le_of_ble_eq_true rfl) ?_
              refine z_bipush (v := nI 42) d_m_isTag_112 114 rfl rfl ?_
              refine z_icmp_neN (tgt := 121) d_m_isTag_114 117 rfl rfl (by omega) (by omega) (fun h114 => ?_) (fun h114 => ?_)
              · refine z_iconst (v := nI 0) d_m_isTag_121 122 rfl rfl ?_
                exact z_zretB (b := false) d_m_isTag_122 rfl (Nat.le_refl 0) (Nat.le_refl 0) (by first | (exfalso; omega) | (have e : (cardT (gB bs k) n).isSome = false := (by simp [cardT, *]); rw [← e]; exact hQ _ (fun j h1 h2 h3 => by simp [upd, h1, h2, h3]) (fun c hc => by first | (exfalso; rw [hc] at e; simp at e; done) | (simp [cardT, *] at hc; subst hc; simp [upd, zb, *]))) | (exfalso; simp_all; done))
              · refine z_iconst (v := nI 1) d_m_isTag_117 118 rfl rfl ?_
                refine z_goto (tgt := 122) d_m_isTag_118 rfl ?_
                exact z_zretB (b := true) d_m_isTag_122 rfl (Nat.le_refl 0) (Nat.le_refl 0) (by first | (exfalso; omega) | (have e : (cardT (gB bs k) n).isSome = true := (by simp [cardT, *]); rw [← e]; exact hQ _ (fun j h1 h2 h3 => by simp [upd, h1, h2, h3]) (fun c hc => by first | (exfalso; rw [hc] at e; simp at e; done) | (simp [cardT, *] at hc; subst hc; simp [upd, zb, *]))) | (exfalso; simp_all; done))
          · refine z_iconst (v := nI 1) d_m_isTag_75 76 rfl rfl ?_
            refine z_goto (tgt := 80) d_m_isTag_76 rfl ?_
            refine zm_putZ 13 d_m_isTag_80 83 rfl (p_m_86 _) (by decide) (by decide) (by first | exact Or.inl rfl | exact Or.inr rfl) ?_
            refine z_aload_n d_m_isTag_83 84 rfl rfl rfl ?_
            refine z_aload_n d_m_isTag_84 85 rfl rfl rfl ?_
            refine z_iload_n d_m_isTag_85 86 rfl rfl rfl ?_
            refine z_iload_n d_m_isTag_86 87 rfl rfl rfl ?_
            refine z_iconst (v := nI 3) d_m_isTag_87 88 rfl rfl ?_
            first | refine z_iaddN d_m_isTag_88 89 rfl ?_ | refine z_iadd d_m_isTag_88 89 rfl ?_
            refine zm_cV1 d_m_isTag_89 92 rfl mv_m_at kl_m_40 (by decide) (fun Q' h => c_m_atG s k 3 hr (by omega) hs hl h) rfl rfl (Nat.le_of_ble_eq_true rfl) ?_
            refine z_bipush (v := nI 48) d_m_isTag_92 94 rfl rfl ?_
            refine z_isubN d_m_isTag_94 95 rfl (by simp [isDg] at *; omega) ?_
            refine zm_putF 12 d_m_isTag_95 98 rfl (p_m_74 _) (by decide) (by decide) ?_
            refine z_iload_n d_m_isTag_98 99 rfl rfl rfl ?_
            refine z_bipush (v := nI 6) d_m_isTag_99 101 rfl rfl ?_
            refine z_icmp_neN (tgt := 123) d_m_isTag_101 104 rfl rfl (by omega) (by omega) (fun h101 => ?_) (fun h101 => ?_)
            · refine z_aload_n d_m_isTag_123 124 rfl rfl rfl ?_
              refine z_aload_n d_m_isTag_124 125 rfl rfl rfl ?_
              refine z_iload_n d_m_isTag_125 126 rfl rfl rfl ?_
              refine z_iload_n d_m_isTag_126 127 rfl rfl rfl ?_
              refine z_iconst (v := nI 5) d_m_isTag_127 128 rfl rfl ?_
              first | refine z_iaddN d_m_isTag_128 129 rfl ?_ | refine z_iadd d_m_isTag_128 129 rfl ?_
              refine zm_cV1 d_m_isTag_129 132 rfl mv_m_nameAt kl_m_67 (by decide) (fun Q' h => c_m_nameAtG s k 5 hr (by omega) hs hl h) rfl rfl (Nat.le_of_ble_eq_true rfl) ?_
              refine zm_putF 14 d_m_isTag_132 135 rfl (p_m_58 _) (by decide) (by decide) ?_
              refine z_aload_n d_m_isTag_135 136 rfl rfl rfl ?_
              refine zm_getF 14 d_m_isTag_136 139 rfl f_m_58 rfl ?_; try simp only [pk_us, pk_un, ne_eq, Nat.reduceEqDiff, not_false_eq_true]
              refine z_if_ltO (tgt := 146) d_m_isTag_139 142 rfl rfl (fun v h => by have := nm6_lt h; omega) (fun h139 => ?_) (fun w139 h139 => ?_)
              · refine z_iconst (v := nI 0) d_m_isTag_146 147 rfl rfl ?_
                exact z_zretB (b := false) d_m_isTag_147 rfl (Nat.le_refl 0) (Nat.le_refl 0) (by first | (exfalso; omega) | (have e : (cardT (gB bs k) n).isSome = false := (by simp [cardT, *]); rw [← e]; exact hQ _ (fun j h1 h2 h3 => by simp [upd, h1, h2, h3]) (fun c hc => by first | (exfalso; rw [hc] at e; simp at e; done) | (simp [cardT, *] at hc; subst hc; simp [upd, zb, *]))) | (exfalso; simp_all; done))
              · refine z_iconst (v := nI 1) d_m_isTag_142 143 rfl rfl ?_
                refine z_goto (tgt := 147) d_m_isTag_143 rfl ?_
                exact z_zretB (b := true) d_m_isTag_147 rfl (Nat.le_refl 0) (Nat.le_refl 0) (by first | (exfalso; omega) | (have e : (cardT (gB bs k) n).isSome = true := (by simp [cardT, *]); rw [← e]; exact hQ _ (fun j h1 h2 h3 => by simp [upd, h1, h2, h3]) (fun c hc => by first | (exfalso; rw [hc] at e; simp at e; done) | (simp [cardT, *] at hc; subst hc; simp [upd, zb, *]))) | (exfalso; simp_all; done))
            · refine z_aload_n d_m_isTag_104 105 rfl rfl rfl ?_
              refine z_iload_n d_m_isTag_105 106 rfl rfl rfl ?_
              refine z_iload_n d_m_isTag_106 107 rfl rfl rfl ?_
              refine z_iconst (v := nI 5) d_m_isTag_107 108 rfl rfl ?_
              first | refine z_iaddN d_m_isTag_108 109 rfl ?_ | refine z_iadd d_m_isTag_108 109 rfl ?_
              refine zm_cV1 d_m_isTag_109 112 rfl mv_m_at kl_m_40 (by decide) (fun Q' h => c_m_atG s k 5 hr (by omega) hs hl h) rfl rfl (Nat.le_of_ble_eq_true rfl) ?_
              refine z_bipush (v := nI 42) d_m_isTag_112 114 rfl rfl ?_
              refine z_icmp_neN (tgt := 121) d_m_isTag_114 117 rfl rfl (by omega) (by omega) (fun h114 => ?_) (fun h114 => ?_)
              · refine z_iconst (v := nI 0) d_m_isTag_121 122 rfl rfl ?_
                exact z_zretB (b := false) d_m_isTag_122 rfl (Nat.le_refl 0) (Nat.le_refl 0) (by first | (exfalso; omega) | (have e : (cardT (gB bs k) n).isSome = false := (by simp [cardT, *]); rw [← e]; exact hQ _ (fun j h1 h2 h3 => by simp [upd, h1, h2, h3]) (fun c hc => by first | (exfalso; rw [hc] at e; simp at e; done) | (simp [cardT, *] at hc; subst hc; simp [upd, zb, *]))) | (exfalso; simp_all; done))
              · refine z_iconst (v := nI 1) d_m_isTag_117 118 rfl rfl ?_
                refine z_goto (tgt := 122) d_m_isTag_118 rfl ?_
                exact z_zretB (b := true) d_m_isTag_122 rfl (Nat.le_refl 0) (Nat.le_refl 0) (by first | (exfalso; omega) | (have e : (cardT (gB bs k) n).isSome = true := (by simp [cardT, *]); rw [← e]; exact hQ _ (fun j h1 h2 h3 => by simp [upd, h1, h2, h3]) (fun c hc => by first | (exfalso; rw [hc] at e; simp at e; done) | (simp [cardT, *] at hc; subst hc; simp [upd, zb, *]))) | (exfalso; simp_all; done))
        · refine z_iconst (v := nI 0) d_m_isTag_65 66 rfl rfl ?_
          exact z_zretB (b := false) d_m_isTag_66 rfl (Nat.le_refl 0) (Nat.le_refl 0) (by first | (exfalso; omega) | (have e : (cardT (gB bs k) n).isSome = false := (by simp [cardT, *]); rw [← e]; exact hQ _ (fun j h1 h2 h3 => by simp [upd, h1, h2, h3]) (fun c hc => by first | (exfalso; rw [hc] at e; simp at e; done) | (simp [cardT, *] at hc; subst hc; simp [upd, zb, *]))) | (exfalso; simp_all; done))
    · refine z_iload d_m_isTag_31 33 rfl rfl ?_
      refine z_bipush (v := nI 45) d_m_isTag_33 35 rfl rfl ?_
      refine z_icmp_neN (tgt := 65) d_m_isTag_35 38 rfl rfl (by omega) (by omega) (fun h35 => ?_) (fun h35 => ?_)
      · refine z_iconst (v := nI 0) d_m_isTag_65 66 rfl rfl ?_
        exact z_zretB (b := false) d_m_isTag_66 rfl (Nat.le_refl 0) (Nat.le_refl 0) (by first | (exfalso; omega) | (have e : (cardT (gB bs k) n).isSome = false := (by simp [cardT, *]); rw [← e]; exact hQ _ (fun j h1 h2 h3 => by simp [upd, h1, h2, h3]) (fun c hc => by first | (exfalso; rw [hc] at e; simp at e; done) | (simp [cardT, *] at hc; subst hc; simp [upd, zb, *]))) | (exfalso; simp_all; done))
      · refine z_aload_n d_m_isTag_38 39 rfl rfl rfl ?_
        refine z_iload_n d_m_isTag_39 40 rfl rfl rfl ?_
        refine z_iload_n d_m_isTag_40 41 rfl rfl rfl ?_
        refine z_iconst (v := nI 3) d_m_isTag_41 42 rfl rfl ?_
        first | refine z_iaddN d_m_isTag_42 43 rfl ?_ | refine z_iadd d_m_isTag_42 43 rfl ?_
        refine zm_cV1 d_m_isTag_43 46 rfl mv_m_at kl_m_40 (by decide) (fun Q' h => c_m_atG s k 3 hr (by omega) hs hl h) rfl rfl (Nat.le_of_ble_eq_true rfl) ?_
        refine zm_cS1 d_m_isTag_46 49 rfl ms_m_isDigit kl_m_70 (by decide) (fun Q' h => c_m_isDigit _ (by omega) h) rfl rfl (Nat.le_of_ble_eq_true rfl) ?_
        refine z_if_eqB (tgt := 65) d_m_isTag_49 52 rfl rfl (fun h49 => ?_) (fun h49 => ?_)
        · refine z_iconst (v := nI 0) d_m_isTag_65 66 rfl rfl ?_
          exact z_zretB (b := false) d_m_isTag_66 rfl (Nat.le_refl 0) (Nat.le_refl 0) (by first | (exfalso; omega) | (have e : (cardT (gB bs k) n).isSome = false := (by simp [cardT, *]); rw [← e]; exact hQ _ (fun j h1 h2 h3 => by simp [upd, h1, h2, h3]) (fun c hc => by first | (exfalso; rw [hc] at e; simp at e; done) | (simp [cardT, *] at hc; subst hc; simp [upd, zb, *]))) | (exfalso; simp_all; done))
        · refine z_aload_n d_m_isTag_52 53 rfl rfl rfl ?_
          refine z_iload_n d_m_isTag_53 54 rfl rfl rfl ?_
          refine z_iload_n d_m_isTag_54 55 rfl rfl rfl ?_
          refine z_iconst (v := nI 4) d_m_isTag_55 56 rfl rfl ?_
          first | refine z_iaddN d_m_isTag_56 57 rfl ?_ | refine z_iadd d_m_isTag_56 57 rfl ?_
          refine zm_cV1 d_m_isTag_57 60 rfl mv_m_at kl_m_40 (by decide) (fun Q' h => c_m_atG s k 4 hr (by omega) hs hl h) rfl rfl (Nat.le_of_ble_eq_true rfl) ?_
          refine z_bipush (v := nI 32) d_m_isTag_60 62 rfl rfl ?_
          refine z_icmp_eqN (tgt := 67) d_m_isTag_62 65 rfl rfl (by omega) (by omega) (fun h62 => ?_) (fun h62 => ?_)
          · refine z_aload_n d_m_isTag_67 68 rfl rfl rfl ?_
            refine z_iload d_m_isTag_68 70 rfl rfl ?_
            refine z_bipush (v := nI 43) d_m_isTag_70 72 rfl rfl ?_
            refine z_icmp_neN (tgt := 79) d_m_isTag_72 75 rfl rfl (by omega) (by omega) (fun h72 => ?_) (fun h72 => ?_)
            · refine z_iconst (v := nI 0) d_m_isTag_79 80 rfl rfl ?_
              refine zm_putZ 13 d_m_isTag_80 83 rfl (p_m_86 _) (by decide) (by decide) (by first | exact Or.inl rfl | exact Or.inr rfl) ?_
              refine z_aload_n d_m_isTag_83 84 rfl rfl rfl ?_
              refine z_aload_n d_m_isTag_84 85 rfl rfl rfl ?_
              refine z_iload_n d_m_isTag_85 86 rfl rfl rfl ?_
              refine z_iload_n d_m_isTag_86 87 rfl rfl rfl ?_
              refine z_iconst (v := nI 3) d_m_isTag_87 88 rfl rfl ?_
              first | refine z_iaddN d_m_isTag_88 89 rfl ?_ | refine z_iadd d_m_isTag_88 89 rfl ?_
              refine zm_cV1 d_m_isTag_89 92 rfl mv_m_at kl_m_40 (by decide) (fun Q' h => c_m_atG s k 3 hr (by omega) hs hl h) rfl rfl (Nat.le_of_ble_eq_true rfl) ?_
              refine z_bipush (v := nI 48) d_m_isTag_92 94 rfl rfl ?_
              refine z_isubN d_m_isTag_94 95 rfl (by simp [isDg] at *; omega) ?_
              refine zm_putF 12 d_m_isTag_95 98 rfl (p_m_74 _) (by decide) (by decide) ?_
              refine z_iload_n d_m_isTag_98 99 rfl rfl rfl ?_
              refine z_bipush (v := nI 6) d_m_isTag_99 101 rfl rfl ?_
              refine z_icmp_neN (tgt := 123) d_m_isTag_101 104 rfl rfl (by omega) (by omega) (fun h101 => ?_) (fun h101 => ?_)
              · refine z_aload_n d_m_isTag_123 124 rfl rfl rfl ?_
                refine z_aload_n d_m_isTag_124 125 rfl rfl rfl ?_
                refine z_iload_n d_m_isTag_125 126 rfl rfl rfl ?_
                refine z_iload_n d_m_isTag_126 127 rfl rfl rfl ?_
                refine z_iconst (v := nI 5) d_m_isTag_127 128 rfl rfl ?_
                first | refine z_iaddN d_m_isTag_128 129 rfl ?_ | refine z_iadd d_m_isTag_128 129 rfl ?_
                refine zm_cV1 d_m_isTag_129 132 rfl mv_m_nameAt kl_m_67 (by decide) (fun Q' h => c_m_nameAtG s k 5 hr (by omega) hs hl h) rfl rfl (Nat.le_of_ble_eq_true rfl) ?_
                refine zm_putF 14 d_m_isTag_132 135 rfl (p_m_58 _) (by decide) (by decide) ?_
                refine z_aload_n d_m_isTag_135 136 rfl rfl rfl ?_
                refine zm_getF 14 d_m_isTag_136 139 rfl f_m_58 rfl ?_; try simp only [pk_us, pk_un, ne_eq, Nat.reduceEqDiff, not_false_eq_true]
                refine z_if_ltO (tgt := 146) d_m_isTag_139 142 rfl rfl (fun v h => by have := nm6_lt h; omega) (fun h139 => ?_) (fun w139 h139 => ?_)
                · refine z_iconst (v := nI 0) d_m_isTag_146 147 rfl rfl ?_
                  exact z_zretB (b := false) d_m_isTag_147 rfl (Nat.le_refl 0) (Nat.le_refl 0) (by first | (exfalso; omega) | (have e : (cardT (gB bs k) n).isSome = false := (by simp [cardT, *]); rw [← e]; exact hQ _ (fun j h1 h2 h3 => by simp [upd, h1, h2, h3]) (fun c hc => by first | (exfalso; rw [hc] at e; simp at e; done) | (simp [cardT, *] at hc; subst hc; simp [upd, zb, *]))) | (exfalso; simp_all; done))
                · refine z_iconst (v := nI 1) d_m_isTag_142 143 rfl rfl ?_
                  refine z_goto (tgt := 147) d_m_isTag_143 rfl ?_
                  exact z_zretB (b := true) d_m_isTag_147 rfl (Nat.le_refl 0) (Nat.le_refl 0) (by first | (exfalso; omega) | (have e : (cardT (gB bs k) n).isSome = true := (by simp [cardT, *]); rw [← e]; exact hQ _ (fun j h1 h2 h3 => by simp [upd, h1, h2, h3]) (fun c hc => by first | (exfalso; rw [hc] at e; simp at e; done) | (simp [cardT, *] at hc; subst hc; simp [upd, zb, *]))) | (exfalso; simp_all; done))
              · refine z_aload_n d_m_isTag_104 105 rfl rfl rfl ?_
                refine z_iload_n d_m_isTag_105 106 rfl rfl rfl ?_
                refine z_iload_n d_m_isTag_106 107 rfl rfl rfl ?_
                refine z_iconst (v := nI 5) d_m_isTag_107 108 rfl rfl ?_
                first | refine z_iaddN d_m_isTag_108 109 rfl ?_ | refine z_iadd d_m_isTag_108 109 rfl ?_
                refine zm_cV1 d_m_isTag_109 112 rfl mv_m_at kl_m_40 (by decide) (fun Q' h => c_m_atG s k 5 hr (by omega) hs hl h) rfl rfl (Nat.le_of_ble_eq_true rfl) ?_
                refine z_bipush (v := nI 42) d_m_isTag_112 114 rfl rfl ?_
                refine z_icmp_neN (tgt := 121) d_m_isTag_114 117 rfl rfl (by omega) (by omega) (fun h114 => ?_) (fun h114 => ?_)
                · refine z_iconst (v := nI 0) d_m_isTag_121 122 rfl rfl ?_
                  exact z_zretB (b := false) d_m_isTag_122 rfl (Nat.le_refl 0) (Nat.le_refl 0) (by first | (exfalso; omega) | (have e : (cardT (gB bs k) n).isSome = false := (by simp [cardT, *]); rw [← e]; exact hQ _ (fun j h1 h2 h3 => by simp [upd, h1, h2, h3]) (fun c hc => by first | (exfalso; rw [hc] at e; simp at e; done) | (simp [cardT, *] at hc; subst hc; simp [upd, zb, *]))) | (exfalso; simp_all; done))
                · refine z_iconst (v := nI 1) d_m_isTag_117 118 rfl rfl ?_
                  refine z_goto (tgt := 122) d_m_isTag_118 rfl ?_
                  exact z_zretB (b := true) d_m_isTag_122 rfl (Nat.le_refl 0) (Nat.le_refl 0) (by first | (exfalso; omega) | (have e : (cardT (gB bs k) n).isSome = true := (by simp [cardT, *]); rw [← e]; exact hQ _ (fun j h1 h2 h3 => by simp [upd, h1, h2, h3]) (fun c hc => by first | (exfalso; rw [hc] at e; simp at e; done) | (simp [cardT, *] at hc; subst hc; simp [upd, zb, *]))) | (exfalso; simp_all; done))
            · refine z_iconst (v := nI 1) d_m_isTag_75 76 rfl rfl ?_
              refine z_goto (tgt := 80) d_m_isTag_76 rfl ?_
              refine zm_putZ 13 d_m_isTag_80 83 rfl (p_m_86 _) (by decide) (by decide) (by first | exact Or.inl rfl | exact Or.inr rfl) ?_
              refine z_aload_n d_m_isTag_83 84 rfl rfl rfl ?_
              refine z_aload_n d_m_isTag_84 85 rfl rfl rfl ?_
              refine z_iload_n d_m_isTag_85 86 rfl rfl rfl ?_
              refine z_iload_n d_m_isTag_86 87 rfl rfl rfl ?_
              refine z_iconst (v := nI 3) d_m_isTag_87 88 rfl rfl ?_
              first | refine z_iaddN d_m_isTag_88 89 rfl ?_ | refine z_iadd d_m_isTag_88 89 rfl ?_
              refine zm_cV1 d_m_isTag_89 92 rfl mv_m_at kl_m_40 (by decide) (fun Q' h => c_m_atG s k 3 hr (by omega) hs hl h) rfl rfl (Nat.le_of_ble_eq_true rfl) ?_
              refine z_bipush (v := nI 48) d_m_isTag_92 94 rfl rfl ?_
              refine z_isubN d_m_isTag_94 95 rfl (by simp [isDg] at *; omega) ?_
              refine zm_putF 12 d_m_isTag_95 98 rfl (p_m_74 _) (by decide) (by decide) ?_
              refine z_iload_n d_m_isTag_98 99 rfl rfl rfl ?_
              refine z_bipush (v := nI 6) d_m_isTag_99 101 rfl rfl ?_
              refine z_icmp_neN (tgt := 123) d_m_isTag_101 104 rfl rfl (by omega) (by omega) (fun h101 => ?_) (fun h101 => ?_)
              · refine z_aload_n d_m_isTag_123 124 rfl rfl rfl ?_
                refine z_aload_n d_m_isTag_124 125 rfl rfl rfl ?_
                refine z_iload_n d_m_isTag_125 126 rfl rfl rfl ?_
                refine z_iload_n d_m_isTag_126 127 rfl rfl rfl ?_
                refine z_iconst (v := nI 5) d_m_isTag_127 128 rfl rfl ?_
                first | refine z_iaddN d_m_isTag_128 129 rfl ?_ | refine z_iadd d_m_isTag_128 129 rfl ?_
                refine zm_cV1 d_m_isTag_129 132 rfl mv_m_nameAt kl_m_67 (by decide) (fun Q' h => c_m_nameAtG s k 5 hr (by omega) hs hl h) rfl rfl (Nat.le_of_ble_eq_true rfl) ?_
                refine zm_putF 14 d_m_isTag_132 135 rfl (p_m_58 _) (by decide) (by decide) ?_
                refine z_aload_n d_m_isTag_135 136 rfl rfl rfl ?_
                refine zm_getF 14 d_m_isTag_136 139 rfl f_m_58 rfl ?_; try simp only [pk_us, pk_un, ne_eq, Nat.reduceEqDiff, not_false_eq_true]
                refine z_if_ltO (tgt := 146) d_m_isTag_139 142 rfl rfl (fun v h => by have := nm6_lt h; omega) (fun h139 => ?_) (fun w139 h139 => ?_)
                · refine z_iconst (v := nI 0) d_m_isTag_146 147 rfl rfl ?_
                  exact z_zretB (b := false) d_m_isTag_147 rfl (Nat.le_refl 0) (Nat.le_refl 0) (by first | (exfalso; omega) | (have e : (cardT (gB bs k) n).isSome = false := (by simp [cardT, *]); rw [← e]; exact hQ _ (fun j h1 h2 h3 => by simp [upd, h1, h2, h3]) (fun c hc => by first | (exfalso; rw [hc] at e; simp at e; done) | (simp [cardT, *] at hc; subst hc; simp [upd, zb, *]))) | (exfalso; simp_all; done))
                · refine z_iconst (v := nI 1) d_m_isTag_142 143 rfl rfl ?_
                  refine z_goto (tgt := 147) d_m_isTag_143 rfl ?_
                  exact z_zretB (b := true) d_m_isTag_147 rfl (Nat.le_refl 0) (Nat.le_refl 0) (by first | (exfalso; omega) | (have e : (cardT (gB bs k) n).isSome = true := (by simp [cardT, *]); rw [← e]; exact hQ _ (fun j h1 h2 h3 => by simp [upd, h1, h2, h3]) (fun c hc => by first | (exfalso; rw [hc] at e; simp at e; done) | (simp [cardT, *] at hc; subst hc; simp [upd, zb, *]))) | (exfalso; simp_all; done))
              · refine z_aload_n d_m_isTag_104 105 rfl rfl rfl ?_
                refine z_iload_n d_m_isTag_105 106 rfl rfl rfl ?_
                refine z_iload_n d_m_isTag_106 107 rfl rfl rfl ?_
                refine z_iconst (v := nI 5) d_m_isTag_107 108 rfl rfl ?_
                first | refine z_iaddN d_m_isTag_108 109 rfl ?_ | refine z_iadd d_m_isTag_108 109 rfl ?_
                refine zm_cV1 d_m_isTag_109 112 rfl mv_m_at kl_m_40 (by decide) (fun Q' h => c_m_atG s k 5 hr (by omega) hs hl h) rfl rfl (Nat.le_of_ble_eq_true rfl) ?_
                refine z_bipush (v := nI 42) d_m_isTag_112 114 rfl rfl ?_
                refine z_icmp_neN (tgt := 121) d_m_isTag_114 117 rfl rfl (by omega) (by omega) (fun h114 => ?_) (fun h114 => ?_)
                · refine z_iconst (v := nI 0) d_m_isTag_121 122 rfl rfl ?_
                  exact z_zretB (b := false) d_m_isTag_122 rfl (Nat.le_refl 0) (Nat.le_refl 0) (by first | (exfalso; omega) | (have e : (cardT (gB bs k) n).isSome = false := (by simp [cardT, *]); rw [← e]; exact hQ _ (fun j h1 h2 h3 => by simp [upd, h1, h2, h3]) (fun c hc => by first | (exfalso; rw [hc] at e; simp at e; done) | (simp [cardT, *] at hc; subst hc; simp [upd, zb, *]))) | (exfalso; simp_all; done))
                · refine z_iconst (v := nI 1) d_m_isTag_117 118 rfl rfl ?_
                  refine z_goto (tgt := 122) d_m_isTag_118 rfl ?_
                  exact z_zretB (b := true) d_m_isTag_122 rfl (Nat.le_refl 0) (Nat.le_refl 0) (by first | (exfalso; omega) | (have e : (cardT (gB bs k) n).isSome = true := (by simp [cardT, *]); rw [← e]; exact hQ _ (fun j h1 h2 h3 => by simp [upd, h1, h2, h3]) (fun c hc => by first | (exfalso; rw [hc] at e; simp at e; done) | (simp [cardT, *] at hc; subst hc; simp [upd, zb, *]))) | (exfalso; simp_all; done))
          · refine z_iconst (v := nI 0) d_m_isTag_65 66 rfl rfl ?_
            exact z_zretB (b := false) d_m_isTag_66 rfl (Nat.le_refl 0) (Nat.le_refl 0) (by first | (exfalso; omega) | (have e : (cardT (gB bs k) n).isSome = false := (by simp [cardT, *]); rw [← e]; exact hQ _ (fun j h1 h2 h3 => by simp [upd, h1, h2, h3]) (fun c hc => by first | (exfalso; rw [hc] at e; simp at e; done) | (simp [cardT, *] at hc; subst hc; simp [upd, zb, *]))) | (exfalso; simp_all; done))
  · refine z_iload_n d_m_isTag_6 7 rfl rfl rfl ?_
    refine z_bipush (v := nI 11) d_m_isTag_7 9 rfl rfl ?_
    refine z_icmp_eqN (tgt := 14) d_m_isTag_9 12 rfl rfl (by omega) (by omega) (fun h9 => ?_) (fun h9 => ?_)
    · refine z_aload_n d_m_isTag_14 15 rfl rfl rfl ?_
      refine z_iload_n d_m_isTag_15 16 rfl rfl rfl ?_
      refine z_iload_n d_m_isTag_16 17 rfl rfl rfl ?_
      refine z_iconst (v := nI 2) d_m_isTag_17 18 rfl rfl ?_
      first | refine z_iaddN d_m_isTag_18 19 rfl ?_ | refine z_iadd d_m_isTag_18 19 rfl ?_
      refine zm_cV1 d_m_isTag_19 22 rfl mv_m_at kl_m_40 (by decide) (fun Q' h => c_m_atG s k 2 hr (by omega) hs hl h) rfl rfl (Nat.le_of_ble_eq_true rfl) ?_
      refine z_ist4 d_m_isTag_22 24 rfl rfl ?_
      refine z_iload d_m_isTag_24 26 rfl rfl ?_
      refine z_bipush (v := nI 43) d_m_isTag_26 28 rfl rfl ?_
      refine z_icmp_eqN (tgt := 38) d_m_isTag_28 31 rfl rfl (by omega) (by omega) (fun h28 => ?_) (fun h28 => ?_)
      · refine z_aload_n d_m_isTag_38 39 rfl rfl rfl ?_
        refine z_iload_n d_m_isTag_39 40 rfl rfl rfl ?_
        refine z_iload_n d_m_isTag_40 41 rfl rfl rfl ?_
        refine z_iconst (v := nI 3) d_m_isTag_41 42 rfl rfl ?_
        first | refine z_iaddN d_m_isTag_42 43 rfl ?_ | refine z_iadd d_m_isTag_42 43 rfl ?_
        refine zm_cV1 d_m_isTag_43 46 rfl mv_m_at kl_m_40 (by decide) (fun Q' h => c_m_atG s k 3 hr (by omega) hs hl h) rfl rfl (Nat.le_of_ble_eq_true rfl) ?_
        refine zm_cS1 d_m_isTag_46 49 rfl ms_m_isDigit kl_m_70 (by decide) (fun Q' h => c_m_isDigit _ (by omega) h) rfl rfl (Nat.le_of_ble_eq_true rfl) ?_
        refine z_if_eqB (tgt := 65) d_m_isTag_49 52 rfl rfl (fun h49 => ?_) (fun h49 => ?_)
        · refine z_iconst (v := nI 0) d_m_isTag_65 66 rfl rfl ?_
          exact z_zretB (b := false) d_m_isTag_66 rfl (Nat.le_refl 0) (Nat.le_refl 0) (by first | (exfalso; omega) | (have e : (cardT (gB bs k) n).isSome = false := (by simp [cardT, *]); rw [← e]; exact hQ _ (fun j h1 h2 h3 => by simp [upd, h1, h2, h3]) (fun c hc => by first | (exfalso; rw [hc] at e; simp at e; done) | (simp [cardT, *] at hc; subst hc; simp [upd, zb, *]))) | (exfalso; simp_all; done))
        · refine z_aload_n d_m_isTag_52 53 rfl rfl rfl ?_
          refine z_iload_n d_m_isTag_53 54 rfl rfl rfl ?_
          refine z_iload_n d_m_isTag_54 55 rfl rfl rfl ?_
          refine z_iconst (v := nI 4) d_m_isTag_55 56 rfl rfl ?_
          first | refine z_iaddN d_m_isTag_56 57 rfl ?_ | refine z_iadd d_m_isTag_56 57 rfl ?_
          refine zm_cV1 d_m_isTag_57 60 rfl mv_m_at kl_m_40 (by decide) (fun Q' h => c_m_atG s k 4 hr (by omega) hs hl h) rfl rfl (Nat.le_of_ble_eq_true rfl) ?_
          refine z_bipush (v := nI 32) d_m_isTag_60 62 rfl rfl ?_
          refine z_icmp_eqN (tgt := 67) d_m_isTag_62 65 rfl rfl (by omega) (by omega) (fun h62 => ?_) (fun h62 => ?_)
          · refine z_aload_n d_m_isTag_67 68 rfl rfl rfl ?_
            refine z_iload d_m_isTag_68 70 rfl rfl ?_
            refine z_bipush (v := nI 43) d_m_isTag_70 72 rfl rfl ?_
            refine z_icmp_neN (tgt := 79) d_m_isTag_72 75 rfl rfl (by omega) (by omega) (fun h72 => ?_) (fun h72 => ?_)
            · refine z_iconst (v := nI 0) d_m_isTag_79 80 rfl rfl ?_
              refine zm_putZ 13 d_m_isTag_80 83 rfl (p_m_86 _) (by decide) (by decide) (by first | exact Or.inl rfl | exact Or.inr rfl) ?_
              refine z_aload_n d_m_isTag_83 84 rfl rfl rfl ?_
              refine z_aload_n d_m_isTag_84 85 rfl rfl rfl ?_
              refine z_iload_n d_m_isTag_85 86 rfl rfl rfl ?_
              refine z_iload_n d_m_isTag_86 87 rfl rfl rfl ?_
              refine z_iconst (v := nI 3) d_m_isTag_87 88 rfl rfl ?_
              first | refine z_iaddN d_m_isTag_88 89 rfl ?_ | refine z_iadd d_m_isTag_88 89 rfl ?_
              refine zm_cV1 d_m_isTag_89 92 rfl mv_m_at kl_m_40 (by decide) (fun Q' h => c_m_atG s k 3 hr (by omega) hs hl h) rfl rfl (Nat.le_of_ble_eq_true rfl) ?_
              refine z_bipush (v := nI 48) d_m_isTag_92 94 rfl rfl ?_
              refine z_isubN d_m_isTag_94 95 rfl (by simp [isDg] at *; omega) ?_
              refine zm_putF 12 d_m_isTag_95 98 rfl (p_m_74 _) (by decide) (by decide) ?_
              refine z_iload_n d_m_isTag_98 99 rfl rfl rfl ?_
              refine z_bipush (v := nI 6) d_m_isTag_99 101 rfl rfl ?_
              refine z_icmp_neN (tgt := 123) d_m_isTag_101 104 rfl rfl (by omega) (by omega) (fun h101 => ?_) (fun h101 => ?_)
              · refine z_aload_n d_m_isTag_123 124 rfl rfl rfl ?_
                refine z_aload_n d_m_isTag_124 125 rfl rfl rfl ?_
                refine z_iload_n d_m_isTag_125 126 rfl rfl rfl ?_
                refine z_iload_n d_m_isTag_126 127 rfl rfl rfl ?_
                refine z_iconst (v := nI 5) d_m_isTag_127 128 rfl rfl ?_
                first | refine z_iaddN d_m_isTag_128 129 rfl ?_ | refine z_iadd d_m_isTag_128 129 rfl ?_
                refine zm_cV1 d_m_isTag_129 132 rfl mv_m_nameAt kl_m_67 (by decide) (fun Q' h => c_m_nameAtG s k 5 hr (by omega) hs hl h) rfl rfl (Nat.le_of_ble_eq_true rfl) ?_
                refine zm_putF 14 d_m_isTag_132 135 rfl (p_m_58 _) (by decide) (by decide) ?_
                refine z_aload_n d_m_isTag_135 136 rfl rfl rfl ?_
                refine zm_getF 14 d_m_isTag_136 139 rfl f_m_58 rfl ?_; try simp only [pk_us, pk_un, ne_eq, Nat.reduceEqDiff, not_false_eq_true]
                refine z_if_ltO (tgt := 146) d_m_isTag_139 142 rfl rfl (fun v h => by have := nm6_lt h; omega) (fun h139 => ?_) (fun w139 h139 => ?_)
                · refine z_iconst (v := nI 0) d_m_isTag_146 147 rfl rfl ?_
                  exact z_zretB (b := false) d_m_isTag_147 rfl (Nat.le_refl 0) (Nat.le_refl 0) (by first | (exfalso; omega) | (have e : (cardT (gB bs k) n).isSome = false := (by simp [cardT, *]); rw [← e]; exact hQ _ (fun j h1 h2 h3 => by simp [upd, h1, h2, h3]) (fun c hc => by first | (exfalso; rw [hc] at e; simp at e; done) | (simp [cardT, *] at hc; subst hc; simp [upd, zb, *]))) | (exfalso; simp_all; done))
                · refine z_iconst (v := nI 1) d_m_isTag_142 143 rfl rfl ?_
                  refine z_goto (tgt := 147) d_m_isTag_143 rfl ?_
                  exact z_zretB (b := true) d_m_isTag_147 rfl (Nat.le_refl 0) (Nat.le_refl 0) (by first | (exfalso; omega) | (have e : (cardT (gB bs k) n).isSome = true := (by simp [cardT, *]); rw [← e]; exact hQ _ (fun j h1 h2 h3 => by simp [upd, h1, h2, h3]) (fun c hc => by first | (exfalso; rw [hc] at e; simp at e; done) | (simp [cardT, *] at hc; subst hc; simp [upd, zb, *]))) | (exfalso; simp_all; done))
              · refine z_aload_n d_m_isTag_104 105 rfl rfl rfl ?_
                refine z_iload_n d_m_isTag_105 106 rfl rfl rfl ?_
                refine z_iload_n d_m_isTag_106 107 rfl rfl rfl ?_
                refine z_iconst (v := nI 5) d_m_isTag_107 108 rfl rfl ?_
                first | refine z_iaddN d_m_isTag_108 109 rfl ?_ | refine z_iadd d_m_isTag_108 109 rfl ?_
                refine zm_cV1 d_m_isTag_109 112 rfl mv_m_at kl_m_40 (by decide) (fun Q' h => c_m_atG s k 5 hr (by omega) hs hl h) rfl rfl (Nat.le_of_ble_eq_true rfl) ?_
                refine z_bipush (v := nI 42) d_m_isTag_112 114 rfl rfl ?_
                refine z_icmp_neN (tgt := 121) d_m_isTag_114 117 rfl rfl (by omega) (by omega) (fun h114 => ?_) (fun h114 => ?_)
                · refine z_iconst (v := nI 0) d_m_isTag_121 122 rfl rfl ?_
                  exact z_zretB (b := false) d_m_isTag_122 rfl (Nat.le_refl 0) (Nat.le_refl 0) (by first | (exfalso; omega) | (have e : (cardT (gB bs k) n).isSome = false := (by simp [cardT, *]); rw [← e]; exact hQ _ (fun j h1 h2 h3 => by simp [upd, h1, h2, h3]) (fun c hc => by first | (exfalso; rw [hc] at e; simp at e; done) | (simp [cardT, *] at hc; subst hc; simp [upd, zb, *]))) | (exfalso; simp_all; done))
                · refine z_iconst (v := nI 1) d_m_isTag_117 118 rfl rfl ?_
                  refine z_goto (tgt := 122) d_m_isTag_118 rfl ?_
                  exact z_zretB (b := true) d_m_isTag_122 rfl (Nat.le_refl 0) (Nat.le_refl 0) (by first | (exfalso; omega) | (have e : (cardT (gB bs k) n).isSome = true := (by simp [cardT, *]); rw [← e]; exact hQ _ (fun j h1 h2 h3 => by simp [upd, h1, h2, h3]) (fun c hc => by first | (exfalso; rw [hc] at e; simp at e; done) | (simp [cardT, *] at hc; subst hc; simp [upd, zb, *]))) | (exfalso; simp_all; done))
            · refine z_iconst (v := nI 1) d_m_isTag_75 76 rfl rfl ?_
              refine z_goto (tgt := 80) d_m_isTag_76 rfl ?_
              refine zm_putZ 13 d_m_isTag_80 83 rfl (p_m_86 _) (by decide) (by decide) (by first | exact Or.inl rfl | exact Or.inr rfl) ?_
              refine z_aload_n d_m_isTag_83 84 rfl rfl rfl ?_
              refine z_aload_n d_m_isTag_84 85 rfl rfl rfl ?_
              refine z_iload_n d_m_isTag_85 86 rfl rfl rfl ?_
              refine z_iload_n d_m_isTag_86 87 rfl rfl rfl ?_
              refine z_iconst (v := nI 3) d_m_isTag_87 88 rfl rfl ?_
              first | refine z_iaddN d_m_isTag_88 89 rfl ?_ | refine z_iadd d_m_isTag_88 89 rfl ?_
              refine zm_cV1 d_m_isTag_89 92 rfl mv_m_at kl_m_40 (by decide) (fun Q' h => c_m_atG s k 3 hr (by omega) hs hl h) rfl rfl (Nat.le_of_ble_eq_true rfl) ?_
              refine z_bipush (v := nI 48) d_m_isTag_92 94 rfl rfl ?_
              refine z_isubN d_m_isTag_94 95 rfl (by simp [isDg] at *; omega) ?_
              refine zm_putF 12 d_m_isTag_95 98 rfl (p_m_74 _) (by decide) (by decide) ?_
              refine z_iload_n d_m_isTag_98 99 rfl rfl rfl ?_
              refine z_bipush (v := nI 6) d_m_isTag_99 101 rfl rfl ?_
              refine z_icmp_neN (tgt := 123) d_m_isTag_101 104 rfl rfl (by omega) (by omega) (fun h101 => ?_) (fun h101 => ?_)
              · refine z_aload_n d_m_isTag_123 124 rfl rfl rfl ?_
                refine z_aload_n d_m_isTag_124 125 rfl rfl rfl ?_
                refine z_iload_n d_m_isTag_125 126 rfl rfl rfl ?_
                refine z_iload_n d_m_isTag_126 127 rfl rfl rfl ?_
                refine z_iconst (v := nI 5) d_m_isTag_127 128 rfl rfl ?_
                first | refine z_iaddN d_m_isTag_128 129 rfl ?_ | refine z_iadd d_m_isTag_128 129 rfl ?_
                refine zm_cV1 d_m_isTag_129 132 rfl mv_m_nameAt kl_m_67 (by decide) (fun Q' h => c_m_nameAtG s k 5 hr (by omega) hs hl h) rfl rfl (Nat.le_of_ble_eq_true rfl) ?_
                refine zm_putF 14 d_m_isTag_132 135 rfl (p_m_58 _) (by decide) (by decide) ?_
                refine z_aload_n d_m_isTag_135 136 rfl rfl rfl ?_
                refine zm_getF 14 d_m_isTag_136 139 rfl f_m_58 rfl ?_; try simp only [pk_us, pk_un, ne_eq, Nat.reduceEqDiff, not_false_eq_true]
                refine z_if_ltO (tgt := 146) d_m_isTag_139 142 rfl rfl (fun v h => by have := nm6_lt h; omega) (fun h139 => ?_) (fun w139 h139 => ?_)
                · refine z_iconst (v := nI 0) d_m_isTag_146 147 rfl rfl ?_
                  exact z_zretB (b := false) d_m_isTag_147 rfl (Nat.le_refl 0) (Nat.le_refl 0) (by first | (exfalso; omega) | (have e : (cardT (gB bs k) n).isSome = false := (by simp [cardT, *]); rw [← e]; exact hQ _ (fun j h1 h2 h3 => by simp [upd, h1, h2, h3]) (fun c hc => by first | (exfalso; rw [hc] at e; simp at e; done) | (simp [cardT, *] at hc; subst hc; simp [upd, zb, *]))) | (exfalso; simp_all; done))
                · refine z_iconst (v := nI 1) d_m_isTag_142 143 rfl rfl ?_
                  refine z_goto (tgt := 147) d_m_isTag_143 rfl ?_
                  exact z_zretB (b := true) d_m_isTag_147 rfl (Nat.le_refl 0) (Nat.le_refl 0) (by first | (exfalso; omega) | (have e : (cardT (gB bs k) n).isSome = true := (by simp [cardT, *]); rw [← e]; exact hQ _ (fun j h1 h2 h3 => by simp [upd, h1, h2, h3]) (fun c hc => by first | (exfalso; rw [hc] at e; simp at e; done) | (simp [cardT, *] at hc; subst hc; simp [upd, zb, *]))) | (exfalso; simp_all; done))
              · refine z_aload_n d_m_isTag_104 105 rfl rfl rfl ?_
                refine z_iload_n d_m_isTag_105 106 rfl rfl rfl ?_
                refine z_iload_n d_m_isTag_106 107 rfl rfl rfl ?_
                refine z_iconst (v := nI 5) d_m_isTag_107 108 rfl rfl ?_
                first | refine z_iaddN d_m_isTag_108 109 rfl ?_ | refine z_iadd d_m_isTag_108 109 rfl ?_
                refine zm_cV1 d_m_isTag_109 112 rfl mv_m_at kl_m_40 (by decide) (fun Q' h => c_m_atG s k 5 hr (by omega) hs hl h) rfl rfl (Nat.le_of_ble_eq_true rfl) ?_
                refine z_bipush (v := nI 42) d_m_isTag_112 114 rfl rfl ?_
                refine z_icmp_neN (tgt := 121) d_m_isTag_114 117 rfl rfl (by omega) (by omega) (fun h114 => ?_) (fun h114 => ?_)
                · refine z_iconst (v := nI 0) d_m_isTag_121 122 rfl rfl ?_
                  exact z_zretB (b := false) d_m_isTag_122 rfl (Nat.le_refl 0) (Nat.le_refl 0) (by first | (exfalso; omega) | (have e : (cardT (gB bs k) n).isSome = false := (by simp [cardT, *]); rw [← e]; exact hQ _ (fun j h1 h2 h3 => by simp [upd, h1, h2, h3]) (fun c hc => by first | (exfalso; rw [hc] at e; simp at e; done) | (simp [cardT, *] at hc; subst hc; simp [upd, zb, *]))) | (exfalso; simp_all; done))
                · refine z_iconst (v := nI 1) d_m_isTag_117 118 rfl rfl ?_
                  refine z_goto (tgt := 122) d_m_isTag_118 rfl ?_
                  exact z_zretB (b := true) d_m_isTag_122 rfl (Nat.le_refl 0) (Nat.le_refl 0) (by first | (exfalso; omega) | (have e : (cardT (gB bs k) n).isSome = true := (by simp [cardT, *]); rw [← e]; exact hQ _ (fun j h1 h2 h3 => by simp [upd, h1, h2, h3]) (fun c hc => by first | (exfalso; rw [hc] at e; simp at e; done) | (simp [cardT, *] at hc; subst hc; simp [upd, zb, *]))) | (exfalso; simp_all; done))
          · refine z_iconst (v := nI 0) d_m_isTag_65 66 rfl rfl ?_
            exact z_zretB (b := false) d_m_isTag_66 rfl (Nat.le_refl 0) (Nat.le_refl 0) (by first | (exfalso; omega) | (have e : (cardT (gB bs k) n).isSome = false := (by simp [cardT, *]); rw [← e]; exact hQ _ (fun j h1 h2 h3 => by simp [upd, h1, h2, h3]) (fun c hc => by first | (exfalso; rw [hc] at e; simp at e; done) | (simp [cardT, *] at hc; subst hc; simp [upd, zb, *]))) | (exfalso; simp_all; done))
      · refine z_iload d_m_isTag_31 33 rfl rfl ?_
        refine z_bipush (v := nI 45) d_m_isTag_33 35 rfl rfl ?_
        refine z_icmp_neN (tgt := 65) d_m_isTag_35 38 rfl rfl (by omega) (by omega) (fun h35 => ?_) (fun h35 => ?_)
        · refine z_iconst (v := nI 0) d_m_isTag_65 66 rfl rfl ?_
          exact z_zretB (b := false) d_m_isTag_66 rfl (Nat.le_refl 0) (Nat.le_refl 0) (by first | (exfalso; omega) | (have e : (cardT (gB bs k) n).isSome = false := (by simp [cardT, *]); rw [← e]; exact hQ _ (fun j h1 h2 h3 => by simp [upd, h1, h2, h3]) (fun c hc => by first | (exfalso; rw [hc] at e; simp at e; done) | (simp [cardT, *] at hc; subst hc; simp [upd, zb, *]))) | (exfalso; simp_all; done))
        · refine z_aload_n d_m_isTag_38 39 rfl rfl rfl ?_
          refine z_iload_n d_m_isTag_39 40 rfl rfl rfl ?_
          refine z_iload_n d_m_isTag_40 41 rfl rfl rfl ?_
          refine z_iconst (v := nI 3) d_m_isTag_41 42 rfl rfl ?_
          first | refine z_iaddN d_m_isTag_42 43 rfl ?_ | refine z_iadd d_m_isTag_42 43 rfl ?_
          refine zm_cV1 d_m_isTag_43 46 rfl mv_m_at kl_m_40 (by decide) (fun Q' h => c_m_atG s k 3 hr (by omega) hs hl h) rfl rfl (Nat.le_of_ble_eq_true rfl) ?_
          refine zm_cS1 d_m_isTag_46 49 rfl ms_m_isDigit kl_m_70 (by decide) (fun Q' h => c_m_isDigit _ (by omega) h) rfl rfl (Nat.le_of_ble_eq_true rfl) ?_
          refine z_if_eqB (tgt := 65) d_m_isTag_49 52 rfl rfl (fun h49 => ?_) (fun h49 => ?_)
          · refine z_iconst (v := nI 0) d_m_isTag_65 66 rfl rfl ?_
            exact z_zretB (b := false) d_m_isTag_66 rfl (Nat.le_refl 0) (Nat.le_refl 0) (by first | (exfalso; omega) | (have e : (cardT (gB bs k) n).isSome = false := (by simp [cardT, *]); rw [← e]; exact hQ _ (fun j h1 h2 h3 => by simp [upd, h1, h2, h3]) (fun c hc => by first | (exfalso; rw [hc] at e; simp at e; done) | (simp [cardT, *] at hc; subst hc; simp [upd, zb, *]))) | (exfalso; simp_all; done))
          · refine z_aload_n d_m_isTag_52 53 rfl rfl rfl ?_
            refine z_iload_n d_m_isTag_53 54 rfl rfl rfl ?_
            refine z_iload_n d_m_isTag_54 55 rfl rfl rfl ?_
            refine z_iconst (v := nI 4) d_m_isTag_55 56 rfl rfl ?_
            first | refine z_iaddN d_m_isTag_56 57 rfl ?_ | refine z_iadd d_m_isTag_56 57 rfl ?_
            refine zm_cV1 d_m_isTag_57 60 rfl mv_m_at kl_m_40 (by decide) (fun Q' h => c_m_atG s k 4 hr (by omega) hs hl h) rfl rfl (Nat.le_of_ble_eq_true rfl) ?_
            refine z_bipush (v := nI 32) d_m_isTag_60 62 rfl rfl ?_
            refine z_icmp_eqN (tgt := 67) d_m_isTag_62 65 rfl rfl (by omega) (by omega) (fun h62 => ?_) (fun h62 => ?_)
            · refine z_aload_n d_m_isTag_67 68 rfl rfl rfl ?_
              refine z_iload d_m_isTag_68 70 rfl rfl ?_
              refine z_bipush (v := nI 43) d_m_isTag_70 72 rfl rfl ?_
              refine z_icmp_neN (tgt := 79) d_m_isTag_72 75 rfl rfl (by omega) (by omega) (fun h72 => ?_) (fun h72 => ?_)
              · refine z_iconst (v := nI 0) d_m_isTag_79 80 rfl rfl ?_
                refine zm_putZ 13 d_m_isTag_80 83 rfl (p_m_86 _) (by decide) (by decide) (by first | exact Or.inl rfl | exact Or.inr rfl) ?_
                refine z_aload_n d_m_isTag_83 84 rfl rfl rfl ?_
                refine z_aload_n d_m_isTag_84 85 rfl rfl rfl ?_
                refine z_iload_n d_m_isTag_85 86 rfl rfl rfl ?_
                refine z_iload_n d_m_isTag_86 87 rfl rfl rfl ?_
                refine z_iconst (v := nI 3) d_m_isTag_87 88 rfl rfl ?_
                first | refine z_iaddN d_m_isTag_88 89 rfl ?_ | refine z_iadd d_m_isTag_88 89 rfl ?_
                refine zm_cV1 d_m_isTag_89 92 rfl mv_m_at kl_m_40 (by decide) (fun Q' h => c_m_atG s k 3 hr (by omega) hs hl h) rfl rfl (Nat.le_of_ble_eq_true rfl) ?_
                refine z_bipush (v := nI 48) d_m_isTag_92 94 rfl rfl ?_
                refine z_isubN d_m_isTag_94 95 rfl (by simp [isDg] at *; omega) ?_
                refine zm_putF 12 d_m_isTag_95 98 rfl (p_m_74 _) (by decide) (by decide) ?_
                refine z_iload_n d_m_isTag_98 99 rfl rfl rfl ?_
                refine z_bipush (v := nI 6) d_m_isTag_99 101 rfl rfl ?_
                refine z_icmp_neN (tgt := 123) d_m_isTag_101 104 rfl rfl (by omega) (by omega) (fun h101 => ?_) (fun h101 => ?_)
                · refine z_aload_n d_m_isTag_123 124 rfl rfl rfl ?_
                  refine z_aload_n d_m_isTag_124 125 rfl rfl rfl ?_
                  refine z_iload_n d_m_isTag_125 126 rfl rfl rfl ?_
                  refine z_iload_n d_m_isTag_126 127 rfl rfl rfl ?_
                  refine z_iconst (v := nI 5) d_m_isTag_127 128 rfl rfl ?_
                  first | refine z_iaddN d_m_isTag_128 129 rfl ?_ | refine z_iadd d_m_isTag_128 129 rfl ?_
                  refine zm_cV1 d_m_isTag_129 132 rfl mv_m_nameAt kl_m_67 (by decide) (fun Q' h => c_m_nameAtG s k 5 hr (by omega) hs hl h) rfl rfl (Nat.le_of_ble_eq_true rfl) ?_
                  refine zm_putF 14 d_m_isTag_132 135 rfl (p_m_58 _) (by decide) (by decide) ?_
                  refine z_aload_n d_m_isTag_135 136 rfl rfl rfl ?_
                  refine zm_getF 14 d_m_isTag_136 139 rfl f_m_58 rfl ?_; try simp only [pk_us, pk_un, ne_eq, Nat.reduceEqDiff, not_false_eq_true]
                  refine z_if_ltO (tgt := 146) d_m_isTag_139 142 rfl rfl (fun v h => by have := nm6_lt h; omega) (fun h139 => ?_) (fun w139 h139 => ?_)
                  · refine z_iconst (v := nI 0) d_m_isTag_146 147 rfl rfl ?_
                    exact z_zretB (b := false) d_m_isTag_147 rfl (Nat.le_refl 0) (Nat.le_refl 0) (by first | (exfalso; omega) | (have e : (cardT (gB bs k) n).isSome = false := (by simp [cardT, *]); rw [← e]; exact hQ _ (fun j h1 h2 h3 => by simp [upd, h1, h2, h3]) (fun c hc => by first | (exfalso; rw [hc] at e; simp at e; done) | (simp [cardT, *] at hc; subst hc; simp [upd, zb, *]))) | (exfalso; simp_all; done))
                  · refine z_iconst (v := nI 1) d_m_isTag_142 143 rfl rfl ?_
                    refine z_goto (tgt := 147) d_m_isTag_143 rfl ?_
                    exact z_zretB (b := true) d_m_isTag_147 rfl (Nat.le_refl 0) (Nat.le_refl 0) (by first | (exfalso; omega) | (have e : (cardT (gB bs k) n).isSome = true := (by simp [cardT, *]); rw [← e]; exact hQ _ (fun j h1 h2 h3 => by simp [upd, h1, h2, h3]) (fun c hc => by first | (exfalso; rw [hc] at e; simp at e; done) | (simp [cardT, *] at hc; subst hc; simp [upd, zb, *]))) | (exfalso; simp_all; done))
                · refine z_aload_n d_m_isTag_104 105 rfl rfl rfl ?_
                  refine z_iload_n d_m_isTag_105 106 rfl rfl rfl ?_
                  refine z_iload_n d_m_isTag_106 107 rfl rfl rfl ?_
                  refine z_iconst (v := nI 5) d_m_isTag_107 108 rfl rfl ?_
                  first | refine z_iaddN d_m_isTag_108 109 rfl ?_ | refine z_iadd d_m_isTag_108 109 rfl ?_
                  refine zm_cV1 d_m_isTag_109 112 rfl mv_m_at kl_m_40 (by decide) (fun Q' h => c_m_atG s k 5 hr (by omega) hs hl h) rfl rfl (Nat.le_of_ble_eq_true rfl) ?_
                  refine z_bipush (v := nI 42) d_m_isTag_112 114 rfl rfl ?_
                  refine z_icmp_neN (tgt := 121) d_m_isTag_114 117 rfl rfl (by omega) (by omega) (fun h114 => ?_) (fun h114 => ?_)
                  · refine z_iconst (v := nI 0) d_m_isTag_121 122 rfl rfl ?_
                    exact z_zretB (b := false) d_m_isTag_122 rfl (Nat.le_refl 0) (Nat.le_refl 0) (by first | (exfalso; omega) | (have e : (cardT (gB bs k) n).isSome = false := (by simp [cardT, *]); rw [← e]; exact hQ _ (fun j h1 h2 h3 => by simp [upd, h1, h2, h3]) (fun c hc => by first | (exfalso; rw [hc] at e; simp at e; done) | (simp [cardT, *] at hc; subst hc; simp [upd, zb, *]))) | (exfalso; simp_all; done))
                  · refine z_iconst (v := nI 1) d_m_isTag_117 118 rfl rfl ?_
                    refine z_goto (tgt := 122) d_m_isTag_118 rfl ?_
                    exact z_zretB (b := true) d_m_isTag_122 rfl (Nat.le_refl 0) (Nat.le_refl 0) (by first | (exfalso; omega) | (have e : (cardT (gB bs k) n).isSome = true := (by simp [cardT, *]); rw [← e]; exact hQ _ (fun j h1 h2 h3 => by simp [upd, h1, h2, h3]) (fun c hc => by first | (exfalso; rw [hc] at e; simp at e; done) | (simp [cardT, *] at hc; subst hc; simp [upd, zb, *]))) | (exfalso; simp_all; done))
              · refine z_iconst (v := nI 1) d_m_isTag_75 76 rfl rfl ?_
                refine z_goto (tgt := 80) d_m_isTag_76 rfl ?_
                refine zm_putZ 13 d_m_isTag_80 83 rfl (p_m_86 _) (by decide) (by decide) (by first | exact Or.inl rfl | exact Or.inr rfl) ?_
                refine z_aload_n d_m_isTag_83 84 rfl rfl rfl ?_
                refine z_aload_n d_m_isTag_84 85 rfl rfl rfl ?_
                refine z_iload_n d_m_isTag_85 86 rfl rfl rfl ?_
                refine z_iload_n d_m_isTag_86 87 rfl rfl rfl ?_
                refine z_iconst (v := nI 3) d_m_isTag_87 88 rfl rfl ?_
                first | refine z_iaddN d_m_isTag_88 89 rfl ?_ | refine z_iadd d_m_isTag_88 89 rfl ?_
                refine zm_cV1 d_m_isTag_89 92 rfl mv_m_at kl_m_40 (by decide) (fun Q' h => c_m_atG s k 3 hr (by omega) hs hl h) rfl rfl (Nat.le_of_ble_eq_true rfl) ?_
                refine z_bipush (v := nI 48) d_m_isTag_92 94 rfl rfl ?_
                refine z_isubN d_m_isTag_94 95 rfl (by simp [isDg] at *; omega) ?_
                refine zm_putF 12 d_m_isTag_95 98 rfl (p_m_74 _) (by decide) (by decide) ?_
                refine z_iload_n d_m_isTag_98 99 rfl rfl rfl ?_
                refine z_bipush (v := nI 6) d_m_isTag_99 101 rfl rfl ?_
                refine z_icmp_neN (tgt := 123) d_m_isTag_101 104 rfl rfl (by omega) (by omega) (fun h101 => ?_) (fun h101 => ?_)
                · refine z_aload_n d_m_isTag_123 124 rfl rfl rfl ?_
                  refine z_aload_n d_m_isTag_124 125 rfl rfl rfl ?_
                  refine z_iload_n d_m_isTag_125 126 rfl rfl rfl ?_
                  refine z_iload_n d_m_isTag_126 127 rfl rfl rfl ?_
                  refine z_iconst (v := nI 5) d_m_isTag_127 128 rfl rfl ?_
                  first | refine z_iaddN d_m_isTag_128 129 rfl ?_ | refine z_iadd d_m_isTag_128 129 rfl ?_
                  refine zm_cV1 d_m_isTag_129 132 rfl mv_m_nameAt kl_m_67 (by decide) (fun Q' h => c_m_nameAtG s k 5 hr (by omega) hs hl h) rfl rfl (Nat.le_of_ble_eq_true rfl) ?_
                  refine zm_putF 14 d_m_isTag_132 135 rfl (p_m_58 _) (by decide) (by decide) ?_
                  refine z_aload_n d_m_isTag_135 136 rfl rfl rfl ?_
                  refine zm_getF 14 d_m_isTag_136 139 rfl f_m_58 rfl ?_; try simp only [pk_us, pk_un, ne_eq, Nat.reduceEqDiff, not_false_eq_true]
                  refine z_if_ltO (tgt := 146) d_m_isTag_139 142 rfl rfl (fun v h => by have := nm6_lt h; omega) (fun h139 => ?_) (fun w139 h139 => ?_)
                  · refine z_iconst (v := nI 0) d_m_isTag_146 147 rfl rfl ?_
                    exact z_zretB (b := false) d_m_isTag_147 rfl (Nat.le_refl 0) (Nat.le_refl 0) (by first | (exfalso; omega) | (have e : (cardT (gB bs k) n).isSome = false := (by simp [cardT, *]); rw [← e]; exact hQ _ (fun j h1 h2 h3 => by simp [upd, h1, h2, h3]) (fun c hc => by first | (exfalso; rw [hc] at e; simp at e; done) | (simp [cardT, *] at hc; subst hc; simp [upd, zb, *]))) | (exfalso; simp_all; done))
                  · refine z_iconst (v := nI 1) d_m_isTag_142 143 rfl rfl ?_
                    refine z_goto (tgt := 147) d_m_isTag_143 rfl ?_
                    exact z_zretB (b := true) d_m_isTag_147 rfl (Nat.le_refl 0) (Nat.le_refl 0) (by first | (exfalso; omega) | (have e : (cardT (gB bs k) n).isSome = true := (by simp [cardT, *]); rw [← e]; exact hQ _ (fun j h1 h2 h3 => by simp [upd, h1, h2, h3]) (fun c hc => by first | (exfalso; rw [hc] at e; simp at e; done) | (simp [cardT, *] at hc; subst hc; simp [upd, zb, *]))) | (exfalso; simp_all; done))
                · refine z_aload_n d_m_isTag_104 105 rfl rfl rfl ?_
                  refine z_iload_n d_m_isTag_105 106 rfl rfl rfl ?_
                  refine z_iload_n d_m_isTag_106 107 rfl rfl rfl ?_
                  refine z_iconst (v := nI 5) d_m_isTag_107 108 rfl rfl ?_
                  first | refine z_iaddN d_m_isTag_108 109 rfl ?_ | refine z_iadd d_m_isTag_108 109 rfl ?_
                  refine zm_cV1 d_m_isTag_109 112 rfl mv_m_at kl_m_40 (by decide) (fun Q' h => c_m_atG s k 5 hr (by omega) hs hl h) rfl rfl (Nat.le_of_ble_eq_true rfl) ?_
                  refine z_bipush (v := nI 42) d_m_isTag_112 114 rfl rfl ?_
                  refine z_icmp_neN (tgt := 121) d_m_isTag_114 117 rfl rfl (by omega) (by omega) (fun h114 => ?_) (fun h114 => ?_)
                  · refine z_iconst (v := nI 0) d_m_isTag_121 122 rfl rfl ?_
                    exact z_zretB (b := false) d_m_isTag_122 rfl (Nat.le_refl 0) (Nat.le_refl 0) (by first | (exfalso; omega) | (have e : (cardT (gB bs k) n).isSome = false := (by simp [cardT, *]); rw [← e]; exact hQ _ (fun j h1 h2 h3 => by simp [upd, h1, h2, h3]) (fun c hc => by first | (exfalso; rw [hc] at e; simp at e; done) | (simp [cardT, *] at hc; subst hc; simp [upd, zb, *]))) | (exfalso; simp_all; done))
                  · refine z_iconst (v := nI 1) d_m_isTag_117 118 rfl rfl ?_
                    refine z_goto (tgt := 122) d_m_isTag_118 rfl ?_
                    exact z_zretB (b := true) d_m_isTag_122 rfl (Nat.le_refl 0) (Nat.le_refl 0) (by first | (exfalso; omega) | (have e : (cardT (gB bs k) n).isSome = true := (by simp [cardT, *]); rw [← e]; exact hQ _ (fun j h1 h2 h3 => by simp [upd, h1, h2, h3]) (fun c hc => by first | (exfalso; rw [hc] at e; simp at e; done) | (simp [cardT, *] at hc; subst hc; simp [upd, zb, *]))) | (exfalso; simp_all; done))
            · refine z_iconst (v := nI 0) d_m_isTag_65 66 rfl rfl ?_
              exact z_zretB (b := false) d_m_isTag_66 rfl (Nat.le_refl 0) (Nat.le_refl 0) (by first | (exfalso; omega) | (have e : (cardT (gB bs k) n).isSome = false := (by simp [cardT, *]); rw [← e]; exact hQ _ (fun j h1 h2 h3 => by simp [upd, h1, h2, h3]) (fun c hc => by first | (exfalso; rw [hc] at e; simp at e; done) | (simp [cardT, *] at hc; subst hc; simp [upd, zb, *]))) | (exfalso; simp_all; done))
    · refine z_iconst (v := nI 0) d_m_isTag_12 13 rfl rfl ?_
      exact z_zretB (b := false) d_m_isTag_13 rfl (Nat.le_refl 0) (Nat.le_refl 0) (by first | (exfalso; omega) | (have e : (cardT (gB bs k) n).isSome = false := (by simp [cardT, *]); rw [← e]; exact hQ _ (fun j h1 h2 h3 => by simp [upd, h1, h2, h3]) (fun c hc => by first | (exfalso; rw [hc] at e; simp at e; done) | (simp [cardT, *] at hc; subst hc; simp [upd, zb, *]))) | (exfalso; simp_all; done))
end M2
