/-! The reference: cards and lines. Own work. -/
def cdP (c : CV) (f : Nat → Int32) : Prop := f 14 = oI c.2.2.2.1 ∧ f 15 = oI c.2.2.2.2.1 ∧ ((c.1 = 70 ∨ c.1 = 84) → f 12 = nI c.2.1) ∧ (c.1 = 84 → f 13 = zb c.2.2.1) ∧ (c.1 = 68 → f 16 = nI c.2.2.2.2.2)
theorem cardD_1 {g : Nat → Nat} {n : Nat} {c : CV} (h : cardD g n = some c) : c.1 = 68 ∧ c.2.2.2.1 = none ∧ c.2.2.2.2.1 = none := by
  simp only [cardD] at h
  split at h
  · cases h; exact ⟨rfl, rfl, rfl⟩
  · cases h
theorem cardP_1 {g : Nat → Nat} {n : Nat} {c : CV} (h : cardP g n = some c) : c.1 = 80 := by
  simp only [cardP] at h
  split at h
  · obtain ⟨v, -, rfl⟩ := Option.map_eq_some_iff.mp h; rfl
  · split at h
    · obtain ⟨a, -, h⟩ := Option.bind_eq_some_iff.mp h
      obtain ⟨b, -, h⟩ := Option.bind_eq_some_iff.mp h
      split at h
      · cases h
      · cases h; rfl
    · cases h
theorem cardT_1 {g : Nat → Nat} {n : Nat} {c : CV} (h : cardT g n = some c) : c.1 = 84 := by
  simp only [cardT] at h
  split at h
  · split at h
    · split at h
      · cases h; rfl
      · cases h
    · obtain ⟨v, -, rfl⟩ := Option.map_eq_some_iff.mp h; rfl
  · cases h
theorem upd_lo {f : Nat → Int32} {k j : Nat} {x : Int32} (hk : 12 ≤ k) (hj : j < 12) : upd f k x j = f j := if_neg (by omega)
section M4
variable {l : Launch} {D : zD} {hp : zH} {o : Nat} {va : Nat → Nat → Int32} {vf : Nat → Int32} {Q : Option Value → zH → Prop}
theorem c_m_isCard (s k n : Nat) {bs : List Nat} (hr : zrow va s bs) (hn : 3 ≤ n) (hk : k + n ≤ bs.length) (hs : s < 66) (hl : bs.length ≤ 240)
    (hQ : ∀ vf' : Nat → Int32, (∀ j, j < 12 → vf' j = vf j) → (∀ c, cardB (gB bs k) n = some c → cdP c vf') → Q (some (.int (zb (cardB (gB bs k) n).isSome))) (zmod D o hp va vf')) :
    Runs l D M_m_isCard [.ref o, .int (nI s), .int (nI k), .int (nI n)] (zmod D o hp va vf) 0 0 Q := by
  refine Runs.of rfl rfl (Nat.le_of_ble_eq_true rfl) ?_
  have hlt := gB_lt hr k
  have g0 := hlt 0
  have g2 := hlt 2
  have g3 := hlt 3
  refine z_aload_n d_m_isCard_0 1 rfl rfl rfl ?_
  refine z_iload_n d_m_isCard_1 2 rfl rfl rfl ?_
  refine z_iload_n d_m_isCard_2 3 rfl rfl rfl ?_
  refine zm_cV1 d_m_isCard_3 6 rfl mv_m_at kl_m_40 (by decide) (fun Q' h => c_m_at0 s k hr (by omega) hs hl h) rfl rfl (Nat.le_of_ble_eq_true rfl) ?_
  refine z_ist4 d_m_isCard_6 8 rfl rfl ?_
  refine z_aload_n d_m_isCard_8 9 rfl rfl rfl ?_
  refine z_iconst (v := oI none) d_m_isCard_9 10 rfl (by decide) ?_
  refine zm_putF 14 d_m_isCard_10 13 rfl (p_m_58 _) (by decide) (by decide) ?_
  refine z_aload_n d_m_isCard_13 14 rfl rfl rfl ?_
  refine z_iconst (v := oI none) d_m_isCard_14 15 rfl (by decide) ?_
  refine zm_putF 15 d_m_isCard_15 18 rfl (p_m_61 _) (by decide) (by decide) ?_
  refine z_iload d_m_isCard_18 20 rfl rfl ?_
  refine z_bipush (v := nI 68) d_m_isCard_20 22 rfl rfl ?_
  refine z_icmp_neN (tgt := 37) d_m_isCard_22 25 rfl rfl (by omega) (by omega) (fun h22 => ?_) (fun h22 => ?_)
  · refine z_iload d_m_isCard_37 39 rfl rfl ?_
    refine z_bipush (v := nI 77) d_m_isCard_39 41 rfl rfl ?_
    refine z_icmp_eqN (tgt := 58) d_m_isCard_41 44 rfl rfl (by omega) (by omega) (fun h41 => ?_) (fun h41 => ?_)
    · refine z_iload_n d_m_isCard_58 59 rfl rfl rfl ?_
      refine z_bipush (v := nI 8) d_m_isCard_59 61 rfl rfl ?_
      refine z_icmp_neN (tgt := 76) d_m_isCard_61 64 rfl rfl (by omega) (by omega) (fun h61 => ?_) (fun h61 => ?_)
      · refine z_aload_n d_m_isCard_76 77 rfl rfl rfl ?_
        refine zm_getF 14 d_m_isCard_77 80 rfl f_m_58 rfl ?_; try simp only [pk_us, pk_un, ne_eq, Nat.reduceEqDiff, not_false_eq_true]
        refine z_if_ltO (tgt := 87) d_m_isCard_80 83 rfl rfl (fun v h => by first | (cases h; done) | (have := nm6_lt h; omega)) (fun h80 => ?_) (fun w80 h80 => ?_)
        · refine z_iconst (v := nI 0) d_m_isCard_87 88 rfl rfl ?_
          exact z_zretB (b := false) d_m_isCard_88 rfl (Nat.le_refl 0) (Nat.le_refl 0) (by first | (exfalso; omega) | (have e : (cardB (gB bs k) n).isSome = false := (by simp [cardB, card1, cardF, *]); rw [← e]; exact hQ _ (fun j hj => by simp only [upd_lo, hj, Nat.reduceLeDiff]) (fun c hc => by first | (exfalso; rw [hc] at e; simp at e; done) | (simp [cardB, card1, cardF, *] at hc; subst hc; simp [cdP, upd, *]))) | (exfalso; simp_all; done))
        · refine z_iconst (v := nI 1) d_m_isCard_83 84 rfl rfl ?_
          refine z_goto (tgt := 88) d_m_isCard_84 rfl ?_
          exact z_zretB (b := true) d_m_isCard_88 rfl (Nat.le_refl 0) (Nat.le_refl 0) (by first | (exfalso; omega) | (have e : (cardB (gB bs k) n).isSome = true := (by simp [cardB, card1, cardF, *]); rw [← e]; exact hQ _ (fun j hj => by simp only [upd_lo, hj, Nat.reduceLeDiff]) (fun c hc => by first | (exfalso; rw [hc] at e; simp at e; done) | (simp [cardB, card1, cardF, *] at hc; subst hc; simp [cdP, upd, *]))) | (exfalso; simp_all; done))
      · refine z_aload_n d_m_isCard_64 65 rfl rfl rfl ?_
        refine z_aload_n d_m_isCard_65 66 rfl rfl rfl ?_
        refine z_iload_n d_m_isCard_66 67 rfl rfl rfl ?_
        refine z_iload_n d_m_isCard_67 68 rfl rfl rfl ?_
        refine z_iconst (v := nI 2) d_m_isCard_68 69 rfl rfl ?_
        first | refine z_iaddN d_m_isCard_69 70 rfl ?_ | refine z_iadd d_m_isCard_69 70 rfl ?_
        refine zm_cV1 d_m_isCard_70 73 rfl mv_m_nameAt kl_m_67 (by decide) (fun Q' h => c_m_nameAtG s k 2 hr (by omega) hs hl h) rfl rfl (Nat.le_of_ble_eq_true rfl) ?_
        refine zm_putF 14 d_m_isCard_73 76 rfl (p_m_58 _) (by decide) (by decide) ?_
        refine z_aload_n d_m_isCard_76 77 rfl rfl rfl ?_
        refine zm_getF 14 d_m_isCard_77 80 rfl f_m_58 rfl ?_; try simp only [pk_us, pk_un, ne_eq, Nat.reduceEqDiff, not_false_eq_true]
        refine z_if_ltO (tgt := 87) d_m_isCard_80 83 rfl rfl (fun v h => by first | (cases h; done) | (have := nm6_lt h; omega)) (fun h80 => ?_) (fun w80 h80 => ?_)
        · refine z_iconst (v := nI 0) d_m_isCard_87 88 rfl rfl ?_
          exact z_zretB (b := false) d_m_isCard_88 rfl (Nat.le_refl 0) (Nat.le_refl 0) (by first | (exfalso; omega) | (have e : (cardB (gB bs k) n).isSome = false := (by simp [cardB, card1, cardF, *]); rw [← e]; exact hQ _ (fun j hj => by simp only [upd_lo, hj, Nat.reduceLeDiff]) (fun c hc => by first | (exfalso; rw [hc] at e; simp at e; done) | (simp [cardB, card1, cardF, *] at hc; subst hc; simp [cdP, upd, *]))) | (exfalso; simp_all; done))
        · refine z_iconst (v := nI 1) d_m_isCard_83 84 rfl rfl ?_
          refine z_goto (tgt := 88) d_m_isCard_84 rfl ?_
          exact z_zretB (b := true) d_m_isCard_88 rfl (Nat.le_refl 0) (Nat.le_refl 0) (by first | (exfalso; omega) | (have e : (cardB (gB bs k) n).isSome = true := (by simp [cardB, card1, cardF, *]); rw [← e]; exact hQ _ (fun j hj => by simp only [upd_lo, hj, Nat.reduceLeDiff]) (fun c hc => by first | (exfalso; rw [hc] at e; simp at e; done) | (simp [cardB, card1, cardF, *] at hc; subst hc; simp [cdP, upd, *]))) | (exfalso; simp_all; done))
    · refine z_iload d_m_isCard_44 46 rfl rfl ?_
      refine z_bipush (v := nI 82) d_m_isCard_46 48 rfl rfl ?_
      refine z_icmp_eqN (tgt := 58) d_m_isCard_48 51 rfl rfl (by omega) (by omega) (fun h48 => ?_) (fun h48 => ?_)
      · refine z_iload_n d_m_isCard_58 59 rfl rfl rfl ?_
        refine z_bipush (v := nI 8) d_m_isCard_59 61 rfl rfl ?_
        refine z_icmp_neN (tgt := 76) d_m_isCard_61 64 rfl rfl (by omega) (by omega) (fun h61 => ?_) (fun h61 => ?_)
        · refine z_aload_n d_m_isCard_76 77 rfl rfl rfl ?_
          refine zm_getF 14 d_m_isCard_77 80 rfl f_m_58 rfl ?_; try simp only [pk_us, pk_un, ne_eq, Nat.reduceEqDiff, not_false_eq_true]
          refine z_if_ltO (tgt := 87) d_m_isCard_80 83 rfl rfl (fun v h => by first | (cases h; done) | (have := nm6_lt h; omega)) (fun h80 => ?_) (fun w80 h80 => ?_)
          · refine z_iconst (v := nI 0) d_m_isCard_87 88 rfl rfl ?_
            exact z_zretB (b := false) d_m_isCard_88 rfl (Nat.le_refl 0) (Nat.le_refl 0) (by first | (exfalso; omega) | (have e : (cardB (gB bs k) n).isSome = false := (by simp [cardB, card1, cardF, *]); rw [← e]; exact hQ _ (fun j hj => by simp only [upd_lo, hj, Nat.reduceLeDiff]) (fun c hc => by first | (exfalso; rw [hc] at e; simp at e; done) | (simp [cardB, card1, cardF, *] at hc; subst hc; simp [cdP, upd, *]))) | (exfalso; simp_all; done))
          · refine z_iconst (v := nI 1) d_m_isCard_83 84 rfl rfl ?_
            refine z_goto (tgt := 88) d_m_isCard_84 rfl ?_
            exact z_zretB (b := true) d_m_isCard_88 rfl (Nat.le_refl 0) (Nat.le_refl 0) (by first | (exfalso; omega) | (have e : (cardB (gB bs k) n).isSome = true := (by simp [cardB, card1, cardF, *]); rw [← e]; exact hQ _ (fun j hj => by simp only [upd_lo, hj, Nat.reduceLeDiff]) (fun c hc => by first | (exfalso; rw [hc] at e; simp at e; done) | (simp [cardB, card1, cardF, *] at hc; subst hc; simp [cdP, upd, *]))) | (exfalso; simp_all; done))
        · refine z_aload_n d_m_isCard_64 65 rfl rfl rfl ?_
          refine z_aload_n d_m_isCard_65 66 rfl rfl rfl ?_
          refine z_iload_n d_m_isCard_66 67 rfl rfl rfl ?_
          refine z_iload_n d_m_isCard_67 68 rfl rfl rfl ?_
          refine z_iconst (v := nI 2) d_m_isCard_68 69 rfl rfl ?_
          first | refine z_iaddN d_m_isCard_69 70 rfl ?_ | refine z_iadd d_m_isCard_69 70 rfl ?_
          refine zm_cV1 d_m_isCard_70 73 rfl mv_m_nameAt kl_m_67 (by decide) (fun Q' h => c_m_nameAtG s k 2 hr (by omega) hs hl h) rfl rfl (Nat.le_of_ble_eq_true rfl) ?_
          refine zm_putF 14 d_m_isCard_73 76 rfl (p_m_58 _) (by decide) (by decide) ?_
          refine z_aload_n d_m_isCard_76 77 rfl rfl rfl ?_
          refine zm_getF 14 d_m_isCard_77 80 rfl f_m_58 rfl ?_; try simp only [pk_us, pk_un, ne_eq, Nat.reduceEqDiff, not_false_eq_true]
          refine z_if_ltO (tgt := 87) d_m_isCard_80 83 rfl rfl (fun v h => by first | (cases h; done) | (have := nm6_lt h; omega)) (fun h80 => ?_) (fun w80 h80 => ?_)
          · refine z_iconst (v := nI 0) d_m_isCard_87 88 rfl rfl ?_
            exact z_zretB (b := false) d_m_isCard_88 rfl (Nat.le_refl 0) (Nat.le_refl 0) (by first | (exfalso; omega) | (have e : (cardB (gB bs k) n).isSome = false := (by simp [cardB, card1, cardF, *]); rw [← e]; exact hQ _ (fun j hj => by simp only [upd_lo, hj, Nat.reduceLeDiff]) (fun c hc => by first | (exfalso; rw [hc] at e; simp at e; done) | (simp [cardB, card1, cardF, *] at hc; subst hc; simp [cdP, upd, *]))) | (exfalso; simp_all; done))
          · refine z_iconst (v := nI 1) d_m_isCard_83 84 rfl rfl ?_
            refine z_goto (tgt := 88) d_m_isCard_84 rfl ?_
            exact z_zretB (b := true) d_m_isCard_88 rfl (Nat.le_refl 0) (Nat.le_refl 0) (by first | (exfalso; omega) | (have e : (cardB (gB bs k) n).isSome = true := (by simp [cardB, card1, cardF, *]); rw [← e]; exact hQ _ (fun j hj => by simp only [upd_lo, hj, Nat.reduceLeDiff]) (fun c hc => by first | (exfalso; rw [hc] at e; simp at e; done) | (simp [cardB, card1, cardF, *] at hc; subst hc; simp [cdP, upd, *]))) | (exfalso; simp_all; done))
      · refine z_iload d_m_isCard_51 53 rfl rfl ?_
        refine z_bipush (v := nI 90) d_m_isCard_53 55 rfl rfl ?_
        refine z_icmp_neN (tgt := 89) d_m_isCard_55 58 rfl rfl (by omega) (by omega) (fun h55 => ?_) (fun h55 => ?_)
        · refine z_iload d_m_isCard_89 91 rfl rfl ?_
          refine z_bipush (v := nI 70) d_m_isCard_91 93 rfl rfl ?_
          refine z_icmp_neN (tgt := 171) d_m_isCard_93 96 rfl rfl (by omega) (by omega) (fun h93 => ?_) (fun h93 => ?_)
          · refine z_iload d_m_isCard_171 173 rfl rfl ?_
            refine z_bipush (v := nI 80) d_m_isCard_173 175 rfl rfl ?_
            refine z_icmp_neN (tgt := 186) d_m_isCard_175 178 rfl rfl (by omega) (by omega) (fun h175 => ?_) (fun h175 => ?_)
            · refine z_iload d_m_isCard_186 188 rfl rfl ?_
              refine z_bipush (v := nI 84) d_m_isCard_188 190 rfl rfl ?_
              refine z_icmp_neN (tgt := 207) d_m_isCard_190 193 rfl rfl (by omega) (by omega) (fun h190 => ?_) (fun h190 => ?_)
              · refine z_iconst (v := nI 0) d_m_isCard_207 208 rfl rfl ?_
                exact z_zretB (b := false) d_m_isCard_208 rfl (Nat.le_refl 0) (Nat.le_refl 0) (by first | (exfalso; omega) | (have e : cardB (gB bs k) n = cardT (gB bs k) n := (by simp [cardB, *]); rw [← h200, ← e]; exact hQ f (fun j hj => by rw [i1 j (by omega) (by omega) (by omega), upd_lo (by decide) hj, upd_lo (by decide) hj]) (fun c hc => by rw [e] at hc; have e1 := cardT_1 hc; simp [cdP, e1, i2 c hc])) | (have e : cardB (gB bs k) n = none := (by simp [cardB, *]); have := hQ (upd (upd vf 14 (oI none)) 15 (oI none)) (fun j hj => by rw [upd_lo (by decide) hj, upd_lo (by decide) hj]) (fun c hc => by rw [e] at hc; cases hc); rw [e] at this; exact this))
              · refine z_aload_n d_m_isCard_193 194 rfl rfl rfl ?_
                refine z_iload_n d_m_isCard_194 195 rfl rfl rfl ?_
                refine z_iload_n d_m_isCard_195 196 rfl rfl rfl ?_
                refine z_iload_n d_m_isCard_196 197 rfl rfl rfl ?_
                refine zm_cV (fun v a f => v = .int (zb (cardT (gB bs k) n).isSome) ∧ a = va ∧ (∀ j, j ≠ 12 → j ≠ 13 → j ≠ 14 → f j = upd (upd vf 14 (oI none)) 15 (oI none) j) ∧ ∀ c, cardT (gB bs k) n = some c → f 14 = oI c.2.2.2.1 ∧ f 15 = oI c.2.2.2.2.1 ∧ f 12 = nI c.2.1 ∧ f 13 = zb c.2.2.1) d_m_isCard_197 200 rfl mv_m_isTag kl_m_80 (by decide) (fun Q' h => c_m_isTag s k n hr hk hs hl (by simp [upd]) (by simp [upd]) (fun f h1 h2 => h _ _ _ ⟨rfl, rfl, h1, h2⟩)) rfl rfl (Nat.le_of_ble_eq_true rfl) ?_; rintro _ _ f ⟨rfl, rfl, i1, i2⟩
                refine z_if_eqB (tgt := 207) d_m_isCard_200 203 rfl rfl (fun h200 => ?_) (fun h200 => ?_)
                · refine z_iconst (v := nI 0) d_m_isCard_207 208 rfl rfl ?_
                  exact z_zretB (b := false) d_m_isCard_208 rfl (Nat.le_refl 0) (Nat.le_refl 0) (by first | (exfalso; omega) | (have e : cardB (gB bs k) n = cardT (gB bs k) n := (by simp [cardB, *]); rw [← h200, ← e]; exact hQ f (fun j hj => by rw [i1 j (by omega) (by omega) (by omega), upd_lo (by decide) hj, upd_lo (by decide) hj]) (fun c hc => by rw [e] at hc; have e1 := cardT_1 hc; simp [cdP, e1, i2 c hc])) | (have e : cardB (gB bs k) n = none := (by simp [cardB, *]); have := hQ (upd (upd vf 14 (oI none)) 15 (oI none)) (fun j hj => by rw [upd_lo (by decide) hj, upd_lo (by decide) hj]) (fun c hc => by rw [e] at hc; cases hc); rw [e] at this; exact this))
                · refine z_iconst (v := nI 1) d_m_isCard_203 204 rfl rfl ?_
                  refine z_goto (tgt := 208) d_m_isCard_204 rfl ?_
                  exact z_zretB (b := true) d_m_isCard_208 rfl (Nat.le_refl 0) (Nat.le_refl 0) (by first | (exfalso; omega) | (have e : cardB (gB bs k) n = cardT (gB bs k) n := (by simp [cardB, *]); rw [← h200, ← e]; exact hQ f (fun j hj => by rw [i1 j (by omega) (by omega) (by omega), upd_lo (by decide) hj, upd_lo (by decide) hj]) (fun c hc => by rw [e] at hc; have e1 := cardT_1 hc; simp [cdP, e1, i2 c hc])) | (have e : cardB (gB bs k) n = none := (by simp [cardB, *]); have := hQ (upd (upd vf 14 (oI none)) 15 (oI none)) (fun j hj => by rw [upd_lo (by decide) hj, upd_lo (by decide) hj]) (fun c hc => by rw [e] at hc; cases hc); rw [e] at this; exact this))
            · refine z_aload_n d_m_isCard_178 179 rfl rfl rfl ?_
              refine z_iload_n d_m_isCard_179 180 rfl rfl rfl ?_
              refine z_iload_n d_m_isCard_180 181 rfl rfl rfl ?_
              refine z_iload_n d_m_isCard_181 182 rfl rfl rfl ?_
              refine zm_cV (fun v a f => v = .int (zb (cardP (gB bs k) n).isSome) ∧ a = va ∧ (∀ j, j ≠ 14 → j ≠ 15 → f j = upd (upd vf 14 (oI none)) 15 (oI none) j) ∧ ∀ c, cardP (gB bs k) n = some c → f 14 = oI c.2.2.2.1 ∧ f 15 = oI c.2.2.2.2.1) d_m_isCard_182 185 rfl mv_m_isParent kl_m_77 (by decide) (fun Q' h => c_m_isParent s k n hr hk hs hl (by simp [upd]) (fun f h1 h2 => h _ _ _ ⟨rfl, rfl, h1, h2⟩)) rfl rfl (Nat.le_of_ble_eq_true rfl) ?_; rintro _ _ f ⟨rfl, rfl, i1, i2⟩
              exact z_zretB d_m_isCard_185 rfl (Nat.le_refl 0) (Nat.le_refl 0) (by have e : cardB (gB bs k) n = cardP (gB bs k) n := (by simp [cardB, *]); rw [← e]; exact hQ f (fun j hj => by rw [i1 j (by omega) (by omega), upd_lo (by decide) hj, upd_lo (by decide) hj]) (fun c hc => by rw [e] at hc; have e1 := cardP_1 hc; simp [cdP, e1, i2 c hc]))
          · refine z_iload_n d_m_isCard_96 97 rfl rfl rfl ?_
            refine z_bipush (v := nI 10) d_m_isCard_97 99 rfl rfl ?_
            refine z_icmp_neN (tgt := 129) d_m_isCard_99 102 rfl rfl (by omega) (by omega) (fun h99 => ?_) (fun h99 => ?_)
            · refine z_iconst (v := nI 0) d_m_isCard_129 130 rfl rfl ?_
              exact z_zretB (b := false) d_m_isCard_130 rfl (Nat.le_refl 0) (Nat.le_refl 0) (by first | (exfalso; omega) | (have e : (cardB (gB bs k) n).isSome = false := (by simp [cardB, card1, cardF, *]); rw [← e]; exact hQ _ (fun j hj => by simp only [upd_lo, hj, Nat.reduceLeDiff]) (fun c hc => by first | (exfalso; rw [hc] at e; simp at e; done) | (simp [cardB, card1, cardF, *] at hc; subst hc; simp [cdP, upd, *]))) | (exfalso; simp_all; done))
            · refine z_aload_n d_m_isCard_102 103 rfl rfl rfl ?_
              refine z_iload_n d_m_isCard_103 104 rfl rfl rfl ?_
              refine z_iload_n d_m_isCard_104 105 rfl rfl rfl ?_
              refine z_iconst (v := nI 3) d_m_isCard_105 106 rfl rfl ?_
              first | refine z_iaddN d_m_isCard_106 107 rfl ?_ | refine z_iadd d_m_isCard_106 107 rfl ?_
              refine zm_cV1 d_m_isCard_107 110 rfl mv_m_at kl_m_40 (by decide) (fun Q' h => c_m_atG s k 3 hr (by omega) hs hl h) rfl rfl (Nat.le_of_ble_eq_true rfl) ?_
              refine z_bipush (v := nI 32) d_m_isCard_110 112 rfl rfl ?_
              refine z_icmp_neN (tgt := 129) d_m_isCard_112 115 rfl rfl (by omega) (by omega) (fun h112 => ?_) (fun h112 => ?_)
              · refine z_iconst (v := nI 0) d_m_isCard_129 130 rfl rfl ?_
                exact z_zretB (b := false) d_m_isCard_130 rfl (Nat.le_refl 0) (Nat.le_refl 0) (by first | (exfalso; omega) | (have e : (cardB (gB bs k) n).isSome = false := (by simp [cardB, card1, cardF, *]); rw [← e]; exact hQ _ (fun j hj => by simp only [upd_lo, hj, Nat.reduceLeDiff]) (fun c hc => by first | (exfalso; rw [hc] at e; simp at e; done) | (simp [cardB, card1, cardF, *] at hc; subst hc; simp [cdP, upd, *]))) | (exfalso; simp_all; done))
              · refine z_aload_n d_m_isCard_115 116 rfl rfl rfl ?_
                refine z_iload_n d_m_isCard_116 117 rfl rfl rfl ?_
                refine z_iload_n d_m_isCard_117 118 rfl rfl rfl ?_
                refine z_iconst (v := nI 2) d_m_isCard_118 119 rfl rfl ?_
                first | refine z_iaddN d_m_isCard_119 120 rfl ?_ | refine z_iadd d_m_isCard_119 120 rfl ?_
                refine zm_cV1 d_m_isCard_120 123 rfl mv_m_at kl_m_40 (by decide) (fun Q' h => c_m_atG s k 2 hr (by omega) hs hl h) rfl rfl (Nat.le_of_ble_eq_true rfl) ?_
                refine zm_cS1 d_m_isCard_123 126 rfl ms_m_isDigit kl_m_70 (by decide) (fun Q' h => c_m_isDigit _ (by omega) h) rfl rfl (Nat.le_of_ble_eq_true rfl) ?_
                refine z_if_neB (tgt := 131) d_m_isCard_126 129 rfl rfl (fun h126 => ?_) (fun h126 => ?_)
                · refine z_aload_n d_m_isCard_131 132 rfl rfl rfl ?_
                  refine z_aload_n d_m_isCard_132 133 rfl rfl rfl ?_
                  refine z_iload_n d_m_isCard_133 134 rfl rfl rfl ?_
                  refine z_iload_n d_m_isCard_134 135 rfl rfl rfl ?_
                  refine z_iconst (v := nI 2) d_m_isCard_135 136 rfl rfl ?_
                  first | refine z_iaddN d_m_isCard_136 137 rfl ?_ | refine z_iadd d_m_isCard_136 137 rfl ?_
                  refine zm_cV1 d_m_isCard_137 140 rfl mv_m_at kl_m_40 (by decide) (fun Q' h => c_m_atG s k 2 hr (by omega) hs hl h) rfl rfl (Nat.le_of_ble_eq_true rfl) ?_
                  refine z_bipush (v := nI 48) d_m_isCard_140 142 rfl rfl ?_
                  refine z_isubN d_m_isCard_142 143 rfl (by simp [isDg] at h126; omega) ?_
                  refine zm_putF 12 d_m_isCard_143 146 rfl (p_m_74 _) (by decide) (by decide) ?_
                  refine z_aload_n d_m_isCard_146 147 rfl rfl rfl ?_
                  refine z_aload_n d_m_isCard_147 148 rfl rfl rfl ?_
                  refine z_iload_n d_m_isCard_148 149 rfl rfl rfl ?_
                  refine z_iload_n d_m_isCard_149 150 rfl rfl rfl ?_
                  refine z_iconst (v := nI 4) d_m_isCard_150 151 rfl rfl ?_
                  first | refine z_iaddN d_m_isCard_151 152 rfl ?_ | refine z_iadd d_m_isCard_151 152 rfl ?_
                  refine zm_cV1 d_m_isCard_152 155 rfl mv_m_nameAt kl_m_67 (by decide) (fun Q' h => c_m_nameAtG s k 4 hr (by omega) hs hl h) rfl rfl (Nat.le_of_ble_eq_true rfl) ?_
                  refine zm_putF 14 d_m_isCard_155 158 rfl (p_m_58 _) (by decide) (by decide) ?_
                  refine z_aload_n d_m_isCard_158 159 rfl rfl rfl ?_
                  refine zm_getF 14 d_m_isCard_159 162 rfl f_m_58 rfl ?_; try simp only [pk_us, pk_un, ne_eq, Nat.reduceEqDiff, not_false_eq_true]
                  refine z_if_ltO (tgt := 169) d_m_isCard_162 165 rfl rfl (fun v h => by first | (cases h; done) | (have := nm6_lt h; omega)) (fun h162 => ?_) (fun w162 h162 => ?_)
                  · refine z_iconst (v := nI 0) d_m_isCard_169 170 rfl rfl ?_
                    exact z_zretB (b := false) d_m_isCard_170 rfl (Nat.le_refl 0) (Nat.le_refl 0) (by first | (exfalso; omega) | (have e : (cardB (gB bs k) n).isSome = false := (by simp [cardB, card1, cardF, *]); rw [← e]; exact hQ _ (fun j hj => by simp only [upd_lo, hj, Nat.reduceLeDiff]) (fun c hc => by first | (exfalso; rw [hc] at e; simp at e; done) | (simp [cardB, card1, cardF, *] at hc; subst hc; simp [cdP, upd, *]))) | (exfalso; simp_all; done))
                  · refine z_iconst (v := nI 1) d_m_isCard_165 166 rfl rfl ?_
                    refine z_goto (tgt := 170) d_m_isCard_166 rfl ?_
                    exact z_zretB (b := true) d_m_isCard_170 rfl (Nat.le_refl 0) (Nat.le_refl 0) (by first | (exfalso; omega) | (have e : (cardB (gB bs k) n).isSome = true := (by simp [cardB, card1, cardF, *]); rw [← e]; exact hQ _ (fun j hj => by simp only [upd_lo, hj, Nat.reduceLeDiff]) (fun c hc => by first | (exfalso; rw [hc] at e; simp at e; done) | (simp [cardB, card1, cardF, *] at hc; subst hc; simp [cdP, upd, *]))) | (exfalso; simp_all; done))
                · refine z_iconst (v := nI 0) d_m_isCard_129 130 rfl rfl ?_
                  exact z_zretB (b := false) d_m_isCard_130 rfl (Nat.le_refl 0) (Nat.le_refl 0) (by first | (exfalso; omega) | (have e : (cardB (gB bs k) n).isSome = false := (by simp [cardB, card1, cardF, *]); rw [← e]; exact hQ _ (fun j hj => by simp only [upd_lo, hj, Nat.reduceLeDiff]) (fun c hc => by first | (exfalso; rw [hc] at e; simp at e; done) | (simp [cardB, card1, cardF, *] at hc; subst hc; simp [cdP, upd, *]))) | (exfalso; simp_all; done))
        · refine z_iload_n d_m_isCard_58 59 rfl rfl rfl ?_
          refine z_bipush (v := nI 8) d_m_isCard_59 61 rfl rfl ?_
          refine z_icmp_neN (tgt := 76) d_m_isCard_61 64 rfl rfl (by omega) (by omega) (fun h61 => ?_) (fun h61 => ?_)
          · refine z_aload_n d_m_isCard_76 77 rfl rfl rfl ?_
            refine zm_getF 14 d_m_isCard_77 80 rfl f_m_58 rfl ?_; try simp only [pk_us, pk_un, ne_eq, Nat.reduceEqDiff, not_false_eq_true]
            refine z_if_ltO (tgt := 87) d_m_isCard_80 83 rfl rfl (fun v h => by first | (cases h; done) | (have := nm6_lt h; omega)) (fun h80 => ?_) (fun w80 h80 => ?_)
            · refine z_iconst (v := nI 0) d_m_isCard_87 88 rfl rfl ?_
              exact z_zretB (b := false) d_m_isCard_88 rfl (Nat.le_refl 0) (Nat.le_refl 0) (by first | (exfalso; omega) | (have e : (cardB (gB bs k) n).isSome = false := (by simp [cardB, card1, cardF, *]); rw [← e]; exact hQ _ (fun j hj => by simp only [upd_lo, hj, Nat.reduceLeDiff]) (fun c hc => by first | (exfalso; rw [hc] at e; simp at e; done) | (simp [cardB, card1, cardF, *] at hc; subst hc; simp [cdP, upd, *]))) | (exfalso; simp_all; done))
            · refine z_iconst (v := nI 1) d_m_isCard_83 84 rfl rfl ?_
              refine z_goto (tgt := 88) d_m_isCard_84 rfl ?_
              exact z_zretB (b := true) d_m_isCard_88 rfl (Nat.le_refl 0) (Nat.le_refl 0) (by first | (exfalso; omega) | (have e : (cardB (gB bs k) n).isSome = true := (by simp [cardB, card1, cardF, *]); rw [← e]; exact hQ _ (fun j hj => by simp only [upd_lo, hj, Nat.reduceLeDiff]) (fun c hc => by first | (exfalso; rw [hc] at e; simp at e; done) | (simp [cardB, card1, cardF, *] at hc; subst hc; simp [cdP, upd, *]))) | (exfalso; simp_all; done))
          · refine z_aload_n d_m_isCard_64 65 rfl rfl rfl ?_
            refine z_aload_n d_m_isCard_65 66 rfl rfl rfl ?_
            refine z_iload_n d_m_isCard_66 67 rfl rfl rfl ?_
            refine z_iload_n d_m_isCard_67 68 rfl rfl rfl ?_
            refine z_iconst (v := nI 2) d_m_isCard_68 69 rfl rfl ?_
            first | refine z_iaddN d_m_isCard_69 70 rfl ?_ | refine z_iadd d_m_isCard_69 70 rfl ?_
            refine zm_cV1 d_m_isCard_70 73 rfl mv_m_nameAt kl_m_67 (by decide) (fun Q' h => c_m_nameAtG s k 2 hr (by omega) hs hl h) rfl rfl (Nat.le_of_ble_eq_true rfl) ?_
            refine zm_putF 14 d_m_isCard_73 76 rfl (p_m_58 _) (by decide) (by decide) ?_
            refine z_aload_n d_m_isCard_76 77 rfl rfl rfl ?_
            refine zm_getF 14 d_m_isCard_77 80 rfl f_m_58 rfl ?_; try simp only [pk_us, pk_un, ne_eq, Nat.reduceEqDiff, not_false_eq_true]
            refine z_if_ltO (tgt := 87) d_m_isCard_80 83 rfl rfl (fun v h => by first | (cases h; done) | (have := nm6_lt h; omega)) (fun h80 => ?_) (fun w80 h80 => ?_)
            · refine z_iconst (v := nI 0) d_m_isCard_87 88 rfl rfl ?_
              exact z_zretB (b := false) d_m_isCard_88 rfl (Nat.le_refl 0) (Nat.le_refl 0) (by first | (exfalso; omega) | (have e : (cardB (gB bs k) n).isSome = false := (by simp [cardB, card1, cardF, *]); rw [← e]; exact hQ _ (fun j hj => by simp only [upd_lo, hj, Nat.reduceLeDiff]) (fun c hc => by first | (exfalso; rw [hc] at e; simp at e; done) | (simp [cardB, card1, cardF, *] at hc; subst hc; simp [cdP, upd, *]))) | (exfalso; simp_all; done))
            · refine z_iconst (v := nI 1) d_m_isCard_83 84 rfl rfl ?_
              refine z_goto (tgt := 88) d_m_isCard_84 rfl ?_
              exact z_zretB (b := true) d_m_isCard_88 rfl (Nat.le_refl 0) (Nat.le_refl 0) (by first | (exfalso; omega) | (have e : (cardB (gB bs k) n).isSome = true := (by simp [cardB, card1, cardF, *]); rw [← e]; exact hQ _ (fun j hj => by simp only [upd_lo, hj, Nat.reduceLeDiff]) (fun c hc => by first | (exfalso; rw [hc] at e; simp at e; done) | (simp [cardB, card1, cardF, *] at hc; subst hc; simp [cdP, upd, *]))) | (exfalso; simp_all; done))
  · refine z_aload_n d_m_isCard_25 26 rfl rfl rfl ?_
    refine z_iload_n d_m_isCard_26 27 rfl rfl rfl ?_
    refine z_iload_n d_m_isCard_27 28 rfl rfl rfl ?_
    refine z_iconst (v := nI 2) d_m_isCard_28 29 rfl rfl ?_
    first | refine z_iaddN d_m_isCard_29 30 rfl ?_ | refine z_iadd d_m_isCard_29 30 rfl ?_
    refine z_iload_n d_m_isCard_30 31 rfl rfl rfl ?_
    refine z_iconst (v := nI 2) d_m_isCard_31 32 rfl rfl ?_
    refine z_isubN d_m_isCard_32 33 rfl (by omega) ?_
    refine zm_cV (fun v a f => v = .int (zb (cardD (gB bs k) n).isSome) ∧ a = va ∧ (∀ j, j ≠ 16 → f j = upd (upd vf 14 (oI none)) 15 (oI none) j) ∧ ∀ c, cardD (gB bs k) n = some c → f 16 = nI c.2.2.2.2.2) d_m_isCard_33 36 rfl mv_m_isNumber kl_m_64 (by decide) (fun Q' h => c_m_isNumber s k n hr hn hk hs hl (fun f h1 h2 => h _ _ _ ⟨rfl, rfl, h1, h2⟩)) rfl rfl (Nat.le_of_ble_eq_true rfl) ?_; rintro _ _ f ⟨rfl, rfl, i1, i2⟩
    exact z_zretB d_m_isCard_36 rfl (Nat.le_refl 0) (Nat.le_refl 0) (by have e : cardB (gB bs k) n = cardD (gB bs k) n := (by simp [cardB, *]); rw [← e]; exact hQ f (fun j hj => by rw [i1 j (by omega), upd_lo (by decide) hj, upd_lo (by decide) hj]) (fun c hc => by rw [e] at hc; obtain ⟨e1, e2, e3⟩ := cardD_1 hc; simp [cdP, e1, e2, e3, i1, i2 c hc, upd]))
end M4
