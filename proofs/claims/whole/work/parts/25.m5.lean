/-! The reference: lines. Own work. -/
def eolF (bs : List Nat) : Nat → Nat → Nat
  | 0, j => j
  | c + 1, j => if bs.getD j 0 = 10 then j else eolF bs c (j + 1)
def eol (bs : List Nat) (k : Nat) : Nat := eolF bs (bs.length - k) k
theorem eolF_le (bs : List Nat) : ∀ c j, j ≤ eolF bs c j ∧ eolF bs c j ≤ j + c := by
  intro c
  induction c with
  | zero => intro j; simp [eolF]
  | succ c ih =>
    intro j
    simp only [eolF]
    split
    · omega
    · have := ih (j + 1); omega
theorem eol_le {bs : List Nat} {k : Nat} (h : k ≤ bs.length) : k ≤ eol bs k ∧ eol bs k ≤ bs.length := by
  have := eolF_le bs (bs.length - k) k
  unfold eol
  omega
theorem eolF_at (bs : List Nat) : ∀ c j, eolF bs c j < j + c → bs.getD (eolF bs c j) 0 = 10 := by
  intro c
  induction c with
  | zero => intro j h; simp [eolF] at h
  | succ c ih =>
    intro j h
    simp only [eolF] at h ⊢
    split
    next h1 => exact h1
    next h1 => rw [if_neg h1] at h; exact ih (j + 1) (by omega)
theorem eol_at {bs : List Nat} {k : Nat} (hk : k ≤ bs.length) (h : eol bs k < bs.length) : bs.getD (eol bs k) 0 = 10 := eolF_at bs _ _ (by unfold eol at h; omega)
theorem eolF_no (bs : List Nat) : ∀ c j i, j ≤ i → i < eolF bs c j → bs.getD i 0 ≠ 10 := by
  intro c
  induction c with
  | zero => intro j i h1 h2; simp [eolF] at h2; omega
  | succ c ih =>
    intro j i h1 h2
    simp only [eolF] at h2
    split at h2
    · omega
    next h3 =>
      by_cases h : i = j
      · rw [h]; exact h3
      · exact ih (j + 1) i (by omega) h2
/-- the line from k on: where the next begins, and its card -/
def rdl (bs : List Nat) (k : Nat) : Option (Nat × Option CV) := if eol bs k < bs.length then some (eol bs k + 1, cardG (gB bs k) (eol bs k - k)) else none
def rdP (r : Option (Nat × Option CV)) (f : Nat → Int32) : Prop := match r with
  | none => f 11 = nI 0
  | some (e, none) => f 10 = nI e ∧ f 11 = nI 0
  | some (e, some c) => f 10 = nI e ∧ f 11 = nI c.1 ∧ cdP c f
theorem cardB_1 {g : Nat → Nat} {n : Nat} {c : CV} (h : cardB g n = some c) : c.1 = g 0 := by
  simp only [cardB] at h
  split at h
  next h0 => rw [(cardD_1 h).1, h0]
  next =>
    split at h
    · simp only [card1] at h
      split at h
      · obtain ⟨v, -, rfl⟩ := Option.map_eq_some_iff.mp h; rfl
      · cases h
    · split at h
      next h0 =>
        simp only [cardF] at h
        split at h
        · obtain ⟨v, -, rfl⟩ := Option.map_eq_some_iff.mp h; exact h0.symm
        · cases h
      next =>
        split at h
        next h0 => rw [cardP_1 h, h0]
        next =>
          split at h
          next h0 => rw [cardT_1 h, h0]
          next => cases h
section M5
variable {l : Launch} {D : zD} {hp : zH} {o : Nat} {va : Nat → Nat → Int32} {vf : Nat → Int32} {Q : Option Value → zH → Prop}
theorem c_m_readLine (s k : Nat) {bs : List Nat} (hr : zrow va s bs) (hlen : va 1 s = nI bs.length) (hk : k ≤ bs.length) (hs : s < 66) (hl : bs.length ≤ 240)
    (hQ : ∀ f : Nat → Int32, f 9 = vf 9 → rdP (rdl bs k) f → Q (some (.int (zb (rdl bs k).isSome))) (zmod D o hp va f)) :
    Runs l D M_m_readLine [.ref o, .int (nI s), .int (nI k)] (zmod D o hp va vf) 0 0 Q := by
  refine Runs.of rfl rfl (Nat.le_of_ble_eq_true rfl) ?_
  have hlt := gB_lt hr k
  have g0 := hlt 0
  have g1 := hlt 1
  have hek := eol_le hk
  have fin : Z l D M_m_readLine 0 0 Q (zmod D o hp va vf) 0 0 29 [some (.ref o), some (.int (nI s)), some (.int (nI k)), some (.int (nI (eol bs k))), none] [] := by
    have done1 : eol bs k < bs.length → cardG (gB bs k) (eol bs k - k) = none → ∀ f : Nat → Int32, f 9 = vf 9 → f 10 = nI (eol bs k + 1) → f 11 = nI 0 → Q (some (.int (zb true))) (zmod D o hp va f) := by
      intro h1 h2 f f9 f10 f11
      have e : rdl bs k = some (eol bs k + 1, none) := by simp [rdl, h1, h2]
      have := hQ f f9 (by rw [e]; exact ⟨f10, f11⟩)
      rw [e] at this
      exact this
    have keep : ∀ j, j < 12 → j ≠ 10 → j ≠ 11 → upd (upd vf 11 (nI 0)) 10 (nI (eol bs k + 1)) j = vf j := by intro j _ h1 h2; simp [upd, h1, h2]
    refine z_aload_n d_m_readLine_29 30 rfl rfl rfl ?_
    refine z_iconst (v := nI 0) d_m_readLine_30 31 rfl rfl ?_
    refine zm_putF 11 d_m_readLine_31 34 rfl (p_m_47 _) (by decide) (by decide) ?_
    refine z_iload_n d_m_readLine_34 35 rfl rfl rfl ?_
    refine z_aload_n d_m_readLine_35 36 rfl rfl rfl ?_
    refine zm_getA 1 d_m_readLine_36 39 rfl f_m_13 rfl ?_
    refine z_iload_n d_m_readLine_39 40 rfl rfl rfl ?_
    refine zm_iald d_m_readLine_40 41 rfl (by decide) rfl (by simp only [zln]; omega) ?_
    rw [hlen]
    refine z_icmp_ltN (tgt := 46) d_m_readLine_41 44 rfl rfl (by omega) (by omega) (fun h41 => ?_) (fun h41 => ?_)
    · refine z_aload_n d_m_readLine_46 47 rfl rfl rfl ?_
      refine z_iload_n d_m_readLine_47 48 rfl rfl rfl ?_
      refine z_iconst (v := nI 1) d_m_readLine_48 49 rfl rfl ?_
      first | refine z_iaddN d_m_readLine_49 50 rfl ?_ | refine z_iadd d_m_readLine_49 50 rfl ?_
      refine zm_putF 10 d_m_readLine_50 53 rfl (p_m_51 _) (by decide) (by decide) ?_
      refine z_iload_n d_m_readLine_53 54 rfl rfl rfl ?_
      refine z_iload_n d_m_readLine_54 55 rfl rfl rfl ?_
      refine z_isubN d_m_readLine_55 56 rfl (by omega) ?_
      refine z_ist4 d_m_readLine_56 58 rfl rfl ?_
      refine z_iload d_m_readLine_58 60 rfl rfl ?_
      refine z_iconst (v := nI 3) d_m_readLine_60 61 rfl rfl ?_
      have p61 : ∀ a b : Int32, upd (upd vf 11 a) 10 b 10 = b ∧ upd (upd vf 11 a) 10 b 11 = a ∧ upd (upd vf 11 a) 10 b 9 = vf 9 := by intro a b; simp [upd]
      refine z_icmp_ltN (tgt := 98) d_m_readLine_61 64 rfl rfl (by omega) (by omega) (fun h61 => ?_) (fun h61 => ?_)
      · refine z_iconst (v := nI 1) d_m_readLine_98 99 rfl rfl ?_
        exact z_zretB (b := true) d_m_readLine_99 rfl (Nat.le_refl 0) (Nat.le_refl 0) (done1 h41 (by simp [cardG]; omega) _ (p61 _ _).2.2 (p61 _ _).1 (p61 _ _).2.1)
      · refine z_aload_n d_m_readLine_64 65 rfl rfl rfl ?_
        refine z_iload_n d_m_readLine_65 66 rfl rfl rfl ?_
        refine z_iload_n d_m_readLine_66 67 rfl rfl rfl ?_
        refine z_iconst (v := nI 1) d_m_readLine_67 68 rfl rfl ?_
        first | refine z_iaddN d_m_readLine_68 69 rfl ?_ | refine z_iadd d_m_readLine_68 69 rfl ?_
        refine zm_cV1 d_m_readLine_69 72 rfl mv_m_at kl_m_40 (by decide) (fun Q' h => c_m_atG s k 1 hr (by omega) hs hl h) rfl rfl (Nat.le_of_ble_eq_true rfl) ?_
        refine z_bipush (v := nI 32) d_m_readLine_72 74 rfl rfl ?_
        refine z_icmp_neN (tgt := 98) d_m_readLine_74 77 rfl rfl (by omega) (by omega) (fun h74 => ?_) (fun h74 => ?_)
        · refine z_iconst (v := nI 1) d_m_readLine_98 99 rfl rfl ?_
          exact z_zretB (b := true) d_m_readLine_99 rfl (Nat.le_refl 0) (Nat.le_refl 0) (done1 h41 (by simp [cardG]; omega) _ (p61 _ _).2.2 (p61 _ _).1 (p61 _ _).2.1)
        · have hcg : cardG (gB bs k) (eol bs k - k) = cardB (gB bs k) (eol bs k - k) := by simp [cardG, h74, h61]
          refine z_aload_n d_m_readLine_77 78 rfl rfl rfl ?_
          refine z_iload_n d_m_readLine_78 79 rfl rfl rfl ?_
          refine z_iload_n d_m_readLine_79 80 rfl rfl rfl ?_
          refine z_iload d_m_readLine_80 82 rfl rfl ?_
          refine zm_cV (fun v a f => v = .int (zb (cardB (gB bs k) (eol bs k - k)).isSome) ∧ a = va ∧ (∀ j, j < 12 → f j = upd (upd vf 11 (nI 0)) 10 (nI (eol bs k + 1)) j) ∧ ∀ c, cardB (gB bs k) (eol bs k - k) = some c → cdP c f) d_m_readLine_82 85 rfl mv_m_isCard kl_m_54 (by decide) (fun Q' h => c_m_isCard s k _ hr (by omega) (by omega) hs hl (fun f h1 h2 => h _ _ _ ⟨rfl, rfl, h1, h2⟩)) rfl rfl (Nat.le_of_ble_eq_true rfl) ?_; rintro _ _ f ⟨rfl, rfl, i1, i2⟩
          refine z_if_eqB (tgt := 98) d_m_readLine_85 88 rfl rfl (fun h85 => ?_) (fun h85 => ?_)
          · refine z_iconst (v := nI 1) d_m_readLine_98 99 rfl rfl ?_
            exact z_zretB (b := true) d_m_readLine_99 rfl (Nat.le_refl 0) (Nat.le_refl 0) (done1 h41 (by rw [hcg]; simpa using h85) _ (by rw [i1 9 (by decide), (p61 _ _).2.2]) (by rw [i1 10 (by decide), (p61 _ _).1]) (by rw [i1 11 (by decide), (p61 _ _).2.1]))
          · obtain ⟨c, hc⟩ := Option.isSome_iff_exists.mp h85
            refine z_aload_n d_m_readLine_88 89 rfl rfl rfl ?_
            refine z_aload_n d_m_readLine_89 90 rfl rfl rfl ?_
            refine z_iload_n d_m_readLine_90 91 rfl rfl rfl ?_
            refine z_iload_n d_m_readLine_91 92 rfl rfl rfl ?_
            refine zm_cV1 d_m_readLine_92 95 rfl mv_m_at kl_m_40 (by decide) (fun Q' h => c_m_at0 s k hr (by omega) hs hl h) rfl rfl (Nat.le_of_ble_eq_true rfl) ?_
            refine zm_putF 11 d_m_readLine_95 98 rfl (p_m_47 _) (by decide) (by decide) ?_
            refine z_iconst (v := nI 1) d_m_readLine_98 99 rfl rfl ?_
            have e : rdl bs k = some (eol bs k + 1, some c) := by simp [rdl, h41, hcg, hc]
            have hcd := i2 c hc
            have := hQ (upd f 11 (nI (gB bs k 0))) (by simp [upd]; rw [i1 9 (by decide), (p61 _ _).2.2]) (by rw [e]; refine ⟨?_, ?_, ?_⟩; (simp [upd]; rw [i1 10 (by decide), (p61 _ _).1]); (rw [cardB_1 hc, pk_us]); (simpa [cdP, upd] using hcd))
            rw [e] at this
            exact z_zretB (b := true) d_m_readLine_99 rfl (Nat.le_refl 0) (Nat.le_refl 0) this
    · refine z_iconst (v := nI 0) d_m_readLine_44 45 rfl rfl ?_
      have e : rdl bs k = none := by simp [rdl]; omega
      have := hQ (upd vf 11 (nI 0)) (by simp [upd]) (by rw [e]; simp [rdP, upd])
      rw [e] at this
      exact z_zretB (b := false) d_m_readLine_45 rfl (Nat.le_refl 0) (Nat.le_refl 0) this
  have loop : ∀ (c j : Nat), j + c = bs.length → k ≤ j → eolF bs c j = eol bs k → Z l D M_m_readLine 0 0 Q (zmod D o hp va vf) 0 0 2 [some (.ref o), some (.int (nI s)), some (.int (nI k)), some (.int (nI j)), none] [] := by
    intro c
    induction c with
    | zero =>
      intro j hj hkj he
      refine z_iload_n d_m_readLine_2 3 rfl rfl rfl ?_
      refine z_aload_n d_m_readLine_3 4 rfl rfl rfl ?_
      refine zm_getA 1 d_m_readLine_4 7 rfl f_m_13 rfl ?_
      refine z_iload_n d_m_readLine_7 8 rfl rfl rfl ?_
      refine zm_iald d_m_readLine_8 9 rfl (by decide) rfl (by simp only [zln]; omega) ?_
      rw [hlen]
      refine z_icmp_geN (tgt := 29) d_m_readLine_9 12 rfl rfl (by omega) (by omega) (fun h9 => ?_) (fun h9 => ?_)
      · rw [eolF] at he
        rw [he]
        exact fin
      · omega
    | succ c ih =>
      intro j hj hkj he
      have hbj := (hr j (by omega)).1
      refine z_iload_n d_m_readLine_2 3 rfl rfl rfl ?_
      refine z_aload_n d_m_readLine_3 4 rfl rfl rfl ?_
      refine zm_getA 1 d_m_readLine_4 7 rfl f_m_13 rfl ?_
      refine z_iload_n d_m_readLine_7 8 rfl rfl rfl ?_
      refine zm_iald d_m_readLine_8 9 rfl (by decide) rfl (by simp only [zln]; omega) ?_
      rw [hlen]
      refine z_icmp_geN (tgt := 29) d_m_readLine_9 12 rfl rfl (by omega) (by omega) (fun h9 => ?_) (fun h9 => ?_)
      · omega
      · refine z_aload_n d_m_readLine_12 13 rfl rfl rfl ?_
        refine z_iload_n d_m_readLine_13 14 rfl rfl rfl ?_
        refine z_iload_n d_m_readLine_14 15 rfl rfl rfl ?_
        refine zm_cV1 d_m_readLine_15 18 rfl mv_m_at kl_m_40 (by decide) (fun Q' h => c_m_at s j hr (by omega) (by omega) h) rfl rfl (Nat.le_of_ble_eq_true rfl) ?_
        refine z_bipush (v := nI 10) d_m_readLine_18 20 rfl rfl ?_
        refine z_icmp_eqN (tgt := 29) d_m_readLine_20 23 rfl rfl (by omega) (by omega) (fun h20 => ?_) (fun h20 => ?_)
        · rw [eolF, if_pos h20] at he
          rw [he]
          exact fin
        · rw [eolF, if_neg h20] at he
          first | refine z_incN3 d_m_readLine_23 26 rfl rfl ?_ | refine z_inc3 d_m_readLine_23 26 rfl rfl rfl ?_
          refine z_goto (tgt := 2) d_m_readLine_26 rfl ?_
          exact ih (j + 1) (by omega) (by omega) he
  refine z_iload_n d_m_readLine_0 1 rfl rfl rfl ?_
  refine z_ist3 d_m_readLine_1 2 rfl rfl ?_
  exact loop (bs.length - k) k (by omega) (by omega) rfl
end M5
