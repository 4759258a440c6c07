/-! The reference: at, digest, names and digits. Own work. -/
def zrow (va : Nat → Nat → Int32) (s : Nat) (bs : List Nat) : Prop := ∀ k, k < bs.length → bs.getD k 0 < 256 ∧ va 0 (240 * s + k) = sb_b (bs.getD k 0)
theorem sb_and {b : Nat} (h : b < 256) : sb_b b &&& nI 255 = nI b := (sb_byte b h).1
def isNm (v : Int32) : Bool := !decide (v < 0) && !decide (nI 16777215 < v)
section M1
variable {l : Launch} {D : zD} {hp : zH} {o : Nat} {va : Nat → Nat → Int32} {vf : Nat → Int32} {Q : Option Value → zH → Prop}
theorem c_m_at (s k : Nat) {bs : List Nat} (hr : zrow va s bs) (hk : k < bs.length) (hs : 240 * s + k < 15840) (hQ : Q (some (.int (nI (bs.getD k 0)))) (zmod D o hp va vf)) : Runs l D M_m_at [.ref o, .int (nI s), .int (nI k)] (zmod D o hp va vf) 0 0 Q := by
  refine Runs.of rfl rfl (Nat.le_of_ble_eq_true rfl) ?_
  refine z_aload_n d_m_at_0 1 rfl rfl rfl ?_
  refine zm_getA 0 d_m_at_1 4 rfl f_m_7 rfl ?_
  refine z_sipush (v := nI 240) d_m_at_4 7 rfl rfl ?_
  refine z_iload_n d_m_at_7 8 rfl rfl rfl ?_
  first | refine z_imulN d_m_at_8 9 rfl ?_ | refine z_imul d_m_at_8 9 rfl ?_
  refine z_iload_n d_m_at_9 10 rfl rfl rfl ?_
  first | refine z_iaddN d_m_at_10 11 rfl ?_ | refine z_iadd d_m_at_10 11 rfl ?_
  refine zm_bald d_m_at_11 12 rfl (by omega) ?_
  refine z_sipush (v := nI 255) d_m_at_12 15 rfl rfl ?_
  refine z_iand d_m_at_15 16 rfl ?_
  rw [(hr k hk).2, sb_and (hr k hk).1]
  exact z_iret d_m_at_16 rfl (Nat.le_refl 0) (Nat.le_refl 0) hQ
theorem c_m_digest (b0 s n : Nat) {bs : List Nat} (hr : zrow va s bs) (hn : n ≤ bs.length) (hs : s < 66) (hl : bs.length ≤ 240) (hb0 : b0 < 16777213) (hQ : Q (some (.int (nI (dg b0 (bs.take n))))) (zmod D o hp va vf)) : Runs l D M_m_digest [.ref o, .int (nI b0), .int (nI s), .int (nI n)] (zmod D o hp va vf) 0 0 Q := by
  refine Runs.of rfl rfl (Nat.le_of_ble_eq_true rfl) ?_
  refine z_iload_n d_m_digest_0 1 rfl rfl rfl ?_
  refine z_i2lN d_m_digest_1 2 rfl (by omega) ?_
  refine z_lst4 d_m_digest_2 4 rfl rfl ?_
  refine z_iconst (v := nI 0) d_m_digest_4 5 rfl rfl ?_
  refine z_ist6 d_m_digest_5 7 rfl rfl ?_
  have loop : ∀ (i j : Nat), j + i = n → Z l D M_m_digest 0 0 Q (zmod D o hp va vf) 0 0 7 [some (.ref o), some (.int (nI b0)), some (.int (nI s)), some (.int (nI n)), some (.long (lN (dg b0 (bs.take j)))), none, some (.int (nI j))] [] := by
    intro i
    induction i with
    | zero =>
      intro j hj
      have hj : j = n := by omega
      subst hj
      refine z_iload d_m_digest_7 9 rfl rfl ?_
      refine z_iload_n d_m_digest_9 10 rfl rfl rfl ?_
      refine z_icmp_geN (tgt := 42) d_m_digest_10 13 rfl rfl (by omega) (by omega) (fun h10 => ?_) (fun h10 => ?_)
      · refine z_lload d_m_digest_42 44 rfl rfl ?_
        refine z_l2iN d_m_digest_44 45 rfl ?_
        exact z_iret d_m_digest_45 rfl (Nat.le_refl 0) (Nat.le_refl 0) hQ
      · omega
    | succ i ih =>
      intro j hj
      refine z_iload d_m_digest_7 9 rfl rfl ?_
      refine z_iload_n d_m_digest_9 10 rfl rfl rfl ?_
      refine z_icmp_geN (tgt := 42) d_m_digest_10 13 rfl rfl (by omega) (by omega) (fun h10 => ?_) (fun h10 => ?_)
      · omega
      · have hd := dg_lt hb0 (bs.take j)
        have hbj := (hr j (by omega)).1
        refine z_ldc2 d_m_digest_13 16 rfl ct_m_38 ?_
        refine z_lload d_m_digest_16 18 rfl rfl ?_
        first | refine z_lmulN d_m_digest_18 19 rfl ?_ | refine z_lmul d_m_digest_18 19 rfl ?_
        refine z_aload_n d_m_digest_19 20 rfl rfl rfl ?_
        refine z_iload_n d_m_digest_20 21 rfl rfl rfl ?_
        refine z_iload d_m_digest_21 23 rfl rfl ?_
        refine zm_cV1 d_m_digest_23 26 rfl mv_m_at kl_m_40 (by decide) (fun Q' h => c_m_at s j hr (by omega) (by omega) h) rfl rfl (Nat.le_of_ble_eq_true rfl) ?_
        refine z_i2lN d_m_digest_26 27 rfl (by omega) ?_
        first | refine z_laddN d_m_digest_27 28 rfl ?_ | refine z_ladd d_m_digest_27 28 rfl ?_
        refine z_lconst (v := lN 1) d_m_digest_28 29 rfl rfl ?_
        first | refine z_laddN d_m_digest_29 30 rfl ?_ | refine z_ladd d_m_digest_29 30 rfl ?_
        refine z_ldc2 d_m_digest_30 33 rfl ct_m_44 ?_
        refine z_lremN d_m_digest_33 34 rfl (by omega) (by omega) (by omega) ?_
        refine z_lst4 d_m_digest_34 36 rfl rfl ?_
        rw [← dg_take_succ b0 (by omega)]
        first | refine z_incN6 d_m_digest_36 39 rfl rfl ?_ | refine z_inc6 d_m_digest_36 39 rfl rfl rfl ?_
        refine z_goto (tgt := 7) d_m_digest_39 rfl ?_
        exact ih (j + 1) (by omega)
  exact loop n 0 (by omega)
theorem c_m_isName (v : Int32) (hQ : Q (some (.int (zb (isNm v)))) hp) : Runs l D M_m_isName [.int v] hp 0 0 Q := by
  refine Runs.of rfl rfl (Nat.le_of_ble_eq_true rfl) ?_
  refine z_iload_n d_m_isName_0 1 rfl rfl rfl ?_
  refine z_if_lt (tgt := 14) d_m_isName_1 4 rfl rfl (fun h1 => ?_) (fun h1 => ?_)
  · refine z_iconst (v := nI 0) d_m_isName_14 15 rfl rfl ?_
    exact z_zretB (b := false) d_m_isName_15 rfl (Nat.le_refl 0) (Nat.le_refl 0) (by simpa [isNm, *] using hQ)
  · refine z_iload_n d_m_isName_4 5 rfl rfl rfl ?_
    refine z_ldc d_m_isName_5 7 rfl ct_m_46 ?_
    refine z_icmp_gt (tgt := 14) d_m_isName_7 10 rfl rfl (fun h7 => ?_) (fun h7 => ?_)
    · refine z_iconst (v := nI 0) d_m_isName_14 15 rfl rfl ?_
      exact z_zretB (b := false) d_m_isName_15 rfl (Nat.le_refl 0) (Nat.le_refl 0) (by simpa [isNm, *] using hQ)
    · refine z_iconst (v := nI 1) d_m_isName_10 11 rfl rfl ?_
      refine z_goto (tgt := 15) d_m_isName_11 rfl ?_
      exact z_zretB (b := true) d_m_isName_15 rfl (Nat.le_refl 0) (Nat.le_refl 0) (by simpa [isNm, *] using hQ)
theorem c_m_isDigit (b : Nat) (hb : b < 2 ^ 31) (hQ : Q (some (.int (zb (isDg b)))) hp) : Runs l D M_m_isDigit [.int (nI b)] hp 0 0 Q := by
  refine Runs.of rfl rfl (Nat.le_of_ble_eq_true rfl) ?_
  refine z_iload_n d_m_isDigit_0 1 rfl rfl rfl ?_
  refine z_bipush (v := nI 48) d_m_isDigit_1 3 rfl rfl ?_
  refine z_icmp_ltN (tgt := 16) d_m_isDigit_3 6 rfl rfl (by omega) (by omega) (fun h3 => ?_) (fun h3 => ?_)
  · refine z_iconst (v := nI 0) d_m_isDigit_16 17 rfl rfl ?_
    exact z_zretB (b := false) d_m_isDigit_17 rfl (Nat.le_refl 0) (Nat.le_refl 0) (by rw [show isDg b = false by (simp only [isDg, Bool.and_eq_false_iff, Bool.and_eq_true, decide_eq_true_eq, decide_eq_false_iff_not]; omega)] at hQ; exact hQ)
  · refine z_iload_n d_m_isDigit_6 7 rfl rfl rfl ?_
    refine z_bipush (v := nI 57) d_m_isDigit_7 9 rfl rfl ?_
    refine z_icmp_gtN (tgt := 16) d_m_isDigit_9 12 rfl rfl (by omega) (by omega) (fun h9 => ?_) (fun h9 => ?_)
    · refine z_iconst (v := nI 0) d_m_isDigit_16 17 rfl rfl ?_
      exact z_zretB (b := false) d_m_isDigit_17 rfl (Nat.le_refl 0) (Nat.le_refl 0) (by rw [show isDg b = false by (simp only [isDg, Bool.and_eq_false_iff, Bool.and_eq_true, decide_eq_true_eq, decide_eq_false_iff_not]; omega)] at hQ; exact hQ)
    · refine z_iconst (v := nI 1) d_m_isDigit_12 13 rfl rfl ?_
      refine z_goto (tgt := 17) d_m_isDigit_13 rfl ?_
      exact z_zretB (b := true) d_m_isDigit_17 rfl (Nat.le_refl 0) (Nat.le_refl 0) (by rw [show isDg b = true by (simp only [isDg, Bool.and_eq_false_iff, Bool.and_eq_true, decide_eq_true_eq, decide_eq_false_iff_not]; omega)] at hQ; exact hQ)
theorem c_m_nameAt (s k : Nat) {bs : List Nat} (hr : zrow va s bs) (hk : k + 6 ≤ bs.length) (hs : s < 66) (hl : bs.length ≤ 240) (hQ : Q (some (.int (oI (nm6 (gB bs 0) k)))) (zmod D o hp va vf)) : Runs l D M_m_nameAt [.ref o, .int (nI s), .int (nI k)] (zmod D o hp va vf) 0 0 Q := by
  refine Runs.of rfl rfl (Nat.le_of_ble_eq_true rfl) ?_
  refine z_iconst (v := nI 0) d_m_nameAt_0 1 rfl rfl ?_
  refine z_ist3 d_m_nameAt_1 2 rfl rfl ?_
  refine z_iload_n d_m_nameAt_2 3 rfl rfl rfl ?_
  refine z_ist4 d_m_nameAt_3 5 rfl rfl ?_
  have loop : ∀ (c j v : Nat) (z : Option Value), j + c = k + 6 → c ≤ 6 → v < 16 ^ (6 - c) → (z = none ∨ ∃ y, z = some (.int y)) → Q (some (.int (oI (nmF (gB bs 0) j c v)))) (zmod D o hp va vf) → Z l D M_m_nameAt 0 0 Q (zmod D o hp va vf) 0 0 5 [some (.ref o), some (.int (nI s)), some (.int (nI k)), some (.int (nI v)), some (.int (nI j)), z] [] := by
    intro c
    induction c with
    | zero =>
      intro j v z hj hc hv hz hQ
      refine z_iload d_m_nameAt_5 7 rfl rfl ?_
      refine z_iload_n d_m_nameAt_7 8 rfl rfl rfl ?_
      refine z_bipush (v := nI 6) d_m_nameAt_8 10 rfl rfl ?_
      first | refine z_iaddN d_m_nameAt_10 11 rfl ?_ | refine z_iadd d_m_nameAt_10 11 rfl ?_
      refine z_icmp_geN (tgt := 54) d_m_nameAt_11 14 rfl rfl (by omega) (by omega) (fun h11 => ?_) (fun h11 => ?_)
      · refine z_iload_n d_m_nameAt_54 55 rfl rfl rfl ?_
        exact z_iret d_m_nameAt_55 rfl (Nat.le_refl 0) (Nat.le_refl 0) hQ
      · omega
    | succ c ih =>
      intro j v z hj hc hv hz hQ
      have hv2 : 16 ^ (6 - c) = 16 ^ (6 - (c + 1)) * 16 := by rw [← Nat.pow_succ]; congr 1; omega
      have hv3 : 16 ^ (6 - c) ≤ 16 ^ 6 := Nat.pow_le_pow_right (by decide) (by omega)
      have hbj := (hr j (by omega)).1
      have e : gB bs 0 j = bs.getD j 0 := by simp [gB]
      rw [nmF, e] at hQ
      refine z_iload d_m_nameAt_5 7 rfl rfl ?_
      refine z_iload_n d_m_nameAt_7 8 rfl rfl rfl ?_
      refine z_bipush (v := nI 6) d_m_nameAt_8 10 rfl rfl ?_
      first | refine z_iaddN d_m_nameAt_10 11 rfl ?_ | refine z_iadd d_m_nameAt_10 11 rfl ?_
      refine z_icmp_geN (tgt := 54) d_m_nameAt_11 14 rfl rfl (by omega) (by omega) (fun h11 => ?_) (fun h11 => ?_)
      · omega
      · refine z_aload_n d_m_nameAt_14 15 rfl rfl rfl ?_
        refine z_iload_n d_m_nameAt_15 16 rfl rfl rfl ?_
        refine z_iload d_m_nameAt_16 18 rfl rfl ?_
        refine zm_cV1 d_m_nameAt_18 21 rfl mv_m_at kl_m_40 (by decide) (fun Q' h => c_m_at s j hr (by omega) (by omega) h) rfl rfl (Nat.le_of_ble_eq_true rfl) ?_
        refine z_bipush (v := nI 97) d_m_nameAt_21 23 rfl rfl ?_
        by_cases h97 : 97 ≤ bs.getD j 0
        · refine z_isubN d_m_nameAt_23 24 rfl (by omega) ?_
          refine z_ist5 d_m_nameAt_24 26 rfl rfl ?_
          refine z_iload d_m_nameAt_26 28 rfl rfl ?_
          refine z_if_lt (tgt := 38) d_m_nameAt_28 31 rfl rfl (fun h28 => ?_) (fun h28 => ?_)
          · exact absurd h28 (nI_pos (by omega))
          · refine z_iload d_m_nameAt_31 33 rfl rfl ?_
            refine z_bipush (v := nI 15) d_m_nameAt_33 35 rfl rfl ?_
            refine z_icmp_leN (tgt := 40) d_m_nameAt_35 38 rfl rfl (by omega) (by omega) (fun h35 => ?_) (fun h35 => ?_)
            · rw [if_pos ⟨h97, by omega⟩] at hQ
              refine z_bipush (v := nI 16) d_m_nameAt_40 42 rfl rfl ?_
              refine z_iload_n d_m_nameAt_42 43 rfl rfl rfl ?_
              first | refine z_imulN d_m_nameAt_43 44 rfl ?_ | refine z_imul d_m_nameAt_43 44 rfl ?_
              refine z_iload d_m_nameAt_44 46 rfl rfl ?_
              first | refine z_iaddN d_m_nameAt_46 47 rfl ?_ | refine z_iadd d_m_nameAt_46 47 rfl ?_
              refine z_ist3 d_m_nameAt_47 48 rfl rfl ?_
              first | refine z_incN4 d_m_nameAt_48 51 rfl rfl ?_ | refine z_inc4 d_m_nameAt_48 51 rfl rfl rfl ?_
              refine z_goto (tgt := 5) d_m_nameAt_51 rfl ?_
              exact ih (j + 1) (16 * v + (bs.getD j 0 - 97)) _ (by omega) (by omega) (by omega) (Or.inr ⟨_, rfl⟩) hQ
            · rw [if_neg (by omega)] at hQ
              refine z_iconst (v := -1) d_m_nameAt_38 39 rfl (by decide) ?_
              exact z_iret d_m_nameAt_39 rfl (Nat.le_refl 0) (Nat.le_refl 0) hQ
        · refine z_isub d_m_nameAt_23 24 rfl ?_
          refine z_ist5 d_m_nameAt_24 26 rfl rfl ?_
          refine z_iload d_m_nameAt_26 28 rfl rfl ?_
          refine z_if_lt (tgt := 38) d_m_nameAt_28 31 rfl rfl (fun h28 => ?_) (fun h28 => ?_)
          · rw [if_neg (by omega)] at hQ
            refine z_iconst (v := -1) d_m_nameAt_38 39 rfl (by decide) ?_
            exact z_iret d_m_nameAt_39 rfl (Nat.le_refl 0) (Nat.le_refl 0) hQ
          · exact absurd (pk_sneg (by omega) (by omega)) h28
  exact loop 6 k 0 none (by omega) (by omega) (by decide) (Or.inl rfl) hQ
theorem gB_at (bs : List Nat) (k i : Nat) : bs.getD (k + i) 0 = gB bs k i := rfl
theorem gB_0 (bs : List Nat) (k : Nat) : bs.getD k 0 = gB bs k 0 := rfl
theorem nmF_gB (bs : List Nat) (k : Nat) : ∀ (c i v : Nat), nmF (gB bs 0) (k + i) c v = nmF (gB bs k) i c v := by
  intro c
  induction c with
  | zero => intro i v; rfl
  | succ c ih =>
    intro i v
    have e : gB bs 0 (k + i) = gB bs k i := by simp [gB]
    simp only [nmF, e]
    rw [← ih (i + 1)]
    rfl
theorem c_m_nameAtG (s k i : Nat) {bs : List Nat} (hr : zrow va s bs) (hk : k + i + 6 ≤ bs.length) (hs : s < 66) (hl : bs.length ≤ 240) (hQ : Q (some (.int (oI (nm6 (gB bs k) i)))) (zmod D o hp va vf)) : Runs l D M_m_nameAt [.ref o, .int (nI s), .int (nI (k + i))] (zmod D o hp va vf) 0 0 Q :=
  c_m_nameAt s (k + i) hr hk hs hl (by rw [nm6, nmF_gB]; exact hQ)
theorem c_m_atG (s k i : Nat) {bs : List Nat} (hr : zrow va s bs) (hk : k + i < bs.length) (hs : s < 66) (hl : bs.length ≤ 240) (hQ : Q (some (.int (nI (gB bs k i)))) (zmod D o hp va vf)) : Runs l D M_m_at [.ref o, .int (nI s), .int (nI (k + i))] (zmod D o hp va vf) 0 0 Q :=
  c_m_at s (k + i) hr hk (by omega) hQ
theorem c_m_at0 (s k : Nat) {bs : List Nat} (hr : zrow va s bs) (hk : k < bs.length) (hs : s < 66) (hl : bs.length ≤ 240) (hQ : Q (some (.int (nI (gB bs k 0)))) (zmod D o hp va vf)) : Runs l D M_m_at [.ref o, .int (nI s), .int (nI k)] (zmod D o hp va vf) 0 0 Q :=
  c_m_at s k hr hk (by omega) hQ
end M1
