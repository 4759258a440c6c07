/-! The reference: raw bytes. Own work. -/
def rawW (x : Int64) (k : Nat) : Nat := x.toBitVec.toNat / 2 ^ (8 * k) % 256
def rawL (x : Int64) (n : Nat) : List Nat := (List.range n).map (rawW x)
theorem bv255 : ∀ i, i < 64 → (255#64).getLsbD i = decide (i < 8) := by decide
theorem raw_bv (x : BitVec 64) (n : Nat) (hn : n ≤ 56) : x.sshiftRight n &&& 255#64 = BitVec.ofNat 64 (x.toNat / 2 ^ n % 256) := by
  apply BitVec.eq_of_getLsbD_eq
  intro i hi
  rw [BitVec.getLsbD_and, BitVec.getLsbD_sshiftRight, bv255 i hi, BitVec.getLsbD_ofNat, show (256 : Nat) = 2 ^ 8 from rfl, Nat.testBit_mod_two_pow, Nat.testBit_div_two_pow]
  by_cases h8 : i < 8
  · have h1 : n + i < 64 := by omega
    have h2 : ¬ 64 ≤ i := by omega
    simp [h8, hi, h1, h2, BitVec.testBit_toNat, Nat.add_comm]
  · simp [h8]
theorem raw_sh : ∀ k, k < 8 → (((nI (8 * k)).toInt64 &&& 63).toBitVec.smod 64).toNat = 8 * k := by decide
theorem raw_m (x : Int64) (k : Nat) (hk : k < 8) : ((x >>> ((nI (8 * k)).toInt64 &&& 63)) &&& lN 255).toInt32 = nI (rawW x k) := by
  have e : ((x >>> ((nI (8 * k)).toInt64 &&& 63)) &&& lN 255) = lN (rawW x k) := by
    apply Int64.toBitVec_inj.mp
    rw [Int64.toBitVec_and, Int64.toBitVec_shiftRight, BitVec.sshiftRight', raw_sh k hk]
    exact raw_bv x.toBitVec (8 * k) (by omega)
  rw [e, lN_i]
theorem rawW_lt (x : Int64) (k : Nat) : rawW x k < 256 := Nat.mod_lt _ (by decide)
section M20
variable {l : Launch} {D : zD} {hp : zH} {o : Nat} {va : Nat → Nat → Int32} {vf : Nat → Int32} {Q : Option Value → zH → Prop}
theorem c_m_raw (x : Int64) (n : Int32) {dr : List Nat} (hr : slotP va 64 dr)
    (hQ0 : (n < nI 1 ∨ nI 8 < n ∨ 240 < dr.length + toN n) → Q (some (.int (-1))) (zmod D o hp va vf))
    (hQ : ¬ n < nI 1 → ¬ nI 8 < n → dr.length + toN n ≤ 240 → ∀ va', sk 64 va va' → slotP va' 64 (dr ++ rawL x (toN n)) → Q (some (.int (nI (dr ++ rawL x (toN n)).length))) (zmod D o hp va' vf)) :
    Runs l D M_m_raw [.ref o, .long x, .int n] (zmod D o hp va vf) 0 0 Q := by
  refine Runs.of rfl rfl (Nat.le_of_ble_eq_true rfl) ?_
  have hl := hr.2.2
  refine z_iload_n d_m_raw_0 1 rfl rfl rfl ?_
  refine z_iconst (v := nI 1) d_m_raw_1 2 rfl rfl ?_
  refine z_icmp_lt (tgt := 26) d_m_raw_2 5 rfl rfl (fun h2 => ?_) (fun h2 => ?_)
  · refine z_iconst (v := -1) d_m_raw_26 27 rfl (by decide) ?_
    exact z_iret d_m_raw_27 rfl (Nat.le_refl 0) (Nat.le_refl 0) (hQ0 (Or.inl h2))
  · refine z_iload_n d_m_raw_5 6 rfl rfl rfl ?_
    refine z_bipush (v := nI 8) d_m_raw_6 8 rfl rfl ?_
    refine z_icmp_gt (tgt := 26) d_m_raw_8 11 rfl rfl (fun h8 => ?_) (fun h8 => ?_)
    · refine z_iconst (v := -1) d_m_raw_26 27 rfl (by decide) ?_
      exact z_iret d_m_raw_27 rfl (Nat.le_refl 0) (Nat.le_refl 0) (hQ0 (Or.inr (Or.inl h8)))
    · have h0 : ¬ n < 0 := fun h => h2 (Int32.lt_trans h (by decide))
      have hQ1 := hQ h2 h8
      obtain ⟨e, he⟩ := nI_toN h0
      have hm1 : 1 ≤ toN n := by
        have : ¬ toN n < 1 := fun h => h2 (by rw [e]; exact (nI_ltI he (by decide)).2 h)
        omega
      have hm8 : toN n ≤ 8 := by
        have : ¬ 8 < toN n := fun h => h8 (by rw [e]; exact (nI_ltI (by decide) he).2 h)
        omega
      have hQ2 : 240 < dr.length + toN n → Q (some (.int (-1))) (zmod D o hp va vf) := fun h => hQ0 (Or.inr (Or.inr h))
      clear hQ hQ0 h0 h2 h8
      generalize toN n = m at e he hm1 hm8 hQ1 hQ2
      subst e
      refine z_aload_n d_m_raw_11 12 rfl rfl rfl ?_
      refine zm_getA 1 d_m_raw_12 15 rfl f_m_13 rfl ?_
      refine z_bipush (v := nI 64) d_m_raw_15 17 rfl rfl ?_
      refine zm_iald d_m_raw_17 18 rfl (by decide) rfl (by simp only [zln]; omega) ?_
      rw [hr.2.1]
      refine z_iload_n d_m_raw_18 19 rfl rfl rfl ?_
      first | refine z_iaddN d_m_raw_19 20 rfl ?_ | refine z_iadd d_m_raw_19 20 rfl ?_
      refine z_sipush (v := nI 240) d_m_raw_20 23 rfl rfl ?_
      refine z_icmp_leN (tgt := 28) d_m_raw_23 26 rfl rfl (by omega) (by omega) (fun h23 => ?_) (fun h23 => ?_)
      · have hQ1 := hQ1 h23
        refine z_iconst (v := nI 0) d_m_raw_28 29 rfl rfl ?_
        refine z_ist4 d_m_raw_29 31 rfl rfl ?_
        have loop : ∀ (c k : Nat) (y : Nat → Nat → Int32), k + c = m → sk 64 va y → slotP y 64 (dr ++ rawL x k) → Z l D M_m_raw 0 0 Q (zmod D o hp y vf) 0 0 31 [some (.ref o), some (.long x), none, some (.int (nI m)), some (.int (nI k))] [] := by
          intro c
          induction c with
          | zero =>
            intro k y hk h1 h2
            have hkm : k = m := by omega
            subst hkm
            refine z_iload d_m_raw_31 33 rfl rfl ?_
            refine z_iload_n d_m_raw_33 34 rfl rfl rfl ?_
            refine z_icmp_geN (tgt := 61) d_m_raw_34 37 rfl rfl (by omega) (by omega) (fun h34 => ?_) (fun h34 => ?_)
            · refine z_aload_n d_m_raw_61 62 rfl rfl rfl ?_
              refine zm_getA 1 d_m_raw_62 65 rfl f_m_13 rfl ?_
              refine z_bipush (v := nI 64) d_m_raw_65 67 rfl rfl ?_
              refine zm_iald d_m_raw_67 68 rfl (by decide) rfl (by simp only [zln]; omega) ?_
              rw [h2.2.1]
              exact z_iret d_m_raw_68 rfl (Nat.le_refl 0) (Nat.le_refl 0) (hQ1 y h1 h2)
            · omega
          | succ c ih =>
            intro k y hk h1 h2
            have hlen : (dr ++ rawL x k).length = dr.length + k := by simp [rawL]
            have hw := rawW_lt x k
            refine z_iload d_m_raw_31 33 rfl rfl ?_
            refine z_iload_n d_m_raw_33 34 rfl rfl rfl ?_
            refine z_icmp_geN (tgt := 61) d_m_raw_34 37 rfl rfl (by omega) (by omega) (fun h34 => ?_) (fun h34 => ?_)
            · omega
            · refine z_aload_n d_m_raw_37 38 rfl rfl rfl ?_
              refine z_bipush (v := nI 64) d_m_raw_38 40 rfl rfl ?_
              refine z_lload_n d_m_raw_40 41 rfl rfl rfl ?_
              refine z_bipush (v := nI 8) d_m_raw_41 43 rfl rfl ?_
              refine z_iload d_m_raw_43 45 rfl rfl ?_
              first | refine z_imulN d_m_raw_45 46 rfl ?_ | refine z_imul d_m_raw_45 46 rfl ?_
              refine z_lshr d_m_raw_46 47 rfl rfl ?_
              refine z_ldc2 d_m_raw_47 50 rfl ct_m_127 ?_
              refine z_land d_m_raw_50 51 rfl ?_
              refine z_l2i d_m_raw_51 52 rfl rfl ?_
              rw [raw_m x k (by omega)]
              refine zm_cVv (fun aa f => vf = f ∧ sk 64 y aa ∧ slotP aa 64 (dr ++ rawL x k ++ [rawW x k])) d_m_raw_52 55 rfl mv_m_write kl_m_111 (by decide) (fun Q' hq => c_m_write 64 _ h2 (by decide) (by omega) hw (fun aa h1 h2 => hq _ _ ⟨rfl, h1, h2⟩)) rfl rfl (Nat.le_of_ble_eq_true rfl) ?_; rintro y2 _ ⟨rfl, k2, s2⟩
              first | refine z_incN4 d_m_raw_55 58 rfl rfl ?_ | refine z_inc4 d_m_raw_55 58 rfl rfl rfl ?_
              refine z_goto (tgt := 31) d_m_raw_58 rfl ?_
              exact ih (k + 1) y2 (by omega) (h1.trans k2) (by rw [show rawL x (k + 1) = rawL x k ++ [rawW x k] by simp [rawL, List.range_succ], ← List.append_assoc]; exact s2)
        exact loop m 0 va (by omega) (sk.rf 64 va) (by simpa [rawL] using hr)
      · refine z_iconst (v := -1) d_m_raw_26 27 rfl (by decide) ?_
        exact z_iret d_m_raw_27 rfl (Nat.le_refl 0) (Nat.le_refl 0) (hQ2 (by omega))
end M20
