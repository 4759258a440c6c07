/-! The class: card, raw, drop. Own work. -/
theorem raw_us : ∀ k, k < 8 → (((nI (8 * k)).toInt64.toUInt64 &&& Int64.toUInt64 63).toBitVec % 64).toNat = 8 * k := by decide
theorem raw_c (x : Int64) (k : Nat) (hk : k < 8) : ((x.toUInt64 >>> ((nI (8 * k)).toInt64.toUInt64 &&& Int64.toUInt64 63)).toInt64.toInt32).toInt8.toInt32 = sb_b (rawW x k) := by
  unfold sb_b
  congr 1
  apply Int8.toBitVec_inj.mp
  rw [Int32.toBitVec_toInt8, Int32.toBitVec_toInt8, Int64.toBitVec_toInt32]
  apply BitVec.eq_of_toNat_eq
  rw [BitVec.signExtend_eq_setWidth_of_le _ (by decide), BitVec.signExtend_eq_setWidth_of_le _ (by decide), BitVec.signExtend_eq_setWidth_of_le _ (by decide), BitVec.toNat_setWidth, BitVec.toNat_setWidth, BitVec.toNat_setWidth]
  rw [show (x.toUInt64 >>> ((nI (8 * k)).toInt64.toUInt64 &&& Int64.toUInt64 63)).toInt64.toBitVec.toNat = x.toBitVec.toNat / 2 ^ (8 * k) by
    show (x.toUInt64 >>> ((nI (8 * k)).toInt64.toUInt64 &&& Int64.toUInt64 63)).toBitVec.toNat = _
    rw [UInt64.toBitVec_shiftRight, BitVec.ushiftRight_eq', BitVec.toNat_ushiftRight, raw_us k hk, Nat.shiftRight_eq_div_pow]
    rfl]
  rw [pk_tn (by have := rawW_lt x k; omega)]
  unfold rawW
  omega
section C6
variable {l : Launch} {D : zD} {M : zM} {h : zH} {x g0 g1 a b dA dB sA sB ns : Nat} {f fd fs : Nat → Int32} {Q : Option Value → zH → Prop} {dr bs : List Nat}
theorem c_R_clearF {n : Nat} (ha : h a = some (.inr (7, [.ref b, .int (nI n)]))) (hb : h b = some (.inl (D.2 0, 240, .inl f))) (hQ : Q none (rwU D h a b 0 f)) : Runs l D M_R_clear [.ref a] h 0 0 Q := by
  have e := rwU_same ha hb
  have := c_R_clear (l := l) (D := D) (hp := h) (a := a) (b := b) (f := f) n hQ
  rw [e] at this
  exact this
theorem c_R_hasRoomForF {n m : Nat} (ha : h a = some (.inr (7, [.ref b, .int (nI n)]))) (hb : h b = some (.inl (D.2 0, 240, .inl f))) (hn : n < 2 ^ 30) (hm : m < 2 ^ 30) (hQ : Q (some (.int (zb (decide (n + m ≤ 240))))) h) : Runs l D M_R_hasRoomFor [.ref a, .int (nI m)] h 0 0 Q := by
  have e := rwU_same ha hb
  have := c_R_hasRoomFor (l := l) (D := D) (hp := h) (a := a) (b := b) (f := f) (Q := Q) n m hn hm (by rw [e]; exact hQ)
  rw [e] at this
  exact this
theorem c_B_drop (hx : h x = some (.inr (1, [.ref g0, .ref g1, .ref dA, .ref sA]))) (hdA : h dA = some (.inr (7, [.ref dB, .int (nI dr.length)]))) (hdB : h dB = some (.inl (D.2 0, 240, .inl fd))) (hQ : Q (some (.int (nI dr.length))) (rwU D h dA dB 0 fd)) : Runs l D M_B_drop [.ref x] h 0 0 Q := by
  refine Runs.of rfl rfl (Nat.le_of_ble_eq_true rfl) ?_
  refine z_aload_n d_B_drop_0 1 rfl rfl rfl ?_
  refine z_get d_B_drop_1 4 rfl f_B_22 (by assumption) rfl ?_
  refine z_get d_B_drop_4 7 rfl f_B_40 (by assumption) rfl ?_
  refine z_ist1 d_B_drop_7 8 rfl rfl ?_
  refine z_aload_n d_B_drop_8 9 rfl rfl rfl ?_
  refine z_get d_B_drop_9 12 rfl f_B_22 (by assumption) rfl ?_
  refine z_cV0 d_B_drop_12 15 rfl mv_R_clear kl_B_33 (by decide) 0 0 rfl rfl (Nat.le_refl 0) (Nat.le_refl 0) hdA (fun Q' q => c_R_clearF hdA hdB q) rfl rfl (Nat.le_of_ble_eq_true rfl) ?_
  refine z_iload_n d_B_drop_15 16 rfl rfl rfl ?_
  exact z_iret d_B_drop_16 rfl (Nat.le_refl 0) (Nat.le_refl 0) hQ
theorem c_B_card (k i j : Int32) (hx : h x = some (.inr (1, [.ref g0, .ref g1, .ref dA, .ref sA]))) (hdA : h dA = some (.inr (7, [.ref dB, .int (nI dr.length)]))) (hdB : h dB = some (.inl (D.2 0, 240, .inl fd))) (hsA : h sA = some (.inr (7, [.ref sB, .int (nI ns)]))) (hsB : h sB = some (.inl (D.2 0, 240, .inl fs))) (hfd : byP fd dr) (hdl : dr.length ≤ 240) (n0 : sB ≠ sA) (n1 : x ≠ sA) (n2 : x ≠ sB) (n3 : dA ≠ sA) (n4 : dA ≠ sB) (n5 : dB ≠ sA) (n6 : dB ≠ sB) (n7 : dB ≠ dA) (n8 : x ≠ dA) (n9 : x ≠ dB)
    (hQ0 : cardW k i j (dg 7 dr) = none → Q (some (.int (-1))) h)
    (hQ1 : ∀ L g, cardW k i j (dg 7 dr) = some L → 240 < dr.length + L.length → byP g L → Q (some (.int (-1))) (rwU D h sA sB L.length g))
    (hQ2 : ∀ L g g', cardW k i j (dg 7 dr) = some L → dr.length + L.length ≤ 240 → byP g L → byP g' (dr ++ L) → Q (some (.int (nI (dr ++ L).length))) (rwU D (rwU D h sA sB L.length g) dA dB (dr ++ L).length g')) :
    Runs l D M_B_card [.ref x, .int k, .int i, .int j] h 0 0 Q := by
  refine Runs.of rfl rfl (Nat.le_of_ble_eq_true rfl) ?_
  have hsz := szW_le k i j
  have hsome : (cardW k i j 0).isSome = (cardW k i j (dg 7 dr)).isSome := by
    have := congrArg Option.isSome (cardW_len k i j (dg 7 dr))
    simpa using this.symm
  refine z_iload_n d_B_card_0 1 rfl rfl rfl ?_
  refine z_iload_n d_B_card_1 2 rfl rfl rfl ?_
  refine z_iload_n d_B_card_2 3 rfl rfl rfl ?_
  refine z_cS1 d_B_card_3 6 rfl ms_B_isWritable kl_B_29 (by decide) 0 0 rfl rfl (Nat.le_refl 0) (Nat.le_refl 0) (fun Q' q => c_B_isWritable _ _ _ q) rfl rfl (Nat.le_of_ble_eq_true rfl) ?_
  rw [hsome]
  refine z_if_neB (tgt := 11) d_B_card_6 9 rfl rfl (fun h6 => ?_) (fun h6 => ?_)
  · obtain ⟨L, hL⟩ := Option.isSome_iff_exists.mp h6
    have hLl : L.length ≤ 16 := by
      have e := cardW_len k i j (dg 7 dr)
      rw [hL] at e
      have : szW k i j = L.length := by rw [szW, ← e]; rfl
      omega
    refine z_aload_n d_B_card_11 12 rfl rfl rfl ?_
    refine z_get d_B_card_12 15 rfl f_B_26 (by assumption) rfl ?_
    refine z_cV0 d_B_card_15 18 rfl mv_R_clear kl_B_33 (by decide) 0 0 rfl rfl (Nat.le_refl 0) (Nat.le_refl 0) hsA (fun Q' q => c_R_clearF hsA hsB q) rfl rfl (Nat.le_of_ble_eq_true rfl) ?_
    have hx1 : ∀ n g, rwU D h sA sB n g x = some (.inr (1, [.ref g0, .ref g1, .ref dA, .ref sA])) := fun n g => by rw [rwU_o _ _ _ _ n1 n2]; exact hx
    refine z_aload_n d_B_card_18 19 rfl rfl rfl ?_
    refine z_iload_n d_B_card_19 20 rfl rfl rfl ?_
    refine z_iload_n d_B_card_20 21 rfl rfl rfl ?_
    refine z_iload_n d_B_card_21 22 rfl rfl rfl ?_
    refine z_cV (Q' := fun r h' => ∃ g, byP g L ∧ r = none ∧ h' = rwU D h sA sB L.length g) d_B_card_22 25 rfl mv_B_writeCard kl_B_36 (by decide) 0 0 rfl rfl (Nat.le_refl 0) (Nat.le_refl 0) (hx1 _ _) (c_B_writeCard k i j hx hdA hdB hfd hdl n0 n1 n2 n3 n4 n5 n6 n7 hL (fun g hg => ⟨g, hg, rfl, rfl⟩)) rfl rfl (Nat.le_of_ble_eq_true rfl) ?_
    rintro _ _ ⟨g, hg, rfl, rfl⟩
    have hA : rwU D h sA sB L.length g dA = some (.inr (7, [.ref dB, .int (nI dr.length)])) := by rw [rwU_o _ _ _ _ n3 n4]; exact hdA
    have hB : rwU D h sA sB L.length g dB = some (.inl (D.2 0, 240, .inl fd)) := by rw [rwU_o _ _ _ _ n5 n6]; exact hdB
    have hS1 := rwU_a D h sA sB L.length g
    have hS2 := rwU_b D h L.length g n0
    have hX := hx1 L.length g
    show Z l D M_B_card 0 0 Q _ 0 0 25 _ []
    refine z_aload_n d_B_card_25 26 rfl rfl rfl ?_
    refine z_get d_B_card_26 29 rfl f_B_22 hX rfl ?_
    refine z_aload_n d_B_card_29 30 rfl rfl rfl ?_
    refine z_get d_B_card_30 33 rfl f_B_26 hX rfl ?_
    refine z_get d_B_card_33 36 rfl f_B_40 hS1 rfl ?_
    refine z_cV1 d_B_card_36 39 rfl mv_R_hasRoomFor kl_B_44 (by decide) 0 0 rfl rfl (Nat.le_refl 0) (Nat.le_refl 0) hA (fun Q' q => c_R_hasRoomForF hA hB (by omega) (by omega) q) rfl rfl (Nat.le_of_ble_eq_true rfl) ?_
    refine z_if_neB (tgt := 44) d_B_card_39 42 rfl rfl (fun h39 => ?_) (fun h39 => ?_)
    · have hle : dr.length + L.length ≤ 240 := by simpa using h39
      refine z_aload_n d_B_card_44 45 rfl rfl rfl ?_
      refine z_get d_B_card_45 48 rfl f_B_22 hX rfl ?_
      refine z_aload_n d_B_card_48 49 rfl rfl rfl ?_
      refine z_get d_B_card_49 52 rfl f_B_26 hX rfl ?_
      refine z_cV (Q' := fun r h' => ∃ g', byP g' (dr ++ L) ∧ r = none ∧ h' = rwU D (rwU D h sA sB L.length g) dA dB (dr ++ L).length g') d_B_card_52 55 rfl mv_R_addRow kl_B_48 (by decide) 0 0 rfl rfl (Nat.le_refl 0) (Nat.le_refl 0) hA (by
        have e := rwU_same hA hB
        have r := c_R_addRow (l := l) (D := D) (hp := rwU D h sA sB L.length g) (a := dA) (b := dB) (f := fd) (Q := fun r h' => ∃ g', byP g' (dr ++ L) ∧ r = none ∧ h' = rwU D (rwU D h sA sB L.length g) dA dB (dr ++ L).length g') n7 hfd hS1 hS2 hg (by omega) (Ne.symm n3) (Ne.symm n5) (Ne.symm n4) (Ne.symm n6) hle (fun g' hg' => ⟨g', hg', rfl, rfl⟩)
        rw [e] at r
        exact r) rfl rfl (Nat.le_of_ble_eq_true rfl) ?_
      rintro _ _ ⟨g', hg', rfl, rfl⟩
      have hX2 : rwU D (rwU D h sA sB L.length g) dA dB (dr ++ L).length g' x = some (.inr (1, [.ref g0, .ref g1, .ref dA, .ref sA])) := by rw [rwU_o _ _ _ _ n8 n9]; exact hX
      have hA3 := rwU_a D (rwU D h sA sB L.length g) dA dB (dr ++ L).length g'
      show Z l D M_B_card 0 0 Q _ 0 0 55 _ []
      refine z_aload_n d_B_card_55 56 rfl rfl rfl ?_
      refine z_get d_B_card_56 59 rfl f_B_22 hX2 rfl ?_
      refine z_get d_B_card_59 62 rfl f_B_40 hA3 rfl ?_
      exact z_iret d_B_card_62 rfl (Nat.le_refl 0) (Nat.le_refl 0) (hQ2 L g g' hL hle hg hg')
    · have hlt : 240 < dr.length + L.length := by simpa using h39
      refine z_iconst (v := -1) d_B_card_42 43 rfl (by decide) ?_
      exact z_iret d_B_card_43 rfl (Nat.le_refl 0) (Nat.le_refl 0) (hQ1 L g hL hlt hg)
  · have : cardW k i j (dg 7 dr) = none := by simpa using h6
    refine z_iconst (v := -1) d_B_card_9 10 rfl (by decide) ?_
    exact z_iret d_B_card_10 rfl (Nat.le_refl 0) (Nat.le_refl 0) (hQ0 this)
theorem c_B_raw (y : Int64) (n : Int32) (hx : h x = some (.inr (1, [.ref g0, .ref g1, .ref dA, .ref sA]))) (hdA : h dA = some (.inr (7, [.ref dB, .int (nI dr.length)]))) (hdB : h dB = some (.inl (D.2 0, 240, .inl fd))) (hfd : byP fd dr) (hdl : dr.length ≤ 240) (n7 : dB ≠ dA) (n8 : x ≠ dA) (n9 : x ≠ dB)
    (hQ0 : (n < nI 1 ∨ nI 8 < n ∨ 240 < dr.length + toN n) → Q (some (.int (-1))) h)
    (hQ : ¬ n < nI 1 → ¬ nI 8 < n → dr.length + toN n ≤ 240 → ∀ g, byP g (dr ++ rawL y (toN n)) → Q (some (.int (nI (dr ++ rawL y (toN n)).length))) (rwU D h dA dB (dr ++ rawL y (toN n)).length g)) :
    Runs l D M_B_raw [.ref x, .long y, .int n] h 0 0 Q := by
  refine Runs.of rfl rfl (Nat.le_of_ble_eq_true rfl) ?_
  refine z_iload_n d_B_raw_0 1 rfl rfl rfl ?_
  refine z_iconst (v := nI 1) d_B_raw_1 2 rfl rfl ?_
  refine z_icmp_lt (tgt := 22) d_B_raw_2 5 rfl rfl (fun h2 => ?_) (fun h2 => ?_)
  · refine z_iconst (v := -1) d_B_raw_22 23 rfl (by decide) ?_
    exact z_iret d_B_raw_23 rfl (Nat.le_refl 0) (Nat.le_refl 0) (hQ0 (Or.inl h2))
  · refine z_iload_n d_B_raw_5 6 rfl rfl rfl ?_
    refine z_bipush (v := nI 8) d_B_raw_6 8 rfl rfl ?_
    refine z_icmp_gt (tgt := 22) d_B_raw_8 11 rfl rfl (fun h8 => ?_) (fun h8 => ?_)
    · refine z_iconst (v := -1) d_B_raw_22 23 rfl (by decide) ?_
      exact z_iret d_B_raw_23 rfl (Nat.le_refl 0) (Nat.le_refl 0) (hQ0 (Or.inr (Or.inl h8)))
    · have h0 : ¬ n < 0 := fun q => h2 (Int32.lt_trans q (by decide))
      have hQ1 := hQ h2 h8
      obtain ⟨e, he⟩ := nI_toN h0
      have hm8 : toN n ≤ 8 := by
        have : ¬ 8 < toN n := fun q => h8 (by rw [e]; exact (nI_ltI (by decide) he).2 q)
        omega
      have hQ2 : 240 < dr.length + toN n → Q (some (.int (-1))) h := fun q => hQ0 (Or.inr (Or.inr q))
      clear hQ hQ0 h0 h2 h8
      generalize toN n = m at e he hm8 hQ1 hQ2
      subst e
      refine z_aload_n d_B_raw_11 12 rfl rfl rfl ?_
      refine z_get d_B_raw_12 15 rfl f_B_22 (by assumption) rfl ?_
      refine z_iload_n d_B_raw_15 16 rfl rfl rfl ?_
      refine z_cV1 d_B_raw_16 19 rfl mv_R_hasRoomFor kl_B_44 (by decide) 0 0 rfl rfl (Nat.le_refl 0) (Nat.le_refl 0) hdA (fun Q' q => c_R_hasRoomForF hdA hdB (by omega) (by omega) q) rfl rfl (Nat.le_of_ble_eq_true rfl) ?_
      refine z_if_neB (tgt := 24) d_B_raw_19 22 rfl rfl (fun h19 => ?_) (fun h19 => ?_)
      · have hle : dr.length + m ≤ 240 := by simpa using h19
        have hQ1 := hQ1 hle
        refine z_iconst (v := nI 0) d_B_raw_24 25 rfl rfl ?_
        refine z_ist4 d_B_raw_25 27 rfl rfl ?_
        have loop : ∀ (c k : Nat) (g : Nat → Int32), k + c = m → byP g (dr ++ rawL y k) → Z l D M_B_raw 0 0 Q (rwU D h dA dB (dr ++ rawL y k).length g) 0 0 27 [some (.ref x), some (.long y), none, some (.int (nI m)), some (.int (nI k))] [] := by
          intro c
          induction c with
          | zero =>
            intro k g hk hg
            have hkm : k = m := by omega
            subst hkm
            have hX2 : rwU D h dA dB (dr ++ rawL y k).length g x = some (.inr (1, [.ref g0, .ref g1, .ref dA, .ref sA])) := by rw [rwU_o _ _ _ _ n8 n9]; exact hx
            refine z_iload d_B_raw_27 29 rfl rfl ?_
            refine z_iload_n d_B_raw_29 30 rfl rfl rfl ?_
            refine z_icmp_geN (tgt := 54) d_B_raw_30 33 rfl rfl (by omega) (by omega) (fun h30 => ?_) (fun h30 => ?_)
            · refine z_aload_n d_B_raw_54 55 rfl rfl rfl ?_
              refine z_get d_B_raw_55 58 rfl f_B_22 hX2 rfl ?_
              refine z_get d_B_raw_58 61 rfl f_B_40 (rwU_a _ _ _ _ _ _) rfl ?_
              exact z_iret d_B_raw_61 rfl (Nat.le_refl 0) (Nat.le_refl 0) (hQ1 g hg)
            · omega
          | succ c ih =>
            intro k g hk hg
            have hlen : (dr ++ rawL y k).length = dr.length + k := by simp [rawL]
            have hX2 : rwU D h dA dB (dr ++ rawL y k).length g x = some (.inr (1, [.ref g0, .ref g1, .ref dA, .ref sA])) := by rw [rwU_o _ _ _ _ n8 n9]; exact hx
            refine z_iload d_B_raw_27 29 rfl rfl ?_
            refine z_iload_n d_B_raw_29 30 rfl rfl rfl ?_
            refine z_icmp_geN (tgt := 54) d_B_raw_30 33 rfl rfl (by omega) (by omega) (fun h30 => ?_) (fun h30 => ?_)
            · omega
            · refine z_aload_n d_B_raw_33 34 rfl rfl rfl ?_
              refine z_get d_B_raw_34 37 rfl f_B_22 hX2 rfl ?_
              refine z_lload_n d_B_raw_37 38 rfl rfl rfl ?_
              refine z_bipush (v := nI 8) d_B_raw_38 40 rfl rfl ?_
              refine z_iload d_B_raw_40 42 rfl rfl ?_
              first | refine z_imulN d_B_raw_42 43 rfl ?_ | refine z_imul d_B_raw_42 43 rfl ?_
              refine z_lushr d_B_raw_43 44 rfl rfl ?_
              refine z_l2i d_B_raw_44 45 rfl rfl ?_
              refine zr_cV (B := (dr ++ rawL y k ++ [rawW y k])) d_B_raw_45 48 rfl mv_R_add kl_B_52 (by decide) (fun Q' q => c_R_add (bs := dr ++ rawL y k) _ (rawW y k) n7 hg (by omega) (rawW_lt y k) (raw_c y k (by omega)) q) rfl rfl (Nat.le_of_ble_eq_true rfl) (fun g1 k1 => ?_)
              have e2 : dr ++ rawL y k ++ [rawW y k] = dr ++ rawL y (k + 1) := by rw [show rawL y (k + 1) = rawL y k ++ [rawW y k] by simp [rawL, List.range_succ], ← List.append_assoc]
              rw [e2] at k1 ⊢
              first | refine z_incN4 d_B_raw_48 51 rfl rfl ?_ | refine z_inc4 d_B_raw_48 51 rfl rfl rfl ?_
              refine z_goto (tgt := 27) d_B_raw_51 rfl ?_
              exact ih (k + 1) g1 (by omega) k1
        have := loop m 0 fd (by omega) (by simpa [rawL] using hfd)
        rw [show dr ++ rawL y 0 = dr by simp [rawL], rwU_same hdA hdB] at this
        exact this
      · refine z_iconst (v := -1) d_B_raw_22 23 rfl (by decide) ?_
        exact z_iret d_B_raw_23 rfl (Nat.le_refl 0) (Nat.le_refl 0) (hQ2 (by simpa using h19))
end C6
