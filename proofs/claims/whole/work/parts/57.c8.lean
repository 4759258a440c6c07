/-! The class: files, parents, tags and times are read. Own work. -/
section C8
variable {l : Launch} {D : zD} {M : zM} {h : zH} {b N : Nat} {f : Nat → Int32} {Q : Option Value → zH → Prop} {bs : List Nat}
theorem byP_g (hf : byP f bs) {k i : Nat} (h : k + i < bs.length) : gB bs k i < 256 ∧ f (k + i) = sb_b (gB bs k i) := hf (k + i) h
theorem c_C_readFile (k n : Nat) (hb : h b = some (.inl (D.2 0, N, .inl f))) (hf : byP f bs) (hn : 3 ≤ n) (hk : k + n ≤ bs.length) (hN : bs.length ≤ N) (hN2 : N < 2 ^ 30)
    (hQ0 : cardF (gB bs k) n = none → Q (some .null) h) (hQ1 : ∀ c q, cardF (gB bs k) n = some c → h q = none → Q (some (.ref q)) (zset h q (cObj c))) :
    Runs l D M_C_readFile [.ref b, .int (nI (k + 2)), .int (nI (k + n))] h 1 5 Q := by
  refine Runs.of rfl rfl (Nat.le_of_ble_eq_true rfl) ?_
  refine z_iload_n d_C_readFile_0 1 rfl rfl rfl ?_
  refine z_iload_n d_C_readFile_1 2 rfl rfl rfl ?_
  refine z_isubN d_C_readFile_2 3 rfl (by omega) ?_
  refine z_bipush (v := nI 8) d_C_readFile_3 5 rfl rfl ?_
  refine z_icmp_neN (tgt := 18) d_C_readFile_5 8 rfl rfl (by omega) (by omega) (fun h5 => ?_) (fun h5 => ?_)
  · refine z_null d_C_readFile_18 19 rfl ?_
    exact z_aret (r := none) d_C_readFile_19 rfl (Or.inl ⟨_, rfl⟩) (by decide) (by decide) (hQ0 (by simp [cardF]; omega))
  · have hn10 : n = 10 := by omega
    obtain ⟨w3, e3⟩ := byP_g hf (k := k) (i := 3) (by omega)
    obtain ⟨w2, e2⟩ := byP_g hf (k := k) (i := 2) (by omega)
    refine z_aload_n d_C_readFile_8 9 rfl rfl rfl ?_
    refine z_iload_n d_C_readFile_9 10 rfl rfl rfl ?_
    refine z_iconst (v := nI 1) d_C_readFile_10 11 rfl rfl ?_
    first | refine z_iaddN d_C_readFile_11 12 rfl ?_ | refine z_iadd d_C_readFile_11 12 rfl ?_
    refine z_baldN d_C_readFile_12 13 rfl (by assumption) (by omega) (by omega) ?_
    rw [show f (k + 2 + 1) = sb_b (gB bs k 3) from e3]
    refine z_bipush (v := nI 32) d_C_readFile_13 15 rfl rfl ?_
    refine z_icmp_eq (tgt := 20) d_C_readFile_15 18 rfl rfl (fun h15 => ?_) (fun h15 => ?_)
    · have h3 := (cb_eq _ w3 32 (by decide)).1 h15
      refine z_aload_n d_C_readFile_20 21 rfl rfl rfl ?_
      refine z_iload_n d_C_readFile_21 22 rfl rfl rfl ?_
      refine z_baldN d_C_readFile_22 23 rfl (by assumption) (by omega) (by omega) ?_
      rw [e2]
      refine z_bipush (v := nI 48) d_C_readFile_23 25 rfl rfl ?_
      refine z_isub d_C_readFile_25 26 rfl ?_
      refine z_ist3 d_C_readFile_26 27 rfl rfl ?_
      refine z_aload_n d_C_readFile_27 28 rfl rfl rfl ?_
      refine z_iload_n d_C_readFile_28 29 rfl rfl rfl ?_
      refine z_iconst (v := nI 2) d_C_readFile_29 30 rfl rfl ?_
      first | refine z_iaddN d_C_readFile_30 31 rfl ?_ | refine z_iadd d_C_readFile_30 31 rfl ?_
      refine z_cS1 d_C_readFile_31 34 rfl ms_C_readName kl_C_52 (by decide) 0 0 rfl rfl (by decide) (by decide) (fun Q' w => c_C_readNameG k 4 hb hf (by omega) hN hN2 w) rfl rfl (Nat.le_of_ble_eq_true rfl) ?_
      refine z_ist4 d_C_readFile_34 36 rfl rfl ?_
      refine z_iload_n d_C_readFile_36 37 rfl rfl rfl ?_
      refine z_cS1 d_C_readFile_37 40 rfl ms_B_isDigit kl_C_45 (by decide) 0 0 rfl rfl (by decide) (by decide) (fun Q' w => c_B_isDigit _ w) rfl rfl (Nat.le_of_ble_eq_true rfl) ?_
      rw [cb_dg _ w2]
      refine z_if_eqB (tgt := 66) d_C_readFile_40 43 rfl rfl (fun h40 => ?_) (fun h40 => ?_)
      · refine z_null d_C_readFile_66 67 rfl ?_
        exact z_aret (r := none) d_C_readFile_67 rfl (Or.inl ⟨_, rfl⟩) (by decide) (by decide) (hQ0 (by simp [cardF, h40]))
      · refine z_iload d_C_readFile_43 45 rfl rfl ?_
        refine z_iconst (v := -1) d_C_readFile_45 46 rfl (by decide) ?_
        refine z_icmp_eq (tgt := 66) d_C_readFile_46 49 rfl rfl (fun h46 => ?_) (fun h46 => ?_)
        · have := (oI_m1 (fun v hv => by have := nm6_lt hv; omega)).1 h46
          refine z_null d_C_readFile_66 67 rfl ?_
          exact z_aret (r := none) d_C_readFile_67 rfl (Or.inl ⟨_, rfl⟩) (by decide) (by decide) (hQ0 (by simp [cardF, this]))
        · cases hv : nm6 (gB bs k) 4 with
          | none => rw [hv] at h46; exact absurd rfl h46
          | some v =>
            rw [show oI (some v) = nI v from rfl, (cb_dv _ w2 h40).1]
            refine z_new d_C_readFile_49 52 rfl nw_C_10 (by decide) (by decide) (fun q hq => ?_)
            refine z_dup d_C_readFile_52 53 rfl rfl ?_
            refine z_bipush (v := nI 70) d_C_readFile_53 55 rfl rfl ?_
            refine z_iload_n d_C_readFile_55 56 rfl rfl rfl ?_
            refine z_iconst (v := zb false) d_C_readFile_56 57 rfl (by decide) ?_
            refine z_iload d_C_readFile_57 59 rfl rfl ?_
            refine z_iconst (v := -1) d_C_readFile_59 60 rfl (by decide) ?_
            refine z_cI0 d_C_readFile_60 63 rfl mi_C_init kl_C_49 (by decide) 1 5 rfl rfl (by decide) (by decide) (fun Q' w => c_C_init q (nI 70) (nI (gB bs k 2 - 48)) false (nI v) (-1) (zset_self _ _ _) w) rfl rfl (Nat.le_of_ble_eq_true rfl) ?_; rw [zset_zset]
            refine z_goto (tgt := 67) d_C_readFile_63 rfl ?_
            exact z_aret (r := some q) d_C_readFile_67 rfl (Or.inl ⟨_, rfl⟩) (by decide) (by decide) (hQ1 (70, gB bs k 2 - 48, false, some v, none, 0) q (by simp [cardF, hn10, h3, h40, hv]) hq)
    · refine z_null d_C_readFile_18 19 rfl ?_
      exact z_aret (r := none) d_C_readFile_19 rfl (Or.inl ⟨_, rfl⟩) (by decide) (by decide) (hQ0 (by have : ¬ gB bs k 3 = 32 := fun e => h15 ((cb_eq _ w3 32 (by decide)).2 e); simp [cardF, this]))
theorem c_C_readTwoParents (k n : Nat) (hb : h b = some (.inl (D.2 0, N, .inl f))) (hf : byP f bs) (hn : 3 ≤ n) (hn8 : n ≠ 8) (hk : k + n ≤ bs.length) (hN : bs.length ≤ N) (hN2 : N < 2 ^ 30)
    (hQ0 : cardP (gB bs k) n = none → Q (some .null) h) (hQ1 : ∀ c q, cardP (gB bs k) n = some c → h q = none → Q (some (.ref q)) (zset h q (cObj c))) :
    Runs l D M_C_readTwoParents [.ref b, .int (nI (k + 2)), .int (nI (k + n))] h 1 5 Q := by
  refine Runs.of rfl rfl (Nat.le_of_ble_eq_true rfl) ?_
  refine z_iload_n d_C_readTwoParents_0 1 rfl rfl rfl ?_
  refine z_iload_n d_C_readTwoParents_1 2 rfl rfl rfl ?_
  refine z_isubN d_C_readTwoParents_2 3 rfl (by omega) ?_
  refine z_bipush (v := nI 13) d_C_readTwoParents_3 5 rfl rfl ?_
  refine z_icmp_neN (tgt := 19) d_C_readTwoParents_5 8 rfl rfl (by omega) (by omega) (fun h5 => ?_) (fun h5 => ?_)
  · refine z_null d_C_readTwoParents_19 20 rfl ?_
    exact z_aret (r := none) d_C_readTwoParents_20 rfl (Or.inl ⟨_, rfl⟩) (by decide) (by decide) (hQ0 (by have : ¬ n = 15 := (by omega); simp [cardP, hn8, this]))
  · have hn15 : n = 15 := by omega
    obtain ⟨w8, e8⟩ := byP_g hf (k := k) (i := 8) (by omega)
    refine z_aload_n d_C_readTwoParents_8 9 rfl rfl rfl ?_
    refine z_iload_n d_C_readTwoParents_9 10 rfl rfl rfl ?_
    refine z_bipush (v := nI 6) d_C_readTwoParents_10 12 rfl rfl ?_
    first | refine z_iaddN d_C_readTwoParents_12 13 rfl ?_ | refine z_iadd d_C_readTwoParents_12 13 rfl ?_
    refine z_baldN d_C_readTwoParents_13 14 rfl (by assumption) (by omega) (by omega) ?_
    rw [show f (k + 2 + 6) = sb_b (gB bs k 8) from e8]
    refine z_bipush (v := nI 32) d_C_readTwoParents_14 16 rfl rfl ?_
    refine z_icmp_eq (tgt := 21) d_C_readTwoParents_16 19 rfl rfl (fun h16 => ?_) (fun h16 => ?_)
    · have h8 := (cb_eq _ w8 32 (by decide)).1 h16
      refine z_aload_n d_C_readTwoParents_21 22 rfl rfl rfl ?_
      refine z_iload_n d_C_readTwoParents_22 23 rfl rfl rfl ?_
      refine z_cS1 d_C_readTwoParents_23 26 rfl ms_C_readName kl_C_52 (by decide) 0 0 rfl rfl (by decide) (by decide) (fun Q' w => c_C_readNameG k 2 hb hf (by omega) hN hN2 w) rfl rfl (Nat.le_of_ble_eq_true rfl) ?_
      refine z_ist3 d_C_readTwoParents_26 27 rfl rfl ?_
      refine z_aload_n d_C_readTwoParents_27 28 rfl rfl rfl ?_
      refine z_iload_n d_C_readTwoParents_28 29 rfl rfl rfl ?_
      refine z_bipush (v := nI 6) d_C_readTwoParents_29 31 rfl rfl ?_
      first | refine z_iaddN d_C_readTwoParents_31 32 rfl ?_ | refine z_iadd d_C_readTwoParents_31 32 rfl ?_
      refine z_iconst (v := nI 1) d_C_readTwoParents_32 33 rfl rfl ?_
      first | refine z_iaddN d_C_readTwoParents_33 34 rfl ?_ | refine z_iadd d_C_readTwoParents_33 34 rfl ?_
      refine z_cS1 d_C_readTwoParents_34 37 rfl ms_C_readName kl_C_52 (by decide) 0 0 rfl rfl (by decide) (by decide) (fun Q' w => c_C_readNameG k 9 hb hf (by omega) hN hN2 w) rfl rfl (Nat.le_of_ble_eq_true rfl) ?_
      refine z_ist4 d_C_readTwoParents_37 39 rfl rfl ?_
      refine z_iload_n d_C_readTwoParents_39 40 rfl rfl rfl ?_
      refine z_iconst (v := -1) d_C_readTwoParents_40 41 rfl (by decide) ?_
      refine z_icmp_eq (tgt := 56) d_C_readTwoParents_41 44 rfl rfl (fun h41 => ?_) (fun h41 => ?_)
      · have := (oI_m1 (fun v hv => by have := nm6_lt hv; omega)).1 h41
        refine z_null d_C_readTwoParents_56 57 rfl ?_
        exact z_aret (r := none) d_C_readTwoParents_57 rfl (Or.inl ⟨_, rfl⟩) (by decide) (by decide) (hQ0 (by simp [cardP, hn8, this]))
      · refine z_iload d_C_readTwoParents_44 46 rfl rfl ?_
        refine z_iconst (v := -1) d_C_readTwoParents_46 47 rfl (by decide) ?_
        refine z_icmp_eq (tgt := 56) d_C_readTwoParents_47 50 rfl rfl (fun h47 => ?_) (fun h47 => ?_)
        · have := (oI_m1 (fun v hv => by have := nm6_lt hv; omega)).1 h47
          refine z_null d_C_readTwoParents_56 57 rfl ?_
          exact z_aret (r := none) d_C_readTwoParents_57 rfl (Or.inl ⟨_, rfl⟩) (by decide) (by decide) (hQ0 (by cases hv : nm6 (gB bs k) 2 <;> simp [cardP, hn8, this, hv]))
        · cases hv : nm6 (gB bs k) 2 with
          | none => rw [hv] at h41; exact absurd rfl h41
          | some v =>
            cases hu : nm6 (gB bs k) 9 with
            | none => rw [hu] at h47; exact absurd rfl h47
            | some u =>
              have bv := nm6_lt hv
              have bu := nm6_lt hu
              rw [show oI (some v) = nI v from rfl, show oI (some u) = nI u from rfl]
              refine z_iload_n d_C_readTwoParents_50 51 rfl rfl rfl ?_
              refine z_iload d_C_readTwoParents_51 53 rfl rfl ?_
              refine z_icmp_neN (tgt := 58) d_C_readTwoParents_53 56 rfl rfl (by omega) (by omega) (fun h53 => ?_) (fun h53 => ?_)
              · refine z_new d_C_readTwoParents_58 61 rfl nw_C_10 (by decide) (by decide) (fun q hq => ?_)
                refine z_dup d_C_readTwoParents_61 62 rfl rfl ?_
                refine z_bipush (v := nI 80) d_C_readTwoParents_62 64 rfl rfl ?_
                refine z_iconst (v := -1) d_C_readTwoParents_64 65 rfl (by decide) ?_
                refine z_iconst (v := zb false) d_C_readTwoParents_65 66 rfl (by decide) ?_
                refine z_iload_n d_C_readTwoParents_66 67 rfl rfl rfl ?_
                refine z_iload d_C_readTwoParents_67 69 rfl rfl ?_
                refine z_cI0 d_C_readTwoParents_69 72 rfl mi_C_init kl_C_49 (by decide) 1 5 rfl rfl (by decide) (by decide) (fun Q' w => c_C_init q (nI 80) (-1) false (nI v) (nI u) (zset_self _ _ _) w) rfl rfl (Nat.le_of_ble_eq_true rfl) ?_; rw [zset_zset]
                exact z_aret (r := some q) d_C_readTwoParents_72 rfl (Or.inl ⟨_, rfl⟩) (by decide) (by decide) (hQ1 (80, 0, false, some v, some u, 0) q (by simp [cardP, hn15, h8, hv, hu, h53]) hq)
              · refine z_null d_C_readTwoParents_56 57 rfl ?_
                exact z_aret (r := none) d_C_readTwoParents_57 rfl (Or.inl ⟨_, rfl⟩) (by decide) (by decide) (hQ0 (by simp [cardP, hn8, hv, hu, h53]))
    · refine z_null d_C_readTwoParents_19 20 rfl ?_
      exact z_aret (r := none) d_C_readTwoParents_20 rfl (Or.inl ⟨_, rfl⟩) (by decide) (by decide) (hQ0 (by have : ¬ gB bs k 8 = 32 := fun e => h16 ((cb_eq _ w8 32 (by decide)).2 e); simp [cardP, hn8, this]))
theorem c_C_readTime (k n : Nat) (hb : h b = some (.inl (D.2 0, N, .inl f))) (hf : byP f bs) (hn : 3 ≤ n) (hk : k + n ≤ bs.length) (hN : bs.length ≤ N) (hN2 : N < 2 ^ 30)
    (hQ0 : cardD (gB bs k) n = none → Q (some .null) h) (hQ1 : ∀ c q, cardD (gB bs k) n = some c → h q = none → Q (some (.ref q)) (zset h q (cObj c))) :
    Runs l D M_C_readTime [.ref b, .int (nI (k + 2)), .int (nI (k + n))] h 1 5 Q := by
  refine Runs.of rfl rfl (Nat.le_of_ble_eq_true rfl) ?_
  obtain ⟨w2, e2⟩ := byP_g hf (k := k) (i := 2) (by omega)
  have loop : n ≤ 6 → ¬ (3 < n ∧ gB bs k 2 = 48) → ∀ (c j v : Nat), j + c = n → 2 ≤ j → v < 10 ^ (6 - c) → dgF (gB bs k) 2 (n - 2) = dgF (gB bs k) j c → nuF (gB bs k) 2 (n - 2) 0 = nuF (gB bs k) j c v → Z l D M_C_readTime 1 5 Q h 0 0 35 [some (.ref b), some (.int (nI (k + 2))), some (.int (nI (k + n))), some (.int (nI (k + n - (k + 2)))), some (.int (nI v)), some (.int (nI (k + j)))] [] := by
    intro h6 h48 c
    induction c with
    | zero =>
      intro j v hj h2 hv hd hu
      refine z_iload d_C_readTime_35 37 rfl rfl ?_
      refine z_iload_n d_C_readTime_37 38 rfl rfl rfl ?_
      refine z_icmp_geN (tgt := 77) d_C_readTime_38 41 rfl rfl (by omega) (by omega) (fun h38 => ?_) (fun h38 => ?_)
      · refine z_new d_C_readTime_77 80 rfl nw_C_10 (by decide) (by decide) (fun q hq => ?_)
        refine z_dup d_C_readTime_80 81 rfl rfl ?_
        refine z_bipush (v := nI 68) d_C_readTime_81 83 rfl rfl ?_
        refine z_iconst (v := -1) d_C_readTime_83 84 rfl (by decide) ?_
        refine z_iconst (v := zb false) d_C_readTime_84 85 rfl (by decide) ?_
        refine z_iload d_C_readTime_85 87 rfl rfl ?_
        refine z_iconst (v := -1) d_C_readTime_87 88 rfl (by decide) ?_
        refine z_cI0 d_C_readTime_88 91 rfl mi_C_init kl_C_49 (by decide) 1 5 rfl rfl (by decide) (by decide) (fun Q' w => c_C_init q (nI 68) (-1) false (nI v) (-1) (zset_self _ _ _) w) rfl rfl (Nat.le_of_ble_eq_true rfl) ?_; rw [zset_zset]
        have e : cardD (gB bs k) n = some (68, 0, false, none, none, v) := by
          have hd2 : dgF (gB bs k) 2 (n - 2) = true := by rw [hd]; rfl
          have hu2 : nuF (gB bs k) 2 (n - 2) 0 = v := by rw [hu]; rfl
          unfold cardD
          rw [if_pos ⟨h6, h48, hd2⟩, hu2]
        exact z_aret (r := some q) d_C_readTime_91 rfl (Or.inl ⟨_, rfl⟩) (by decide) (by decide) (hQ1 _ q e hq)
      · omega
    | succ c ih =>
      intro j v hj h2 hv hd hu
      obtain ⟨wj, ej⟩ := byP_g hf (k := k) (i := j) (by omega)
      have h10 : 10 ^ (6 - c) = 10 ^ (6 - (c + 1)) * 10 := by rw [← Nat.pow_succ]; congr 1; omega
      have h11 : 10 ^ (6 - c) ≤ 10 ^ 6 := Nat.pow_le_pow_right (by decide) (by omega)
      refine z_iload d_C_readTime_35 37 rfl rfl ?_
      refine z_iload_n d_C_readTime_37 38 rfl rfl rfl ?_
      refine z_icmp_geN (tgt := 77) d_C_readTime_38 41 rfl rfl (by omega) (by omega) (fun h38 => ?_) (fun h38 => ?_)
      · omega
      · refine z_aload_n d_C_readTime_41 42 rfl rfl rfl ?_
        refine z_iload d_C_readTime_42 44 rfl rfl ?_
        refine z_baldN d_C_readTime_44 45 rfl (by assumption) (by omega) (by omega) ?_
        rw [ej]
        refine z_bipush (v := nI 48) d_C_readTime_45 47 rfl rfl ?_
        refine z_isub d_C_readTime_47 48 rfl ?_
        refine z_cS1 d_C_readTime_48 51 rfl ms_B_isDigit kl_C_45 (by decide) 0 0 rfl rfl (by decide) (by decide) (fun Q' w => c_B_isDigit _ w) rfl rfl (Nat.le_of_ble_eq_true rfl) ?_
        rw [cb_dg _ wj]
        refine z_if_neB (tgt := 56) d_C_readTime_51 54 rfl rfl (fun h51 => ?_) (fun h51 => ?_)
        · have hdv := (cb_dv _ wj h51).2
          have hd2 := h51
          simp only [isDg, Bool.and_eq_true, decide_eq_true_eq] at hd2
          refine z_bipush (v := nI 10) d_C_readTime_56 58 rfl rfl ?_
          refine z_iload d_C_readTime_58 60 rfl rfl ?_
          first | refine z_imulN d_C_readTime_60 61 rfl ?_ | refine z_imul d_C_readTime_60 61 rfl ?_
          refine z_aload_n d_C_readTime_61 62 rfl rfl rfl ?_
          refine z_iload d_C_readTime_62 64 rfl rfl ?_
          refine z_baldN d_C_readTime_64 65 rfl (by assumption) (by omega) (by omega) ?_
          rw [ej, hdv]
          first | refine z_iaddN d_C_readTime_65 66 rfl ?_ | refine z_iadd d_C_readTime_65 66 rfl ?_
          refine z_bipush (v := nI 48) d_C_readTime_66 68 rfl rfl ?_
          refine z_isubN d_C_readTime_68 69 rfl (by omega) ?_
          refine z_ist4 d_C_readTime_69 71 rfl rfl ?_
          first | refine z_incN5 d_C_readTime_71 74 rfl rfl ?_ | refine z_inc5 d_C_readTime_71 74 rfl rfl rfl ?_
          refine z_goto (tgt := 35) d_C_readTime_74 rfl ?_
          exact ih (j + 1) (10 * v + gB bs k j - 48) (by omega) (by omega) (by omega) (by rw [hd]; simp only [dgF, h51, Bool.true_and]) (by rw [hu]; simp only [nuF]; congr 1; omega)
        · have hbad : cardD (gB bs k) n = none := by
            unfold cardD
            rw [if_neg]
            rintro ⟨-, -, q⟩
            rw [hd, dgF, h51] at q
            cases q
          refine z_null d_C_readTime_54 55 rfl ?_
          exact z_aret (r := none) d_C_readTime_55 rfl (Or.inl ⟨_, rfl⟩) (by decide) (by decide) (hQ0 hbad)
  have go : n ≤ 6 → ¬ (3 < n ∧ gB bs k 2 = 48) → Z l D M_C_readTime 1 5 Q h 0 0 29 [some (.ref b), some (.int (nI (k + 2))), some (.int (nI (k + n))), some (.int (nI (k + n - (k + 2)))), none, none] [] := by
    intro h6 h48
    refine z_iconst (v := nI 0) d_C_readTime_29 30 rfl rfl ?_
    refine z_ist4 d_C_readTime_30 32 rfl rfl ?_
    refine z_iload_n d_C_readTime_32 33 rfl rfl rfl ?_
    refine z_ist5 d_C_readTime_33 35 rfl rfl ?_
    exact loop h6 h48 (n - 2) 2 0 (by omega) (Nat.le_refl 2) (Nat.pow_pos (by decide)) rfl rfl
  refine z_iload_n d_C_readTime_0 1 rfl rfl rfl ?_
  refine z_iload_n d_C_readTime_1 2 rfl rfl rfl ?_
  refine z_isubN d_C_readTime_2 3 rfl (by omega) ?_
  refine z_ist3 d_C_readTime_3 4 rfl rfl ?_
  refine z_iload_n d_C_readTime_4 5 rfl rfl rfl ?_
  refine z_iconst (v := nI 1) d_C_readTime_5 6 rfl rfl ?_
  refine z_icmp_ltN (tgt := 27) d_C_readTime_6 9 rfl rfl (by omega) (by omega) (fun h6 => ?_) (fun h6 => ?_)
  · omega
  · refine z_iload_n d_C_readTime_9 10 rfl rfl rfl ?_
    refine z_iconst (v := nI 4) d_C_readTime_10 11 rfl rfl ?_
    refine z_icmp_gtN (tgt := 27) d_C_readTime_11 14 rfl rfl (by omega) (by omega) (fun h11 => ?_) (fun h11 => ?_)
    · refine z_null d_C_readTime_27 28 rfl ?_
      exact z_aret (r := none) d_C_readTime_28 rfl (Or.inl ⟨_, rfl⟩) (by decide) (by decide) (hQ0 (by simp [cardD]; omega))
    · refine z_iload_n d_C_readTime_14 15 rfl rfl rfl ?_
      refine z_iconst (v := nI 1) d_C_readTime_15 16 rfl rfl ?_
      refine z_icmp_leN (tgt := 29) d_C_readTime_16 19 rfl rfl (by omega) (by omega) (fun h16 => ?_) (fun h16 => ?_)
      · exact go (by omega) (by omega)
      · refine z_aload_n d_C_readTime_19 20 rfl rfl rfl ?_
        refine z_iload_n d_C_readTime_20 21 rfl rfl rfl ?_
        refine z_baldN d_C_readTime_21 22 rfl (by assumption) (by omega) (by omega) ?_
        rw [e2]
        refine z_bipush (v := nI 48) d_C_readTime_22 24 rfl rfl ?_
        refine z_icmp_ne (tgt := 29) d_C_readTime_24 27 rfl rfl (fun h24 => ?_) (fun h24 => ?_)
        · have : ¬ gB bs k 2 = 48 := fun e => h24 ((cb_eq _ w2 48 (by decide)).2 e)
          exact go (by omega) (fun q => this q.2)
        · have := (cb_eq _ w2 48 (by decide)).1 h24
          refine z_null d_C_readTime_27 28 rfl ?_
          exact z_aret (r := none) d_C_readTime_28 rfl (Or.inl ⟨_, rfl⟩) (by decide) (by decide) (hQ0 (by unfold cardD; rw [if_neg]; rintro ⟨-, q, -⟩; exact q ⟨by omega, this⟩))
end C8
