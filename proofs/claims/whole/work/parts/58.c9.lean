/-! The class: tags, cards. Own work. -/
section C9
variable {l : Launch} {D : zD} {M : zM} {h : zH} {b N : Nat} {f : Nat → Int32} {Q : Option Value → zH → Prop} {bs : List Nat}
theorem c_C_readTag (k n : Nat) (hb : h b = some (.inl (D.2 0, N, .inl f))) (hf : byP f bs) (hn : 3 ≤ n) (hk : k + n ≤ bs.length) (hN : bs.length ≤ N) (hN2 : N < 2 ^ 30)
    (hQ0 : ((n = 6 ∨ n = 11) → cardT (gB bs k) n = none) → Q (some .null) h) (hQ1 : ∀ c q, (n = 6 ∨ n = 11) → cardT (gB bs k) n = some c → h q = none → Q (some (.ref q)) (zset h q (cObj c))) :
    Runs l D M_C_readTag [.ref b, .int (nI (k + 2)), .int (nI (k + n))] h 1 5 Q := by
  refine Runs.of rfl rfl (Nat.le_of_ble_eq_true rfl) ?_
  refine z_iload_n d_C_readTag_0 1 rfl rfl rfl ?_
  refine z_iload_n d_C_readTag_1 2 rfl rfl rfl ?_
  refine z_isubN d_C_readTag_2 3 rfl (by omega) ?_
  refine z_iconst (v := nI 4) d_C_readTag_3 4 rfl rfl ?_
  refine z_icmp_ltN (tgt := 17) d_C_readTag_4 7 rfl rfl (by omega) (by omega) (fun h4 => ?_) (fun h4 => ?_)
  · refine z_null d_C_readTag_17 18 rfl ?_
    exact z_aret (r := none) d_C_readTag_18 rfl (Or.inl ⟨_, rfl⟩) (by decide) (by decide) (hQ0 (by intro; omega))
  · obtain ⟨w4, e4⟩ := byP_g hf (k := k) (i := 4) (by omega)
    obtain ⟨w2, e2⟩ := byP_g hf (k := k) (i := 2) (by omega)
    obtain ⟨w3, e3⟩ := byP_g hf (k := k) (i := 3) (by omega)
    obtain ⟨w5, e5⟩ := byP_g hf (k := k) (i := 5) (by omega)
    refine z_aload_n d_C_readTag_7 8 rfl rfl rfl ?_
    refine z_iload_n d_C_readTag_8 9 rfl rfl rfl ?_
    refine z_iconst (v := nI 2) d_C_readTag_9 10 rfl rfl ?_
    first | refine z_iaddN d_C_readTag_10 11 rfl ?_ | refine z_iadd d_C_readTag_10 11 rfl ?_
    refine z_baldN d_C_readTag_11 12 rfl (by assumption) (by omega) (by omega) ?_
    rw [show f (k + 2 + 2) = sb_b (gB bs k 4) from e4]
    refine z_bipush (v := nI 32) d_C_readTag_12 14 rfl rfl ?_
    refine z_icmp_eq (tgt := 19) d_C_readTag_14 17 rfl rfl (fun h14 => ?_) (fun h14 => ?_)
    · have h4 := (cb_eq _ w4 32 (by decide)).1 h14
      have j32 : ∀ p : Bool, p = decide (gB bs k 2 = 43) → Z l D M_C_readTag 1 5 Q h 0 0 32 [some (.ref b), some (.int (nI (k + 2))), some (.int (nI (k + n))), none, none, none] [.int (zb p)] := by
        intro p hp
        refine z_ist3 d_C_readTag_32 33 rfl rfl ?_
        refine z_aload_n d_C_readTag_33 34 rfl rfl rfl ?_
        refine z_iload_n d_C_readTag_34 35 rfl rfl rfl ?_
        refine z_iconst (v := nI 1) d_C_readTag_35 36 rfl rfl ?_
        first | refine z_iaddN d_C_readTag_36 37 rfl ?_ | refine z_iadd d_C_readTag_36 37 rfl ?_
        refine z_baldN d_C_readTag_37 38 rfl (by assumption) (by omega) (by omega) ?_
        rw [show f (k + 2 + 1) = sb_b (gB bs k 3) from e3]
        refine z_bipush (v := nI 48) d_C_readTag_38 40 rfl rfl ?_
        refine z_isub d_C_readTag_40 41 rfl ?_
        refine z_ist4 d_C_readTag_41 43 rfl rfl ?_
        -- behind the sign
        have j55 : (gB bs k 2 = 43 ∨ gB bs k 2 = 45) → Z l D M_C_readTag 1 5 Q h 0 0 55 [some (.ref b), some (.int (nI (k + 2))), some (.int (nI (k + n))), some (.int (zb p)), some (.int (sb_b (gB bs k 3) - nI 48)), none] [] := by
          intro hs
          refine z_iload d_C_readTag_55 57 rfl rfl ?_
          refine z_cS1 d_C_readTag_57 60 rfl ms_B_isDigit kl_C_45 (by decide) 0 0 rfl rfl (by decide) (by decide) (fun Q' w => c_B_isDigit _ w) rfl rfl (Nat.le_of_ble_eq_true rfl) ?_
          rw [cb_dg _ w3]
          refine z_if_neB (tgt := 65) d_C_readTag_60 63 rfl rfl (fun h60 => ?_) (fun h60 => ?_)
          · have j97 : ¬ (n = 6 ∧ gB bs k 5 = 42) → Z l D M_C_readTag 1 5 Q h 0 0 97 [some (.ref b), some (.int (nI (k + 2))), some (.int (nI (k + n))), some (.int (zb p)), some (.int (sb_b (gB bs k 3) - nI 48)), none] [] := by
              intro hns
              refine z_iload_n d_C_readTag_97 98 rfl rfl rfl ?_
              refine z_iload_n d_C_readTag_98 99 rfl rfl rfl ?_
              refine z_isubN d_C_readTag_99 100 rfl (by omega) ?_
              refine z_bipush (v := nI 9) d_C_readTag_100 102 rfl rfl ?_
              refine z_icmp_eqN (tgt := 107) d_C_readTag_102 105 rfl rfl (by omega) (by omega) (fun h102 => ?_) (fun h102 => ?_)
              · have hn11 : n = 11 := by omega
                refine z_aload_n d_C_readTag_107 108 rfl rfl rfl ?_
                refine z_iload_n d_C_readTag_108 109 rfl rfl rfl ?_
                refine z_iconst (v := nI 3) d_C_readTag_109 110 rfl rfl ?_
                first | refine z_iaddN d_C_readTag_110 111 rfl ?_ | refine z_iadd d_C_readTag_110 111 rfl ?_
                refine z_cS1 d_C_readTag_111 114 rfl ms_C_readName kl_C_52 (by decide) 0 0 rfl rfl (by decide) (by decide) (fun Q' w => c_C_readNameG k 5 hb hf (by omega) hN hN2 w) rfl rfl (Nat.le_of_ble_eq_true rfl) ?_
                refine z_ist5 d_C_readTag_114 116 rfl rfl ?_
                refine z_iload d_C_readTag_116 118 rfl rfl ?_
                refine z_iconst (v := -1) d_C_readTag_118 119 rfl (by decide) ?_
                refine z_icmp_eq (tgt := 140) d_C_readTag_119 122 rfl rfl (fun h119 => ?_) (fun h119 => ?_)
                · have := (oI_m1 (fun v hv => by have := nm6_lt hv; omega)).1 h119
                  refine z_null d_C_readTag_140 141 rfl ?_
                  exact z_aret (r := none) d_C_readTag_141 rfl (Or.inl ⟨_, rfl⟩) (by decide) (by decide) (hQ0 (fun _ => by simp [cardT, hn11, this]))
                · cases hv : nm6 (gB bs k) 5 with
                  | none => rw [hv] at h119; exact absurd rfl h119
                  | some v =>
                    rw [show oI (some v) = nI v from rfl, (cb_dv _ w3 h60).1]
                    refine z_new d_C_readTag_122 125 rfl nw_C_10 (by decide) (by decide) (fun q hq => ?_)
                    refine z_dup d_C_readTag_125 126 rfl rfl ?_
                    refine z_bipush (v := nI 84) d_C_readTag_126 128 rfl rfl ?_
                    refine z_iload d_C_readTag_128 130 rfl rfl ?_
                    refine z_iload_n d_C_readTag_130 131 rfl rfl rfl ?_
                    refine z_iload d_C_readTag_131 133 rfl rfl ?_
                    refine z_iconst (v := -1) d_C_readTag_133 134 rfl (by decide) ?_
                    refine z_cI0 d_C_readTag_134 137 rfl mi_C_init kl_C_49 (by decide) 1 5 rfl rfl (by decide) (by decide) (fun Q' w => c_C_init q (nI 84) (nI (gB bs k 3 - 48)) p (nI v) (-1) (zset_self _ _ _) w) rfl rfl (Nat.le_of_ble_eq_true rfl) ?_; rw [zset_zset]
                    refine z_goto (tgt := 141) d_C_readTag_137 rfl ?_
                    exact z_aret (r := some q) d_C_readTag_141 rfl (Or.inl ⟨_, rfl⟩) (by decide) (by decide) (hQ1 (84, gB bs k 3 - 48, p, some v, none, 0) q (Or.inr hn11) (by rw [hp]; simp [cardT, hn11, hs, h60, h4, hv]) hq)
              · refine z_null d_C_readTag_105 106 rfl ?_
                exact z_aret (r := none) d_C_readTag_106 rfl (Or.inl ⟨_, rfl⟩) (by decide) (by decide) (hQ0 (fun q => by have hn6 : n = 6 := (by omega); have : ¬ gB bs k 5 = 42 := fun e => hns ⟨hn6, e⟩; simp [cardT, hn6, this]))
            refine z_iload_n d_C_readTag_65 66 rfl rfl rfl ?_
            refine z_iload_n d_C_readTag_66 67 rfl rfl rfl ?_
            refine z_isubN d_C_readTag_67 68 rfl (by omega) ?_
            refine z_iconst (v := nI 4) d_C_readTag_68 69 rfl rfl ?_
            refine z_icmp_neN (tgt := 97) d_C_readTag_69 72 rfl rfl (by omega) (by omega) (fun h69 => ?_) (fun h69 => ?_)
            · exact j97 (fun q => by omega)
            · refine z_aload_n d_C_readTag_72 73 rfl rfl rfl ?_
              refine z_iload_n d_C_readTag_73 74 rfl rfl rfl ?_
              refine z_iconst (v := nI 3) d_C_readTag_74 75 rfl rfl ?_
              first | refine z_iaddN d_C_readTag_75 76 rfl ?_ | refine z_iadd d_C_readTag_75 76 rfl ?_
              refine z_baldN d_C_readTag_76 77 rfl (by assumption) (by omega) (by omega) ?_
              rw [show f (k + 2 + 3) = sb_b (gB bs k 5) from e5]
              refine z_bipush (v := nI 42) d_C_readTag_77 79 rfl rfl ?_
              refine z_icmp_ne (tgt := 97) d_C_readTag_79 82 rfl rfl (fun h79 => ?_) (fun h79 => ?_)
              · exact j97 (fun q => h79 ((cb_eq _ w5 42 (by decide)).2 q.2))
              · have h5 := (cb_eq _ w5 42 (by decide)).1 h79
                have hn6 : n = 6 := by omega
                rw [(cb_dv _ w3 h60).1]
                refine z_new d_C_readTag_82 85 rfl nw_C_10 (by decide) (by decide) (fun q hq => ?_)
                refine z_dup d_C_readTag_85 86 rfl rfl ?_
                refine z_bipush (v := nI 84) d_C_readTag_86 88 rfl rfl ?_
                refine z_iload d_C_readTag_88 90 rfl rfl ?_
                refine z_iload_n d_C_readTag_90 91 rfl rfl rfl ?_
                refine z_iconst (v := -1) d_C_readTag_91 92 rfl (by decide) ?_
                refine z_iconst (v := -1) d_C_readTag_92 93 rfl (by decide) ?_
                refine z_cI0 d_C_readTag_93 96 rfl mi_C_init kl_C_49 (by decide) 1 5 rfl rfl (by decide) (by decide) (fun Q' w => c_C_init q (nI 84) (nI (gB bs k 3 - 48)) p (-1) (-1) (zset_self _ _ _) w) rfl rfl (Nat.le_of_ble_eq_true rfl) ?_; rw [zset_zset]
                exact z_aret (r := some q) d_C_readTag_96 rfl (Or.inl ⟨_, rfl⟩) (by decide) (by decide) (hQ1 (84, gB bs k 3 - 48, p, none, none, 0) q (Or.inl hn6) (by rw [hp]; simp [cardT, hn6, hs, h60, h4, h5]) hq)
          · refine z_null d_C_readTag_63 64 rfl ?_
            exact z_aret (r := none) d_C_readTag_64 rfl (Or.inl ⟨_, rfl⟩) (by decide) (by decide) (hQ0 (fun _ => by simp [cardT, h60]))
        refine z_iload_n d_C_readTag_43 44 rfl rfl rfl ?_
        refine z_if_neB (tgt := 55) d_C_readTag_44 47 rfl rfl (fun h44 => ?_) (fun h44 => ?_)
        · exact j55 (Or.inl (by rw [h44] at hp; simpa using hp.symm))
        · have hne : ¬ gB bs k 2 = 43 := by rw [h44] at hp; simpa using hp.symm
          refine z_aload_n d_C_readTag_47 48 rfl rfl rfl ?_
          refine z_iload_n d_C_readTag_48 49 rfl rfl rfl ?_
          refine z_baldN d_C_readTag_49 50 rfl (by assumption) (by omega) (by omega) ?_
          rw [e2]
          refine z_bipush (v := nI 45) d_C_readTag_50 52 rfl rfl ?_
          refine z_icmp_ne (tgt := 63) d_C_readTag_52 55 rfl rfl (fun h52 => ?_) (fun h52 => ?_)
          · have : ¬ gB bs k 2 = 45 := fun e => h52 ((cb_eq _ w2 45 (by decide)).2 e)
            refine z_null d_C_readTag_63 64 rfl ?_
            exact z_aret (r := none) d_C_readTag_64 rfl (Or.inl ⟨_, rfl⟩) (by decide) (by decide) (hQ0 (fun _ => by simp [cardT, hne, this]))
          · exact j55 (Or.inr ((cb_eq _ w2 45 (by decide)).1 h52))
      refine z_aload_n d_C_readTag_19 20 rfl rfl rfl ?_
      refine z_iload_n d_C_readTag_20 21 rfl rfl rfl ?_
      refine z_baldN d_C_readTag_21 22 rfl (by assumption) (by omega) (by omega) ?_
      rw [e2]
      refine z_bipush (v := nI 43) d_C_readTag_22 24 rfl rfl ?_
      refine z_icmp_ne (tgt := 31) d_C_readTag_24 27 rfl rfl (fun h24 => ?_) (fun h24 => ?_)
      · have : ¬ gB bs k 2 = 43 := fun e => h24 ((cb_eq _ w2 43 (by decide)).2 e)
        refine z_iconst (v := nI 0) d_C_readTag_31 32 rfl rfl ?_
        exact j32 false (by simp [this])
      · have := (cb_eq _ w2 43 (by decide)).1 h24
        refine z_iconst (v := nI 1) d_C_readTag_27 28 rfl rfl ?_
        refine z_goto (tgt := 32) d_C_readTag_28 rfl ?_
        exact j32 true (by simp [this])
    · refine z_null d_C_readTag_17 18 rfl ?_
      exact z_aret (r := none) d_C_readTag_18 rfl (Or.inl ⟨_, rfl⟩) (by decide) (by decide) (hQ0 (fun _ => by have : ¬ gB bs k 4 = 32 := fun e => h14 ((cb_eq _ w4 32 (by decide)).2 e); simp [cardT, this]))
theorem sb_rng : ∀ w, w < 256 → ((w < 68 ∨ 90 < w) → ((sb_b w).toInt < 68 ∨ 90 < (sb_b w).toInt)) ∧ (w < 128 → (sb_b w) = nI w) := by decide +kernel
theorem c_C_read (k n : Nat) (hb : h b = some (.inl (D.2 0, N, .inl f))) (hf : byP f bs) (hk : k + n ≤ bs.length) (hN : bs.length ≤ N) (hN2 : N < 2 ^ 30)
    (hQ0 : cardG (gB bs k) n = none → Q (some .null) h) (hQ1 : ∀ c q, cardG (gB bs k) n = some c → h q = none → Q (some (.ref q)) (zset h q (cObj c))) :
    Runs l D M_C_read [.ref b, .int (nI k), .int (nI (k + n))] h 1 5 Q := by
  refine Runs.of rfl rfl (Nat.le_of_ble_eq_true rfl) ?_
  refine z_iload_n d_C_read_0 1 rfl rfl rfl ?_
  refine z_iload_n d_C_read_1 2 rfl rfl rfl ?_
  refine z_isubN d_C_read_2 3 rfl (by omega) ?_
  refine z_iconst (v := nI 3) d_C_read_3 4 rfl rfl ?_
  refine z_icmp_ltN (tgt := 17) d_C_read_4 7 rfl rfl (by omega) (by omega) (fun h4 => ?_) (fun h4 => ?_)
  · refine z_null d_C_read_17 18 rfl ?_
    exact z_aret (r := none) d_C_read_18 rfl (Or.inl ⟨_, rfl⟩) (by decide) (by decide) (hQ0 (by have : ¬ 3 ≤ n := (by omega); simp [cardG, this]))
  · have hn3 : 3 ≤ n := by omega
    obtain ⟨w1, e1⟩ := byP_g hf (k := k) (i := 1) (by omega)
    obtain ⟨w0, e0⟩ := byP_g hf (k := k) (i := 0) (by omega)
    refine z_aload_n d_C_read_7 8 rfl rfl rfl ?_
    refine z_iload_n d_C_read_8 9 rfl rfl rfl ?_
    refine z_iconst (v := nI 1) d_C_read_9 10 rfl rfl ?_
    first | refine z_iaddN d_C_read_10 11 rfl ?_ | refine z_iadd d_C_read_10 11 rfl ?_
    refine z_baldN d_C_read_11 12 rfl (by assumption) (by omega) (by omega) ?_
    rw [e1]
    refine z_bipush (v := nI 32) d_C_read_12 14 rfl rfl ?_
    refine z_icmp_eq (tgt := 19) d_C_read_14 17 rfl rfl (fun h14 => ?_) (fun h14 => ?_)
    · have h1 := (cb_eq _ w1 32 (by decide)).1 h14
      have hG : cardG (gB bs k) n = cardB (gB bs k) n := by simp [cardG, hn3, h1]
      rw [hG] at hQ0 hQ1
      have other : ∀ (lv : List (Option Value)), cardB (gB bs k) n = none → Z l D M_C_read 1 5 Q h 0 0 198 lv [] := by
        intro lv hc
        refine z_null d_C_read_198 199 rfl ?_
        exact z_aret (r := none) d_C_read_199 rfl (Or.inl ⟨_, rfl⟩) (by decide) (by decide) (hQ0 hc)
      have hr9 := sb_rng _ w0
      refine z_aload_n d_C_read_19 20 rfl rfl rfl ?_
      refine z_iload_n d_C_read_20 21 rfl rfl rfl ?_
      refine z_baldN d_C_read_21 22 rfl (by assumption) (by omega) (by omega) ?_
      rw [show f k = sb_b (gB bs k 0) from e0]
      refine z_ist3 d_C_read_22 23 rfl rfl ?_
      refine z_iload_n d_C_read_23 24 rfl rfl rfl ?_
      by_cases hout : gB bs k 0 < 68 ∨ 90 < gB bs k 0
      · refine z_tout 198 d_C_read_24 (hr9.1 hout) (by decide) ?_
        refine other _ ?_
        unfold cardB
        rw [if_neg (by omega), if_neg (by omega), if_neg (by omega), if_neg (by omega), if_neg (by omega)]
      · rw [hr9.2 (by omega)]
        obtain ⟨c, hc, hc1, hc2⟩ : ∃ c, gB bs k 0 = c ∧ 68 ≤ c ∧ c ≤ 90 := ⟨_, rfl, by omega, by omega⟩
        rw [hc]
        have none9 : c ≠ 68 → c ≠ 77 → c ≠ 82 → c ≠ 90 → c ≠ 70 → c ≠ 80 → c ≠ 84 → cardB (gB bs k) n = none := by
          intro q1 q2 q3 q4 q5 q6 q7
          unfold cardB
          rw [hc, if_neg q1, if_neg (by omega), if_neg q5, if_neg q6, if_neg q7]
        rcases (show c = 68 ∨ c = 69 ∨ c = 70 ∨ c = 71 ∨ c = 72 ∨ c = 73 ∨ c = 74 ∨ c = 75 ∨ c = 76 ∨ c = 77 ∨ c = 78 ∨ c = 79 ∨ c = 80 ∨ c = 81 ∨ c = 82 ∨ c = 83 ∨ c = 84 ∨ c = 85 ∨ c = 86 ∨ c = 87 ∨ c = 88 ∨ c = 89 ∨ c = 90 by omega) with rfl | rfl | rfl | rfl | rfl | rfl | rfl | rfl | rfl | rfl | rfl | rfl | rfl | rfl | rfl | rfl | rfl | rfl | rfl | rfl | rfl | rfl | rfl
        · refine z_tin (off := 108) 132 d_C_read_24 (by decide) (by decide) (by decide +kernel) (by decide) ?_
          have hcb : cardB (gB bs k) n = cardD (gB bs k) n := by unfold cardB; rw [if_pos hc]
          rw [hcb] at hQ0 hQ1
          refine z_aload_n d_C_read_132 133 rfl rfl rfl ?_
          refine z_iload_n d_C_read_133 134 rfl rfl rfl ?_
          refine z_iconst (v := nI 2) d_C_read_134 135 rfl rfl ?_
          first | refine z_iaddN d_C_read_135 136 rfl ?_ | refine z_iadd d_C_read_135 136 rfl ?_
          refine z_iload_n d_C_read_136 137 rfl rfl rfl ?_
          refine z_cS (Q' := fun r h' => ∃ z, r = some (va_rf z) ∧ Q (some (va_rf z)) h') d_C_read_137 140 rfl ms_C_readTime kl_C_28 (by decide) 1 5 rfl rfl (by decide) (by decide) (c_C_readTime k n hb hf hn3 hk hN hN2 (fun q => ⟨none, rfl, hQ0 q⟩) (fun c q q1 q2 => ⟨some q, rfl, hQ1 c q q1 q2⟩)) rfl rfl (Nat.le_of_ble_eq_true rfl) ?_
          rintro _ _ ⟨z, rfl, hz⟩
          exact z_aret d_C_read_140 rfl (Or.inl ⟨_, rfl⟩) (by decide) (by decide) hz
        · refine z_tin (off := 174) 198 d_C_read_24 (by decide) (by decide) (by decide +kernel) (by decide) ?_
          exact other _ (none9 (by decide) (by decide) (by decide) (by decide) (by decide) (by decide) (by decide))
        · refine z_tin (off := 117) 141 d_C_read_24 (by decide) (by decide) (by decide +kernel) (by decide) ?_
          have hcb : cardB (gB bs k) n = cardF (gB bs k) n := by unfold cardB; rw [hc, if_neg (by decide), if_neg (by decide), if_pos rfl]
          rw [hcb] at hQ0 hQ1
          refine z_aload_n d_C_read_141 142 rfl rfl rfl ?_
          refine z_iload_n d_C_read_142 143 rfl rfl rfl ?_
          refine z_iconst (v := nI 2) d_C_read_143 144 rfl rfl ?_
          first | refine z_iaddN d_C_read_144 145 rfl ?_ | refine z_iadd d_C_read_144 145 rfl ?_
          refine z_iload_n d_C_read_145 146 rfl rfl rfl ?_
          refine z_cS (Q' := fun r h' => ∃ z, r = some (va_rf z) ∧ Q (some (va_rf z)) h') d_C_read_146 149 rfl ms_C_readFile kl_C_32 (by decide) 1 5 rfl rfl (by decide) (by decide) (c_C_readFile k n hb hf hn3 hk hN hN2 (fun q => ⟨none, rfl, hQ0 q⟩) (fun c q q1 q2 => ⟨some q, rfl, hQ1 c q q1 q2⟩)) rfl rfl (Nat.le_of_ble_eq_true rfl) ?_
          rintro _ _ ⟨z, rfl, hz⟩
          exact z_aret d_C_read_149 rfl (Or.inl ⟨_, rfl⟩) (by decide) (by decide) hz
        · refine z_tin (off := 174) 198 d_C_read_24 (by decide) (by decide) (by decide +kernel) (by decide) ?_
          exact other _ (none9 (by decide) (by decide) (by decide) (by decide) (by decide) (by decide) (by decide))
        · refine z_tin (off := 174) 198 d_C_read_24 (by decide) (by decide) (by decide +kernel) (by decide) ?_
          exact other _ (none9 (by decide) (by decide) (by decide) (by decide) (by decide) (by decide) (by decide))
        · refine z_tin (off := 174) 198 d_C_read_24 (by decide) (by decide) (by decide +kernel) (by decide) ?_
          exact other _ (none9 (by decide) (by decide) (by decide) (by decide) (by decide) (by decide) (by decide))
        · refine z_tin (off := 174) 198 d_C_read_24 (by decide) (by decide) (by decide +kernel) (by decide) ?_
          exact other _ (none9 (by decide) (by decide) (by decide) (by decide) (by decide) (by decide) (by decide))
        · refine z_tin (off := 174) 198 d_C_read_24 (by decide) (by decide) (by decide +kernel) (by decide) ?_
          exact other _ (none9 (by decide) (by decide) (by decide) (by decide) (by decide) (by decide) (by decide))
        · refine z_tin (off := 174) 198 d_C_read_24 (by decide) (by decide) (by decide +kernel) (by decide) ?_
          exact other _ (none9 (by decide) (by decide) (by decide) (by decide) (by decide) (by decide) (by decide))
        · refine z_tin (off := 126) 150 d_C_read_24 (by decide) (by decide) (by decide +kernel) (by decide) ?_
          have hcb : cardB (gB bs k) n = card1 (gB bs k) n := by unfold cardB; rw [hc, if_neg (by decide), if_pos (by decide)]
          rw [hcb] at hQ0 hQ1
          refine z_iload_n d_C_read_150 151 rfl rfl rfl ?_
          refine z_aload_n d_C_read_151 152 rfl rfl rfl ?_
          refine z_iload_n d_C_read_152 153 rfl rfl rfl ?_
          refine z_iconst (v := nI 2) d_C_read_153 154 rfl rfl ?_
          first | refine z_iaddN d_C_read_154 155 rfl ?_ | refine z_iadd d_C_read_154 155 rfl ?_
          refine z_iload_n d_C_read_155 156 rfl rfl rfl ?_
          refine z_cS (Q' := fun r h' => ∃ z, r = some (va_rf z) ∧ Q (some (va_rf z)) h') d_C_read_156 159 rfl ms_C_readOneName kl_C_35 (by decide) 1 5 rfl rfl (by decide) (by decide) (c_C_readOneName 77 k n hb hf hn3 hk hN hN2 (fun q => ⟨none, rfl, hQ0 (by rcases q with q | q <;> simp [card1, q])⟩) (fun v q q1 q2 q3 => ⟨some q, rfl, hQ1 (77, 0, false, some v, none, 0) q (by simp [card1, q1, q2, hc]) q3⟩)) rfl rfl (Nat.le_of_ble_eq_true rfl) ?_
          rintro _ _ ⟨z, rfl, hz⟩
          exact z_aret d_C_read_159 rfl (Or.inl ⟨_, rfl⟩) (by decide) (by decide) hz
        · refine z_tin (off := 174) 198 d_C_read_24 (by decide) (by decide) (by decide +kernel) (by decide) ?_
          exact other _ (none9 (by decide) (by decide) (by decide) (by decide) (by decide) (by decide) (by decide))
        · refine z_tin (off := 174) 198 d_C_read_24 (by decide) (by decide) (by decide +kernel) (by decide) ?_
          exact other _ (none9 (by decide) (by decide) (by decide) (by decide) (by decide) (by decide) (by decide))
        · refine z_tin (off := 136) 160 d_C_read_24 (by decide) (by decide) (by decide +kernel) (by decide) ?_
          have hcb : cardB (gB bs k) n = cardP (gB bs k) n := by unfold cardB; rw [hc, if_neg (by decide), if_neg (by decide), if_neg (by decide), if_pos rfl]
          rw [hcb] at hQ0 hQ1
          refine z_iload_n d_C_read_160 161 rfl rfl rfl ?_
          refine z_iload_n d_C_read_161 162 rfl rfl rfl ?_
          refine z_isubN d_C_read_162 163 rfl (by omega) ?_
          refine z_bipush (v := nI 8) d_C_read_163 165 rfl rfl ?_
          refine z_icmp_neN (tgt := 180) d_C_read_165 168 rfl rfl (by omega) (by omega) (fun h165 => ?_) (fun h165 => ?_)
          · refine z_aload_n d_C_read_180 181 rfl rfl rfl ?_
            refine z_iload_n d_C_read_181 182 rfl rfl rfl ?_
            refine z_iconst (v := nI 2) d_C_read_182 183 rfl rfl ?_
            first | refine z_iaddN d_C_read_183 184 rfl ?_ | refine z_iadd d_C_read_183 184 rfl ?_
            refine z_iload_n d_C_read_184 185 rfl rfl rfl ?_
            refine z_cS (Q' := fun r h' => ∃ z, r = some (va_rf z) ∧ Q (some (va_rf z)) h') d_C_read_185 188 rfl ms_C_readTwoParents kl_C_39 (by decide) 1 5 rfl rfl (by decide) (by decide) (c_C_readTwoParents k n hb hf hn3 (by omega) hk hN hN2 (fun q => ⟨none, rfl, hQ0 q⟩) (fun c q q1 q2 => ⟨some q, rfl, hQ1 c q q1 q2⟩)) rfl rfl (Nat.le_of_ble_eq_true rfl) ?_
            rintro _ _ ⟨z, rfl, hz⟩
            exact z_aret d_C_read_188 rfl (Or.inl ⟨_, rfl⟩) (by decide) (by decide) hz
          · have hn8 : n = 8 := by omega
            refine z_iload_n d_C_read_168 169 rfl rfl rfl ?_
            refine z_aload_n d_C_read_169 170 rfl rfl rfl ?_
            refine z_iload_n d_C_read_170 171 rfl rfl rfl ?_
            refine z_iconst (v := nI 2) d_C_read_171 172 rfl rfl ?_
            first | refine z_iaddN d_C_read_172 173 rfl ?_ | refine z_iadd d_C_read_172 173 rfl ?_
            refine z_iload_n d_C_read_173 174 rfl rfl rfl ?_
            refine z_cS (Q' := fun r h' => ∃ z, r = some (va_rf z) ∧ Q (some (va_rf z)) h') d_C_read_174 177 rfl ms_C_readOneName kl_C_35 (by decide) 1 5 rfl rfl (by decide) (by decide) (c_C_readOneName 80 k n hb hf hn3 hk hN hN2 (fun q => ⟨none, rfl, hQ0 (by rcases q with q | q; (exact absurd hn8 q); (simp [cardP, hn8, q]))⟩) (fun v q q1 q2 q3 => ⟨some q, rfl, hQ1 (80, 0, false, some v, none, 0) q (by simp [cardP, q1, q2]) q3⟩)) rfl rfl (Nat.le_of_ble_eq_true rfl) ?_
            rintro _ _ ⟨z, rfl, hz⟩
            show Z l D M_C_read 1 5 Q _ 1 5 177 _ [va_rf z]
            refine z_goto (tgt := 188) d_C_read_177 rfl ?_
            exact z_aret d_C_read_188 rfl (Or.inl ⟨_, rfl⟩) (by decide) (by decide) hz
        · refine z_tin (off := 174) 198 d_C_read_24 (by decide) (by decide) (by decide +kernel) (by decide) ?_
          exact other _ (none9 (by decide) (by decide) (by decide) (by decide) (by decide) (by decide) (by decide))
        · refine z_tin (off := 126) 150 d_C_read_24 (by decide) (by decide) (by decide +kernel) (by decide) ?_
          have hcb : cardB (gB bs k) n = card1 (gB bs k) n := by unfold cardB; rw [hc, if_neg (by decide), if_pos (by decide)]
          rw [hcb] at hQ0 hQ1
          refine z_iload_n d_C_read_150 151 rfl rfl rfl ?_
          refine z_aload_n d_C_read_151 152 rfl rfl rfl ?_
          refine z_iload_n d_C_read_152 153 rfl rfl rfl ?_
          refine z_iconst (v := nI 2) d_C_read_153 154 rfl rfl ?_
          first | refine z_iaddN d_C_read_154 155 rfl ?_ | refine z_iadd d_C_read_154 155 rfl ?_
          refine z_iload_n d_C_read_155 156 rfl rfl rfl ?_
          refine z_cS (Q' := fun r h' => ∃ z, r = some (va_rf z) ∧ Q (some (va_rf z)) h') d_C_read_156 159 rfl ms_C_readOneName kl_C_35 (by decide) 1 5 rfl rfl (by decide) (by decide) (c_C_readOneName 82 k n hb hf hn3 hk hN hN2 (fun q => ⟨none, rfl, hQ0 (by rcases q with q | q <;> simp [card1, q])⟩) (fun v q q1 q2 q3 => ⟨some q, rfl, hQ1 (82, 0, false, some v, none, 0) q (by simp [card1, q1, q2, hc]) q3⟩)) rfl rfl (Nat.le_of_ble_eq_true rfl) ?_
          rintro _ _ ⟨z, rfl, hz⟩
          exact z_aret d_C_read_159 rfl (Or.inl ⟨_, rfl⟩) (by decide) (by decide) hz
        · refine z_tin (off := 174) 198 d_C_read_24 (by decide) (by decide) (by decide +kernel) (by decide) ?_
          exact other _ (none9 (by decide) (by decide) (by decide) (by decide) (by decide) (by decide) (by decide))
        · refine z_tin (off := 165) 189 d_C_read_24 (by decide) (by decide) (by decide +kernel) (by decide) ?_
          have hcb : cardB (gB bs k) n = cardT (gB bs k) n := by unfold cardB; rw [hc, if_neg (by decide), if_neg (by decide), if_neg (by decide), if_neg (by decide), if_pos rfl]
          rw [hcb] at hQ0 hQ1
          refine z_aload_n d_C_read_189 190 rfl rfl rfl ?_
          refine z_iload_n d_C_read_190 191 rfl rfl rfl ?_
          refine z_iconst (v := nI 2) d_C_read_191 192 rfl rfl ?_
          first | refine z_iaddN d_C_read_192 193 rfl ?_ | refine z_iadd d_C_read_192 193 rfl ?_
          refine z_iload_n d_C_read_193 194 rfl rfl rfl ?_
          refine z_cS (Q' := fun r h' => ∃ z, r = some (va_rf z) ∧ Q (some (va_rf z)) h') d_C_read_194 197 rfl ms_C_readTag kl_C_42 (by decide) 1 5 rfl rfl (by decide) (by decide) (c_C_readTag k n hb hf hn3 hk hN hN2 (fun q => ⟨none, rfl, hQ0 (by by_cases e : n = 6 ∨ n = 11; (exact q e); (simp [cardT, e]))⟩) (fun c q q0 q1 q2 => ⟨some q, rfl, hQ1 c q q1 q2⟩)) rfl rfl (Nat.le_of_ble_eq_true rfl) ?_
          rintro _ _ ⟨z, rfl, hz⟩
          exact z_aret d_C_read_197 rfl (Or.inl ⟨_, rfl⟩) (by decide) (by decide) hz
        · refine z_tin (off := 174) 198 d_C_read_24 (by decide) (by decide) (by decide +kernel) (by decide) ?_
          exact other _ (none9 (by decide) (by decide) (by decide) (by decide) (by decide) (by decide) (by decide))
        · refine z_tin (off := 174) 198 d_C_read_24 (by decide) (by decide) (by decide +kernel) (by decide) ?_
          exact other _ (none9 (by decide) (by decide) (by decide) (by decide) (by decide) (by decide) (by decide))
        · refine z_tin (off := 174) 198 d_C_read_24 (by decide) (by decide) (by decide +kernel) (by decide) ?_
          exact other _ (none9 (by decide) (by decide) (by decide) (by decide) (by decide) (by decide) (by decide))
        · refine z_tin (off := 174) 198 d_C_read_24 (by decide) (by decide) (by decide +kernel) (by decide) ?_
          exact other _ (none9 (by decide) (by decide) (by decide) (by decide) (by decide) (by decide) (by decide))
        · refine z_tin (off := 174) 198 d_C_read_24 (by decide) (by decide) (by decide +kernel) (by decide) ?_
          exact other _ (none9 (by decide) (by decide) (by decide) (by decide) (by decide) (by decide) (by decide))
        · refine z_tin (off := 126) 150 d_C_read_24 (by decide) (by decide) (by decide +kernel) (by decide) ?_
          have hcb : cardB (gB bs k) n = card1 (gB bs k) n := by unfold cardB; rw [hc, if_neg (by decide), if_pos (by decide)]
          rw [hcb] at hQ0 hQ1
          refine z_iload_n d_C_read_150 151 rfl rfl rfl ?_
          refine z_aload_n d_C_read_151 152 rfl rfl rfl ?_
          refine z_iload_n d_C_read_152 153 rfl rfl rfl ?_
          refine z_iconst (v := nI 2) d_C_read_153 154 rfl rfl ?_
          first | refine z_iaddN d_C_read_154 155 rfl ?_ | refine z_iadd d_C_read_154 155 rfl ?_
          refine z_iload_n d_C_read_155 156 rfl rfl rfl ?_
          refine z_cS (Q' := fun r h' => ∃ z, r = some (va_rf z) ∧ Q (some (va_rf z)) h') d_C_read_156 159 rfl ms_C_readOneName kl_C_35 (by decide) 1 5 rfl rfl (by decide) (by decide) (c_C_readOneName 90 k n hb hf hn3 hk hN hN2 (fun q => ⟨none, rfl, hQ0 (by rcases q with q | q <;> simp [card1, q])⟩) (fun v q q1 q2 q3 => ⟨some q, rfl, hQ1 (90, 0, false, some v, none, 0) q (by simp [card1, q1, q2, hc]) q3⟩)) rfl rfl (Nat.le_of_ble_eq_true rfl) ?_
          rintro _ _ ⟨z, rfl, hz⟩
          exact z_aret d_C_read_159 rfl (Or.inl ⟨_, rfl⟩) (by decide) (by decide) hz
    · refine z_null d_C_read_17 18 rfl ?_
      exact z_aret (r := none) d_C_read_18 rfl (Or.inl ⟨_, rfl⟩) (by decide) (by decide) (hQ0 (by have : ¬ gB bs k 1 = 32 := fun e => h14 ((cb_eq _ w1 32 (by decide)).2 e); simp [cardG, this]))
end C9
