/-! The class: files, put. Own work. -/
theorem rdl_at {bs : List Nat} {k j : Nat} (hk : k ≤ j) (hj : j < bs.length) (h10 : bs.getD j 0 = 10) (hno : ∀ i, k ≤ i → i < j → bs.getD i 0 ≠ 10) : rdl bs k = some (j + 1, cardG (gB bs k) (j - k)) := by
  have e := eol_is hk hj h10 hno
  unfold rdl
  rw [e, if_pos hj]
theorem rdl_no {bs : List Nat} {k : Nat} (hk : k ≤ bs.length) (hno : ∀ i, k ≤ i → i < bs.length → bs.getD i 0 ≠ 10) : rdl bs k = none := by
  unfold rdl
  rw [if_neg]
  intro h
  exact hno _ (eol_le hk).1 h (eol_at hk h)
section C38
variable {l : Launch} {D : zD} {M : zM} {W : Nat → Nat} {h : zH} {x dA sA : Nat} {g bb hh mm cc aa : Nat → Nat} {V : Nat → BV} {dr : List Nat} {Q : Option Value → zH → Prop}
theorem c_B_files (a1 : Int32) (hx : h x = some (.inr (1, [.ref (g 0), .ref (g 1), .ref dA, .ref sA]))) (hV : ∀ q, q < 2 → bgA W D h (10 + 10 * q) (g q) (bb q) (hh q) (mm q) (cc q) (aa q) (V q)) (hdr : rowW W D h 1 dA dr) (hQ : ∀ h', ext h h' → Q (some (.int (if isRp a1 = true then oI (fiL (V (toN a1)).L (lns dr) 7) else -1))) h') : Runs l D M_B_files [.ref x, .int a1] h 240 1200 Q := by
  refine Runs.of rfl rfl (Nat.le_of_ble_eq_true rfl) ?_
  obtain ⟨dB, fd, wa, wb, hdA, hdB, hfd, hdl⟩ := hdr
  refine z_aload_n d_B_files_0 1 rfl rfl rfl ?_
  refine z_iload_n d_B_files_1 2 rfl rfl rfl ?_
  refine z_cV1 d_B_files_2 5 rfl mv_B_bagOf kl_B_56 (by decide) 0 0 rfl rfl (Nat.zero_le _) (Nat.zero_le _) hx (fun Q' q => c_B_bagOf a1 hx q) rfl rfl (Nat.le_of_ble_eq_true rfl) ?_
  rcases bgV_of a1 g with ⟨e1, e2⟩ | ⟨q, hq2, e0, e1, e3, e2⟩
  · rw [e2]
    rw [if_neg (by rw [e1]; decide)] at hQ
    refine z_astN2 d_B_files_5 6 rfl rfl ?_
    refine z_aload_nN d_B_files_6 7 rfl rfl rfl ?_
    refine z_ifnonnull (r := none) (tgt := 12) d_B_files_7 10 rfl rfl (fun a9 h9 => by cases h9) (fun h9 => ?_)
    refine z_iconst (v := -1) d_B_files_10 11 rfl (by decide) ?_
    exact z_iret d_B_files_11 rfl (Nat.zero_le _) (Nat.zero_le _) (hQ h (ext_refl h))
  · rw [e2]
    rw [if_pos e1, e3] at hQ
    refine z_ast2 d_B_files_5 6 rfl rfl ?_
    refine z_aload_n d_B_files_6 7 rfl rfl rfl ?_
    refine z_ifnonnull (r := some (g q)) (tgt := 12) d_B_files_7 10 rfl rfl (fun a9 h9 => ?_) (fun h9 => by cases h9)
    have j85 : ∀ (h1 : zH) (r : Option Nat) (cu su : Nat) (w4 w5 : Option Value), ext h h1 → cu ≤ 240 → su ≤ 1200 → fiL (V q).L (lns dr) 7 = r → Z l D M_B_files 240 1200 Q h1 cu su 85 [some (.ref x), some (.int a1), some (.ref (g q)), some (.int (oI r)), w4, w5] [] := by
      intro h1 r cu su w4 w5 he hcu hsu hr
      refine z_iload_n d_B_files_85 86 rfl rfl rfl ?_
      exact z_iret d_B_files_86 rfl hcu hsu (by rw [hr] at hQ; exact hQ h1 he)
    have loop : ∀ (i j k c d cu : Nat) (h1 : zH), j + i = dr.length → k ≤ j → dr.length ≤ k + c → d < 16777213 → cu ≤ j → ext h h1 → (∀ i, k ≤ i → i < j → dr.getD i 0 ≠ 10) → fiL (V q).L (lns dr) 7 = fiL (V q).L (lnsF dr c k) d → Z l D M_B_files 240 1200 Q h1 cu (5 * cu) 21 [some (.ref x), some (.int a1), some (.ref (g q)), some (.int (nI d)), some (.int (nI k)), some (.int (nI j))] [] := by
      intro i
      induction i with
      | zero =>
        intro j k c d cu h1 hj hk hc hd hcu he hno hfi
        have hj2 : j = dr.length := by omega
        subst hj2
        rw [lnsF_none (rdl_no hk hno), fiL] at hfi
        refine z_iload d_B_files_21 23 rfl rfl ?_
        refine z_aload_n d_B_files_23 24 rfl rfl rfl ?_
        refine z_get d_B_files_24 27 rfl f_B_22 (he _ _ hx) rfl ?_
        refine z_get d_B_files_27 30 rfl f_B_40 (he _ _ hdA) rfl ?_
        refine z_icmp_geN (tgt := 85) d_B_files_30 33 rfl rfl (by omega) (by omega) (fun h30 => ?_) (fun h30 => ?_)
        · exact j85 h1 (some d) cu (5 * cu) _ _ he (by omega) (by omega) hfi
        · omega
      | succ i ih =>
        intro j k c d cu h1 hj hk hc hd hcu he hno hfi
        have s1 : stp (fun _ => False) W h (Wx W h) h1 := stp_ext he
        have y := (hV q hq2).st s1 (fun e => e) (fun _ _ e => e)
        obtain ⟨f, hf⟩ := y.L
        have hbj := hfd j (by omega)
        refine z_iload d_B_files_21 23 rfl rfl ?_
        refine z_aload_n d_B_files_23 24 rfl rfl rfl ?_
        refine z_get d_B_files_24 27 rfl f_B_22 (he _ _ hx) rfl ?_
        refine z_get d_B_files_27 30 rfl f_B_40 (he _ _ hdA) rfl ?_
        refine z_icmp_geN (tgt := 85) d_B_files_30 33 rfl rfl (by omega) (by omega) (fun h30 => ?_) (fun h30 => ?_)
        · omega
        · refine z_iload_n d_B_files_33 34 rfl rfl rfl ?_
          refine z_iconst (v := -1) d_B_files_34 35 rfl (by decide) ?_
          refine z_icmp_eq (tgt := 85) d_B_files_35 38 rfl rfl (fun h35 => ?_) (fun h35 => ?_)
          · exact absurd h35 (fun e => nI_pos (show d < 2 ^ 31 by omega) (by rw [e]; decide))
          · refine z_aload_n d_B_files_38 39 rfl rfl rfl ?_
            refine z_get d_B_files_39 42 rfl f_B_22 (he _ _ hx) rfl ?_
            refine z_get d_B_files_42 45 rfl f_B_60 (he _ _ hdA) rfl ?_
            refine z_iload d_B_files_45 47 rfl rfl ?_
            refine z_baldN d_B_files_47 48 rfl (he _ _ hdB) (by omega) (by omega) ?_
            rw [hbj.2]
            refine z_bipush (v := nI 10) d_B_files_48 50 rfl rfl ?_
            refine z_icmp_ne (tgt := 79) d_B_files_50 53 rfl rfl (fun h50 => ?_) (fun h50 => ?_)
            · have hne : dr.getD j 0 ≠ 10 := fun e => h50 ((cb_eq _ hbj.1 10 (by decide)).2 e)
              first | refine z_incN5 d_B_files_79 82 rfl rfl ?_ | refine z_inc5 d_B_files_79 82 rfl rfl rfl ?_
              refine z_goto (tgt := 21) d_B_files_82 rfl ?_
              refine ih (j + 1) k c d cu h1 (by omega) (by omega) hc hd (by omega) he ?_ hfi
              intro i1 h2 h3
              by_cases h4 : i1 = j
              · rw [h4]; exact hne
              · exact hno i1 h2 (by omega)
            · have h10 : dr.getD j 0 = 10 := (cb_eq _ hbj.1 10 (by decide)).1 h50
              have hrd := rdl_at hk (by omega) h10 hno
              obtain ⟨c', rfl⟩ : ∃ c', c = c' + 1 := ⟨c - 1, by omega⟩
              rw [lnsF_some (by omega) hrd] at hfi
              refine z_aload_n d_B_files_53 54 rfl rfl rfl ?_
              refine z_iload_n d_B_files_54 55 rfl rfl rfl ?_
              refine z_aload_n d_B_files_55 56 rfl rfl rfl ?_
              refine z_get d_B_files_56 59 rfl f_B_22 (he _ _ hx) rfl ?_
              refine z_get d_B_files_59 62 rfl f_B_60 (he _ _ hdA) rfl ?_
              refine z_iload d_B_files_62 64 rfl rfl ?_
              refine z_iload d_B_files_64 66 rfl rfl ?_
              obtain ⟨n, hn⟩ : ∃ n, j = k + n := ⟨j - k, by omega⟩
              subst hn
              rw [Nat.add_sub_cancel_left] at hfi hrd
              refine z_cS (Q' := fun r h' => (cardG (gB dr k) n = none ∧ r = some .null ∧ h1 = h') ∨ ∃ cd p, cardG (gB dr k) n = some cd ∧ h1 p = none ∧ r = some (.ref p) ∧ zset h1 p (cObj cd) = h') d_B_files_66 69 rfl ms_C_read kl_B_64 (by decide) (cu + 1) (5 * cu + 5) rfl rfl (by omega) (by omega) (c_C_read k n (he _ _ hdB) hfd (by omega) hdl (by decide) (fun e => Or.inl ⟨e, rfl, rfl⟩) (fun cd p e1 e2 => Or.inr ⟨cd, p, e1, e2, rfl, rfl⟩)) rfl rfl (Nat.le_of_ble_eq_true rfl) ?_; rintro _ _ (⟨e4, rfl, rfl⟩ | ⟨cd, p, e4, e5, rfl, rfl⟩)
              · rw [e4, fiL] at hfi
                refine z_cV (Q' := fun r h' => r = some (.int (nI d)) ∧ h1 = h') d_B_files_69 72 rfl mv_G_digestWithFile kl_B_70 (by decide) (cu + 1 + 0) (5 * cu + 5 + 0) rfl rfl (by omega) (by omega) y.o (c_G_dwf0 (nI d) ⟨rfl, rfl⟩) rfl rfl (Nat.le_of_ble_eq_true rfl) ?_; rintro _ _ ⟨rfl, rfl⟩
                refine z_ist3 d_B_files_72 73 rfl rfl ?_
                refine z_iload d_B_files_73 75 rfl rfl ?_
                refine z_iconst (v := nI 1) d_B_files_75 76 rfl rfl ?_
                first | refine z_iaddN d_B_files_76 77 rfl ?_ | refine z_iadd d_B_files_76 77 rfl ?_
                refine z_ist4 d_B_files_77 79 rfl rfl ?_
                first | refine z_incN5 d_B_files_79 82 rfl rfl ?_ | refine z_inc5 d_B_files_79 82 rfl rfl rfl ?_
                refine z_goto (tgt := 21) d_B_files_82 rfl ?_
                rw [show 5 * cu + 5 + 0 = 5 * (cu + 1 + 0) by omega]
                exact ih (k + n + 1) (k + n + 1) c' d (cu + 1 + 0) h1 (by omega) (Nat.le_refl _) (by omega) hd (by omega) he (fun i1 h2 h3 => by omega) hfi
              · have he2 : ext h (zset h1 p (cObj cd)) := ext_set he (ext_none he e5) _
                have s2 : stp (fun _ => False) W h (Wx W h) (zset h1 p (cObj cd)) := stp_ext he2
                have y2 := (hV q hq2).st s2 (fun e => e) (fun _ _ e => e)
                obtain ⟨f2, hf2⟩ := y2.L
                have hcv := (cardG_3 e4).2
                rw [e4, fiL] at hfi
                refine z_cV (Q' := fun r h' => (cd.1 ≠ 70 ∧ r = some (.int (nI d)) ∧ zset h1 p (cObj cd) = h') ∨ (cd.1 = 70 ∧ fdA (oI cd.2.2.2.1) (V q).L = none ∧ r = some (.int (-1)) ∧ zset h1 p (cObj cd) = h') ∨ ∃ y, cd.1 = 70 ∧ fdA (oI cd.2.2.2.1) (V q).L = some y ∧ r = some (.int (nI (dg d y.2))) ∧ zset h1 p (cObj cd) = h') d_B_files_69 72 rfl mv_G_digestWithFile kl_B_70 (by decide) (cu + 1 + 0) (5 * cu + 5 + 0) rfl rfl (by omega) (by omega) y2.o (c_G_dwf d hd y2.o hf2 (zset_self _ _ _) hcv (fun e => Or.inl ⟨e, rfl, rfl⟩) (fun e1 e2 => Or.inr (Or.inl ⟨e1, e2, rfl, rfl⟩)) (fun y e1 e2 => Or.inr (Or.inr ⟨y, e1, e2, rfl, rfl⟩))) rfl rfl (Nat.le_of_ble_eq_true rfl) ?_; rintro _ _ (⟨e6, rfl, rfl⟩ | ⟨e6, e7, rfl, rfl⟩ | ⟨y3, e6, e7, rfl, rfl⟩)
                · rw [if_neg e6] at hfi
                  refine z_ist3 d_B_files_72 73 rfl rfl ?_
                  refine z_iload d_B_files_73 75 rfl rfl ?_
                  refine z_iconst (v := nI 1) d_B_files_75 76 rfl rfl ?_
                  first | refine z_iaddN d_B_files_76 77 rfl ?_ | refine z_iadd d_B_files_76 77 rfl ?_
                  refine z_ist4 d_B_files_77 79 rfl rfl ?_
                  first | refine z_incN5 d_B_files_79 82 rfl rfl ?_ | refine z_inc5 d_B_files_79 82 rfl rfl rfl ?_
                  refine z_goto (tgt := 21) d_B_files_82 rfl ?_
                  rw [show 5 * cu + 5 + 0 = 5 * (cu + 1 + 0) by omega]
                  exact ih (k + n + 1) (k + n + 1) c' d (cu + 1 + 0) _ (by omega) (Nat.le_refl _) (by omega) hd (by omega) he2 (fun i1 h2 h3 => by omega) hfi
                · rw [if_pos e6, e7] at hfi
                  refine z_ist3 d_B_files_72 73 rfl rfl ?_
                  refine z_iload d_B_files_73 75 rfl rfl ?_
                  refine z_iconst (v := nI 1) d_B_files_75 76 rfl rfl ?_
                  first | refine z_iaddN d_B_files_76 77 rfl ?_ | refine z_iadd d_B_files_76 77 rfl ?_
                  refine z_ist4 d_B_files_77 79 rfl rfl ?_
                  first | refine z_incN5 d_B_files_79 82 rfl rfl ?_ | refine z_inc5 d_B_files_79 82 rfl rfl rfl ?_
                  refine z_goto (tgt := 21) d_B_files_82 rfl ?_
                  refine z_iload d_B_files_21 23 rfl rfl ?_
                  refine z_aload_n d_B_files_23 24 rfl rfl rfl ?_
                  refine z_get d_B_files_24 27 rfl f_B_22 (he2 _ _ hx) rfl ?_
                  refine z_get d_B_files_27 30 rfl f_B_40 (he2 _ _ hdA) rfl ?_
                  refine z_icmp_geN (tgt := 85) d_B_files_30 33 rfl rfl (by omega) (by omega) (fun h30 => ?_) (fun h30 => ?_)
                  · exact j85 _ none _ _ _ _ he2 (by omega) (by omega) hfi
                  · refine z_iload_n d_B_files_33 34 rfl rfl rfl ?_
                    refine z_iconst (v := -1) d_B_files_34 35 rfl (by decide) ?_
                    refine z_icmp_eq (tgt := 85) d_B_files_35 38 rfl rfl (fun h35 => ?_) (fun h35 => ?_)
                    · exact j85 _ none _ _ _ _ he2 (by omega) (by omega) hfi
                    · exact absurd rfl h35
                · rw [if_pos e6, e7] at hfi
                  refine z_ist3 d_B_files_72 73 rfl rfl ?_
                  refine z_iload d_B_files_73 75 rfl rfl ?_
                  refine z_iconst (v := nI 1) d_B_files_75 76 rfl rfl ?_
                  first | refine z_iaddN d_B_files_76 77 rfl ?_ | refine z_iadd d_B_files_76 77 rfl ?_
                  refine z_ist4 d_B_files_77 79 rfl rfl ?_
                  first | refine z_incN5 d_B_files_79 82 rfl rfl ?_ | refine z_inc5 d_B_files_79 82 rfl rfl rfl ?_
                  refine z_goto (tgt := 21) d_B_files_82 rfl ?_
                  rw [show 5 * cu + 5 + 0 = 5 * (cu + 1 + 0) by omega]
                  exact ih (k + n + 1) (k + n + 1) c' (dg d y3.2) (cu + 1 + 0) _ (by omega) (Nat.le_refl _) (by omega) (dg_lt hd _) (by omega) he2 (fun i1 h2 h3 => by omega) hfi
    refine z_bipush (v := nI 7) d_B_files_12 14 rfl rfl ?_
    refine z_ist3 d_B_files_14 15 rfl rfl ?_
    refine z_iconst (v := nI 0) d_B_files_15 16 rfl rfl ?_
    refine z_ist4 d_B_files_16 18 rfl rfl ?_
    refine z_iconst (v := nI 0) d_B_files_18 19 rfl rfl ?_
    refine z_ist5 d_B_files_19 21 rfl rfl ?_
    exact loop dr.length 0 0 dr.length 7 0 h (by omega) (Nat.le_refl 0) (by omega) (by omega) (Nat.le_refl 0) (ext_refl h) (fun i1 h2 h3 => by omega) rfl
theorem c_B_put (a1 : Int32) (u : Nat) (hx : h x = some (.inr (1, [.ref (g 0), .ref (g 1), .ref dA, .ref sA]))) (hwx : W x = 3) (hV : ∀ q, q < 2 → bgA W D h (10 + 10 * q) (g q) (bb q) (hh q) (mm q) (cc q) (aa q) (V q)) (hdr : rowW W D h 1 dA dr)
    (hB : ∀ q p, q < 2 → a1 = nI q → (∀ y, y ∈ (V q).L → y.1 ≠ p) → (takeV (V q) (p, dr)).m.2.length < 1000 ∧ (takeV (V q) (p, dr)).c.2.length < 1000 ∧ (takeV (V q) (p, dr)).pot = (V q).pot + u)
    (hQ0 : isRp a1 = false → Q (some (.int (-1))) h) (hQ1 : dr = [] → Q (some (.int (-1))) h) (hQ2 : ∀ q, q < 2 → a1 = nI q → fdA (nI (dg 7 dr)) (V q).L = none → 32 ≤ (V q).L.length → Q (some (.int (-1))) h)
    (hQ3 : ∀ q W' h', q < 2 → a1 = nI q → dr ≠ [] → fdA (nI (dg 7 dr)) (V q).L ≠ none → stp (· = 1) W h W' h' → rowW W' D h' 1 dA [] → Q (some (.int (nI (dg 7 dr)))) h')
    (hQ4 : ∀ q p W' h', q < 2 → a1 = nI q → dr ≠ [] → fdA (nI (dg 7 dr)) (V q).L = none → (V q).L.length < 32 → (∀ y, y ∈ (V q).L → y.1 ≠ p) → stp (fun j => j = 1 ∨ (10 + 10 * q ≤ j ∧ j ≤ 10 + 10 * q + 3)) W h W' h' → bgA W' D h' (10 + 10 * q) (g q) (bb q) (hh q) (mm q) (cc q) (aa q) (takeV (V q) (p, dr)) → rowW W' D h' 1 dA [] → Q (some (.int (nI (dg 7 dr)))) h') : Runs l D M_B_put [.ref x, .int a1] h (65 + u) (786 + 2 * u) Q := by
  refine Runs.of rfl rfl (Nat.le_of_ble_eq_true rfl) ?_
  have hdr0 := hdr
  obtain ⟨dB, fd, wa, wb, hdA, hdB, hfd, hdl⟩ := hdr0
  have hab := rw_ne hdA hdB
  refine z_aload_n d_B_put_0 1 rfl rfl rfl ?_
  refine z_iload_n d_B_put_1 2 rfl rfl rfl ?_
  refine z_cV1 d_B_put_2 5 rfl mv_B_bagOf kl_B_56 (by decide) 0 0 rfl rfl (Nat.zero_le _) (Nat.zero_le _) hx (fun Q' q => c_B_bagOf a1 hx q) rfl rfl (Nat.le_of_ble_eq_true rfl) ?_
  rcases bgV_of a1 g with ⟨e1, e2⟩ | ⟨q, hq2, e0, e1, e3, e2⟩
  · rw [e2]
    refine z_astN2 d_B_put_5 6 rfl rfl ?_
    refine z_aload_nN d_B_put_6 7 rfl rfl rfl ?_
    refine z_ifnull (r := none) (tgt := 20) d_B_put_7 10 rfl rfl (fun h9 => ?_) (fun a9 h9 => by cases h9)
    refine z_iconst (v := -1) d_B_put_20 21 rfl (by decide) ?_
    exact z_iret d_B_put_21 rfl (Nat.zero_le _) (Nat.zero_le _) (hQ0 e1)
  · rw [e2]
    have y := hV q hq2
    obtain ⟨f, hf⟩ := y.L
    have hlen := hf.2.1
    refine z_ast2 d_B_put_5 6 rfl rfl ?_
    refine z_aload_n d_B_put_6 7 rfl rfl rfl ?_
    refine z_ifnull (r := some (g q)) (tgt := 20) d_B_put_7 10 rfl rfl (fun h9 => by cases h9) (fun a9 h9 => ?_)
    refine z_aload_n d_B_put_10 11 rfl rfl rfl ?_
    refine z_get d_B_put_11 14 rfl f_B_22 hx rfl ?_
    refine z_get d_B_put_14 17 rfl f_B_40 hdA rfl ?_
    refine z_if_neN (tgt := 22) d_B_put_17 20 rfl rfl (by omega) (fun h17 => ?_) (fun h17 => ?_)
    · have hne : dr ≠ [] := fun e => h17 (by rw [e]; rfl)
      refine z_aload_n d_B_put_22 23 rfl rfl rfl ?_
      refine z_get d_B_put_23 26 rfl f_B_22 hx rfl ?_
      refine z_cV1 d_B_put_26 29 rfl mv_R_digest kl_B_74 (by decide) 0 0 rfl rfl (Nat.zero_le _) (Nat.zero_le _) hdA (fun Q' q => c_R_digestF hdA hdB hab hfd hdl q) rfl rfl (Nat.le_of_ble_eq_true rfl) ?_
      refine z_ist3 d_B_put_29 30 rfl rfl ?_
      refine z_aload_n d_B_put_30 31 rfl rfl rfl ?_
      refine z_iload_n d_B_put_31 32 rfl rfl rfl ?_
      refine z_cV1 d_B_put_32 35 rfl mv_G_holds kl_B_78 (by decide) 0 0 rfl rfl (Nat.zero_le _) (Nat.zero_le _) y.o (fun Q' q => c_G_holds (nI (dg 7 dr)) y.o hf q) rfl rfl (Nat.le_of_ble_eq_true rfl) ?_
      refine z_if_neB (tgt := 58) d_B_put_35 38 rfl rfl (fun h35 => ?_) (fun h35 => ?_)
      · refine z_aload_n d_B_put_58 59 rfl rfl rfl ?_
        refine z_get d_B_put_59 62 rfl f_B_22 hx rfl ?_
        refine z_cV0 d_B_put_62 65 rfl mv_R_clear kl_B_33 (by decide) 0 0 rfl rfl (Nat.zero_le _) (Nat.zero_le _) hdA (fun Q' q => c_R_clearF hdA hdB q) rfl rfl (Nat.le_of_ble_eq_true rfl) ?_
        refine z_iload_n d_B_put_65 66 rfl rfl rfl ?_
        exact z_iret d_B_put_66 rfl (Nat.zero_le _) (Nat.zero_le _) (hQ3 q W _ hq2 e0 hne (fun e => by rw [e] at h35; cases h35) (stp_rw wa wb) (rowW_rw (bs := []) wa wb hab (fun i hi => absurd hi (Nat.not_lt_zero i)) (Nat.zero_le _)))
      · have hn : fdA (nI (dg 7 dr)) (V q).L = none := by
          cases e9 : fdA (nI (dg 7 dr)) (V q).L with
          | none => rfl
          | some z => rw [e9] at h35; cases h35
        refine z_aload_n d_B_put_38 39 rfl rfl rfl ?_
        refine z_cV1 d_B_put_39 42 rfl mv_G_isFull kl_B_81 (by decide) 0 0 rfl rfl (Nat.zero_le _) (Nat.zero_le _) y.o (fun Q' q => c_G_isFull y.o hlen q) rfl rfl (Nat.le_of_ble_eq_true rfl) ?_
        refine z_if_eqB (tgt := 47) d_B_put_42 45 rfl rfl (fun h42 => ?_) (fun h42 => ?_)
        · have h32 : ¬ 32 ≤ (V q).L.length := of_decide_eq_false h42
          refine z_aload_n d_B_put_47 48 rfl rfl rfl ?_
          refine z_aload_n d_B_put_48 49 rfl rfl rfl ?_
          refine z_get d_B_put_49 52 rfl f_B_22 hx rfl ?_
          refine z_cS (Q' := fun r h' => ∃ p, ext h h' ∧ arG (fun p => h p = none) D h' p dr ∧ r = some (.ref p)) d_B_put_52 55 rfl ms_A_of kl_B_85 (by decide) 65 786 rfl rfl (by omega) (by omega) (c_A_of hdA hdB hfd hdl (fun p h' e1 e2 => ⟨p, e1, e2, rfl⟩)) rfl rfl (Nat.le_of_ble_eq_true rfl) ?_; rintro _ h2 ⟨p, he, hp, rfl⟩
          have hpn : h p = none := by
            obtain ⟨b9, p9, f9, hG9, -⟩ := hp
            exact hG9
          have hnew : ∀ z, z ∈ (V q).L → z.1 ≠ p := by
            intro z hz e
            obtain ⟨i, hi⟩ := List.mem_iff_getElem?.1 hz
            obtain ⟨-, -, b9, p9, f9, -, hO, -⟩ := hf.2.2 i z hi
            rw [e, hpn] at hO
            cases hO
          have s2 : stp (fun j => j = 1 ∨ (10 + 10 * q ≤ j ∧ j ≤ 10 + 10 * q + 3)) W h (Wx W h) h2 := stp_ext he
          have s2' : stp (fun _ => False) W h (Wx W h) h2 := stp_ext he
          have x2 := y.st s2' (fun e => e) (fun _ _ e => e)
          have hp2 : arG (G0 (Wx W h)) D h2 p dr := hp.to (fun t e h1 h2 => ⟨by
            show Wx W _ t = 0
            unfold Wx
            rw [h1]
            rfl, h2⟩)
          have r2 := hdr.st s2' (fun e => e)
          obtain ⟨hb1, hb2, hb3⟩ := hB q p hq2 e0 hnew
          refine z_cV (Q' := fun r h' => r = none ∧ ∃ W', stp (fun j => 10 + 10 * q ≤ j ∧ j ≤ 10 + 10 * q + 3) (Wx W h) h2 W' h' ∧ bgA W' D h' (10 + 10 * q) (g q) (bb q) (hh q) (mm q) (cc q) (aa q) (takeV (V q) (p, dr))) d_B_put_55 58 rfl mv_G_take kl_B_91 (by decide) (65 + u) (786 + 2 * u) rfl rfl (by omega) (by omega) x2.o (c_G_take u x2 (by omega) hp2 hdl hb1 hb2 hb3 (fun W' h' s y => ⟨rfl, W', s, y⟩)) rfl rfl (Nat.le_of_ble_eq_true rfl) ?_; rintro _ h3 ⟨rfl, W3, s3, x3⟩
          have r3 := r2.st s3 (by omega)
          obtain ⟨hx3w, hx3⟩ := (s2'.wk (R' := fun j => 10 + 10 * q ≤ j ∧ j ≤ 10 + 10 * q + 3) (fun _ e => e.elim)).tr s3 x _ hx (by rw [hwx]; omega)
          obtain ⟨dB3, fd3, wa3, wb3, hdA3, hdB3, hfd3, hdl3⟩ := r3
          have hab3 := rw_ne hdA3 hdB3
          refine z_aload_n d_B_put_58 59 rfl rfl rfl ?_
          refine z_get d_B_put_59 62 rfl f_B_22 hx3 rfl ?_
          refine z_cV0 d_B_put_62 65 rfl mv_R_clear kl_B_33 (by decide) (65 + u) (786 + 2 * u) rfl rfl (Nat.le_refl _) (Nat.le_refl _) hdA3 (fun Q' q => c_R_clearF hdA3 hdB3 q) rfl rfl (Nat.le_of_ble_eq_true rfl) ?_
          have s4 : stp (· = 1) W3 h3 W3 (rwU D h3 dA dB3 0 fd3) := stp_rw wa3 wb3
          refine z_iload_n d_B_put_65 66 rfl rfl rfl ?_
          exact z_iret d_B_put_66 rfl (by omega) (by omega) (hQ4 q p W3 _ hq2 e0 hne hn (by omega) hnew ((s2.tr (s3.wk (fun j e => Or.inr e))).tr (s4.wk (fun j e => Or.inl e))) (x3.st s4 (by omega) (by omega)) (rowW_rw (bs := []) wa3 wb3 hab3 (fun i hi => absurd hi (Nat.not_lt_zero i)) (Nat.zero_le _)))
        · refine z_iconst (v := -1) d_B_put_45 46 rfl (by decide) ?_
          exact z_iret d_B_put_46 rfl (Nat.zero_le _) (Nat.zero_le _) (hQ2 q hq2 e0 hn (of_decide_eq_true h42))
    · refine z_iconst (v := -1) d_B_put_20 21 rfl (by decide) ?_
      exact z_iret d_B_put_21 rfl (Nat.zero_le _) (Nat.zero_le _) (hQ1 (List.length_eq_zero_iff.1 h17))
end C38
