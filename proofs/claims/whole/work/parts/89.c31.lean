/-! The class: what a bag wants, notes. Own work. -/
section C32
variable {l : Launch} {D : zD} {M : zM} {W : Nat → Nat} {h : zH} {k o b hi mi cl as a : Nat} {V : BV} {bs : List Nat} {Q : Option Value → zH → Prop}
theorem z_aaldG {mc ms cu su pc p i : Nat} {lv : List (Option Value)} {rest : List Value} {G : Nat → Prop} {c : CV} {cs : List CV} (hd : decode M.2.1 pc = .ok (.aaload, 1)) (pc' : Nat) (he : pc + 1 = pc') (hcr : crG G D h p cs) (hc : cs[i]? = some c) (hl : cs.length < 2 ^ 31) (kk : ∀ q, G q → h q = some (cObj c) → Z l D M mc ms Q h cu su pc' lv (.ref q :: rest)) : Z l D M mc ms Q h cu su pc lv (.int (nI i) :: .ref p :: rest) := by
  obtain ⟨f, -, h1, h2⟩ := hcr
  obtain ⟨q, h3, hG, h4⟩ := h2 i c hc
  have hi : i < cs.length := (List.getElem?_eq_some_iff.mp hc).1
  refine z_aald (t := 3) (C := "ArtifactBags$Card") hd pc' he rfl h1 (vp_in_nI hi hl) ?_
  rw [nI_clamp (by omega), h3]
  exact kk q hG h4
theorem c_G_want (xo : Option Nat) (u : Nat) (x : bgA W D h k o b hi mi cl as V) (hx : ∀ v, xo = some v → v < 16777216) (hl : V.m.2.length < 1000) (hu : (wnS V.L xo V.m).1 = V.m.1 + u) (hQ : ∀ W' h', stp (· = k + 2) W h W' h' → bgA W' D h' k o b hi mi cl as (BV.um V (wnS V.L xo V.m)) → Q none h') : Runs l D M_G_want [.ref o, .int (oI xo)] h u (2 * u) Q := by
  refine Runs.of rfl rfl (Nat.le_of_ble_eq_true rfl) ?_
  obtain ⟨f, hf⟩ := x.L
  refine z_iload_n d_G_want_0 1 rfl rfl rfl ?_
  refine z_iconst (v := -1) d_G_want_1 2 rfl (by decide) ?_
  refine z_icmp_eq (tgt := 21) d_G_want_2 5 rfl rfl (fun h2 => ?_) (fun h2 => ?_)
  · have hn : xo = none := (oI_m1 (fun v hv => by have := hx v hv; omega)).1 h2
    subst hn
    exact z_vret d_G_want_21 rfl (Nat.zero_le _) (Nat.zero_le _) (hQ W h (stp.rf _ _ _) x)
  · cases xo with
    | none => exact absurd rfl h2
    | some v =>
      have hv := hx v rfl
      refine z_aload_n d_G_want_5 6 rfl rfl rfl ?_
      refine z_iload_n d_G_want_6 7 rfl rfl rfl ?_
      refine z_cV1 d_G_want_7 10 rfl mv_G_holds kl_G_52 (by decide) 0 0 rfl rfl (Nat.zero_le _) (Nat.zero_le _) x.o (fun Q' q => c_G_holds (oI (some v)) x.o hf q) rfl rfl (Nat.le_of_ble_eq_true rfl) ?_
      refine z_if_neB (tgt := 21) d_G_want_10 13 rfl rfl (fun h10 => ?_) (fun h10 => ?_)
      · have he : wnS V.L (some v) V.m = V.m := if_pos h10
        rw [he] at hQ
        exact z_vret d_G_want_21 rfl (Nat.zero_le _) (Nat.zero_le _) (hQ W h (stp.rf _ _ _) x)
      · have he : wnS V.L (some v) V.m = addS V.m v := if_neg (by rw [show fdA (nI v) V.L = fdA (oI (some v)) V.L from rfl, h10]; decide)
        rw [he] at hQ hu
        refine z_aload_n d_G_want_13 14 rfl rfl rfl ?_
        refine z_get d_G_want_14 17 rfl f_G_31 x.o rfl ?_
        refine z_iload_n d_G_want_17 18 rfl rfl rfl ?_
        obtain ⟨b2, f2, wo2, wb2, hn2, ok2⟩ := x.m
        refine z_cV (Q' := fun r h' => r = none ∧ ∃ W', stp (· = k + 2) W h W' h' ∧ setW W' D h' (k + 2) mi (addS V.m v)) d_G_want_18 21 rfl mv_N_add kl_G_98 (by decide) (0 + u) (0 + 2 * u) rfl rfl (by omega) (by omega) hn2.1 (c_N_addW v u x.m hv hl hu (fun W' h' s y => ⟨rfl, W', s, y⟩)) rfl rfl (Nat.le_of_ble_eq_true rfl) ?_; rintro _ h' ⟨rfl, W', s, y⟩
        exact z_vret d_G_want_21 rfl (by omega) (by omega) (hQ W' h' s (x.sm s y))
theorem c_G_noteNamesOf (u : Nat) (x : bgA W D h k o b hi mi cl as V) (hk : 0 < k) (ha : arG (G0 W) D h a bs) (hbs : bs.length ≤ 240) (hlm : (nnM V.L (aCs bs) V.m).2.length < 1000) (hlc : (nnC (aCs bs) V.c).2.length < 1000) (hu : (nnM V.L (aCs bs) V.m).1 + (nnC (aCs bs) V.c).1 = V.m.1 + V.c.1 + u) (hQ : ∀ W' h', stp (fun j => j = k + 2 ∨ j = k + 3) W h W' h' → bgA W' D h' k o b hi mi cl as (V.L, V.H, nnM V.L (aCs bs) V.m, nnC (aCs bs) V.c, V.a) → Q none h') : Runs l D M_G_noteNamesOf [.ref o, .ref a] h u (2 * u) Q := by
  refine Runs.of rfl rfl (Nat.le_of_ble_eq_true rfl) ?_
  obtain ⟨a4, aok⟩ := aCs_all bs
  have loop : ∀ (i j : Nat) (W1 : Nat → Nat) (h1 : zH) (m c : NS) (cu : Nat) (w3 : Option Value), j + i = (aCs bs).length → stp (fun j => j = k + 2 ∨ j = k + 3) W h W1 h1 → bgA W1 D h1 k o b hi mi cl as (V.L, V.H, m, c, V.a) → nnM V.L ((aCs bs).drop j) m = nnM V.L (aCs bs) V.m → nnC ((aCs bs).drop j) c = nnC (aCs bs) V.c → m.1 + c.1 = V.m.1 + V.c.1 + cu → Z l D M_G_noteNamesOf u (2 * u) Q h1 cu (2 * cu) 2 [some (.ref o), some (.ref a), some (.int (nI j)), w3] [] := by
    intro i
    induction i with
    | zero =>
      intro j W1 h1 m c cu w3 hj hs x1 hm hc hcu
      rw [List.drop_eq_nil_of_le (by omega), nnM] at hm
      rw [List.drop_eq_nil_of_le (by omega), nnC] at hc
      obtain ⟨b1, p1, f1, -, haO, -, -, -, hcr⟩ := ha.st hs (by omega)
      refine z_iload_n d_G_noteNamesOf_2 3 rfl rfl rfl ?_
      refine z_aload_n d_G_noteNamesOf_3 4 rfl rfl rfl ?_
      refine z_get d_G_noteNamesOf_4 7 rfl f_G_77 haO rfl ?_
      refine z_alenC d_G_noteNamesOf_7 8 rfl hcr.P ?_
      refine z_icmp_geN (tgt := 67) d_G_noteNamesOf_8 11 rfl rfl (by omega) (by omega) (fun h8 => ?_) (fun h8 => ?_)
      · rw [hm, hc] at x1 hcu
        exact z_vret d_G_noteNamesOf_67 rfl (by omega) (by omega) (hQ W1 h1 hs x1)
      · omega
    | succ i ih =>
      intro j W1 h1 m c cu w3 hj hs x1 hm hc hcu
      obtain ⟨cd, hcd⟩ : ∃ c, (aCs bs)[j]? = some c := ⟨(aCs bs)[j]'(by omega), List.getElem?_eq_getElem (by omega)⟩
      have hcv : cvOk cd := aok cd (List.mem_of_getElem? hcd)
      have mu9 := nnM_up V.L ((aCs bs).drop j) m
      rw [hm] at mu9
      rw [drop_consL hcd, nnM] at hm
      rw [drop_consL hcd, show ∀ t s, nnC (cd :: t) s = nnC t (nnCs cd s) from fun t s => rfl] at hc
      have mu := nnM_up V.L ((aCs bs).drop (j + 1)) (if ndB cd = true then wnS V.L cd.2.2.2.2.1 (wnS V.L cd.2.2.2.1 m) else m)
      have cuu := nnC_up ((aCs bs).drop (j + 1)) (nnCs cd c)
      have cu1 := nnCs_up cd c
      rw [hm] at mu
      rw [hc] at cuu
      have haO' := ha.st hs (by omega)
      obtain ⟨b1, p1, f1, -, haO, -, -, -, hcr⟩ := haO'
      refine z_iload_n d_G_noteNamesOf_2 3 rfl rfl rfl ?_
      refine z_aload_n d_G_noteNamesOf_3 4 rfl rfl rfl ?_
      refine z_get d_G_noteNamesOf_4 7 rfl f_G_77 haO rfl ?_
      refine z_alenC d_G_noteNamesOf_7 8 rfl hcr.P ?_
      refine z_icmp_geN (tgt := 67) d_G_noteNamesOf_8 11 rfl rfl (by omega) (by omega) (fun h8 => ?_) (fun h8 => ?_)
      · omega
      · refine z_aload_n d_G_noteNamesOf_11 12 rfl rfl rfl ?_
        refine z_get d_G_noteNamesOf_12 15 rfl f_G_77 haO rfl ?_
        refine z_iload_n d_G_noteNamesOf_15 16 rfl rfl rfl ?_
        refine z_aaldG d_G_noteNamesOf_16 17 rfl hcr hcd (by omega) (fun q hGq hq => ?_)
        refine z_ast3 d_G_noteNamesOf_17 18 rfl rfl ?_
        refine z_aload_n d_G_noteNamesOf_18 19 rfl rfl rfl ?_
        refine z_cV1 d_G_noteNamesOf_19 22 rfl mv_C_namesWhatIsNeeded kl_G_81 (by decide) cu (2 * cu) rfl rfl (by omega) (by omega) hq (fun Q' q9 => c_C_namesWhatIsNeeded hq hcv q9) rfl rfl (Nat.le_of_ble_eq_true rfl) ?_
        have j41 : ∀ (W2 : Nat → Nat) (h2 : zH) (m2 : NS) (cu2 : Nat), stp (fun j => j = k + 2 ∨ j = k + 3) W1 h1 W2 h2 → bgA W2 D h2 k o b hi mi cl as (V.L, V.H, m2, c, V.a) → m2 = (if ndB cd = true then wnS V.L cd.2.2.2.2.1 (wnS V.L cd.2.2.2.1 m) else m) → m2.1 + c.1 = V.m.1 + V.c.1 + cu2 → Z l D M_G_noteNamesOf u (2 * u) Q h2 cu2 (2 * cu2) 41 [some (.ref o), some (.ref a), some (.int (nI j)), some (.ref q)] [] := by
          intro W2 h2 m2 cu2 hs2 x2 he2 hcu2
          rw [← he2] at mu hm
          obtain ⟨-, hq2⟩ := hs2.g (by omega) q _ hGq hq
          by_cases h7 : cd.1 = 77
          · obtain ⟨v, hv⟩ := Option.isSome_iff_exists.1 (hcv.2.2.2.2.2.2.1 (by omega) (by omega))
            have hvl := hcv.2.1 v hv
            have hce : nnCs cd c = addS c v := by
              unfold nnCs
              rw [if_pos h7, hv]
            rw [hce] at hc cuu cu1
            obtain ⟨u3, hu3⟩ := Nat.exists_eq_add_of_le (addS_cap c v)
            refine z_aload_n d_G_noteNamesOf_41 42 rfl rfl rfl ?_
            refine z_get d_G_noteNamesOf_42 45 rfl f_G_95 hq2 rfl ?_
            refine z_bipush (v := nI 77) d_G_noteNamesOf_45 47 rfl rfl ?_
            refine z_icmp_neN (tgt := 61) d_G_noteNamesOf_47 50 rfl rfl (by omega) (by omega) (fun h47 => ?_) (fun h47 => ?_)
            · exact absurd h7 h47
            · refine z_aload_n d_G_noteNamesOf_50 51 rfl rfl rfl ?_
              refine z_get d_G_noteNamesOf_51 54 rfl f_G_35 x2.o rfl ?_
              refine z_aload_n d_G_noteNamesOf_54 55 rfl rfl rfl ?_
              refine z_get d_G_noteNamesOf_55 58 rfl f_G_86 hq2 rfl ?_
              rw [if_neg (show ¬ cd.1 = 68 by omega), hv]
              obtain ⟨b3, f3, wo3, wb3, hn3, ok3⟩ := x2.c
              refine z_cV (Q' := fun r h' => r = none ∧ ∃ W', stp (· = k + 3) W2 h2 W' h' ∧ setW W' D h' (k + 3) cl (addS c v)) d_G_noteNamesOf_58 61 rfl mv_N_add kl_G_98 (by decide) (cu2 + u3) (2 * cu2 + 2 * u3) rfl rfl (by omega) (by omega) hn3.1 (c_N_addW v u3 x2.c hvl (show c.2.length < 1000 by omega) hu3 (fun W' h' s y => ⟨rfl, W', s, y⟩)) rfl rfl (Nat.le_of_ble_eq_true rfl) ?_; rintro _ h3 ⟨rfl, W3, s3, y3⟩
              first | refine z_incN2 d_G_noteNamesOf_61 64 rfl rfl ?_ | refine z_inc2 d_G_noteNamesOf_61 64 rfl rfl rfl ?_
              refine z_goto (tgt := 2) d_G_noteNamesOf_64 rfl ?_
              rw [show 2 * cu2 + 2 * u3 = 2 * (cu2 + u3) by omega]
              exact ih (j + 1) W3 h3 m2 (addS c v) (cu2 + u3) _ (by omega) ((hs.tr hs2).tr (s3.wk (fun _ e => Or.inr e))) (x2.sc s3 y3) hm hc (by omega)
          · have hce : nnCs cd c = c := if_neg h7
            rw [hce] at hc
            have hl7 := hcv.1
            refine z_aload_n d_G_noteNamesOf_41 42 rfl rfl rfl ?_
            refine z_get d_G_noteNamesOf_42 45 rfl f_G_95 hq2 rfl ?_
            refine z_bipush (v := nI 77) d_G_noteNamesOf_45 47 rfl rfl ?_
            refine z_icmp_neN (tgt := 61) d_G_noteNamesOf_47 50 rfl rfl (by omega) (by omega) (fun h47 => ?_) (fun h47 => ?_)
            · first | refine z_incN2 d_G_noteNamesOf_61 64 rfl rfl ?_ | refine z_inc2 d_G_noteNamesOf_61 64 rfl rfl rfl ?_
              refine z_goto (tgt := 2) d_G_noteNamesOf_64 rfl ?_
              exact ih (j + 1) W2 h2 m2 c cu2 _ (by omega) (hs.tr hs2) x2 hm hc hcu2
            · exact absurd h47 h7
        refine z_if_eqB (tgt := 41) d_G_noteNamesOf_22 25 rfl rfl (fun h22 => ?_) (fun h22 => ?_)
        · exact j41 W1 h1 m cu (stp.rf _ _ _) x1 (by rw [if_neg (show ¬ ndB cd = true by rw [show ndB cd = false from h22]; decide)]) hcu
        · have hn : ndB cd = true := h22
          have h68 : ¬ cd.1 = 68 := by
            simp only [ndB, Bool.or_eq_true, decide_eq_true_eq] at hn
            omega
          obtain ⟨u1, hu1⟩ := Nat.exists_eq_add_of_le (wnS_up V.L cd.2.2.2.1 m).2
          obtain ⟨u2, hu2⟩ := Nat.exists_eq_add_of_le (wnS_up V.L cd.2.2.2.2.1 (wnS V.L cd.2.2.2.1 m)).2
          have l1 := (wnS_up V.L cd.2.2.2.1 m).1
          have l2 := (wnS_up V.L cd.2.2.2.2.1 (wnS V.L cd.2.2.2.1 m)).1
          have mu2 := mu
          rw [if_pos hn] at mu2
          refine z_aload_n d_G_noteNamesOf_25 26 rfl rfl rfl ?_
          refine z_aload_n d_G_noteNamesOf_26 27 rfl rfl rfl ?_
          refine z_get d_G_noteNamesOf_27 30 rfl f_G_86 hq rfl ?_
          rw [if_neg h68]
          refine z_cV (Q' := fun r h' => r = none ∧ ∃ W', stp (· = k + 2) W1 h1 W' h' ∧ bgA W' D h' k o b hi mi cl as (V.L, V.H, wnS V.L cd.2.2.2.1 m, c, V.a)) d_G_noteNamesOf_30 33 rfl mv_G_want kl_G_89 (by decide) (cu + u1) (2 * cu + 2 * u1) rfl rfl (by omega) (by omega) x1.o (c_G_want cd.2.2.2.1 u1 x1 hcv.2.1 (show m.2.length < 1000 by omega) hu1 (fun W' h' s y => ⟨rfl, W', s, y⟩)) rfl rfl (Nat.le_of_ble_eq_true rfl) ?_; rintro _ h2 ⟨rfl, W2, s2, x2⟩
          obtain ⟨hGq2, hq2⟩ := s2.g (by omega) q _ hGq hq
          refine z_aload_n d_G_noteNamesOf_33 34 rfl rfl rfl ?_
          refine z_aload_n d_G_noteNamesOf_34 35 rfl rfl rfl ?_
          refine z_get d_G_noteNamesOf_35 38 rfl f_G_92 hq2 rfl ?_
          refine z_cV (Q' := fun r h' => r = none ∧ ∃ W', stp (· = k + 2) W2 h2 W' h' ∧ bgA W' D h' k o b hi mi cl as (V.L, V.H, wnS V.L cd.2.2.2.2.1 (wnS V.L cd.2.2.2.1 m), c, V.a)) d_G_noteNamesOf_38 41 rfl mv_G_want kl_G_89 (by decide) (cu + u1 + u2) (2 * cu + 2 * u1 + 2 * u2) rfl rfl (by omega) (by omega) x2.o (c_G_want cd.2.2.2.2.1 u2 x2 hcv.2.2.1 (show (wnS V.L cd.2.2.2.1 m).2.length < 1000 by omega) hu2 (fun W' h' s y => ⟨rfl, W', s, y⟩)) rfl rfl (Nat.le_of_ble_eq_true rfl) ?_; rintro _ h3 ⟨rfl, W3, s3, x3⟩
          rw [show 2 * cu + 2 * u1 + 2 * u2 = 2 * (cu + u1 + u2) by omega]
          exact j41 W3 h3 _ (cu + u1 + u2) ((s2.wk (fun _ e => Or.inl e)).tr (s3.wk (fun _ e => Or.inl e))) x3 (by rw [if_pos hn]) (by omega)
  refine z_iconst (v := nI 0) d_G_noteNamesOf_0 1 rfl rfl ?_
  refine z_ist2 d_G_noteNamesOf_1 2 rfl rfl ?_
  exact loop (aCs bs).length 0 W h V.m V.c 0 none (by omega) (stp.rf _ _ _) x rfl rfl rfl
theorem c_G_nci (x : bgA W D h k o b hi mi cl as V) (hk : 0 < k) (ha : arG (G0 W) D h a bs) (hbs : bs.length ≤ 240) (hQ : ∀ W' h', stp (· = k + 1) W h W' h' → bgA W' D h' k o b hi mi cl as (BV.uH V (nci V.L V.H (a, bs))) → Q none h') : Runs l D M_G_noteIfCheckIn [.ref o, .ref a] h 0 0 Q := by
  refine Runs.of rfl rfl (Nat.le_of_ble_eq_true rfl) ?_
  obtain ⟨a4, aok⟩ := aCs_all bs
  have ha3 := aS_le bs
  have ha0 := ha
  obtain ⟨b1, p1, f1, hGa, haO, -, -, -, hcr⟩ := ha
  obtain ⟨f, hf⟩ := x.L
  have hno : ciC V.L bs = false → Q none h := by
    intro e
    rw [show nci V.L V.H (a, bs) = V.H from if_neg (by rw [show ciC V.L (a, bs).2 = false from e]; decide)] at hQ
    exact hQ W h (stp.rf _ _ _) x
  have j46 : ∀ (r : Option Nat) (w3 : Option Value), aS bs = 1 → fiC V.L (aCs bs) 7 = r → Z l D M_G_noteIfCheckIn 0 0 Q h 0 0 46 [some (.ref o), some (.ref a), some (.int (oI r)), w3] [] := by
    intro r w3 h1 hr
    refine z_iload_n d_G_noteIfCheckIn_46 47 rfl rfl rfl ?_
    refine z_iconst (v := -1) d_G_noteIfCheckIn_47 48 rfl (by decide) ?_
    refine z_icmp_eq (tgt := 67) d_G_noteIfCheckIn_48 51 rfl rfl (fun h48 => ?_) (fun h48 => ?_)
    · have hn : r = none := (oI_m1 (fun v hv => by have := fiC_lt V.L (aCs bs) 7 v (by omega) (hr.trans hv); omega)).1 h48
      refine z_vret d_G_noteIfCheckIn_67 rfl (Nat.zero_le _) (Nat.zero_le _) (hno ?_)
      unfold ciC
      rw [hr, hn]
      simp
    · cases r with
      | none => exact absurd rfl h48
      | some d =>
        refine z_iload_n d_G_noteIfCheckIn_51 52 rfl rfl rfl ?_
        refine z_aload_n d_G_noteIfCheckIn_52 53 rfl rfl rfl ?_
        refine z_get d_G_noteIfCheckIn_53 56 rfl f_G_108 haO rfl ?_
        refine z_icmp_ne (tgt := 67) d_G_noteIfCheckIn_56 59 rfl rfl (fun h56 => ?_) (fun h56 => ?_)
        · refine z_vret d_G_noteIfCheckIn_67 rfl (Nat.zero_le _) (Nat.zero_le _) (hno ?_)
          unfold ciC
          rw [hr]
          simp only [show ¬ nI d = numC 82 (aCs bs) from h56, decide_false, Bool.and_false]
        · have hc : ciC V.L bs = true := by
            unfold ciC
            rw [hr, h1]
            simp only [show nI d = numC 82 (aCs bs) from h56, decide_true, Bool.and_self]
          rw [show nci V.L V.H (a, bs) = hAdd V.H (a, bs) from if_pos hc] at hQ
          refine z_aload_n d_G_noteIfCheckIn_59 60 rfl rfl rfl ?_
          refine z_get d_G_noteIfCheckIn_60 63 rfl f_G_24 x.o rfl ?_
          refine z_aload_n d_G_noteIfCheckIn_63 64 rfl rfl rfl ?_
          obtain ⟨b2, f2, wo2, wb2, hn2, hn3⟩ := x.H
          refine z_cV (Q' := fun r h' => r = none ∧ ∃ W', stp (· = k + 1) W h W' h' ∧ hisW W' D h' (k + 1) hi (hAdd V.H (a, bs))) d_G_noteIfCheckIn_64 67 rfl mv_H_add kl_G_111 (by decide) 0 0 rfl rfl (Nat.zero_le _) (Nat.zero_le _) hn2 (c_H_addW x.H (by omega) ha0 hbs (fun W' h' s y => ⟨rfl, W', s, y⟩)) rfl rfl (Nat.le_of_ble_eq_true rfl) ?_; rintro _ h' ⟨rfl, W', s, y⟩
          exact z_vret d_G_noteIfCheckIn_67 rfl (Nat.zero_le _) (Nat.zero_le _) (hQ W' h' s (x.sh s y))
  have loop : ∀ (i j d : Nat), j + i = (aCs bs).length → d < 16777213 → aS bs = 1 → fiC V.L (aCs bs) 7 = fiC V.L ((aCs bs).drop j) d → Z l D M_G_noteIfCheckIn 0 0 Q h 0 0 14 [some (.ref o), some (.ref a), some (.int (nI d)), some (.int (nI j))] [] := by
    intro i
    induction i with
    | zero =>
      intro j d hj hd h1 he
      rw [List.drop_eq_nil_of_le (by omega), fiC] at he
      refine z_iload_n d_G_noteIfCheckIn_14 15 rfl rfl rfl ?_
      refine z_aload_n d_G_noteIfCheckIn_15 16 rfl rfl rfl ?_
      refine z_get d_G_noteIfCheckIn_16 19 rfl f_G_77 haO rfl ?_
      refine z_alenC d_G_noteIfCheckIn_19 20 rfl hcr.P ?_
      refine z_icmp_geN (tgt := 46) d_G_noteIfCheckIn_20 23 rfl rfl (by omega) (by omega) (fun h20 => ?_) (fun h20 => ?_)
      · exact j46 (some d) _ h1 he
      · omega
    | succ i ih =>
      intro j d hj hd h1 he
      obtain ⟨cd, hcd⟩ : ∃ c, (aCs bs)[j]? = some c := ⟨(aCs bs)[j]'(by omega), List.getElem?_eq_getElem (by omega)⟩
      have hcv : cvOk cd := aok cd (List.mem_of_getElem? hcd)
      rw [drop_consL hcd, fiC] at he
      refine z_iload_n d_G_noteIfCheckIn_14 15 rfl rfl rfl ?_
      refine z_aload_n d_G_noteIfCheckIn_15 16 rfl rfl rfl ?_
      refine z_get d_G_noteIfCheckIn_16 19 rfl f_G_77 haO rfl ?_
      refine z_alenC d_G_noteIfCheckIn_19 20 rfl hcr.P ?_
      refine z_icmp_geN (tgt := 46) d_G_noteIfCheckIn_20 23 rfl rfl (by omega) (by omega) (fun h20 => ?_) (fun h20 => ?_)
      · omega
      · refine z_iload_n d_G_noteIfCheckIn_23 24 rfl rfl rfl ?_
        refine z_iconst (v := -1) d_G_noteIfCheckIn_24 25 rfl (by decide) ?_
        refine z_icmp_eq (tgt := 46) d_G_noteIfCheckIn_25 28 rfl rfl (fun h25 => ?_) (fun h25 => ?_)
        · exact absurd h25 (fun e => nI_pos (show d < 2 ^ 31 by omega) (by rw [e]; decide))
        · refine z_aload_n d_G_noteIfCheckIn_28 29 rfl rfl rfl ?_
          refine z_iload_n d_G_noteIfCheckIn_29 30 rfl rfl rfl ?_
          refine z_aload_n d_G_noteIfCheckIn_30 31 rfl rfl rfl ?_
          refine z_get d_G_noteIfCheckIn_31 34 rfl f_G_77 haO rfl ?_
          refine z_iload_n d_G_noteIfCheckIn_34 35 rfl rfl rfl ?_
          refine z_aaldG d_G_noteIfCheckIn_35 36 rfl hcr hcd (by omega) (fun q hGq hq => ?_)
          refine z_cV (Q' := fun r h' => (cd.1 ≠ 70 ∧ r = some (.int (nI d)) ∧ h = h') ∨ (cd.1 = 70 ∧ fdA (oI cd.2.2.2.1) V.L = none ∧ r = some (.int (-1)) ∧ h = h') ∨ ∃ y, cd.1 = 70 ∧ fdA (oI cd.2.2.2.1) V.L = some y ∧ r = some (.int (nI (dg d y.2))) ∧ h = h') d_G_noteIfCheckIn_36 39 rfl mv_G_digestWithFile kl_G_104 (by decide) 0 0 rfl rfl (Nat.zero_le _) (Nat.zero_le _) x.o (c_G_dwf d hd x.o hf hq hcv (fun e => Or.inl ⟨e, rfl, rfl⟩) (fun e1 e2 => Or.inr (Or.inl ⟨e1, e2, rfl, rfl⟩)) (fun y e1 e2 => Or.inr (Or.inr ⟨y, e1, e2, rfl, rfl⟩))) rfl rfl (Nat.le_of_ble_eq_true rfl) ?_; rintro _ _ (⟨e1, rfl, rfl⟩ | ⟨e1, e2, rfl, rfl⟩ | ⟨y, e1, e2, rfl, rfl⟩)
          · rw [if_neg e1] at he
            refine z_ist2 d_G_noteIfCheckIn_39 40 rfl rfl ?_
            first | refine z_incN3 d_G_noteIfCheckIn_40 43 rfl rfl ?_ | refine z_inc3 d_G_noteIfCheckIn_40 43 rfl rfl rfl ?_
            refine z_goto (tgt := 14) d_G_noteIfCheckIn_43 rfl ?_
            exact ih (j + 1) d (by omega) hd h1 he
          · rw [if_pos e1, e2] at he
            refine z_ist2 d_G_noteIfCheckIn_39 40 rfl rfl ?_
            first | refine z_incN3 d_G_noteIfCheckIn_40 43 rfl rfl ?_ | refine z_inc3 d_G_noteIfCheckIn_40 43 rfl rfl rfl ?_
            refine z_goto (tgt := 14) d_G_noteIfCheckIn_43 rfl ?_
            refine z_iload_n d_G_noteIfCheckIn_14 15 rfl rfl rfl ?_
            refine z_aload_n d_G_noteIfCheckIn_15 16 rfl rfl rfl ?_
            refine z_get d_G_noteIfCheckIn_16 19 rfl f_G_77 haO rfl ?_
            refine z_alenC d_G_noteIfCheckIn_19 20 rfl hcr.P ?_
            refine z_icmp_geN (tgt := 46) d_G_noteIfCheckIn_20 23 rfl rfl (by omega) (by omega) (fun h20 => ?_) (fun h20 => ?_)
            · exact j46 none _ h1 he
            · refine z_iload_n d_G_noteIfCheckIn_23 24 rfl rfl rfl ?_
              refine z_iconst (v := -1) d_G_noteIfCheckIn_24 25 rfl (by decide) ?_
              refine z_icmp_eq (tgt := 46) d_G_noteIfCheckIn_25 28 rfl rfl (fun h25 => ?_) (fun h25 => ?_)
              · exact j46 none _ h1 he
              · exact absurd rfl h25
          · rw [if_pos e1, e2] at he
            refine z_ist2 d_G_noteIfCheckIn_39 40 rfl rfl ?_
            first | refine z_incN3 d_G_noteIfCheckIn_40 43 rfl rfl ?_ | refine z_inc3 d_G_noteIfCheckIn_40 43 rfl rfl rfl ?_
            refine z_goto (tgt := 14) d_G_noteIfCheckIn_43 rfl ?_
            exact ih (j + 1) (dg d y.2) (by omega) (dg_lt hd _) h1 he
  refine z_aload_n d_G_noteIfCheckIn_0 1 rfl rfl rfl ?_
  refine z_get d_G_noteIfCheckIn_1 4 rfl f_G_101 haO rfl ?_
  refine z_iconst (v := nI 1) d_G_noteIfCheckIn_4 5 rfl rfl ?_
  refine z_icmp_eqN (tgt := 9) d_G_noteIfCheckIn_5 8 rfl rfl (by omega) (by omega) (fun h5 => ?_) (fun h5 => ?_)
  · refine z_bipush (v := nI 7) d_G_noteIfCheckIn_9 11 rfl rfl ?_
    refine z_ist2 d_G_noteIfCheckIn_11 12 rfl rfl ?_
    refine z_iconst (v := nI 0) d_G_noteIfCheckIn_12 13 rfl rfl ?_
    refine z_ist3 d_G_noteIfCheckIn_13 14 rfl rfl ?_
    exact loop (aCs bs).length 0 7 (by omega) (by omega) h5 (by rw [List.drop_zero])
  · refine z_vret d_G_noteIfCheckIn_8 rfl (Nat.zero_le _) (Nat.zero_le _) (hno ?_)
    unfold ciC
    simp only [h5, decide_false, Bool.false_and]
end C32
