/-! The class: lines, well-formed texts, sorts. Own work. -/
/-- how many line ends -/
def nlc (bs : List Nat) : Nat := (bs.filter fun x => decide (x = 10)).length
theorem nlc_cons (w : Nat) (t : List Nat) : nlc (w :: t) = (if w = 10 then 1 else 0) + nlc t := by
  by_cases h : w = 10 <;> simp [nlc, List.filter_cons, h] <;> omega
theorem drop_consB {bs : List Nat} {j : Nat} (h : j < bs.length) : bs.drop j = bs.getD j 0 :: bs.drop (j + 1) := by
  rw [List.drop_eq_getElem_cons h]
  simp [List.getD, List.getElem?_eq_getElem h]
/-- each card may stand behind the one before -/
def chn : List CV → Bool
  | [] => true
  | [_] => true
  | a :: c :: t => folC a c && chn (c :: t)
def wfZ (bs : List Nat) (cs : List CV) : Bool := match cs.getLast? with
  | none => false
  | some z => decide (z.1 = 90) && decide (z.2.2.2.1 = some (dg 7 (bs.take (bs.length - 9))))
def wfC (bs : List Nat) (cs : List CV) : Bool := chn cs && wfZ bs cs
/-- the sort of a list of cards, as the class counts -/
def srtC (cs : List CV) : Nat :=
  if cnt 68 cs = 1 ∧ cnt 82 cs = 1 ∧ cnt 77 cs = 0 ∧ stars cs = cnt 84 cs then 1
  else if cnt 68 cs = 1 ∧ cnt 84 cs ≠ 0 ∧ stars cs = 0 ∧ cs.length = cnt 84 cs + 2 then 2
  else if cnt 77 cs ≠ 0 ∧ cs.length = cnt 77 cs + 1 then 3 else 0
section C11
variable {l : Launch} {D : zD} {M : zM} {h : zH} {p b q : Nat} {c a : CV} {cs : List CV} {f : Nat → Int32} {bs : List Nat} {Q : Option Value → zH → Prop}
theorem c_A_countLines (hb : h b = some (.inl (D.2 0, bs.length, .inl f))) (hf : byP f bs) (hl : bs.length ≤ 240) (hQ : Q (some (.int (nI (nlc bs)))) h) : Runs l D M_A_countLines [.ref b] h 0 0 Q := by
  refine Runs.of rfl rfl (Nat.le_of_ble_eq_true rfl) ?_
  refine z_iconst (v := nI 0) d_A_countLines_0 1 rfl rfl ?_
  refine z_ist1 d_A_countLines_1 2 rfl rfl ?_
  refine z_iconst (v := nI 0) d_A_countLines_2 3 rfl rfl ?_
  refine z_ist2 d_A_countLines_3 4 rfl rfl ?_
  have loop : ∀ (i j m : Nat), j + i = bs.length → m ≤ j → nlc bs = m + nlc (bs.drop j) → Z l D M_A_countLines 0 0 Q h 0 0 4 [some (.ref b), some (.int (nI m)), some (.int (nI j))] [] := by
    intro i
    induction i with
    | zero =>
      intro j m hj hm he
      rw [List.drop_eq_nil_of_le (by omega)] at he
      refine z_iload_n d_A_countLines_4 5 rfl rfl rfl ?_
      refine z_aload_n d_A_countLines_5 6 rfl rfl rfl ?_
      refine z_alen d_A_countLines_6 7 rfl (t := 0) rfl hb rfl ?_
      refine z_icmp_geN (tgt := 27) d_A_countLines_7 10 rfl rfl (by omega) (by omega) (fun h7 => ?_) (fun h7 => ?_)
      · refine z_iload_n d_A_countLines_27 28 rfl rfl rfl ?_
        exact z_iret d_A_countLines_28 rfl (Nat.le_refl 0) (Nat.le_refl 0) (by rw [he] at hQ; exact hQ)
      · omega
    | succ i ih =>
      intro j m hj hm he
      obtain ⟨hbj, hfj⟩ := hf j (by omega)
      rw [drop_consB (by omega), nlc_cons] at he
      refine z_iload_n d_A_countLines_4 5 rfl rfl rfl ?_
      refine z_aload_n d_A_countLines_5 6 rfl rfl rfl ?_
      refine z_alen d_A_countLines_6 7 rfl (t := 0) rfl hb rfl ?_
      refine z_icmp_geN (tgt := 27) d_A_countLines_7 10 rfl rfl (by omega) (by omega) (fun h7 => ?_) (fun h7 => ?_)
      · omega
      · refine z_aload_n d_A_countLines_10 11 rfl rfl rfl ?_
        refine z_iload_n d_A_countLines_11 12 rfl rfl rfl ?_
        refine z_baldN d_A_countLines_12 13 rfl hb (by omega) (by omega) ?_
        rw [hfj]
        refine z_bipush (v := nI 10) d_A_countLines_13 15 rfl rfl ?_
        refine z_icmp_ne (tgt := 21) d_A_countLines_15 18 rfl rfl (fun h15 => ?_) (fun h15 => ?_)
        · have h1 : ¬ bs.getD j 0 = 10 := fun e => h15 ((cb_eq _ hbj 10 (by decide)).2 e)
          rw [if_neg h1] at he
          first | refine z_incN2 d_A_countLines_21 24 rfl rfl ?_ | refine z_inc2 d_A_countLines_21 24 rfl rfl rfl ?_
          refine z_goto (tgt := 4) d_A_countLines_24 rfl ?_
          exact ih (j + 1) m (by omega) (by omega) (by omega)
        · have h1 := (cb_eq _ hbj 10 (by decide)).1 h15
          rw [if_pos h1] at he
          first | refine z_incN1 d_A_countLines_18 21 rfl rfl ?_ | refine z_inc1 d_A_countLines_18 21 rfl rfl rfl ?_
          first | refine z_incN2 d_A_countLines_21 24 rfl rfl ?_ | refine z_inc2 d_A_countLines_21 24 rfl rfl rfl ?_
          refine z_goto (tgt := 4) d_A_countLines_24 rfl ?_
          exact ih (j + 1) (m + 1) (by omega) (by omega) (by omega)
  exact loop bs.length 0 0 (by omega) (Nat.le_refl 0) (by rw [List.drop_zero, Nat.zero_add])
theorem c_A_isWellFormed (hb : h b = some (.inl (D.2 0, bs.length, .inl f))) (hf : byP f bs) (hlb : bs.length ≤ 240) (hcr : crP D h p cs) (hl : cs.length ≤ 240) (hok : ∀ c, c ∈ cs → cvOk c) (hz9 : ∀ z, cs.getLast? = some z → z.1 = 90 → 9 ≤ bs.length) (hQ : Q (some (.int (zb (wfC bs cs)))) h) : Runs l D M_A_isWellFormed [.ref b, .ref p] h 0 0 Q := by
  refine Runs.of rfl rfl (Nat.le_of_ble_eq_true rfl) ?_
  refine z_aload_n d_A_isWellFormed_0 1 rfl rfl rfl ?_
  refine z_alenC d_A_isWellFormed_1 2 rfl hcr ?_
  refine z_if_neN (tgt := 7) d_A_isWellFormed_2 5 rfl rfl (by omega) (fun h2 => ?_) (fun h2 => ?_)
  · refine z_iconst (v := nI 1) d_A_isWellFormed_7 8 rfl rfl ?_
    refine z_ist2 d_A_isWellFormed_8 9 rfl rfl ?_
    have loop : ∀ (i j : Nat), j + 1 + i = cs.length → chn cs = chn (cs.drop j) → Z l D M_A_isWellFormed 0 0 Q h 0 0 9 [some (.ref b), some (.ref p), some (.int (nI (j + 1))), none] [] := by
      intro i
      induction i with
      | zero =>
        intro j hj he
        obtain ⟨z, hz⟩ : ∃ z, cs[j]? = some z := ⟨cs[j]'(by omega), List.getElem?_eq_getElem (by omega)⟩
        have hzo := hok z (List.mem_of_getElem? hz)
        rw [drop_consC hz, List.drop_eq_nil_of_le (by omega)] at he
        have hlast : cs.getLast? = some z := by rw [List.getLast?_eq_getElem?, show cs.length - 1 = j by omega, hz]
        have hw : wfC bs cs = (decide (z.1 = 90) && decide (z.2.2.2.1 = some (dg 7 (bs.take (bs.length - 9))))) := by unfold wfC wfZ; rw [he, hlast]; rfl
        rw [hw] at hQ
        refine z_iload_n d_A_isWellFormed_9 10 rfl rfl rfl ?_
        refine z_aload_n d_A_isWellFormed_10 11 rfl rfl rfl ?_
        refine z_alenC d_A_isWellFormed_11 12 rfl hcr ?_
        refine z_icmp_geN (tgt := 37) d_A_isWellFormed_12 15 rfl rfl (by omega) (by omega) (fun h12 => ?_) (fun h12 => ?_)
        · refine z_aload_n d_A_isWellFormed_37 38 rfl rfl rfl ?_
          refine z_aload_n d_A_isWellFormed_38 39 rfl rfl rfl ?_
          refine z_alenC d_A_isWellFormed_39 40 rfl hcr ?_
          refine z_iconst (v := nI 1) d_A_isWellFormed_40 41 rfl rfl ?_
          refine z_isubN d_A_isWellFormed_41 42 rfl (by omega) ?_
          rw [show cs.length - 1 = j by omega]
          refine z_aaldC d_A_isWellFormed_42 43 rfl hcr hz (by omega) (fun q hq => ?_)
          refine z_ast2 d_A_isWellFormed_43 44 rfl rfl ?_
          refine z_bipush (v := nI 9) d_A_isWellFormed_44 46 rfl rfl ?_
          refine z_ist3 d_A_isWellFormed_46 47 rfl rfl ?_
          refine z_aload_n d_A_isWellFormed_47 48 rfl rfl rfl ?_
          refine z_get d_A_isWellFormed_48 51 rfl f_A_81 hq rfl ?_
          refine z_bipush (v := nI 90) d_A_isWellFormed_51 53 rfl rfl ?_
          have hlz := hzo.1
          refine z_icmp_neN (tgt := 77) d_A_isWellFormed_53 56 rfl rfl (by omega) (by omega) (fun h53 => ?_) (fun h53 => ?_)
          · refine z_iconst (v := nI 0) d_A_isWellFormed_77 78 rfl rfl ?_
            exact z_zretB (b := false) d_A_isWellFormed_78 rfl (Nat.le_refl 0) (Nat.le_refl 0) (by simpa [h53] using hQ)
          · have h9 := hz9 z hlast h53
            obtain ⟨v, hv⟩ := Option.isSome_iff_exists.mp (hzo.2.2.2.2.2.2.1 (by omega) (by omega))
            have hvl := hzo.2.1 v hv
            have ex : (if z.1 = 68 then nI z.2.2.2.2.2 else oI z.2.2.2.1) = nI v := by rw [if_neg (by omega), hv]; rfl
            have hdl := dg_lt (d := 7) (by decide) (bs.take (bs.length - 9))
            rw [hv] at hQ
            refine z_aload_n d_A_isWellFormed_56 57 rfl rfl rfl ?_
            refine z_get d_A_isWellFormed_57 60 rfl f_A_84 hq rfl ?_
            rw [ex]
            refine z_bipush (v := nI 7) d_A_isWellFormed_60 62 rfl rfl ?_
            refine z_aload_n d_A_isWellFormed_62 63 rfl rfl rfl ?_
            refine z_aload_n d_A_isWellFormed_63 64 rfl rfl rfl ?_
            refine z_alen d_A_isWellFormed_64 65 rfl (t := 0) rfl hb rfl ?_
            refine z_iload_n d_A_isWellFormed_65 66 rfl rfl rfl ?_
            refine z_isubN d_A_isWellFormed_66 67 rfl (by omega) ?_
            refine z_cS1 d_A_isWellFormed_67 70 rfl ms_B_digestAfter kl_A_15 (by decide) 0 0 rfl rfl (Nat.le_refl 0) (Nat.le_refl 0) (fun Q' q => c_B_digestAfter 7 (bs.length - 9) bs.length hb hf (by omega) (Nat.le_refl _) (by omega) (by decide) q) rfl rfl (Nat.le_of_ble_eq_true rfl) ?_
            refine z_icmp_neN (tgt := 77) d_A_isWellFormed_70 73 rfl rfl (by omega) (by omega) (fun h70 => ?_) (fun h70 => ?_)
            · refine z_iconst (v := nI 0) d_A_isWellFormed_77 78 rfl rfl ?_
              exact z_zretB (b := false) d_A_isWellFormed_78 rfl (Nat.le_refl 0) (Nat.le_refl 0) (by simpa [h53, h70] using hQ)
            · refine z_iconst (v := nI 1) d_A_isWellFormed_73 74 rfl rfl ?_
              refine z_goto (tgt := 78) d_A_isWellFormed_74 rfl ?_
              exact z_zretB (b := true) d_A_isWellFormed_78 rfl (Nat.le_refl 0) (Nat.le_refl 0) (by simpa [h53, h70] using hQ)
        · omega
      | succ i ih =>
        intro j hj he
        obtain ⟨z, hz⟩ : ∃ z, cs[j]? = some z := ⟨cs[j]'(by omega), List.getElem?_eq_getElem (by omega)⟩
        obtain ⟨c, hc⟩ : ∃ c, cs[j + 1]? = some c := ⟨cs[j + 1]'(by omega), List.getElem?_eq_getElem (by omega)⟩
        have e2 := drop_consC hc
        rw [drop_consC hz, e2, chn, ← e2] at he
        refine z_iload_n d_A_isWellFormed_9 10 rfl rfl rfl ?_
        refine z_aload_n d_A_isWellFormed_10 11 rfl rfl rfl ?_
        refine z_alenC d_A_isWellFormed_11 12 rfl hcr ?_
        refine z_icmp_geN (tgt := 37) d_A_isWellFormed_12 15 rfl rfl (by omega) (by omega) (fun h12 => ?_) (fun h12 => ?_)
        · omega
        · refine z_aload_n d_A_isWellFormed_15 16 rfl rfl rfl ?_
          refine z_iload_n d_A_isWellFormed_16 17 rfl rfl rfl ?_
          refine z_aaldC d_A_isWellFormed_17 18 rfl hcr hc (by omega) (fun q hq => ?_)
          refine z_aload_n d_A_isWellFormed_18 19 rfl rfl rfl ?_
          refine z_iload_n d_A_isWellFormed_19 20 rfl rfl rfl ?_
          refine z_iconst (v := nI 1) d_A_isWellFormed_20 21 rfl rfl ?_
          refine z_isubN d_A_isWellFormed_21 22 rfl (by omega) ?_
          rw [show j + 1 - 1 = j by omega]
          refine z_aaldC d_A_isWellFormed_22 23 rfl hcr hz (by omega) (fun q2 hq2 => ?_)
          refine z_cV1 d_A_isWellFormed_23 26 rfl mv_C_mayFollow kl_A_77 (by decide) 0 0 rfl rfl (Nat.le_refl 0) (Nat.le_refl 0) hq (fun Q' q => c_C_mayFollow hq hq2 (hok c (List.mem_of_getElem? hc)) (hok z (List.mem_of_getElem? hz)) q) rfl rfl (Nat.le_of_ble_eq_true rfl) ?_
          refine z_if_neB (tgt := 31) d_A_isWellFormed_26 29 rfl rfl (fun h26 => ?_) (fun h26 => ?_)
          · rw [h26, Bool.true_and] at he
            first | refine z_incN2 d_A_isWellFormed_31 34 rfl rfl ?_ | refine z_inc2 d_A_isWellFormed_31 34 rfl rfl rfl ?_
            refine z_goto (tgt := 9) d_A_isWellFormed_34 rfl ?_
            exact ih (j + 1) (by omega) he
          · have hw : wfC bs cs = false := by unfold wfC; rw [he, h26]; rfl
            rw [hw] at hQ
            refine z_iconst (v := nI 0) d_A_isWellFormed_29 30 rfl rfl ?_
            exact z_zretB (b := false) d_A_isWellFormed_30 rfl (Nat.le_refl 0) (Nat.le_refl 0) hQ
    exact loop (cs.length - 1) 0 (by omega) (by rw [List.drop_zero])
  · have h0 : cs = [] := List.length_eq_zero_iff.mp (by omega)
    subst h0
    refine z_iconst (v := nI 0) d_A_isWellFormed_5 6 rfl rfl ?_
    exact z_zretB (b := false) d_A_isWellFormed_6 rfl (Nat.le_refl 0) (Nat.le_refl 0) hQ
theorem c_A_sortOf (hcr : crP D h p cs) (hl : cs.length ≤ 240) (hok : ∀ c, c ∈ cs → cvOk c) (hQ : Q (some (.int (nI (srtC cs)))) h) : Runs l D M_A_sortOf [.ref p] h 0 0 Q := by
  refine Runs.of rfl rfl (Nat.le_of_ble_eq_true rfl) ?_
  have l1 := cnt_le 68 cs
  have l2 := cnt_le 77 cs
  have l3 := cnt_le 82 cs
  have l4 := cnt_le 84 cs
  have l5 := stars_le cs
  unfold srtC at hQ
  refine z_bipush (v := nI 68) d_A_sortOf_0 2 rfl rfl ?_
  refine z_aload_n d_A_sortOf_2 3 rfl rfl rfl ?_
  refine z_cS1 d_A_sortOf_3 6 rfl ms_A_countOf kl_A_87 (by decide) 0 0 rfl rfl (Nat.le_refl 0) (Nat.le_refl 0) (fun Q' q => c_A_countOf 68 (by decide) hcr hl hok q) rfl rfl (Nat.le_of_ble_eq_true rfl) ?_
  refine z_ist1 d_A_sortOf_6 7 rfl rfl ?_
  refine z_bipush (v := nI 77) d_A_sortOf_7 9 rfl rfl ?_
  refine z_aload_n d_A_sortOf_9 10 rfl rfl rfl ?_
  refine z_cS1 d_A_sortOf_10 13 rfl ms_A_countOf kl_A_87 (by decide) 0 0 rfl rfl (Nat.le_refl 0) (Nat.le_refl 0) (fun Q' q => c_A_countOf 77 (by decide) hcr hl hok q) rfl rfl (Nat.le_of_ble_eq_true rfl) ?_
  refine z_ist2 d_A_sortOf_13 14 rfl rfl ?_
  refine z_bipush (v := nI 82) d_A_sortOf_14 16 rfl rfl ?_
  refine z_aload_n d_A_sortOf_16 17 rfl rfl rfl ?_
  refine z_cS1 d_A_sortOf_17 20 rfl ms_A_countOf kl_A_87 (by decide) 0 0 rfl rfl (Nat.le_refl 0) (Nat.le_refl 0) (fun Q' q => c_A_countOf 82 (by decide) hcr hl hok q) rfl rfl (Nat.le_of_ble_eq_true rfl) ?_
  refine z_ist3 d_A_sortOf_20 21 rfl rfl ?_
  refine z_bipush (v := nI 84) d_A_sortOf_21 23 rfl rfl ?_
  refine z_aload_n d_A_sortOf_23 24 rfl rfl rfl ?_
  refine z_cS1 d_A_sortOf_24 27 rfl ms_A_countOf kl_A_87 (by decide) 0 0 rfl rfl (Nat.le_refl 0) (Nat.le_refl 0) (fun Q' q => c_A_countOf 84 (by decide) hcr hl hok q) rfl rfl (Nat.le_of_ble_eq_true rfl) ?_
  refine z_ist4 d_A_sortOf_27 29 rfl rfl ?_
  refine z_aload_n d_A_sortOf_29 30 rfl rfl rfl ?_
  refine z_cS1 d_A_sortOf_30 33 rfl ms_A_countStarred kl_A_90 (by decide) 0 0 rfl rfl (Nat.le_refl 0) (Nat.le_refl 0) (fun Q' q => c_A_countStarred hcr hl hok q) rfl rfl (Nat.le_of_ble_eq_true rfl) ?_
  refine z_ist5 d_A_sortOf_33 35 rfl rfl ?_
  have j84 : ¬ (cnt 68 cs = 1 ∧ cnt 82 cs = 1 ∧ cnt 77 cs = 0 ∧ stars cs = cnt 84 cs) → ¬ (cnt 68 cs = 1 ∧ cnt 84 cs ≠ 0 ∧ stars cs = 0 ∧ cs.length = cnt 84 cs + 2) → Z l D M_A_sortOf 0 0 Q h 0 0 84 [some (.ref p), some (.int (nI (cnt 68 cs))), some (.int (nI (cnt 77 cs))), some (.int (nI (cnt 82 cs))), some (.int (nI (cnt 84 cs))), some (.int (nI (stars cs)))] [] := by
    intro n1 n2
    rw [if_neg n1, if_neg n2] at hQ
    refine z_iload_n d_A_sortOf_84 85 rfl rfl rfl ?_
    refine z_if_leN (tgt := 100) d_A_sortOf_85 88 rfl rfl (by omega) (fun h85 => ?_) (fun h85 => ?_)
    · refine z_iconst (v := nI 0) d_A_sortOf_100 101 rfl rfl ?_
      exact z_iret d_A_sortOf_101 rfl (Nat.le_refl 0) (Nat.le_refl 0) (by first | (rw [if_pos (by omega)] at hQ; exact hQ) | (rw [if_neg (by omega)] at hQ; exact hQ))
    · refine z_aload_n d_A_sortOf_88 89 rfl rfl rfl ?_
      refine z_alenC d_A_sortOf_89 90 rfl hcr ?_
      refine z_iload_n d_A_sortOf_90 91 rfl rfl rfl ?_
      refine z_iconst (v := nI 1) d_A_sortOf_91 92 rfl rfl ?_
      first | refine z_iaddN d_A_sortOf_92 93 rfl ?_ | refine z_iadd d_A_sortOf_92 93 rfl ?_
      refine z_icmp_neN (tgt := 100) d_A_sortOf_93 96 rfl rfl (by omega) (by omega) (fun h93 => ?_) (fun h93 => ?_)
      · refine z_iconst (v := nI 0) d_A_sortOf_100 101 rfl rfl ?_
        exact z_iret d_A_sortOf_101 rfl (Nat.le_refl 0) (Nat.le_refl 0) (by first | (rw [if_pos (by omega)] at hQ; exact hQ) | (rw [if_neg (by omega)] at hQ; exact hQ))
      · refine z_iconst (v := nI 3) d_A_sortOf_96 97 rfl rfl ?_
        refine z_goto (tgt := 101) d_A_sortOf_97 rfl ?_
        exact z_iret d_A_sortOf_101 rfl (Nat.le_refl 0) (Nat.le_refl 0) (by first | (rw [if_pos (by omega)] at hQ; exact hQ) | (rw [if_neg (by omega)] at hQ; exact hQ))
  have j58 : ¬ (cnt 68 cs = 1 ∧ cnt 82 cs = 1 ∧ cnt 77 cs = 0 ∧ stars cs = cnt 84 cs) → Z l D M_A_sortOf 0 0 Q h 0 0 58 [some (.ref p), some (.int (nI (cnt 68 cs))), some (.int (nI (cnt 77 cs))), some (.int (nI (cnt 82 cs))), some (.int (nI (cnt 84 cs))), some (.int (nI (stars cs)))] [] := by
    intro n1
    refine z_iload_n d_A_sortOf_58 59 rfl rfl rfl ?_
    refine z_iconst (v := nI 1) d_A_sortOf_59 60 rfl rfl ?_
    refine z_icmp_neN (tgt := 84) d_A_sortOf_60 63 rfl rfl (by omega) (by omega) (fun h60 => ?_) (fun h60 => ?_)
    · exact j84 n1 (by omega)
    · refine z_iload d_A_sortOf_63 65 rfl rfl ?_
      refine z_if_leN (tgt := 84) d_A_sortOf_65 68 rfl rfl (by omega) (fun h65 => ?_) (fun h65 => ?_)
      · exact j84 n1 (by omega)
      · refine z_iload d_A_sortOf_68 70 rfl rfl ?_
        refine z_if_neN (tgt := 84) d_A_sortOf_70 73 rfl rfl (by omega) (fun h70 => ?_) (fun h70 => ?_)
        · exact j84 n1 (by omega)
        · refine z_aload_n d_A_sortOf_73 74 rfl rfl rfl ?_
          refine z_alenC d_A_sortOf_74 75 rfl hcr ?_
          refine z_iload d_A_sortOf_75 77 rfl rfl ?_
          refine z_iconst (v := nI 2) d_A_sortOf_77 78 rfl rfl ?_
          first | refine z_iaddN d_A_sortOf_78 79 rfl ?_ | refine z_iadd d_A_sortOf_78 79 rfl ?_
          refine z_icmp_neN (tgt := 84) d_A_sortOf_79 82 rfl rfl (by omega) (by omega) (fun h79 => ?_) (fun h79 => ?_)
          · exact j84 n1 (by omega)
          · rw [if_neg n1, if_pos (by omega)] at hQ
            refine z_iconst (v := nI 2) d_A_sortOf_82 83 rfl rfl ?_
            exact z_iret d_A_sortOf_83 rfl (Nat.le_refl 0) (Nat.le_refl 0) hQ
  refine z_iload_n d_A_sortOf_35 36 rfl rfl rfl ?_
  refine z_iconst (v := nI 1) d_A_sortOf_36 37 rfl rfl ?_
  refine z_icmp_neN (tgt := 58) d_A_sortOf_37 40 rfl rfl (by omega) (by omega) (fun h37 => ?_) (fun h37 => ?_)
  · exact j58 (by omega)
  · refine z_iload_n d_A_sortOf_40 41 rfl rfl rfl ?_
    refine z_iconst (v := nI 1) d_A_sortOf_41 42 rfl rfl ?_
    refine z_icmp_neN (tgt := 58) d_A_sortOf_42 45 rfl rfl (by omega) (by omega) (fun h42 => ?_) (fun h42 => ?_)
    · exact j58 (by omega)
    · refine z_iload_n d_A_sortOf_45 46 rfl rfl rfl ?_
      refine z_if_neN (tgt := 58) d_A_sortOf_46 49 rfl rfl (by omega) (fun h46 => ?_) (fun h46 => ?_)
      · exact j58 (by omega)
      · refine z_iload d_A_sortOf_49 51 rfl rfl ?_
        refine z_iload d_A_sortOf_51 53 rfl rfl ?_
        refine z_icmp_neN (tgt := 58) d_A_sortOf_53 56 rfl rfl (by omega) (by omega) (fun h53 => ?_) (fun h53 => ?_)
        · exact j58 (by omega)
        · rw [if_pos (by omega)] at hQ
          refine z_iconst (v := nI 1) d_A_sortOf_56 57 rfl rfl ?_
          exact z_iret d_A_sortOf_57 rfl (Nat.le_refl 0) (Nat.le_refl 0) hQ
end C11
