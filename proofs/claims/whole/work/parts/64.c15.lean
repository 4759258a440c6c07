/-! The class: what an artifact names. Own work. -/
def nfC (x : Int32) : List CV → Bool
  | [] => false
  | c :: t => if c.1 = 70 ∧ oI c.2.2.2.1 = x then true else nfC x t
def npC (x : Int32) : List CV → Bool
  | [] => false
  | c :: t => if c.1 = 80 ∧ x ≠ -1 then decide (oI c.2.2.2.1 = x) || decide (oI c.2.2.2.2.1 = x) else npC x t
def tcC (m : Bool) (n x d : Int32) : List CV → Option CV
  | [] => none
  | c :: t => if c.1 = 84 ∧ nI c.2.1 = d then (if (if m = true then n else oI c.2.2.2.1) = x then some c else none) else tcC m n x d t
section C15
variable {l : Launch} {D : zD} {M : zM} {h : zH} {a b p q : Nat} {f : Nat → Int32} {bs : List Nat} {cs : List CV} {Q : Option Value → zH → Prop} {v0 v1 v2 v3 v4 v5 : Value}
theorem c_A_namesFile (x : Int32) (ha : h a = some (.inr (2, [v0, v1, v2, .ref p, v4, v5]))) (hcr : crP D h p cs) (hl : cs.length ≤ 240) (hok : ∀ c, c ∈ cs → cvOk c) (hQ : Q (some (.int (zb (nfC x cs)))) h) : Runs l D M_A_namesFile [.ref a, .int x] h 0 0 Q := by
  refine Runs.of rfl rfl (Nat.le_of_ble_eq_true rfl) ?_
  refine z_iconst (v := nI 0) d_A_namesFile_0 1 rfl rfl ?_
  refine z_ist2 d_A_namesFile_1 2 rfl rfl ?_
  have loop : ∀ (i j : Nat), j + i = cs.length → nfC x cs = nfC x (cs.drop j) → Z l D M_A_namesFile 0 0 Q h 0 0 2 [some (.ref a), some (.int x), some (.int (nI j))] [] := by
    intro i
    induction i with
    | zero =>
      intro j hj he
      rw [List.drop_eq_nil_of_le (by omega)] at he
      refine z_iload_n d_A_namesFile_2 3 rfl rfl rfl ?_
      refine z_aload_n d_A_namesFile_3 4 rfl rfl rfl ?_
      refine z_get d_A_namesFile_4 7 rfl f_A_26 ha rfl ?_
      refine z_alenC d_A_namesFile_7 8 rfl hcr ?_
      refine z_icmp_geN (tgt := 46) d_A_namesFile_8 11 rfl rfl (by omega) (by omega) (fun h8 => ?_) (fun h8 => ?_)
      · refine z_iconst (v := nI 0) d_A_namesFile_46 47 rfl rfl ?_
        exact z_zretB (b := false) d_A_namesFile_47 rfl (Nat.le_refl 0) (Nat.le_refl 0) (by rw [he] at hQ; exact hQ)
      · omega
    | succ i ih =>
      intro j hj he
      obtain ⟨c, hc⟩ : ∃ c, cs[j]? = some c := ⟨cs[j]'(by omega), List.getElem?_eq_getElem (by omega)⟩
      have hlc := (hok c (List.mem_of_getElem? hc)).1
      rw [drop_consC hc, nfC] at he
      refine z_iload_n d_A_namesFile_2 3 rfl rfl rfl ?_
      refine z_aload_n d_A_namesFile_3 4 rfl rfl rfl ?_
      refine z_get d_A_namesFile_4 7 rfl f_A_26 ha rfl ?_
      refine z_alenC d_A_namesFile_7 8 rfl hcr ?_
      refine z_icmp_geN (tgt := 46) d_A_namesFile_8 11 rfl rfl (by omega) (by omega) (fun h8 => ?_) (fun h8 => ?_)
      · omega
      · refine z_aload_n d_A_namesFile_11 12 rfl rfl rfl ?_
        refine z_get d_A_namesFile_12 15 rfl f_A_26 ha rfl ?_
        refine z_iload_n d_A_namesFile_15 16 rfl rfl rfl ?_
        refine z_aaldC d_A_namesFile_16 17 rfl hcr hc (by omega) (fun q hq => ?_)
        refine z_get d_A_namesFile_17 20 rfl f_A_81 hq rfl ?_
        refine z_bipush (v := nI 70) d_A_namesFile_20 22 rfl rfl ?_
        refine z_icmp_neN (tgt := 40) d_A_namesFile_22 25 rfl rfl (by omega) (by omega) (fun h22 => ?_) (fun h22 => ?_)
        · rw [if_neg (fun e => h22 e.1)] at he
          first | refine z_incN2 d_A_namesFile_40 43 rfl rfl ?_ | refine z_inc2 d_A_namesFile_40 43 rfl rfl rfl ?_
          refine z_goto (tgt := 2) d_A_namesFile_43 rfl ?_
          exact ih (j + 1) (by omega) he
        · refine z_aload_n d_A_namesFile_25 26 rfl rfl rfl ?_
          refine z_get d_A_namesFile_26 29 rfl f_A_26 ha rfl ?_
          refine z_iload_n d_A_namesFile_29 30 rfl rfl rfl ?_
          refine z_aaldC d_A_namesFile_30 31 rfl hcr hc (by omega) (fun q hq => ?_)
          refine z_get d_A_namesFile_31 34 rfl f_A_84 hq rfl ?_
          rw [if_neg (show ¬ c.1 = 68 by omega)]
          refine z_iload_n d_A_namesFile_34 35 rfl rfl rfl ?_
          refine z_icmp_ne (tgt := 40) d_A_namesFile_35 38 rfl rfl (fun h35 => ?_) (fun h35 => ?_)
          · rw [if_neg (fun e => h35 e.2)] at he
            first | refine z_incN2 d_A_namesFile_40 43 rfl rfl ?_ | refine z_inc2 d_A_namesFile_40 43 rfl rfl rfl ?_
            refine z_goto (tgt := 2) d_A_namesFile_43 rfl ?_
            exact ih (j + 1) (by omega) he
          · rw [if_pos ⟨h22, h35⟩] at he
            refine z_iconst (v := nI 1) d_A_namesFile_38 39 rfl rfl ?_
            exact z_zretB (b := true) d_A_namesFile_39 rfl (Nat.le_refl 0) (Nat.le_refl 0) (by rw [he] at hQ; exact hQ)
  exact loop cs.length 0 (by omega) (by rw [List.drop_zero])
theorem c_A_namesParent (x : Int32) (ha : h a = some (.inr (2, [v0, v1, v2, .ref p, v4, v5]))) (hcr : crP D h p cs) (hl : cs.length ≤ 240) (hok : ∀ c, c ∈ cs → cvOk c) (hQ : Q (some (.int (zb (npC x cs)))) h) : Runs l D M_A_namesParent [.ref a, .int x] h 0 0 Q := by
  refine Runs.of rfl rfl (Nat.le_of_ble_eq_true rfl) ?_
  refine z_iconst (v := nI 0) d_A_namesParent_0 1 rfl rfl ?_
  refine z_ist2 d_A_namesParent_1 2 rfl rfl ?_
  have loop : ∀ (i j : Nat), j + i = cs.length → npC x cs = npC x (cs.drop j) → Z l D M_A_namesParent 0 0 Q h 0 0 2 [some (.ref a), some (.int x), some (.int (nI j))] [] := by
    intro i
    induction i with
    | zero =>
      intro j hj he
      rw [List.drop_eq_nil_of_le (by omega)] at he
      refine z_iload_n d_A_namesParent_2 3 rfl rfl rfl ?_
      refine z_aload_n d_A_namesParent_3 4 rfl rfl rfl ?_
      refine z_get d_A_namesParent_4 7 rfl f_A_26 ha rfl ?_
      refine z_alenC d_A_namesParent_7 8 rfl hcr ?_
      refine z_icmp_geN (tgt := 68) d_A_namesParent_8 11 rfl rfl (by omega) (by omega) (fun h8 => ?_) (fun h8 => ?_)
      · refine z_iconst (v := nI 0) d_A_namesParent_68 69 rfl rfl ?_
        exact z_zretB (b := false) d_A_namesParent_69 rfl (Nat.le_refl 0) (Nat.le_refl 0) (by rw [he] at hQ; exact hQ)
      · omega
    | succ i ih =>
      intro j hj he
      obtain ⟨c, hc⟩ : ∃ c, cs[j]? = some c := ⟨cs[j]'(by omega), List.getElem?_eq_getElem (by omega)⟩
      have hlc := (hok c (List.mem_of_getElem? hc)).1
      rw [drop_consC hc, npC] at he
      refine z_iload_n d_A_namesParent_2 3 rfl rfl rfl ?_
      refine z_aload_n d_A_namesParent_3 4 rfl rfl rfl ?_
      refine z_get d_A_namesParent_4 7 rfl f_A_26 ha rfl ?_
      refine z_alenC d_A_namesParent_7 8 rfl hcr ?_
      refine z_icmp_geN (tgt := 68) d_A_namesParent_8 11 rfl rfl (by omega) (by omega) (fun h8 => ?_) (fun h8 => ?_)
      · omega
      · refine z_aload_n d_A_namesParent_11 12 rfl rfl rfl ?_
        refine z_get d_A_namesParent_12 15 rfl f_A_26 ha rfl ?_
        refine z_iload_n d_A_namesParent_15 16 rfl rfl rfl ?_
        refine z_aaldC d_A_namesParent_16 17 rfl hcr hc (by omega) (fun q hq => ?_)
        refine z_get d_A_namesParent_17 20 rfl f_A_81 hq rfl ?_
        refine z_bipush (v := nI 80) d_A_namesParent_20 22 rfl rfl ?_
        refine z_icmp_neN (tgt := 62) d_A_namesParent_22 25 rfl rfl (by omega) (by omega) (fun h22 => ?_) (fun h22 => ?_)
        · rw [if_neg (fun e => h22 e.1)] at he
          first | refine z_incN2 d_A_namesParent_62 65 rfl rfl ?_ | refine z_inc2 d_A_namesParent_62 65 rfl rfl rfl ?_
          refine z_goto (tgt := 2) d_A_namesParent_65 rfl ?_
          exact ih (j + 1) (by omega) he
        · refine z_iload_n d_A_namesParent_25 26 rfl rfl rfl ?_
          refine z_iconst (v := -1) d_A_namesParent_26 27 rfl (by decide) ?_
          refine z_icmp_eq (tgt := 62) d_A_namesParent_27 30 rfl rfl (fun h27 => ?_) (fun h27 => ?_)
          · rw [if_neg (fun e => e.2 h27)] at he
            first | refine z_incN2 d_A_namesParent_62 65 rfl rfl ?_ | refine z_inc2 d_A_namesParent_62 65 rfl rfl rfl ?_
            refine z_goto (tgt := 2) d_A_namesParent_65 rfl ?_
            exact ih (j + 1) (by omega) he
          · rw [if_pos ⟨h22, h27⟩] at he
            refine z_aload_n d_A_namesParent_30 31 rfl rfl rfl ?_
            refine z_get d_A_namesParent_31 34 rfl f_A_26 ha rfl ?_
            refine z_iload_n d_A_namesParent_34 35 rfl rfl rfl ?_
            refine z_aaldC d_A_namesParent_35 36 rfl hcr hc (by omega) (fun q hq => ?_)
            refine z_get d_A_namesParent_36 39 rfl f_A_84 hq rfl ?_
            rw [if_neg (show ¬ c.1 = 68 by omega)]
            refine z_iload_n d_A_namesParent_39 40 rfl rfl rfl ?_
            refine z_icmp_eq (tgt := 56) d_A_namesParent_40 43 rfl rfl (fun h40 => ?_) (fun h40 => ?_)
            · refine z_iconst (v := nI 1) d_A_namesParent_56 57 rfl rfl ?_
              refine z_goto (tgt := 61) d_A_namesParent_57 rfl ?_
              exact z_zretB (b := true) d_A_namesParent_61 rfl (Nat.le_refl 0) (Nat.le_refl 0) (by rw [he, decide_eq_true h40, Bool.true_or] at hQ; exact hQ)
            · refine z_aload_n d_A_namesParent_43 44 rfl rfl rfl ?_
              refine z_get d_A_namesParent_44 47 rfl f_A_26 ha rfl ?_
              refine z_iload_n d_A_namesParent_47 48 rfl rfl rfl ?_
              refine z_aaldC d_A_namesParent_48 49 rfl hcr hc (by omega) (fun q2 hq2 => ?_)
              refine z_get d_A_namesParent_49 52 rfl f_A_93 hq2 rfl ?_
              refine z_iload_n d_A_namesParent_52 53 rfl rfl rfl ?_
              refine z_icmp_ne (tgt := 60) d_A_namesParent_53 56 rfl rfl (fun h53 => ?_) (fun h53 => ?_)
              · refine z_iconst (v := nI 0) d_A_namesParent_60 61 rfl rfl ?_
                exact z_zretB (b := false) d_A_namesParent_61 rfl (Nat.le_refl 0) (Nat.le_refl 0) (by rw [he, decide_eq_false h40, decide_eq_false h53] at hQ; exact hQ)
              · refine z_iconst (v := nI 1) d_A_namesParent_56 57 rfl rfl ?_
                refine z_goto (tgt := 61) d_A_namesParent_57 rfl ?_
                exact z_zretB (b := true) d_A_namesParent_61 rfl (Nat.le_refl 0) (Nat.le_refl 0) (by rw [he, decide_eq_false h40, decide_eq_true h53] at hQ; exact hQ)
  exact loop cs.length 0 (by omega) (by rw [List.drop_zero])
theorem c_A_tagCardFor (x d n : Int32) (s : Nat) (hs : s ≤ 3) (ha : h a = some (.inr (2, [v0, .int n, .int (nI s), .ref p, v4, v5]))) (hcr : crP D h p cs) (hl : cs.length ≤ 240) (hok : ∀ c, c ∈ cs → cvOk c) (hQ0 : tcC (decide (s = 1)) n x d cs = none → Q (some .null) h) (hQ1 : ∀ c q, tcC (decide (s = 1)) n x d cs = some c → h q = some (cObj c) → Q (some (.ref q)) h) : Runs l D M_A_tagCardFor [.ref a, .int x, .int d] h 0 0 Q := by
  refine Runs.of rfl rfl (Nat.le_of_ble_eq_true rfl) ?_
  refine z_iconst (v := nI 0) d_A_tagCardFor_0 1 rfl rfl ?_
  refine z_ist3 d_A_tagCardFor_1 2 rfl rfl ?_
  have loop : ∀ (i j : Nat) (o : Option Value), j + i = cs.length → tcC (decide (s = 1)) n x d cs = tcC (decide (s = 1)) n x d (cs.drop j) → Z l D M_A_tagCardFor 0 0 Q h 0 0 2 [some (.ref a), some (.int x), some (.int d), some (.int (nI j)), o] [] := by
    intro i
    induction i with
    | zero =>
      intro j o hj he
      rw [List.drop_eq_nil_of_le (by omega)] at he
      refine z_iload_n d_A_tagCardFor_2 3 rfl rfl rfl ?_
      refine z_aload_n d_A_tagCardFor_3 4 rfl rfl rfl ?_
      refine z_get d_A_tagCardFor_4 7 rfl f_A_26 ha rfl ?_
      refine z_alenC d_A_tagCardFor_7 8 rfl hcr ?_
      refine z_icmp_geN (tgt := 87) d_A_tagCardFor_8 11 rfl rfl (by omega) (by omega) (fun h8 => ?_) (fun h8 => ?_)
      · refine z_null d_A_tagCardFor_87 88 rfl ?_
        exact z_aret (r := none) d_A_tagCardFor_88 rfl (Or.inl ⟨_, rfl⟩) (Nat.le_refl 0) (Nat.le_refl 0) (hQ0 he)
      · omega
    | succ i ih =>
      intro j o hj he
      obtain ⟨c, hc⟩ : ∃ c, cs[j]? = some c := ⟨cs[j]'(by omega), List.getElem?_eq_getElem (by omega)⟩
      have hlc := (hok c (List.mem_of_getElem? hc)).1
      rw [drop_consC hc, tcC] at he
      refine z_iload_n d_A_tagCardFor_2 3 rfl rfl rfl ?_
      refine z_aload_n d_A_tagCardFor_3 4 rfl rfl rfl ?_
      refine z_get d_A_tagCardFor_4 7 rfl f_A_26 ha rfl ?_
      refine z_alenC d_A_tagCardFor_7 8 rfl hcr ?_
      refine z_icmp_geN (tgt := 87) d_A_tagCardFor_8 11 rfl rfl (by omega) (by omega) (fun h8 => ?_) (fun h8 => ?_)
      · omega
      · refine z_aload_n d_A_tagCardFor_11 12 rfl rfl rfl ?_
        refine z_get d_A_tagCardFor_12 15 rfl f_A_26 ha rfl ?_
        refine z_iload_n d_A_tagCardFor_15 16 rfl rfl rfl ?_
        refine z_aaldC d_A_tagCardFor_16 17 rfl hcr hc (by omega) (fun q hq => ?_)
        refine z_get d_A_tagCardFor_17 20 rfl f_A_81 hq rfl ?_
        refine z_bipush (v := nI 84) d_A_tagCardFor_20 22 rfl rfl ?_
        refine z_icmp_neN (tgt := 81) d_A_tagCardFor_22 25 rfl rfl (by omega) (by omega) (fun h22 => ?_) (fun h22 => ?_)
        · rw [if_neg (fun e => h22 e.1)] at he
          first | refine z_incN3 d_A_tagCardFor_81 84 rfl rfl ?_ | refine z_inc3 d_A_tagCardFor_81 84 rfl rfl rfl ?_
          refine z_goto (tgt := 2) d_A_tagCardFor_84 rfl ?_
          exact ih (j + 1) o (by omega) he
        · refine z_aload_n d_A_tagCardFor_25 26 rfl rfl rfl ?_
          refine z_get d_A_tagCardFor_26 29 rfl f_A_26 ha rfl ?_
          refine z_iload_n d_A_tagCardFor_29 30 rfl rfl rfl ?_
          refine z_aaldC d_A_tagCardFor_30 31 rfl hcr hc (by omega) (fun q2 hq2 => ?_)
          refine z_get d_A_tagCardFor_31 34 rfl f_A_96 hq2 rfl ?_
          rw [if_pos (show c.1 = 70 ∨ c.1 = 84 by omega)]
          refine z_iload_n d_A_tagCardFor_34 35 rfl rfl rfl ?_
          refine z_icmp_ne (tgt := 81) d_A_tagCardFor_35 38 rfl rfl (fun h35 => ?_) (fun h35 => ?_)
          · rw [if_neg (fun e => h35 e.2)] at he
            first | refine z_incN3 d_A_tagCardFor_81 84 rfl rfl ?_ | refine z_inc3 d_A_tagCardFor_81 84 rfl rfl rfl ?_
            refine z_goto (tgt := 2) d_A_tagCardFor_84 rfl ?_
            exact ih (j + 1) o (by omega) he
          · rw [if_pos ⟨h22, h35⟩] at he
            have j62 : ∀ (t : Int32), (if decide (s = 1) = true then n else oI c.2.2.2.1) = t → Z l D M_A_tagCardFor 0 0 Q h 0 0 62 [some (.ref a), some (.int x), some (.int d), some (.int (nI j)), o] [.int t] := by
              intro t ht
              rw [ht] at he
              refine z_ist4 d_A_tagCardFor_62 64 rfl rfl ?_
              refine z_iload d_A_tagCardFor_64 66 rfl rfl ?_
              refine z_iload_n d_A_tagCardFor_66 67 rfl rfl rfl ?_
              refine z_icmp_ne (tgt := 79) d_A_tagCardFor_67 70 rfl rfl (fun h67 => ?_) (fun h67 => ?_)
              · rw [if_neg h67] at he
                refine z_null d_A_tagCardFor_79 80 rfl ?_
                exact z_aret (r := none) d_A_tagCardFor_80 rfl (Or.inl ⟨_, rfl⟩) (Nat.le_refl 0) (Nat.le_refl 0) (hQ0 he)
              · rw [if_pos h67] at he
                refine z_aload_n d_A_tagCardFor_70 71 rfl rfl rfl ?_
                refine z_get d_A_tagCardFor_71 74 rfl f_A_26 ha rfl ?_
                refine z_iload_n d_A_tagCardFor_74 75 rfl rfl rfl ?_
                refine z_aaldC d_A_tagCardFor_75 76 rfl hcr hc (by omega) (fun q3 hq3 => ?_)
                refine z_goto (tgt := 80) d_A_tagCardFor_76 rfl ?_
                exact z_aret (r := some q3) d_A_tagCardFor_80 rfl (Or.inl ⟨_, rfl⟩) (Nat.le_refl 0) (Nat.le_refl 0) (hQ1 c q3 he hq3)
            refine z_aload_n d_A_tagCardFor_38 39 rfl rfl rfl ?_
            refine z_get d_A_tagCardFor_39 42 rfl f_A_23 ha rfl ?_
            refine z_iconst (v := nI 1) d_A_tagCardFor_42 43 rfl rfl ?_
            refine z_icmp_neN (tgt := 53) d_A_tagCardFor_43 46 rfl rfl (by omega) (by omega) (fun h43 => ?_) (fun h43 => ?_)
            · refine z_aload_n d_A_tagCardFor_53 54 rfl rfl rfl ?_
              refine z_get d_A_tagCardFor_54 57 rfl f_A_26 ha rfl ?_
              refine z_iload_n d_A_tagCardFor_57 58 rfl rfl rfl ?_
              refine z_aaldC d_A_tagCardFor_58 59 rfl hcr hc (by omega) (fun q3 hq3 => ?_)
              refine z_get d_A_tagCardFor_59 62 rfl f_A_84 hq3 rfl ?_
              rw [if_neg (show ¬ c.1 = 68 by omega)]
              exact j62 _ (by rw [if_neg (by simp [h43])])
            · refine z_aload_n d_A_tagCardFor_46 47 rfl rfl rfl ?_
              refine z_get d_A_tagCardFor_47 50 rfl f_A_19 ha rfl ?_
              refine z_goto (tgt := 62) d_A_tagCardFor_50 rfl ?_
              exact j62 _ (by rw [if_pos (by simp [h43])])
  exact loop cs.length 0 _ (by omega) (by rw [List.drop_zero])
theorem c_A_isEarlierThan {w0 w2 w3 w5 : Value} {a2 : Nat} (n n2 t t2 : Int32) (ha : h a = some (.inr (2, [v0, .int n, v2, v3, .int t, v5]))) (ha2 : h a2 = some (.inr (2, [w0, .int n2, w2, w3, .int t2, w5]))) (hQ : Q (some (.int (zb (if t = t2 then decide (n < n2) else decide (t < t2))))) h) : Runs l D M_A_isEarlierThan [.ref a, .ref a2] h 0 0 Q := by
  refine Runs.of rfl rfl (Nat.le_of_ble_eq_true rfl) ?_
  refine z_aload_n d_A_isEarlierThan_0 1 rfl rfl rfl ?_
  refine z_get d_A_isEarlierThan_1 4 rfl f_A_34 ha rfl ?_
  refine z_aload_n d_A_isEarlierThan_4 5 rfl rfl rfl ?_
  refine z_get d_A_isEarlierThan_5 8 rfl f_A_34 ha2 rfl ?_
  refine z_icmp_eq (tgt := 30) d_A_isEarlierThan_8 11 rfl rfl (fun h8 => ?_) (fun h8 => ?_)
  · rw [if_pos h8] at hQ
    refine z_aload_n d_A_isEarlierThan_30 31 rfl rfl rfl ?_
    refine z_get d_A_isEarlierThan_31 34 rfl f_A_19 ha rfl ?_
    refine z_aload_n d_A_isEarlierThan_34 35 rfl rfl rfl ?_
    refine z_get d_A_isEarlierThan_35 38 rfl f_A_19 ha2 rfl ?_
    refine z_icmp_ge (tgt := 45) d_A_isEarlierThan_38 41 rfl rfl (fun h38 => ?_) (fun h38 => ?_)
    · refine z_iconst (v := nI 0) d_A_isEarlierThan_45 46 rfl rfl ?_
      exact z_zretB (b := false) d_A_isEarlierThan_46 rfl (Nat.le_refl 0) (Nat.le_refl 0) (by rw [decide_eq_false (Int32.not_lt.mpr h38)] at hQ; exact hQ)
    · refine z_iconst (v := nI 1) d_A_isEarlierThan_41 42 rfl rfl ?_
      refine z_goto (tgt := 46) d_A_isEarlierThan_42 rfl ?_
      exact z_zretB (b := true) d_A_isEarlierThan_46 rfl (Nat.le_refl 0) (Nat.le_refl 0) (by rw [decide_eq_true (Int32.not_le.mp h38)] at hQ; exact hQ)
  · rw [if_neg h8] at hQ
    refine z_aload_n d_A_isEarlierThan_11 12 rfl rfl rfl ?_
    refine z_get d_A_isEarlierThan_12 15 rfl f_A_34 ha rfl ?_
    refine z_aload_n d_A_isEarlierThan_15 16 rfl rfl rfl ?_
    refine z_get d_A_isEarlierThan_16 19 rfl f_A_34 ha2 rfl ?_
    refine z_icmp_ge (tgt := 26) d_A_isEarlierThan_19 22 rfl rfl (fun h19 => ?_) (fun h19 => ?_)
    · refine z_iconst (v := nI 0) d_A_isEarlierThan_26 27 rfl rfl ?_
      refine z_goto (tgt := 46) d_A_isEarlierThan_27 rfl ?_
      exact z_zretB (b := false) d_A_isEarlierThan_46 rfl (Nat.le_refl 0) (Nat.le_refl 0) (by rw [decide_eq_false (Int32.not_lt.mpr h19)] at hQ; exact hQ)
    · refine z_iconst (v := nI 1) d_A_isEarlierThan_22 23 rfl rfl ?_
      refine z_goto (tgt := 46) d_A_isEarlierThan_23 rfl ?_
      exact z_zretB (b := true) d_A_isEarlierThan_46 rfl (Nat.le_refl 0) (Nat.le_refl 0) (by rw [decide_eq_true (Int32.not_le.mp h19)] at hQ; exact hQ)
end C15
