/-! The class: lists of cards. Own work. -/
/-- an array of cards -/
def crP (D : zD) (h : zH) (p : Nat) (cs : List CV) : Prop := ∃ f : Nat → Option Nat, h p = some (.inl (D.2 3, cs.length, .inr (.inr (.inr (.inr f))))) ∧ ∀ (i : Nat) (c : CV), cs[i]? = some c → ∃ q, f i = some q ∧ h q = some (cObj c)
section ZC
variable {l : Launch} {D : zD} {M : zM} {mc ms : Nat} {Q : Option Value → zH → Prop} {h : zH} {cu su pc : Nat} {lv : List (Option Value)} {rest : List Value}
theorem z_aaldC {p i : Nat} {c : CV} {cs : List CV} (hd : decode M.2.1 pc = .ok (.aaload, 1)) (pc' : Nat) (he : pc + 1 = pc') (hcr : crP D h p cs) (hc : cs[i]? = some c) (hl : cs.length < 2 ^ 31) (kk : ∀ q, h q = some (cObj c) → Z l D M mc ms Q h cu su pc' lv (.ref q :: rest)) : Z l D M mc ms Q h cu su pc lv (.int (nI i) :: .ref p :: rest) := by
  obtain ⟨f, h1, h2⟩ := hcr
  obtain ⟨q, h3, h4⟩ := h2 i c hc
  have hi : i < cs.length := (List.getElem?_eq_some_iff.mp hc).1
  refine z_aald (t := 3) (C := "ArtifactBags$Card") hd pc' he rfl h1 (vp_in_nI hi hl) ?_
  rw [nI_clamp (by omega), h3]
  exact kk q h4
theorem z_alenC {p : Nat} {cs : List CV} (hd : decode M.2.1 pc = .ok (.arraylength, 1)) (pc' : Nat) (he : pc + 1 = pc') (hcr : crP D h p cs) (kk : Z l D M mc ms Q h cu su pc' lv (.int (nI cs.length) :: rest)) : Z l D M mc ms Q h cu su pc lv (.ref p :: rest) := by
  obtain ⟨f, h1, -⟩ := hcr
  exact z_alen (t := 3) hd pc' he rfl h1 rfl kk
theorem z_look {dflt : Int} {ps : Array (Int × Int)} {len : Nat} {x : Int32} {off : Int} (tgt : Nat) (hd : decode M.2.1 pc = .ok (.lookupswitch dflt ps, len)) (hp : (ps.toList.zip (ps.toList.drop 1)).all (fun (a, next) => a.1 < next.1) = true) (ho : Op.lookupswitch.offset ps.toList dflt x.toInt = off) (ht : (pc : Int) + off = (tgt : Int)) (k : Z l D M mc ms Q h cu su tgt lv rest) : Z l D M mc ms Q h cu su pc lv (.int x :: rest) := by
  intro p e s m args below meth c H locs A ls Qc free hC hA hR hn hL hE
  exact lv_lookup hC.1 hC.2.1 hd hp ho ht (k p e s m args below meth c H locs A ls Qc free hC hA hR hn hL hE)
end ZC
theorem drop_consC {cs : List CV} {j : Nat} {c : CV} (h : cs[j]? = some c) : cs.drop j = c :: cs.drop (j + 1) := by
  obtain ⟨hl, e⟩ := List.getElem?_eq_some_iff.mp h
  rw [List.drop_eq_getElem_cons hl, e]
theorem cnt_cons (n : Nat) (c : CV) (t : List CV) : cnt n (c :: t) = (if c.1 = n then 1 else 0) + cnt n t := by
  by_cases h : c.1 = n <;> simp [cnt, List.filter_cons, h] <;> omega
theorem stars_cons (c : CV) (t : List CV) : stars (c :: t) = (if c.1 = 84 ∧ c.2.2.2.1 = none then 1 else 0) + stars t := by
  by_cases h : c.1 = 84 <;> cases h2 : c.2.2.2.1 <;> simp [stars, List.filter_cons, h, h2] <;> omega
/-- the number of the first card with a letter: what the class keeps of it -/
def numC (n : Nat) : List CV → Int32
  | [] => -1
  | c :: t => if c.1 = n then (if c.1 = 68 then nI c.2.2.2.2.2 else oI c.2.2.2.1) else numC n t
/-- may card c stand behind card a -/
def folC (a c : CV) : Bool := decide (a.1 < c.1) || (decide (a.1 = c.1) && (grw c && decide (keyC a < keyC c)))
section C10
variable {l : Launch} {D : zD} {M : zM} {h : zH} {p q : Nat} {c a : CV} {cs : List CV} {Q : Option Value → zH → Prop}
theorem c_C_namesWhatIsNeeded (hq : h q = some (cObj c)) (hc : cvOk c) (hQ : Q (some (.int (zb (decide (c.1 = 70) || decide (c.1 = 77) || decide (c.1 = 80))))) h) : Runs l D M_C_namesWhatIsNeeded [.ref q] h 0 0 Q := by
  refine Runs.of rfl rfl (Nat.le_of_ble_eq_true rfl) ?_
  have hl := hc.1
  refine z_aload_n d_C_namesWhatIsNeeded_0 1 rfl rfl rfl ?_
  refine z_get d_C_namesWhatIsNeeded_1 4 rfl f_C_9 hq rfl ?_
  refine z_bipush (v := nI 70) d_C_namesWhatIsNeeded_4 6 rfl rfl ?_
  refine z_icmp_eqN (tgt := 27) d_C_namesWhatIsNeeded_6 9 rfl rfl (by omega) (by omega) (fun h6 => ?_) (fun h6 => ?_)
  · refine z_iconst (v := nI 1) d_C_namesWhatIsNeeded_27 28 rfl rfl ?_
    refine z_goto (tgt := 32) d_C_namesWhatIsNeeded_28 rfl ?_
    exact z_zretB (b := true) d_C_namesWhatIsNeeded_32 rfl (Nat.le_refl 0) (Nat.le_refl 0) (by simpa [*] using hQ)
  · refine z_aload_n d_C_namesWhatIsNeeded_9 10 rfl rfl rfl ?_
    refine z_get d_C_namesWhatIsNeeded_10 13 rfl f_C_9 hq rfl ?_
    refine z_bipush (v := nI 77) d_C_namesWhatIsNeeded_13 15 rfl rfl ?_
    refine z_icmp_eqN (tgt := 27) d_C_namesWhatIsNeeded_15 18 rfl rfl (by omega) (by omega) (fun h15 => ?_) (fun h15 => ?_)
    · refine z_iconst (v := nI 1) d_C_namesWhatIsNeeded_27 28 rfl rfl ?_
      refine z_goto (tgt := 32) d_C_namesWhatIsNeeded_28 rfl ?_
      exact z_zretB (b := true) d_C_namesWhatIsNeeded_32 rfl (Nat.le_refl 0) (Nat.le_refl 0) (by simpa [*] using hQ)
    · refine z_aload_n d_C_namesWhatIsNeeded_18 19 rfl rfl rfl ?_
      refine z_get d_C_namesWhatIsNeeded_19 22 rfl f_C_9 hq rfl ?_
      refine z_bipush (v := nI 80) d_C_namesWhatIsNeeded_22 24 rfl rfl ?_
      refine z_icmp_neN (tgt := 31) d_C_namesWhatIsNeeded_24 27 rfl rfl (by omega) (by omega) (fun h24 => ?_) (fun h24 => ?_)
      · refine z_iconst (v := nI 0) d_C_namesWhatIsNeeded_31 32 rfl rfl ?_
        exact z_zretB (b := false) d_C_namesWhatIsNeeded_32 rfl (Nat.le_refl 0) (Nat.le_refl 0) (by simpa [*] using hQ)
      · refine z_iconst (v := nI 1) d_C_namesWhatIsNeeded_27 28 rfl rfl ?_
        refine z_goto (tgt := 32) d_C_namesWhatIsNeeded_28 rfl ?_
        exact z_zretB (b := true) d_C_namesWhatIsNeeded_32 rfl (Nat.le_refl 0) (Nat.le_refl 0) (by simpa [*] using hQ)
theorem c_C_mayFollow {q2 : Nat} (hq : h q = some (cObj c)) (hq2 : h q2 = some (cObj a)) (hc : cvOk c) (ha : cvOk a) (hQ : Q (some (.int (zb (folC a c)))) h) : Runs l D M_C_mayFollow [.ref q, .ref q2] h 0 0 Q := by
  refine Runs.of rfl rfl (Nat.le_of_ble_eq_true rfl) ?_
  have hl := hc.1
  have hla := ha.1
  have hk1 := keyC_lt hc
  have hk2 := keyC_lt ha
  have hd1 := hc.2.2.2.1
  have hd2 := ha.2.2.2.1
  refine z_aload_n d_C_mayFollow_0 1 rfl rfl rfl ?_
  refine z_get d_C_mayFollow_1 4 rfl f_C_9 hq rfl ?_
  refine z_aload_n d_C_mayFollow_4 5 rfl rfl rfl ?_
  refine z_get d_C_mayFollow_5 8 rfl f_C_9 hq2 rfl ?_
  refine z_icmp_eqN (tgt := 28) d_C_mayFollow_8 11 rfl rfl (by omega) (by omega) (fun h8 => ?_) (fun h8 => ?_)
  · -- one letter
    refine z_aload_n d_C_mayFollow_28 29 rfl rfl rfl ?_
    refine z_get d_C_mayFollow_29 32 rfl f_C_9 hq rfl ?_
    by_cases h77 : c.1 = 77
    · refine z_look (off := 53) 85 d_C_mayFollow_32 (by decide +kernel) (by rw [h77]; decide +kernel) (by decide) ?_
      obtain ⟨v, hv⟩ := Option.isSome_iff_exists.mp (hc.2.2.2.2.2.2.1 (by omega) (by omega))
      obtain ⟨u, hu⟩ := Option.isSome_iff_exists.mp (ha.2.2.2.2.2.2.1 (by omega) (by omega))
      have bv := hc.2.1 v hv
      have bu := ha.2.1 u hu
      have ev : (if c.1 = 68 then nI c.2.2.2.2.2 else oI c.2.2.2.1) = nI v := by rw [if_neg (by omega), hv]; rfl
      have eu : (if a.1 = 68 then nI a.2.2.2.2.2 else oI a.2.2.2.1) = nI u := by rw [if_neg (by omega), hu]; rfl
      have kc : keyC c = v := by simp [keyC, h77, hv]
      have ka : keyC a = u := by simp [keyC, show a.1 = 77 by omega, hu]
      have hg : grw c = true := by simp [grw, h77]
      have e1 : folC a c = decide (u < v) := by unfold folC; rw [decide_eq_false (show ¬ a.1 < c.1 by omega), decide_eq_true (show a.1 = c.1 by omega), hg, kc, ka]; simp
      rw [e1] at hQ
      refine z_aload_n d_C_mayFollow_85 86 rfl rfl rfl ?_
      refine z_get d_C_mayFollow_86 89 rfl f_C_22 hq rfl ?_
      rw [ev]
      refine z_aload_n d_C_mayFollow_89 90 rfl rfl rfl ?_
      refine z_get d_C_mayFollow_90 93 rfl f_C_22 hq2 rfl ?_
      rw [eu]
      refine z_icmp_leN (tgt := 100) d_C_mayFollow_93 96 rfl rfl (by omega) (by omega) (fun h93 => ?_) (fun h93 => ?_)
      · refine z_iconst (v := nI 0) d_C_mayFollow_100 101 rfl rfl ?_
        exact z_zretB (b := false) d_C_mayFollow_101 rfl (Nat.le_refl 0) (Nat.le_refl 0) (by first | (rw [decide_eq_true (by omega)] at hQ; exact hQ) | (rw [decide_eq_false (by omega)] at hQ; exact hQ))
      · refine z_iconst (v := nI 1) d_C_mayFollow_96 97 rfl rfl ?_
        refine z_goto (tgt := 101) d_C_mayFollow_97 rfl ?_
        exact z_zretB (b := true) d_C_mayFollow_101 rfl (Nat.le_refl 0) (Nat.le_refl 0) (by first | (rw [decide_eq_true (by omega)] at hQ; exact hQ) | (rw [decide_eq_false (by omega)] at hQ; exact hQ))
    · by_cases hft : c.1 = 70 ∨ c.1 = 84
      · have ho : Op.lookupswitch.offset (#[((70 : Int), (36 : Int)), (77, 53), (84, 36)]).toList 70 (nI c.1).toInt = 36 := by rcases hft with e | e <;> rw [e] <;> decide +kernel
        refine z_look (off := 36) 68 d_C_mayFollow_32 (by decide +kernel) ho (by decide) ?_
        have kc : keyC c = c.2.1 := by simp [keyC, hft]
        have ka : keyC a = a.2.1 := by have : a.1 = 70 ∨ a.1 = 84 := (by omega); simp [keyC, this]
        have hg : grw c = true := by rcases hft with e | e <;> simp [grw, e]
        have ev : (if c.1 = 70 ∨ c.1 = 84 then nI c.2.1 else -1) = nI c.2.1 := if_pos hft
        have eu : (if a.1 = 70 ∨ a.1 = 84 then nI a.2.1 else -1) = nI a.2.1 := if_pos (by omega)
        have e1 : folC a c = decide (a.2.1 < c.2.1) := by unfold folC; rw [decide_eq_false (show ¬ a.1 < c.1 by omega), decide_eq_true (show a.1 = c.1 by omega), hg, kc, ka]; simp
        rw [e1] at hQ
        refine z_aload_n d_C_mayFollow_68 69 rfl rfl rfl ?_
        refine z_get d_C_mayFollow_69 72 rfl f_C_15 hq rfl ?_
        rw [ev]
        refine z_aload_n d_C_mayFollow_72 73 rfl rfl rfl ?_
        refine z_get d_C_mayFollow_73 76 rfl f_C_15 hq2 rfl ?_
        rw [eu]
        refine z_icmp_leN (tgt := 83) d_C_mayFollow_76 79 rfl rfl (by omega) (by omega) (fun h76 => ?_) (fun h76 => ?_)
        · refine z_iconst (v := nI 0) d_C_mayFollow_83 84 rfl rfl ?_
          exact z_zretB (b := false) d_C_mayFollow_84 rfl (Nat.le_refl 0) (Nat.le_refl 0) (by first | (rw [decide_eq_true (by omega)] at hQ; exact hQ) | (rw [decide_eq_false (by omega)] at hQ; exact hQ))
        · refine z_iconst (v := nI 1) d_C_mayFollow_79 80 rfl rfl ?_
          refine z_goto (tgt := 84) d_C_mayFollow_80 rfl ?_
          exact z_zretB (b := true) d_C_mayFollow_84 rfl (Nat.le_refl 0) (Nat.le_refl 0) (by first | (rw [decide_eq_true (by omega)] at hQ; exact hQ) | (rw [decide_eq_false (by omega)] at hQ; exact hQ))
      · have ho : Op.lookupswitch.offset (#[((70 : Int), (36 : Int)), (77, 53), (84, 36)]).toList 70 (nI c.1).toInt = 70 := by rcases hl with e | e | e | e | e | e | e <;> first | omega | (rw [e]; decide +kernel)
        refine z_look (off := 70) 102 d_C_mayFollow_32 (by decide +kernel) ho (by decide) ?_
        have hg : grw c = false := by simp [grw]; omega
        have e1 : folC a c = false := by unfold folC; rw [decide_eq_false (show ¬ a.1 < c.1 by omega), hg]; simp
        rw [e1] at hQ
        refine z_iconst (v := nI 0) d_C_mayFollow_102 103 rfl rfl ?_
        exact z_zretB (b := false) d_C_mayFollow_103 rfl (Nat.le_refl 0) (Nat.le_refl 0) hQ
  · have e1 : folC a c = decide (a.1 < c.1) := by unfold folC; rw [decide_eq_false (show ¬ a.1 = c.1 by omega)]; simp
    rw [e1] at hQ
    refine z_aload_n d_C_mayFollow_11 12 rfl rfl rfl ?_
    refine z_get d_C_mayFollow_12 15 rfl f_C_9 hq rfl ?_
    refine z_aload_n d_C_mayFollow_15 16 rfl rfl rfl ?_
    refine z_get d_C_mayFollow_16 19 rfl f_C_9 hq2 rfl ?_
    refine z_icmp_leN (tgt := 26) d_C_mayFollow_19 22 rfl rfl (by omega) (by omega) (fun h19 => ?_) (fun h19 => ?_)
    · refine z_iconst (v := nI 0) d_C_mayFollow_26 27 rfl rfl ?_
      exact z_zretB (b := false) d_C_mayFollow_27 rfl (Nat.le_refl 0) (Nat.le_refl 0) (by first | (rw [decide_eq_true (by omega)] at hQ; exact hQ) | (rw [decide_eq_false (by omega)] at hQ; exact hQ))
    · refine z_iconst (v := nI 1) d_C_mayFollow_22 23 rfl rfl ?_
      refine z_goto (tgt := 27) d_C_mayFollow_23 rfl ?_
      exact z_zretB (b := true) d_C_mayFollow_27 rfl (Nat.le_refl 0) (Nat.le_refl 0) (by first | (rw [decide_eq_true (by omega)] at hQ; exact hQ) | (rw [decide_eq_false (by omega)] at hQ; exact hQ))
theorem c_A_countOf (n : Nat) (hn : n < 256) (hcr : crP D h p cs) (hl : cs.length ≤ 240) (hok : ∀ c, c ∈ cs → cvOk c) (hQ : Q (some (.int (nI (cnt n cs)))) h) : Runs l D M_A_countOf [.int (nI n), .ref p] h 0 0 Q := by
  refine Runs.of rfl rfl (Nat.le_of_ble_eq_true rfl) ?_
  refine z_iconst (v := nI 0) d_A_countOf_0 1 rfl rfl ?_
  refine z_ist2 d_A_countOf_1 2 rfl rfl ?_
  refine z_iconst (v := nI 0) d_A_countOf_2 3 rfl rfl ?_
  refine z_ist3 d_A_countOf_3 4 rfl rfl ?_
  have loop : ∀ (i j m : Nat), j + i = cs.length → m ≤ j → cnt n cs = m + cnt n (cs.drop j) → Z l D M_A_countOf 0 0 Q h 0 0 4 [some (.int (nI n)), some (.ref p), some (.int (nI m)), some (.int (nI j))] [] := by
    intro i
    induction i with
    | zero =>
      intro j m hj hm he
      rw [List.drop_eq_nil_of_le (by omega)] at he
      refine z_iload_n d_A_countOf_4 5 rfl rfl rfl ?_
      refine z_aload_n d_A_countOf_5 6 rfl rfl rfl ?_
      refine z_alenC d_A_countOf_6 7 rfl hcr ?_
      refine z_icmp_geN (tgt := 29) d_A_countOf_7 10 rfl rfl (by omega) (by omega) (fun h7 => ?_) (fun h7 => ?_)
      · refine z_iload_n d_A_countOf_29 30 rfl rfl rfl ?_
        exact z_iret d_A_countOf_30 rfl (Nat.le_refl 0) (Nat.le_refl 0) (by rw [he] at hQ; exact hQ)
      · omega
    | succ i ih =>
      intro j m hj hm he
      obtain ⟨c, hc⟩ : ∃ c, cs[j]? = some c := ⟨cs[j]'(by omega), List.getElem?_eq_getElem (by omega)⟩
      have hlc := (hok c (List.mem_of_getElem? hc)).1
      rw [drop_consC hc, cnt_cons] at he
      refine z_iload_n d_A_countOf_4 5 rfl rfl rfl ?_
      refine z_aload_n d_A_countOf_5 6 rfl rfl rfl ?_
      refine z_alenC d_A_countOf_6 7 rfl hcr ?_
      refine z_icmp_geN (tgt := 29) d_A_countOf_7 10 rfl rfl (by omega) (by omega) (fun h7 => ?_) (fun h7 => ?_)
      · omega
      · refine z_aload_n d_A_countOf_10 11 rfl rfl rfl ?_
        refine z_iload_n d_A_countOf_11 12 rfl rfl rfl ?_
        refine z_aaldC d_A_countOf_12 13 rfl hcr hc (by omega) (fun q hq => ?_)
        refine z_get d_A_countOf_13 16 rfl f_A_81 hq rfl ?_
        refine z_iload_n d_A_countOf_16 17 rfl rfl rfl ?_
        refine z_icmp_neN (tgt := 23) d_A_countOf_17 20 rfl rfl (by omega) (by omega) (fun h17 => ?_) (fun h17 => ?_)
        · rw [if_neg h17] at he
          first | refine z_incN3 d_A_countOf_23 26 rfl rfl ?_ | refine z_inc3 d_A_countOf_23 26 rfl rfl rfl ?_
          refine z_goto (tgt := 4) d_A_countOf_26 rfl ?_
          exact ih (j + 1) m (by omega) (by omega) (by omega)
        · rw [if_pos h17] at he
          first | refine z_incN2 d_A_countOf_20 23 rfl rfl ?_ | refine z_inc2 d_A_countOf_20 23 rfl rfl rfl ?_
          first | refine z_incN3 d_A_countOf_23 26 rfl rfl ?_ | refine z_inc3 d_A_countOf_23 26 rfl rfl rfl ?_
          refine z_goto (tgt := 4) d_A_countOf_26 rfl ?_
          exact ih (j + 1) (m + 1) (by omega) (by omega) (by omega)
  exact loop cs.length 0 0 (by omega) (Nat.le_refl 0) (by rw [List.drop_zero, Nat.zero_add])
theorem c_A_countStarred (hcr : crP D h p cs) (hl : cs.length ≤ 240) (hok : ∀ c, c ∈ cs → cvOk c) (hQ : Q (some (.int (nI (stars cs)))) h) : Runs l D M_A_countStarred [.ref p] h 0 0 Q := by
  refine Runs.of rfl rfl (Nat.le_of_ble_eq_true rfl) ?_
  refine z_iconst (v := nI 0) d_A_countStarred_0 1 rfl rfl ?_
  refine z_ist1 d_A_countStarred_1 2 rfl rfl ?_
  refine z_iconst (v := nI 0) d_A_countStarred_2 3 rfl rfl ?_
  refine z_ist2 d_A_countStarred_3 4 rfl rfl ?_
  have loop : ∀ (i j m : Nat), j + i = cs.length → m ≤ j → stars cs = m + stars (cs.drop j) → Z l D M_A_countStarred 0 0 Q h 0 0 4 [some (.ref p), some (.int (nI m)), some (.int (nI j))] [] := by
    intro i
    induction i with
    | zero =>
      intro j m hj hm he
      rw [List.drop_eq_nil_of_le (by omega)] at he
      refine z_iload_n d_A_countStarred_4 5 rfl rfl rfl ?_
      refine z_aload_n d_A_countStarred_5 6 rfl rfl rfl ?_
      refine z_alenC d_A_countStarred_6 7 rfl hcr ?_
      refine z_icmp_geN (tgt := 40) d_A_countStarred_7 10 rfl rfl (by omega) (by omega) (fun h7 => ?_) (fun h7 => ?_)
      · refine z_iload_n d_A_countStarred_40 41 rfl rfl rfl ?_
        exact z_iret d_A_countStarred_41 rfl (Nat.le_refl 0) (Nat.le_refl 0) (by rw [he] at hQ; exact hQ)
      · omega
    | succ i ih =>
      intro j m hj hm he
      obtain ⟨c, hc⟩ : ∃ c, cs[j]? = some c := ⟨cs[j]'(by omega), List.getElem?_eq_getElem (by omega)⟩
      have hlc := (hok c (List.mem_of_getElem? hc)).1
      have hcx := (hok c (List.mem_of_getElem? hc)).2.1
      rw [drop_consC hc, stars_cons] at he
      refine z_iload_n d_A_countStarred_4 5 rfl rfl rfl ?_
      refine z_aload_n d_A_countStarred_5 6 rfl rfl rfl ?_
      refine z_alenC d_A_countStarred_6 7 rfl hcr ?_
      refine z_icmp_geN (tgt := 40) d_A_countStarred_7 10 rfl rfl (by omega) (by omega) (fun h7 => ?_) (fun h7 => ?_)
      · omega
      · refine z_aload_n d_A_countStarred_10 11 rfl rfl rfl ?_
        refine z_iload_n d_A_countStarred_11 12 rfl rfl rfl ?_
        refine z_aaldC d_A_countStarred_12 13 rfl hcr hc (by omega) (fun q hq => ?_)
        refine z_get d_A_countStarred_13 16 rfl f_A_81 hq rfl ?_
        refine z_bipush (v := nI 84) d_A_countStarred_16 18 rfl rfl ?_
        refine z_icmp_neN (tgt := 34) d_A_countStarred_18 21 rfl rfl (by omega) (by omega) (fun h18 => ?_) (fun h18 => ?_)
        · rw [if_neg (fun e => h18 e.1)] at he
          first | refine z_incN2 d_A_countStarred_34 37 rfl rfl ?_ | refine z_inc2 d_A_countStarred_34 37 rfl rfl rfl ?_
          refine z_goto (tgt := 4) d_A_countStarred_37 rfl ?_
          exact ih (j + 1) m (by omega) (by omega) (by omega)
        · refine z_aload_n d_A_countStarred_21 22 rfl rfl rfl ?_
          refine z_iload_n d_A_countStarred_22 23 rfl rfl rfl ?_
          refine z_aaldC d_A_countStarred_23 24 rfl hcr hc (by omega) (fun q hq => ?_)
          refine z_get d_A_countStarred_24 27 rfl f_A_84 hq rfl ?_
          rw [if_neg (show ¬ c.1 = 68 by omega)]
          refine z_iconst (v := -1) d_A_countStarred_27 28 rfl (by decide) ?_
          refine z_icmp_ne (tgt := 34) d_A_countStarred_28 31 rfl rfl (fun h28 => ?_) (fun h28 => ?_)
          · have hne : ¬ c.2.2.2.1 = none := fun e => h28 (by rw [e]; rfl)
            rw [if_neg (fun e => hne e.2)] at he
            first | refine z_incN2 d_A_countStarred_34 37 rfl rfl ?_ | refine z_inc2 d_A_countStarred_34 37 rfl rfl rfl ?_
            refine z_goto (tgt := 4) d_A_countStarred_37 rfl ?_
            exact ih (j + 1) m (by omega) (by omega) (by omega)
          · have hn0 := (oI_m1 (fun v hv => by have := hcx v hv; omega)).1 h28
            rw [if_pos ⟨h18, hn0⟩] at he
            first | refine z_incN1 d_A_countStarred_31 34 rfl rfl ?_ | refine z_inc1 d_A_countStarred_31 34 rfl rfl rfl ?_
            first | refine z_incN2 d_A_countStarred_34 37 rfl rfl ?_ | refine z_inc2 d_A_countStarred_34 37 rfl rfl rfl ?_
            refine z_goto (tgt := 4) d_A_countStarred_37 rfl ?_
            exact ih (j + 1) (m + 1) (by omega) (by omega) (by omega)
  exact loop cs.length 0 0 (by omega) (Nat.le_refl 0) (by rw [List.drop_zero, Nat.zero_add])
theorem c_A_numberOf (n : Nat) (hn : n < 256) (hcr : crP D h p cs) (hl : cs.length ≤ 240) (hok : ∀ c, c ∈ cs → cvOk c) (hQ : Q (some (.int (numC n cs))) h) : Runs l D M_A_numberOf [.int (nI n), .ref p] h 0 0 Q := by
  refine Runs.of rfl rfl (Nat.le_of_ble_eq_true rfl) ?_
  refine z_iconst (v := nI 0) d_A_numberOf_0 1 rfl rfl ?_
  refine z_ist2 d_A_numberOf_1 2 rfl rfl ?_
  have loop : ∀ (i j : Nat), j + i = cs.length → numC n cs = numC n (cs.drop j) → Z l D M_A_numberOf 0 0 Q h 0 0 2 [some (.int (nI n)), some (.ref p), some (.int (nI j))] [] := by
    intro i
    induction i with
    | zero =>
      intro j hj he
      rw [List.drop_eq_nil_of_le (by omega)] at he
      refine z_iload_n d_A_numberOf_2 3 rfl rfl rfl ?_
      refine z_aload_n d_A_numberOf_3 4 rfl rfl rfl ?_
      refine z_alenC d_A_numberOf_4 5 rfl hcr ?_
      refine z_icmp_geN (tgt := 31) d_A_numberOf_5 8 rfl rfl (by omega) (by omega) (fun h5 => ?_) (fun h5 => ?_)
      · refine z_iconst (v := -1) d_A_numberOf_31 32 rfl (by decide) ?_
        exact z_iret d_A_numberOf_32 rfl (Nat.le_refl 0) (Nat.le_refl 0) (by rw [he] at hQ; exact hQ)
      · omega
    | succ i ih =>
      intro j hj he
      obtain ⟨c, hc⟩ : ∃ c, cs[j]? = some c := ⟨cs[j]'(by omega), List.getElem?_eq_getElem (by omega)⟩
      have hlc := (hok c (List.mem_of_getElem? hc)).1
      rw [drop_consC hc, numC] at he
      refine z_iload_n d_A_numberOf_2 3 rfl rfl rfl ?_
      refine z_aload_n d_A_numberOf_3 4 rfl rfl rfl ?_
      refine z_alenC d_A_numberOf_4 5 rfl hcr ?_
      refine z_icmp_geN (tgt := 31) d_A_numberOf_5 8 rfl rfl (by omega) (by omega) (fun h5 => ?_) (fun h5 => ?_)
      · omega
      · refine z_aload_n d_A_numberOf_8 9 rfl rfl rfl ?_
        refine z_iload_n d_A_numberOf_9 10 rfl rfl rfl ?_
        refine z_aaldC d_A_numberOf_10 11 rfl hcr hc (by omega) (fun q hq => ?_)
        refine z_get d_A_numberOf_11 14 rfl f_A_81 hq rfl ?_
        refine z_iload_n d_A_numberOf_14 15 rfl rfl rfl ?_
        refine z_icmp_neN (tgt := 25) d_A_numberOf_15 18 rfl rfl (by omega) (by omega) (fun h15 => ?_) (fun h15 => ?_)
        · rw [if_neg h15] at he
          first | refine z_incN2 d_A_numberOf_25 28 rfl rfl ?_ | refine z_inc2 d_A_numberOf_25 28 rfl rfl rfl ?_
          refine z_goto (tgt := 2) d_A_numberOf_28 rfl ?_
          exact ih (j + 1) (by omega) he
        · rw [if_pos h15] at he
          refine z_aload_n d_A_numberOf_18 19 rfl rfl rfl ?_
          refine z_iload_n d_A_numberOf_19 20 rfl rfl rfl ?_
          refine z_aaldC d_A_numberOf_20 21 rfl hcr hc (by omega) (fun q hq => ?_)
          refine z_get d_A_numberOf_21 24 rfl f_A_84 hq rfl ?_
          exact z_iret d_A_numberOf_24 rfl (Nat.le_refl 0) (Nat.le_refl 0) (by rw [he] at hQ; exact hQ)
  exact loop cs.length 0 (by omega) (by rw [List.drop_zero])
end C10
