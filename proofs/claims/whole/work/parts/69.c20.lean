/-! The class: histories read. Own work. -/
/-- an array of artifacts: their addresses and texts -/
def asP (G : Nat → Prop) (D : zD) (h : zH) (b : Nat) (f : Nat → Option Nat) (L : List (Nat × List Nat)) : Prop := h b = some (.inl (D.2 2, 32, .inr (.inr (.inr (.inr f))))) ∧ L.length ≤ 32 ∧ ∀ (i : Nat) (x : Nat × List Nat), L[i]? = some x → f i = some x.1 ∧ x.2.length ≤ 240 ∧ arG G D h x.1 x.2
theorem drop_consL {α : Type} {cs : List α} {j : Nat} {c : α} (h : cs[j]? = some c) : cs.drop j = c :: cs.drop (j + 1) := by
  obtain ⟨hl, e⟩ := List.getElem?_eq_some_iff.mp h
  rw [List.drop_eq_getElem_cons hl, e]
/-- how many of them name a parent -/
def kidC (x : Int32) : List (Nat × List Nat) → Nat
  | [] => 0
  | a :: t => (if npC x (aCs a.2) = true then 1 else 0) + kidC x t
theorem kidC_le (x : Int32) : ∀ L : List (Nat × List Nat), kidC x L ≤ L.length
  | [] => Nat.le_refl 0
  | a :: t => by
    have := kidC_le x t
    simp only [kidC, List.length_cons]
    split <;> omega
def leafC (L : List (Nat × List Nat)) : List (Nat × List Nat) → Nat
  | [] => 0
  | a :: t => (if kidC (nI (dg 7 a.2)) L = 0 then 1 else 0) + leafC L t
section C20
variable {l : Launch} {G : Nat → Prop} {D : zD} {M : zM} {mc ms : Nat} {h : zH} {o b cu su pc : Nat} {f : Nat → Option Nat} {L : List (Nat × List Nat)} {Q : Option Value → zH → Prop} {lv : List (Option Value)} {rest : List Value}
theorem z_aaldA {i : Nat} {x : Nat × List Nat} (hd : decode M.2.1 pc = .ok (.aaload, 1)) (pc' : Nat) (he : pc + 1 = pc') (hL : asP G D h b f L) (hx : L[i]? = some x) (kk : Z l D M mc ms Q h cu su pc' lv (.ref x.1 :: rest)) : Z l D M mc ms Q h cu su pc lv (.int (nI i) :: .ref b :: rest) := by
  obtain ⟨h1, h2, h3⟩ := hL
  have hi : i < L.length := (List.getElem?_eq_some_iff.mp hx).1
  refine z_aald (t := 2) (C := "ArtifactBags$Artifact") hd pc' he rfl h1 (vp_in_nI (by omega) (by omega)) ?_
  rw [nI_clamp (by omega), (h3 i x hx).1]
  exact kk
theorem c_H_nameAt (k : Int32) (ho : h o = some (.inr (5, [.ref b, .int (nI L.length)]))) (hL : asP G D h b f L) (hQ0 : (k < 0 ∨ nI L.length ≤ k) → Q (some (.int (-1))) h) (hQ1 : ∀ i x, k = nI i → L[i]? = some x → Q (some (.int (nI (dg 7 x.2)))) h) : Runs l D M_H_nameAt [.ref o, .int k] h 0 0 Q := by
  refine Runs.of rfl rfl (Nat.le_of_ble_eq_true rfl) ?_
  refine z_iload_n d_H_nameAt_0 1 rfl rfl rfl ?_
  refine z_if_lt (tgt := 12) d_H_nameAt_1 4 rfl rfl (fun h1 => ?_) (fun h1 => ?_)
  · refine z_iconst (v := -1) d_H_nameAt_12 13 rfl (by decide) ?_
    refine z_goto (tgt := 25) d_H_nameAt_13 rfl ?_
    exact z_iret d_H_nameAt_25 rfl (Nat.zero_le _) (Nat.zero_le _) (hQ0 (Or.inl h1))
  · refine z_iload_n d_H_nameAt_4 5 rfl rfl rfl ?_
    refine z_aload_n d_H_nameAt_5 6 rfl rfl rfl ?_
    refine z_get d_H_nameAt_6 9 rfl f_H_17 ho rfl ?_
    refine z_icmp_lt (tgt := 16) d_H_nameAt_9 12 rfl rfl (fun h9 => ?_) (fun h9 => ?_)
    · obtain ⟨i, rfl, hi2⟩ : ∃ i, k = nI i ∧ i < 2 ^ 31 := ⟨toN k, nI_toN h1⟩
      have hi := (nI_ltI hi2 (by have := hL.2.1; omega)).1 h9
      have hx : L[i]? = some L[i] := List.getElem?_eq_getElem hi
      refine z_aload_n d_H_nameAt_16 17 rfl rfl rfl ?_
      refine z_get d_H_nameAt_17 20 rfl f_H_11 ho rfl ?_
      refine z_iload_n d_H_nameAt_20 21 rfl rfl rfl ?_
      refine z_aaldA d_H_nameAt_21 22 rfl hL hx ?_
      obtain ⟨-, -, b1, p1, f1, -, ha, -⟩ := hL.2.2 i _ hx
      refine z_get d_H_nameAt_22 25 rfl f_H_25 ha rfl ?_
      exact z_iret d_H_nameAt_25 rfl (Nat.zero_le _) (Nat.zero_le _) (hQ1 i _ rfl hx)
    · refine z_iconst (v := -1) d_H_nameAt_12 13 rfl (by decide) ?_
      refine z_goto (tgt := 25) d_H_nameAt_13 rfl ?_
      exact z_iret d_H_nameAt_25 rfl (Nat.zero_le _) (Nat.zero_le _) (hQ0 (Or.inr (Int32.not_lt.mp h9)))
theorem c_H_countChildren (x : Int32) (ho : h o = some (.inr (5, [.ref b, .int (nI L.length)]))) (hL : asP G D h b f L) (hQ : Q (some (.int (nI (kidC x L)))) h) : Runs l D M_H_countChildren [.ref o, .int x] h 0 0 Q := by
  refine Runs.of rfl rfl (Nat.le_of_ble_eq_true rfl) ?_
  have hl := hL.2.1
  refine z_iconst (v := nI 0) d_H_countChildren_0 1 rfl rfl ?_
  refine z_ist2 d_H_countChildren_1 2 rfl rfl ?_
  refine z_iconst (v := nI 0) d_H_countChildren_2 3 rfl rfl ?_
  refine z_ist3 d_H_countChildren_3 4 rfl rfl ?_
  have loop : ∀ (i j m : Nat), j + i = L.length → m ≤ j → kidC x L = m + kidC x (L.drop j) → Z l D M_H_countChildren 0 0 Q h 0 0 4 [some (.ref o), some (.int x), some (.int (nI m)), some (.int (nI j))] [] := by
    intro i
    induction i with
    | zero =>
      intro j m hj hm he
      rw [List.drop_eq_nil_of_le (by omega)] at he
      refine z_iload_n d_H_countChildren_4 5 rfl rfl rfl ?_
      refine z_aload_n d_H_countChildren_5 6 rfl rfl rfl ?_
      refine z_get d_H_countChildren_6 9 rfl f_H_17 ho rfl ?_
      refine z_icmp_geN (tgt := 34) d_H_countChildren_9 12 rfl rfl (by omega) (by omega) (fun h9 => ?_) (fun h9 => ?_)
      · refine z_iload_n d_H_countChildren_34 35 rfl rfl rfl ?_
        exact z_iret d_H_countChildren_35 rfl (Nat.zero_le _) (Nat.zero_le _) (by rw [he] at hQ; exact hQ)
      · omega
    | succ i ih =>
      intro j m hj hm he
      obtain ⟨c, hc⟩ : ∃ c, L[j]? = some c := ⟨L[j]'(by omega), List.getElem?_eq_getElem (by omega)⟩
      rw [drop_consL hc, kidC] at he
      obtain ⟨-, hc240, b1, p1, f1, -, ha, -, -, -, hcr⟩ := hL.2.2 j c hc
      obtain ⟨a4, aok⟩ := aCs_all c.2
      refine z_iload_n d_H_countChildren_4 5 rfl rfl rfl ?_
      refine z_aload_n d_H_countChildren_5 6 rfl rfl rfl ?_
      refine z_get d_H_countChildren_6 9 rfl f_H_17 ho rfl ?_
      refine z_icmp_geN (tgt := 34) d_H_countChildren_9 12 rfl rfl (by omega) (by omega) (fun h9 => ?_) (fun h9 => ?_)
      · omega
      · refine z_aload_n d_H_countChildren_12 13 rfl rfl rfl ?_
        refine z_get d_H_countChildren_13 16 rfl f_H_11 ho rfl ?_
        refine z_iload_n d_H_countChildren_16 17 rfl rfl rfl ?_
        refine z_aaldA d_H_countChildren_17 18 rfl hL hc ?_
        refine z_iload_n d_H_countChildren_18 19 rfl rfl rfl ?_
        refine z_cV1 d_H_countChildren_19 22 rfl mv_A_namesParent kl_H_28 (by decide) 0 0 rfl rfl (Nat.zero_le _) (Nat.zero_le _) ha (fun Q' q => c_A_namesParent x ha hcr.P (by omega) aok q) rfl rfl (Nat.le_of_ble_eq_true rfl) ?_
        refine z_if_eqB (tgt := 28) d_H_countChildren_22 25 rfl rfl (fun h22 => ?_) (fun h22 => ?_)
        · rw [if_neg (by simp [h22])] at he
          first | refine z_incN3 d_H_countChildren_28 31 rfl rfl ?_ | refine z_inc3 d_H_countChildren_28 31 rfl rfl rfl ?_
          refine z_goto (tgt := 4) d_H_countChildren_31 rfl ?_
          exact ih (j + 1) m (by omega) (by omega) (by omega)
        · rw [if_pos h22] at he
          first | refine z_incN2 d_H_countChildren_25 28 rfl rfl ?_ | refine z_inc2 d_H_countChildren_25 28 rfl rfl rfl ?_
          first | refine z_incN3 d_H_countChildren_28 31 rfl rfl ?_ | refine z_inc3 d_H_countChildren_28 31 rfl rfl rfl ?_
          refine z_goto (tgt := 4) d_H_countChildren_31 rfl ?_
          exact ih (j + 1) (m + 1) (by omega) (by omega) (by omega)
  exact loop L.length 0 0 (by omega) (Nat.le_refl 0) (by rw [List.drop_zero, Nat.zero_add])
theorem c_H_countLeaves (ho : h o = some (.inr (5, [.ref b, .int (nI L.length)]))) (hL : asP G D h b f L) (hQ : Q (some (.int (nI (leafC L L)))) h) : Runs l D M_H_countLeaves [.ref o] h 0 0 Q := by
  refine Runs.of rfl rfl (Nat.le_of_ble_eq_true rfl) ?_
  have hl := hL.2.1
  refine z_iconst (v := nI 0) d_H_countLeaves_0 1 rfl rfl ?_
  refine z_ist1 d_H_countLeaves_1 2 rfl rfl ?_
  refine z_iconst (v := nI 0) d_H_countLeaves_2 3 rfl rfl ?_
  refine z_ist2 d_H_countLeaves_3 4 rfl rfl ?_
  have loop : ∀ (i j m : Nat), j + i = L.length → m ≤ j → leafC L L = m + leafC L (L.drop j) → Z l D M_H_countLeaves 0 0 Q h 0 0 4 [some (.ref o), some (.int (nI m)), some (.int (nI j))] [] := by
    intro i
    induction i with
    | zero =>
      intro j m hj hm he
      rw [List.drop_eq_nil_of_le (by omega)] at he
      refine z_iload_n d_H_countLeaves_4 5 rfl rfl rfl ?_
      refine z_aload_n d_H_countLeaves_5 6 rfl rfl rfl ?_
      refine z_get d_H_countLeaves_6 9 rfl f_H_17 ho rfl ?_
      refine z_icmp_geN (tgt := 37) d_H_countLeaves_9 12 rfl rfl (by omega) (by omega) (fun h9 => ?_) (fun h9 => ?_)
      · refine z_iload_n d_H_countLeaves_37 38 rfl rfl rfl ?_
        exact z_iret d_H_countLeaves_38 rfl (Nat.zero_le _) (Nat.zero_le _) (by rw [he] at hQ; exact hQ)
      · omega
    | succ i ih =>
      intro j m hj hm he
      obtain ⟨c, hc⟩ : ∃ c, L[j]? = some c := ⟨L[j]'(by omega), List.getElem?_eq_getElem (by omega)⟩
      rw [drop_consL hc, leafC] at he
      obtain ⟨-, hc240, b1, p1, f1, -, ha, -, -, -, hcr⟩ := hL.2.2 j c hc
      have hk := kidC_le (nI (dg 7 c.2)) L
      refine z_iload_n d_H_countLeaves_4 5 rfl rfl rfl ?_
      refine z_aload_n d_H_countLeaves_5 6 rfl rfl rfl ?_
      refine z_get d_H_countLeaves_6 9 rfl f_H_17 ho rfl ?_
      refine z_icmp_geN (tgt := 37) d_H_countLeaves_9 12 rfl rfl (by omega) (by omega) (fun h9 => ?_) (fun h9 => ?_)
      · omega
      · refine z_aload_n d_H_countLeaves_12 13 rfl rfl rfl ?_
        refine z_aload_n d_H_countLeaves_13 14 rfl rfl rfl ?_
        refine z_get d_H_countLeaves_14 17 rfl f_H_11 ho rfl ?_
        refine z_iload_n d_H_countLeaves_17 18 rfl rfl rfl ?_
        refine z_aaldA d_H_countLeaves_18 19 rfl hL hc ?_
        refine z_get d_H_countLeaves_19 22 rfl f_H_25 ha rfl ?_
        refine z_cV1 d_H_countLeaves_22 25 rfl mv_H_countChildren kl_H_32 (by decide) 0 0 rfl rfl (Nat.zero_le _) (Nat.zero_le _) ho (fun Q' q => c_H_countChildren (nI (dg 7 c.2)) ho hL q) rfl rfl (Nat.le_of_ble_eq_true rfl) ?_
        refine z_if_neN (tgt := 31) d_H_countLeaves_25 28 rfl rfl (by omega) (fun h25 => ?_) (fun h25 => ?_)
        · rw [if_neg (by omega)] at he
          first | refine z_incN2 d_H_countLeaves_31 34 rfl rfl ?_ | refine z_inc2 d_H_countLeaves_31 34 rfl rfl rfl ?_
          refine z_goto (tgt := 4) d_H_countLeaves_34 rfl ?_
          exact ih (j + 1) m (by omega) (by omega) (by omega)
        · rw [if_pos (by omega)] at he
          first | refine z_incN1 d_H_countLeaves_28 31 rfl rfl ?_ | refine z_inc1 d_H_countLeaves_28 31 rfl rfl rfl ?_
          first | refine z_incN2 d_H_countLeaves_31 34 rfl rfl ?_ | refine z_inc2 d_H_countLeaves_31 34 rfl rfl rfl ?_
          refine z_goto (tgt := 4) d_H_countLeaves_34 rfl ?_
          exact ih (j + 1) (m + 1) (by omega) (by omega) (by omega)
  exact loop L.length 0 0 (by omega) (Nat.le_refl 0) (by rw [List.drop_zero, Nat.zero_add])
end C20
