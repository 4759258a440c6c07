/-! The class: tags. Own work. -/
def tgF (x d : Int32) : List (Nat × List Nat) → Option CV → Int32 → Option CV
  | [], o, _ => o
  | a :: t, o, tm => match tcC (decide (aS a.2 = 1)) (nI (dg 7 a.2)) x d (aCs a.2) with
    | none => tgF x d t o tm
    | some c => if tm ≤ numC 68 (aCs a.2) then tgF x d t (some c) (numC 68 (aCs a.2)) else tgF x d t o tm
section C26
variable {l : Launch} {G : Nat → Prop} {D : zD} {M : zM} {h : zH} {o b q : Nat} {f : Nat → Option Nat} {L : List (Nat × List Nat)} {Q : Option Value → zH → Prop} {v2 v3 v4 v5 : Value}
theorem c_G_tagOf (x d : Int32) (ho : h o = some (.inr (3, [.ref b, .int (nI L.length), v2, v3, v4, v5]))) (hL : asP G D h b f L) (hQ0 : tgF x d L none (-1) = none → Q (some (.int (-1))) h) (hQ1 : ∀ c, tgF x d L none (-1) = some c → Q (some (.int (zb c.2.2.1))) h) : Runs l D M_G_tagOf [.ref o, .int x, .int d] h 0 0 Q := by
  refine Runs.of rfl rfl (Nat.le_of_ble_eq_true rfl) ?_
  have hl := hL.2.1
  have loop : ∀ (i j : Nat) (r : Option Nat) (u : Option CV) (tm : Int32) (w : Option Value), j + i = L.length → tgF x d L none (-1) = tgF x d (L.drop j) u tm → (u = none → r = none) → (∀ c, u = some c → ∃ q, r = some q ∧ h q = some (cObj c)) → Z l D M_G_tagOf 0 0 Q h 0 0 8 [some (.ref o), some (.int x), some (.int d), some (va_rf r), some (.int tm), some (.int (nI j)), w] [] := by
    intro i
    induction i with
    | zero =>
      intro j r u tm w hj he hr0 hr1
      rw [List.drop_eq_nil_of_le (by omega), tgF] at he
      refine z_iload d_G_tagOf_8 10 rfl rfl ?_
      refine z_aload_n d_G_tagOf_10 11 rfl rfl rfl ?_
      refine z_get d_G_tagOf_11 14 rfl f_G_17 ho rfl ?_
      refine z_icmp_geN (tgt := 72) d_G_tagOf_14 17 rfl rfl (by omega) (by omega) (fun h14 => ?_) (fun h14 => ?_)
      · refine z_aload_nq d_G_tagOf_72 73 rfl rfl rfl ?_
        cases u with
        | none =>
          rw [hr0 rfl]
          refine z_ifnonnull (r := none) (tgt := 78) d_G_tagOf_73 76 rfl rfl (fun a1 h1 => by cases h1) (fun h1 => ?_)
          refine z_iconst (v := -1) d_G_tagOf_76 77 rfl (by decide) ?_
          exact z_iret d_G_tagOf_77 rfl (Nat.zero_le _) (Nat.zero_le _) (hQ0 he)
        | some c =>
          obtain ⟨q, rfl, hq⟩ := hr1 c rfl
          have hQ2 := hQ1 c he
          refine z_ifnonnull (r := some q) (tgt := 78) d_G_tagOf_73 76 rfl rfl (fun a1 h1 => ?_) (fun h1 => by cases h1)
          refine z_aload_n d_G_tagOf_78 79 rfl rfl rfl ?_
          refine z_get d_G_tagOf_79 82 rfl f_G_135 hq rfl ?_
          refine z_if_eqB (tgt := 89) d_G_tagOf_82 85 rfl rfl (fun h82 => ?_) (fun h82 => ?_)
          · refine z_iconst (v := nI 0) d_G_tagOf_89 90 rfl rfl ?_
            exact z_iret d_G_tagOf_90 rfl (Nat.zero_le _) (Nat.zero_le _) (by rw [h82] at hQ2; exact hQ2)
          · refine z_iconst (v := nI 1) d_G_tagOf_85 86 rfl rfl ?_
            refine z_goto (tgt := 90) d_G_tagOf_86 rfl ?_
            exact z_iret d_G_tagOf_90 rfl (Nat.zero_le _) (Nat.zero_le _) (by rw [h82] at hQ2; exact hQ2)
      · omega
    | succ i ih =>
      intro j r u tm w hj he hr0 hr1
      obtain ⟨y, hy⟩ : ∃ c, L[j]? = some c := ⟨L[j]'(by omega), List.getElem?_eq_getElem (by omega)⟩
      rw [drop_consL hy, tgF] at he
      obtain ⟨-, y240, b1, p1, f1, -, ha, -, -, -, hcr⟩ := hL.2.2 j y hy
      obtain ⟨a4, aok⟩ := aCs_all y.2
      refine z_iload d_G_tagOf_8 10 rfl rfl ?_
      refine z_aload_n d_G_tagOf_10 11 rfl rfl rfl ?_
      refine z_get d_G_tagOf_11 14 rfl f_G_17 ho rfl ?_
      refine z_icmp_geN (tgt := 72) d_G_tagOf_14 17 rfl rfl (by omega) (by omega) (fun h14 => ?_) (fun h14 => ?_)
      · omega
      · refine z_aload_n d_G_tagOf_17 18 rfl rfl rfl ?_
        refine z_get d_G_tagOf_18 21 rfl f_G_11 ho rfl ?_
        refine z_iload d_G_tagOf_21 23 rfl rfl ?_
        refine z_aaldA d_G_tagOf_23 24 rfl hL hy ?_
        refine z_iload_n d_G_tagOf_24 25 rfl rfl rfl ?_
        refine z_iload_n d_G_tagOf_25 26 rfl rfl rfl ?_
        refine z_cV (Q' := fun r' h' => (tcC (decide (aS y.2 = 1)) (nI (dg 7 y.2)) x d (aCs y.2) = none ∧ r' = some .null ∧ h = h') ∨ ∃ c q, tcC (decide (aS y.2 = 1)) (nI (dg 7 y.2)) x d (aCs y.2) = some c ∧ h q = some (cObj c) ∧ r' = some (.ref q) ∧ h = h') d_G_tagOf_26 29 rfl mv_A_tagCardFor kl_G_128 (by decide) 0 0 rfl rfl (Nat.zero_le _) (Nat.zero_le _) ha (c_A_tagCardFor x d (nI (dg 7 y.2)) (aS y.2) (aS_le y.2) ha hcr.P (by omega) aok (fun e => Or.inl ⟨e, rfl, rfl⟩) (fun c q e1 e2 => Or.inr ⟨c, q, e1, e2, rfl, rfl⟩)) rfl rfl (Nat.le_of_ble_eq_true rfl) ?_
        rintro _ _ (⟨e, rfl, rfl⟩ | ⟨c, q, e, hq, rfl, rfl⟩)
        · rw [e] at he
          refine z_astN6 d_G_tagOf_29 31 rfl rfl ?_
          refine z_aloadN d_G_tagOf_31 33 rfl rfl ?_
          refine z_ifnull (r := none) (tgt := 66) d_G_tagOf_33 36 rfl rfl (fun h1 => ?_) (fun a1 h1 => by cases h1)
          first | refine z_incN5 d_G_tagOf_66 69 rfl rfl ?_ | refine z_inc5 d_G_tagOf_66 69 rfl rfl rfl ?_
          refine z_goto (tgt := 8) d_G_tagOf_69 rfl ?_
          exact ih (j + 1) r u tm _ (by omega) he hr0 hr1
        · rw [e] at he
          dsimp only at he
          refine z_ast6 d_G_tagOf_29 31 rfl rfl ?_
          refine z_aload d_G_tagOf_31 33 rfl rfl ?_
          refine z_ifnull (r := some q) (tgt := 66) d_G_tagOf_33 36 rfl rfl (fun h1 => by cases h1) (fun a1 h1 => ?_)
          refine z_aload_n d_G_tagOf_36 37 rfl rfl rfl ?_
          refine z_get d_G_tagOf_37 40 rfl f_G_11 ho rfl ?_
          refine z_iload d_G_tagOf_40 42 rfl rfl ?_
          refine z_aaldA d_G_tagOf_42 43 rfl hL hy ?_
          refine z_get d_G_tagOf_43 46 rfl f_G_132 ha rfl ?_
          refine z_iload d_G_tagOf_46 48 rfl rfl ?_
          refine z_icmp_lt (tgt := 66) d_G_tagOf_48 51 rfl rfl (fun h48 => ?_) (fun h48 => ?_)
          · rw [if_neg (fun e9 => Int32.not_lt.mpr e9 h48)] at he
            first | refine z_incN5 d_G_tagOf_66 69 rfl rfl ?_ | refine z_inc5 d_G_tagOf_66 69 rfl rfl rfl ?_
            refine z_goto (tgt := 8) d_G_tagOf_69 rfl ?_
            exact ih (j + 1) r u tm _ (by omega) he hr0 hr1
          · rw [if_pos (Int32.not_lt.mp h48)] at he
            refine z_aload d_G_tagOf_51 53 rfl rfl ?_
            refine z_ast3 d_G_tagOf_53 54 rfl rfl ?_
            refine z_aload_n d_G_tagOf_54 55 rfl rfl rfl ?_
            refine z_get d_G_tagOf_55 58 rfl f_G_11 ho rfl ?_
            refine z_iload d_G_tagOf_58 60 rfl rfl ?_
            refine z_aaldA d_G_tagOf_60 61 rfl hL hy ?_
            refine z_get d_G_tagOf_61 64 rfl f_G_132 ha rfl ?_
            refine z_ist4 d_G_tagOf_64 66 rfl rfl ?_
            first | refine z_incN5 d_G_tagOf_66 69 rfl rfl ?_ | refine z_inc5 d_G_tagOf_66 69 rfl rfl rfl ?_
            refine z_goto (tgt := 8) d_G_tagOf_69 rfl ?_
            exact ih (j + 1) (some q) (some c) _ _ (by omega) he (fun e9 => by cases e9) (fun c' e9 => by cases e9; exact ⟨q, rfl, hq⟩)
  refine z_null d_G_tagOf_0 1 rfl ?_
  refine z_astN3 d_G_tagOf_1 2 rfl rfl ?_
  refine z_iconst (v := -1) d_G_tagOf_2 3 rfl (by decide) ?_
  refine z_ist4 d_G_tagOf_3 5 rfl rfl ?_
  refine z_iconst (v := nI 0) d_G_tagOf_5 6 rfl rfl ?_
  refine z_ist5 d_G_tagOf_6 8 rfl rfl ?_
  exact loop L.length 0 none none (-1) none (by omega) (by rw [List.drop_zero]) (fun _ => rfl) (fun c e => by cases e)
end C26
