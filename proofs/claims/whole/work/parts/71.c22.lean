/-! The class: what a bag holds. Own work. -/
/-- the first artifact with a name -/
def fdA (x : Int32) : List (Nat × List Nat) → Option (Nat × List Nat)
  | [] => none
  | a :: t => if nI (dg 7 a.2) = x then some a else fdA x t
section C22
variable {l : Launch} {G : Nat → Prop} {D : zD} {M : zM} {h : zH} {o b : Nat} {f : Nat → Option Nat} {L : List (Nat × List Nat)} {Q : Option Value → zH → Prop} {v2 v3 v4 v5 : Value}
theorem c_G_isFull (ho : h o = some (.inr (3, [.ref b, .int (nI L.length), v2, v3, v4, v5]))) (hl : L.length ≤ 32) (hQ : Q (some (.int (zb (decide (32 ≤ L.length))))) h) : Runs l D M_G_isFull [.ref o] h 0 0 Q := by
  refine Runs.of rfl rfl (Nat.le_of_ble_eq_true rfl) ?_
  refine z_aload_n d_G_isFull_0 1 rfl rfl rfl ?_
  refine z_get d_G_isFull_1 4 rfl f_G_17 ho rfl ?_
  refine z_bipush (v := nI 32) d_G_isFull_4 6 rfl rfl ?_
  refine z_icmp_ltN (tgt := 13) d_G_isFull_6 9 rfl rfl (by omega) (by omega) (fun h6 => ?_) (fun h6 => ?_)
  · refine z_iconst (v := nI 0) d_G_isFull_13 14 rfl rfl ?_
    exact z_zretB (b := false) d_G_isFull_14 rfl (Nat.zero_le _) (Nat.zero_le _) (by rw [decide_eq_false (by omega)] at hQ; exact hQ)
  · refine z_iconst (v := nI 1) d_G_isFull_9 10 rfl rfl ?_
    refine z_goto (tgt := 14) d_G_isFull_10 rfl ?_
    exact z_zretB (b := true) d_G_isFull_14 rfl (Nat.zero_le _) (Nat.zero_le _) (by rw [decide_eq_true (by omega)] at hQ; exact hQ)
theorem c_G_find (x : Int32) (ho : h o = some (.inr (3, [.ref b, .int (nI L.length), v2, v3, v4, v5]))) (hL : asP G D h b f L) (hQ : Q (some (va_rf ((fdA x L).map (·.1)))) h) : Runs l D M_G_find [.ref o, .int x] h 0 0 Q := by
  refine Runs.of rfl rfl (Nat.le_of_ble_eq_true rfl) ?_
  have hl := hL.2.1
  refine z_iconst (v := nI 0) d_G_find_0 1 rfl rfl ?_
  refine z_ist2 d_G_find_1 2 rfl rfl ?_
  have loop : ∀ (i j : Nat), j + i = L.length → fdA x L = fdA x (L.drop j) → Z l D M_G_find 0 0 Q h 0 0 2 [some (.ref o), some (.int x), some (.int (nI j))] [] := by
    intro i
    induction i with
    | zero =>
      intro j hj he
      rw [List.drop_eq_nil_of_le (by omega)] at he
      refine z_iload_n d_G_find_2 3 rfl rfl rfl ?_
      refine z_aload_n d_G_find_3 4 rfl rfl rfl ?_
      refine z_get d_G_find_4 7 rfl f_G_17 ho rfl ?_
      refine z_icmp_geN (tgt := 36) d_G_find_7 10 rfl rfl (by omega) (by omega) (fun h7 => ?_) (fun h7 => ?_)
      · refine z_null d_G_find_36 37 rfl ?_
        exact z_aret (r := none) d_G_find_37 rfl (Or.inl ⟨_, rfl⟩) (Nat.zero_le _) (Nat.zero_le _) (by rw [he] at hQ; exact hQ)
      · omega
    | succ i ih =>
      intro j hj he
      obtain ⟨c, hc⟩ : ∃ c, L[j]? = some c := ⟨L[j]'(by omega), List.getElem?_eq_getElem (by omega)⟩
      rw [drop_consL hc, fdA] at he
      obtain ⟨-, hc240, b1, p1, f1, -, ha, -⟩ := hL.2.2 j c hc
      refine z_iload_n d_G_find_2 3 rfl rfl rfl ?_
      refine z_aload_n d_G_find_3 4 rfl rfl rfl ?_
      refine z_get d_G_find_4 7 rfl f_G_17 ho rfl ?_
      refine z_icmp_geN (tgt := 36) d_G_find_7 10 rfl rfl (by omega) (by omega) (fun h7 => ?_) (fun h7 => ?_)
      · omega
      · refine z_aload_n d_G_find_10 11 rfl rfl rfl ?_
        refine z_get d_G_find_11 14 rfl f_G_11 ho rfl ?_
        refine z_iload_n d_G_find_14 15 rfl rfl rfl ?_
        refine z_aaldA d_G_find_15 16 rfl hL hc ?_
        refine z_get d_G_find_16 19 rfl f_G_45 ha rfl ?_
        refine z_iload_n d_G_find_19 20 rfl rfl rfl ?_
        refine z_icmp_ne (tgt := 30) d_G_find_20 23 rfl rfl (fun h20 => ?_) (fun h20 => ?_)
        · rw [if_neg h20] at he
          first | refine z_incN2 d_G_find_30 33 rfl rfl ?_ | refine z_inc2 d_G_find_30 33 rfl rfl rfl ?_
          refine z_goto (tgt := 2) d_G_find_33 rfl ?_
          exact ih (j + 1) (by omega) he
        · rw [if_pos h20] at he
          refine z_aload_n d_G_find_23 24 rfl rfl rfl ?_
          refine z_get d_G_find_24 27 rfl f_G_11 ho rfl ?_
          refine z_iload_n d_G_find_27 28 rfl rfl rfl ?_
          refine z_aaldA d_G_find_28 29 rfl hL hc ?_
          exact z_aret (r := some c.1) d_G_find_29 rfl (Or.inl ⟨_, rfl⟩) (Nat.zero_le _) (Nat.zero_le _) (by rw [he] at hQ; exact hQ)
  exact loop L.length 0 (by omega) (by rw [List.drop_zero])
theorem c_G_holds (x : Int32) (ho : h o = some (.inr (3, [.ref b, .int (nI L.length), v2, v3, v4, v5]))) (hL : asP G D h b f L) (hQ : Q (some (.int (zb (fdA x L).isSome))) h) : Runs l D M_G_holds [.ref o, .int x] h 0 0 Q := by
  refine Runs.of rfl rfl (Nat.le_of_ble_eq_true rfl) ?_
  refine z_aload_n d_G_holds_0 1 rfl rfl rfl ?_
  refine z_iload_n d_G_holds_1 2 rfl rfl rfl ?_
  refine z_cV1 d_G_holds_2 5 rfl mv_G_find kl_G_41 (by decide) 0 0 rfl rfl (Nat.zero_le _) (Nat.zero_le _) ho (fun Q' q => c_G_find x ho hL q) rfl rfl (Nat.le_of_ble_eq_true rfl) ?_
  refine z_ifnull (tgt := 12) d_G_holds_5 8 rfl rfl (fun h5 => ?_) (fun a5 h5 => ?_)
  · refine z_iconst (v := nI 0) d_G_holds_12 13 rfl rfl ?_
    exact z_zretB (b := false) d_G_holds_13 rfl (Nat.zero_le _) (Nat.zero_le _) (by cases e : fdA x L with
      | none => rw [e] at hQ; exact hQ
      | some y => rw [e] at h5; cases h5)
  · refine z_iconst (v := nI 1) d_G_holds_8 9 rfl rfl ?_
    refine z_goto (tgt := 13) d_G_holds_9 rfl ?_
    exact z_zretB (b := true) d_G_holds_13 rfl (Nat.zero_le _) (Nat.zero_le _) (by cases e : fdA x L with
      | none => rw [e] at h5; cases h5
      | some y => rw [e] at hQ; exact hQ)
end C22
