/-! The class: digests with files. Own work. -/
theorem fdA_at {x : Int32} : ∀ {L : List (Nat × List Nat)} {y : Nat × List Nat}, fdA x L = some y → ∃ i : Nat, L[i]? = some y
  | [], _, h => by cases h
  | a :: t, y, h => by
    rw [fdA] at h
    split at h
    · cases h
      exact ⟨0, rfl⟩
    · obtain ⟨i, hi⟩ := fdA_at h
      exact ⟨i + 1, hi⟩
section C24
variable {l : Launch} {G : Nat → Prop} {D : zD} {M : zM} {h : zH} {o b q : Nat} {f : Nat → Option Nat} {c : CV} {L : List (Nat × List Nat)} {Q : Option Value → zH → Prop} {v2 v3 v4 v5 : Value}
theorem c_G_dwf0 (d : Int32) (hQ : Q (some (.int d)) h) : Runs l D M_G_digestWithFile [.ref o, .int d, .null] h 0 0 Q := by
  refine Runs.of rfl rfl (Nat.le_of_ble_eq_true rfl) ?_
  refine z_aload_nN d_G_digestWithFile_0 1 rfl rfl rfl ?_
  refine z_ifnull (r := none) (tgt := 13) d_G_digestWithFile_1 4 rfl rfl (fun h1 => ?_) (fun a1 h1 => ?_)
  · refine z_iload_n d_G_digestWithFile_13 14 rfl rfl rfl ?_
    exact z_iret d_G_digestWithFile_14 rfl (Nat.zero_le _) (Nat.zero_le _) hQ
  · cases h1
theorem c_G_dwf (d : Nat) (hd : d < 16777213) (ho : h o = some (.inr (3, [.ref b, .int (nI L.length), v2, v3, v4, v5]))) (hL : asP G D h b f L) (hq : h q = some (cObj c)) (hc : cvOk c) (hQ0 : c.1 ≠ 70 → Q (some (.int (nI d))) h) (hQ1 : c.1 = 70 → fdA (oI c.2.2.2.1) L = none → Q (some (.int (-1))) h) (hQ2 : ∀ y, c.1 = 70 → fdA (oI c.2.2.2.1) L = some y → Q (some (.int (nI (dg d y.2)))) h) : Runs l D M_G_digestWithFile [.ref o, .int (nI d), .ref q] h 0 0 Q := by
  refine Runs.of rfl rfl (Nat.le_of_ble_eq_true rfl) ?_
  have hlc := hc.1
  refine z_aload_n d_G_digestWithFile_0 1 rfl rfl rfl ?_
  refine z_ifnull (r := some q) (tgt := 13) d_G_digestWithFile_1 4 rfl rfl (fun h1 => ?_) (fun a1 h1 => ?_)
  · cases h1
  · refine z_aload_n d_G_digestWithFile_4 5 rfl rfl rfl ?_
    refine z_get d_G_digestWithFile_5 8 rfl f_G_95 hq rfl ?_
    refine z_bipush (v := nI 70) d_G_digestWithFile_8 10 rfl rfl ?_
    refine z_icmp_eqN (tgt := 15) d_G_digestWithFile_10 13 rfl rfl (by omega) (by omega) (fun h10 => ?_) (fun h10 => ?_)
    · refine z_aload_n d_G_digestWithFile_15 16 rfl rfl rfl ?_
      refine z_aload_n d_G_digestWithFile_16 17 rfl rfl rfl ?_
      refine z_get d_G_digestWithFile_17 20 rfl f_G_86 hq rfl ?_
      rw [if_neg (show ¬ c.1 = 68 by omega)]
      refine z_cV1 d_G_digestWithFile_20 23 rfl mv_G_find kl_G_41 (by decide) 0 0 rfl rfl (Nat.zero_le _) (Nat.zero_le _) ho (fun Q' q => c_G_find (oI c.2.2.2.1) ho hL q) rfl rfl (Nat.le_of_ble_eq_true rfl) ?_
      cases e : fdA (oI c.2.2.2.1) L with
      | none =>
        refine z_astN3 d_G_digestWithFile_23 24 rfl rfl ?_
        refine z_aload_nN d_G_digestWithFile_24 25 rfl rfl rfl ?_
        refine z_ifnonnull (r := none) (tgt := 32) d_G_digestWithFile_25 28 rfl rfl (fun a1 h1 => ?_) (fun h1 => ?_)
        · cases h1
        · refine z_iconst (v := -1) d_G_digestWithFile_28 29 rfl (by decide) ?_
          refine z_goto (tgt := 45) d_G_digestWithFile_29 rfl ?_
          exact z_iret d_G_digestWithFile_45 rfl (Nat.zero_le _) (Nat.zero_le _) (hQ1 h10 e)
      | some y =>
        obtain ⟨i, hi⟩ := fdA_at e
        obtain ⟨-, y240, b1, p1, f1, -, ha, -, hb1, hf1, -⟩ := hL.2.2 i y hi
        refine z_ast3 d_G_digestWithFile_23 24 rfl rfl ?_
        refine z_aload_n d_G_digestWithFile_24 25 rfl rfl rfl ?_
        refine z_ifnonnull (r := some y.1) (tgt := 32) d_G_digestWithFile_25 28 rfl rfl (fun a1 h1 => ?_) (fun h1 => ?_)
        · refine z_iload_n d_G_digestWithFile_32 33 rfl rfl rfl ?_
          refine z_aload_n d_G_digestWithFile_33 34 rfl rfl rfl ?_
          refine z_get d_G_digestWithFile_34 37 rfl f_G_113 ha rfl ?_
          refine z_aload_n d_G_digestWithFile_37 38 rfl rfl rfl ?_
          refine z_get d_G_digestWithFile_38 41 rfl f_G_113 ha rfl ?_
          refine z_alen d_G_digestWithFile_41 42 rfl (t := 0) (v := nI y.2.length) rfl hb1 rfl ?_
          refine z_cS1 d_G_digestWithFile_42 45 rfl ms_B_digestAfter kl_G_117 (by decide) 0 0 rfl rfl (Nat.zero_le _) (Nat.zero_le _) (fun Q' q => c_B_digestAfter d y.2.length y.2.length hb1 hf1 (Nat.le_refl _) (Nat.le_refl _) (by omega) hd q) rfl rfl (Nat.le_of_ble_eq_true rfl) ?_
          rw [List.take_length]
          exact z_iret d_G_digestWithFile_45 rfl (Nat.zero_le _) (Nat.zero_le _) (hQ2 y h10 e)
        · cases h1
    · refine z_iload_n d_G_digestWithFile_13 14 rfl rfl rfl ?_
      exact z_iret d_G_digestWithFile_14 rfl (Nat.zero_le _) (Nat.zero_le _) (hQ0 h10)
end C24
