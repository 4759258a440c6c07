/-! The class: the bag of a repository. Own work. -/
def bgV (r : Int32) (z y : Nat) : Option Nat := if r = 0 then some z else if r = nI 1 then some y else none
section C27
variable {l : Launch} {D : zD} {M : zM} {h : zH} {o z y : Nat} {Q : Option Value → zH → Prop} {v2 v3 : Value}
theorem c_B_bagOf (r : Int32) (ho : h o = some (.inr (1, [.ref z, .ref y, v2, v3]))) (hQ : Q (some (va_rf (bgV r z y))) h) : Runs l D M_B_bagOf [.ref o, .int r] h 0 0 Q := by
  refine Runs.of rfl rfl (Nat.le_of_ble_eq_true rfl) ?_
  unfold bgV at hQ
  refine z_iload_n d_B_bagOf_0 1 rfl rfl rfl ?_
  refine z_if_ne (tgt := 9) d_B_bagOf_1 4 rfl rfl (fun h1 => ?_) (fun h1 => ?_)
  · rw [if_neg h1] at hQ
    refine z_iload_n d_B_bagOf_9 10 rfl rfl rfl ?_
    refine z_iconst (v := nI 1) d_B_bagOf_10 11 rfl rfl ?_
    refine z_icmp_ne (tgt := 21) d_B_bagOf_11 14 rfl rfl (fun h11 => ?_) (fun h11 => ?_)
    · rw [if_neg h11] at hQ
      refine z_null d_B_bagOf_21 22 rfl ?_
      exact z_aret (r := none) d_B_bagOf_22 rfl (Or.inl ⟨_, rfl⟩) (Nat.zero_le _) (Nat.zero_le _) hQ
    · rw [if_pos h11] at hQ
      refine z_aload_n d_B_bagOf_14 15 rfl rfl rfl ?_
      refine z_get d_B_bagOf_15 18 rfl f_B_16 ho rfl ?_
      refine z_goto (tgt := 22) d_B_bagOf_18 rfl ?_
      exact z_aret (r := some y) d_B_bagOf_22 rfl (Or.inl ⟨_, rfl⟩) (Nat.zero_le _) (Nat.zero_le _) hQ
  · rw [if_pos h1] at hQ
    refine z_aload_n d_B_bagOf_4 5 rfl rfl rfl ?_
    refine z_get d_B_bagOf_5 8 rfl f_B_10 ho rfl ?_
    exact z_aret (r := some z) d_B_bagOf_8 rfl (Or.inl ⟨_, rfl⟩) (Nat.zero_le _) (Nat.zero_le _) hQ
end C27
