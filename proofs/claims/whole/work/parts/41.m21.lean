/-! The reference: its constructor. Own work. -/
section M21
variable {l : Launch} {D : zD} {hp : zH} {o : Nat} {Q : Option Value → zH → Prop}
set_option maxHeartbeats 1000000 in
theorem c_m_init (ho0 : hp o = some (.inr (ciM, [.null, .null, .null, .null, .null, .null, .null, .null, .null, .int 0, .int 0, .int 0, .int 0, .int 0, .int 0, .int 0, .int 0]))) (hQ : ∀ ad : Nat → Nat, zok ((D.1.1, ad), D.2) o → (∀ j, j < 9 → hp (ad j) = none) → Q none (zmod ((D.1.1, ad), D.2) o hp (fun _ _ => 0) (fun _ => 0))) : Runs l D M_m_init [.ref o] hp 9 18742 Q := by
  refine Runs.of rfl rfl (Nat.le_of_ble_eq_true rfl) ?_
  refine z_aload_n d_m_init_0 1 rfl rfl rfl ?_
  refine z_objInit d_m_init_1 4 rfl kl9_m_1 oi_i oi_c (by decide) (Nat.le_of_ble_eq_true rfl) ?_
  refine z_aload_n d_m_init_4 5 rfl rfl rfl ?_
  refine z_sipush (v := nI 15840) d_m_init_5 8 rfl rfl ?_
  refine z_newB (N := 15840) d_m_init_8 10 rfl ac_byte (by decide) (by decide) (by decide) (by decide) (by decide) (fun q0 hq0 => ?_)
  have n0o : o ≠ q0 := fun e => by rw [← e, ho0] at hq0; cases hq0
  refine z_put (fs' := [.ref q0, .null, .null, .null, .null, .null, .null, .null, .null, .int 0, .int 0, .int 0, .int 0, .int 0, .int 0, .int 0, .int 0]) d_m_init_10 13 rfl p_m_7 (by rw [zset_ne n0o]; exact ho0) rfl rfl (Nat.le_of_ble_eq_true rfl) rfl ?_
  have ho1 : (zset (zset hp q0 (.inl (D.2 0, 15840, .inl (fun _ => 0)) : va_E)) o (.inr (ciM, [.ref q0, .null, .null, .null, .null, .null, .null, .null, .null, .int 0, .int 0, .int 0, .int 0, .int 0, .int 0, .int 0, .int 0]))) o = some (.inr (ciM, [.ref q0, .null, .null, .null, .null, .null, .null, .null, .null, .int 0, .int 0, .int 0, .int 0, .int 0, .int 0, .int 0, .int 0])) := zset_self _ _ _
  have a0_1 : (zset (zset hp q0 (.inl (D.2 0, 15840, .inl (fun _ => 0)) : va_E)) o (.inr (ciM, [.ref q0, .null, .null, .null, .null, .null, .null, .null, .null, .int 0, .int 0, .int 0, .int 0, .int 0, .int 0, .int 0, .int 0]))) q0 = some (.inl (D.2 0, 15840, .inl (fun _ => 0)) : va_E) := by rw [zset_ne (Ne.symm n0o)]; exact zset_self _ _ _
  have fr1 : ∀ q, q ≠ o → q ≠ q0 → (zset (zset hp q0 (.inl (D.2 0, 15840, .inl (fun _ => 0)) : va_E)) o (.inr (ciM, [.ref q0, .null, .null, .null, .null, .null, .null, .null, .null, .int 0, .int 0, .int 0, .int 0, .int 0, .int 0, .int 0, .int 0]))) q = hp q := fun q e e0 => by rw [zset_ne e, zset_ne e0]
  generalize (zset (zset hp q0 (.inl (D.2 0, 15840, .inl (fun _ => 0)) : va_E)) o (.inr (ciM, [.ref q0, .null, .null, .null, .null, .null, .null, .null, .null, .int 0, .int 0, .int 0, .int 0, .int 0, .int 0, .int 0, .int 0]))) = H1 at ho1 a0_1 fr1 ⊢
  refine z_aload_n d_m_init_13 14 rfl rfl rfl ?_
  refine z_bipush (v := nI 66) d_m_init_14 16 rfl rfl ?_
  refine z_newI (N := 66) d_m_init_16 18 rfl ac_int (by decide) (by decide) (by decide) (by decide) (by decide) (fun q1 hq1 => ?_)
  have n1o : o ≠ q1 := fun e => by rw [← e, ho1] at hq1; cases hq1
  have n1_0 : q0 ≠ q1 := fun e => by rw [← e, a0_1] at hq1; cases hq1
  refine z_put (fs' := [.ref q0, .ref q1, .null, .null, .null, .null, .null, .null, .null, .int 0, .int 0, .int 0, .int 0, .int 0, .int 0, .int 0, .int 0]) d_m_init_18 21 rfl p_m_13 (by rw [zset_ne n1o]; exact ho1) rfl rfl (Nat.le_of_ble_eq_true rfl) rfl ?_
  have ho2 : (zset (zset H1 q1 (.inl (D.2 1, 66, .inl (fun _ => 0)) : va_E)) o (.inr (ciM, [.ref q0, .ref q1, .null, .null, .null, .null, .null, .null, .null, .int 0, .int 0, .int 0, .int 0, .int 0, .int 0, .int 0, .int 0]))) o = some (.inr (ciM, [.ref q0, .ref q1, .null, .null, .null, .null, .null, .null, .null, .int 0, .int 0, .int 0, .int 0, .int 0, .int 0, .int 0, .int 0])) := zset_self _ _ _
  have a0_2 : (zset (zset H1 q1 (.inl (D.2 1, 66, .inl (fun _ => 0)) : va_E)) o (.inr (ciM, [.ref q0, .ref q1, .null, .null, .null, .null, .null, .null, .null, .int 0, .int 0, .int 0, .int 0, .int 0, .int 0, .int 0, .int 0]))) q0 = some (.inl (D.2 0, 15840, .inl (fun _ => 0)) : va_E) := by rw [zset_ne (Ne.symm n0o), zset_ne n1_0]; exact a0_1
  have a1_2 : (zset (zset H1 q1 (.inl (D.2 1, 66, .inl (fun _ => 0)) : va_E)) o (.inr (ciM, [.ref q0, .ref q1, .null, .null, .null, .null, .null, .null, .null, .int 0, .int 0, .int 0, .int 0, .int 0, .int 0, .int 0, .int 0]))) q1 = some (.inl (D.2 1, 66, .inl (fun _ => 0)) : va_E) := by rw [zset_ne (Ne.symm n1o)]; exact zset_self _ _ _
  have fr2 : ∀ q, q ≠ o → q ≠ q0 → q ≠ q1 → (zset (zset H1 q1 (.inl (D.2 1, 66, .inl (fun _ => 0)) : va_E)) o (.inr (ciM, [.ref q0, .ref q1, .null, .null, .null, .null, .null, .null, .null, .int 0, .int 0, .int 0, .int 0, .int 0, .int 0, .int 0, .int 0]))) q = hp q := fun q e e0 e1 => by rw [zset_ne e, zset_ne e1]; exact fr1 q e e0
  generalize (zset (zset H1 q1 (.inl (D.2 1, 66, .inl (fun _ => 0)) : va_E)) o (.inr (ciM, [.ref q0, .ref q1, .null, .null, .null, .null, .null, .null, .null, .int 0, .int 0, .int 0, .int 0, .int 0, .int 0, .int 0, .int 0]))) = H2 at ho2 a0_2 a1_2 fr2 ⊢
  refine z_aload_n d_m_init_21 22 rfl rfl rfl ?_
  refine z_bipush (v := nI 66) d_m_init_22 24 rfl rfl ?_
  refine z_newI (N := 66) d_m_init_24 26 rfl ac_int (by decide) (by decide) (by decide) (by decide) (by decide) (fun q2 hq2 => ?_)
  have n2o : o ≠ q2 := fun e => by rw [← e, ho2] at hq2; cases hq2
  have n2_0 : q0 ≠ q2 := fun e => by rw [← e, a0_2] at hq2; cases hq2
  have n2_1 : q1 ≠ q2 := fun e => by rw [← e, a1_2] at hq2; cases hq2
  refine z_put (fs' := [.ref q0, .ref q1, .ref q2, .null, .null, .null, .null, .null, .null, .int 0, .int 0, .int 0, .int 0, .int 0, .int 0, .int 0, .int 0]) d_m_init_26 29 rfl p_m_17 (by rw [zset_ne n2o]; exact ho2) rfl rfl (Nat.le_of_ble_eq_true rfl) rfl ?_
  have ho3 : (zset (zset H2 q2 (.inl (D.2 1, 66, .inl (fun _ => 0)) : va_E)) o (.inr (ciM, [.ref q0, .ref q1, .ref q2, .null, .null, .null, .null, .null, .null, .int 0, .int 0, .int 0, .int 0, .int 0, .int 0, .int 0, .int 0]))) o = some (.inr (ciM, [.ref q0, .ref q1, .ref q2, .null, .null, .null, .null, .null, .null, .int 0, .int 0, .int 0, .int 0, .int 0, .int 0, .int 0, .int 0])) := zset_self _ _ _
  have a0_3 : (zset (zset H2 q2 (.inl (D.2 1, 66, .inl (fun _ => 0)) : va_E)) o (.inr (ciM, [.ref q0, .ref q1, .ref q2, .null, .null, .null, .null, .null, .null, .int 0, .int 0, .int 0, .int 0, .int 0, .int 0, .int 0, .int 0]))) q0 = some (.inl (D.2 0, 15840, .inl (fun _ => 0)) : va_E) := by rw [zset_ne (Ne.symm n0o), zset_ne n2_0]; exact a0_2
  have a1_3 : (zset (zset H2 q2 (.inl (D.2 1, 66, .inl (fun _ => 0)) : va_E)) o (.inr (ciM, [.ref q0, .ref q1, .ref q2, .null, .null, .null, .null, .null, .null, .int 0, .int 0, .int 0, .int 0, .int 0, .int 0, .int 0, .int 0]))) q1 = some (.inl (D.2 1, 66, .inl (fun _ => 0)) : va_E) := by rw [zset_ne (Ne.symm n1o), zset_ne n2_1]; exact a1_2
  have a2_3 : (zset (zset H2 q2 (.inl (D.2 1, 66, .inl (fun _ => 0)) : va_E)) o (.inr (ciM, [.ref q0, .ref q1, .ref q2, .null, .null, .null, .null, .null, .null, .int 0, .int 0, .int 0, .int 0, .int 0, .int 0, .int 0, .int 0]))) q2 = some (.inl (D.2 1, 66, .inl (fun _ => 0)) : va_E) := by rw [zset_ne (Ne.symm n2o)]; exact zset_self _ _ _
  have fr3 : ∀ q, q ≠ o → q ≠ q0 → q ≠ q1 → q ≠ q2 → (zset (zset H2 q2 (.inl (D.2 1, 66, .inl (fun _ => 0)) : va_E)) o (.inr (ciM, [.ref q0, .ref q1, .ref q2, .null, .null, .null, .null, .null, .null, .int 0, .int 0, .int 0, .int 0, .int 0, .int 0, .int 0, .int 0]))) q = hp q := fun q e e0 e1 e2 => by rw [zset_ne e, zset_ne e2]; exact fr2 q e e0 e1
  generalize (zset (zset H2 q2 (.inl (D.2 1, 66, .inl (fun _ => 0)) : va_E)) o (.inr (ciM, [.ref q0, .ref q1, .ref q2, .null, .null, .null, .null, .null, .null, .int 0, .int 0, .int 0, .int 0, .int 0, .int 0, .int 0, .int 0]))) = H3 at ho3 a0_3 a1_3 a2_3 fr3 ⊢
  refine z_aload_n d_m_init_29 30 rfl rfl rfl ?_
  refine z_iconst (v := nI 2) d_m_init_30 31 rfl rfl ?_
  refine z_newI (N := 2) d_m_init_31 33 rfl ac_int (by decide) (by decide) (by decide) (by decide) (by decide) (fun q3 hq3 => ?_)
  have n3o : o ≠ q3 := fun e => by rw [← e, ho3] at hq3; cases hq3
  have n3_0 : q0 ≠ q3 := fun e => by rw [← e, a0_3] at hq3; cases hq3
  have n3_1 : q1 ≠ q3 := fun e => by rw [← e, a1_3] at hq3; cases hq3
  have n3_2 : q2 ≠ q3 := fun e => by rw [← e, a2_3] at hq3; cases hq3
  refine z_put (fs' := [.ref q0, .ref q1, .ref q2, .ref q3, .null, .null, .null, .null, .null, .int 0, .int 0, .int 0, .int 0, .int 0, .int 0, .int 0, .int 0]) d_m_init_33 36 rfl p_m_20 (by rw [zset_ne n3o]; exact ho3) rfl rfl (Nat.le_of_ble_eq_true rfl) rfl ?_
  have ho4 : (zset (zset H3 q3 (.inl (D.2 1, 2, .inl (fun _ => 0)) : va_E)) o (.inr (ciM, [.ref q0, .ref q1, .ref q2, .ref q3, .null, .null, .null, .null, .null, .int 0, .int 0, .int 0, .int 0, .int 0, .int 0, .int 0, .int 0]))) o = some (.inr (ciM, [.ref q0, .ref q1, .ref q2, .ref q3, .null, .null, .null, .null, .null, .int 0, .int 0, .int 0, .int 0, .int 0, .int 0, .int 0, .int 0])) := zset_self _ _ _
  have a0_4 : (zset (zset H3 q3 (.inl (D.2 1, 2, .inl (fun _ => 0)) : va_E)) o (.inr (ciM, [.ref q0, .ref q1, .ref q2, .ref q3, .null, .null, .null, .null, .null, .int 0, .int 0, .int 0, .int 0, .int 0, .int 0, .int 0, .int 0]))) q0 = some (.inl (D.2 0, 15840, .inl (fun _ => 0)) : va_E) := by rw [zset_ne (Ne.symm n0o), zset_ne n3_0]; exact a0_3
  have a1_4 : (zset (zset H3 q3 (.inl (D.2 1, 2, .inl (fun _ => 0)) : va_E)) o (.inr (ciM, [.ref q0, .ref q1, .ref q2, .ref q3, .null, .null, .null, .null, .null, .int 0, .int 0, .int 0, .int 0, .int 0, .int 0, .int 0, .int 0]))) q1 = some (.inl (D.2 1, 66, .inl (fun _ => 0)) : va_E) := by rw [zset_ne (Ne.symm n1o), zset_ne n3_1]; exact a1_3
  have a2_4 : (zset (zset H3 q3 (.inl (D.2 1, 2, .inl (fun _ => 0)) : va_E)) o (.inr (ciM, [.ref q0, .ref q1, .ref q2, .ref q3, .null, .null, .null, .null, .null, .int 0, .int 0, .int 0, .int 0, .int 0, .int 0, .int 0, .int 0]))) q2 = some (.inl (D.2 1, 66, .inl (fun _ => 0)) : va_E) := by rw [zset_ne (Ne.symm n2o), zset_ne n3_2]; exact a2_3
  have a3_4 : (zset (zset H3 q3 (.inl (D.2 1, 2, .inl (fun _ => 0)) : va_E)) o (.inr (ciM, [.ref q0, .ref q1, .ref q2, .ref q3, .null, .null, .null, .null, .null, .int 0, .int 0, .int 0, .int 0, .int 0, .int 0, .int 0, .int 0]))) q3 = some (.inl (D.2 1, 2, .inl (fun _ => 0)) : va_E) := by rw [zset_ne (Ne.symm n3o)]; exact zset_self _ _ _
  have fr4 : ∀ q, q ≠ o → q ≠ q0 → q ≠ q1 → q ≠ q2 → q ≠ q3 → (zset (zset H3 q3 (.inl (D.2 1, 2, .inl (fun _ => 0)) : va_E)) o (.inr (ciM, [.ref q0, .ref q1, .ref q2, .ref q3, .null, .null, .null, .null, .null, .int 0, .int 0, .int 0, .int 0, .int 0, .int 0, .int 0, .int 0]))) q = hp q := fun q e e0 e1 e2 e3 => by rw [zset_ne e, zset_ne e3]; exact fr3 q e e0 e1 e2
  generalize (zset (zset H3 q3 (.inl (D.2 1, 2, .inl (fun _ => 0)) : va_E)) o (.inr (ciM, [.ref q0, .ref q1, .ref q2, .ref q3, .null, .null, .null, .null, .null, .int 0, .int 0, .int 0, .int 0, .int 0, .int 0, .int 0, .int 0]))) = H4 at ho4 a0_4 a1_4 a2_4 a3_4 fr4 ⊢
  refine z_aload_n d_m_init_36 37 rfl rfl rfl ?_
  refine z_bipush (v := nI 64) d_m_init_37 39 rfl rfl ?_
  refine z_newI (N := 64) d_m_init_39 41 rfl ac_int (by decide) (by decide) (by decide) (by decide) (by decide) (fun q4 hq4 => ?_)
  have n4o : o ≠ q4 := fun e => by rw [← e, ho4] at hq4; cases hq4
  have n4_0 : q0 ≠ q4 := fun e => by rw [← e, a0_4] at hq4; cases hq4
  have n4_1 : q1 ≠ q4 := fun e => by rw [← e, a1_4] at hq4; cases hq4
  have n4_2 : q2 ≠ q4 := fun e => by rw [← e, a2_4] at hq4; cases hq4
  have n4_3 : q3 ≠ q4 := fun e => by rw [← e, a3_4] at hq4; cases hq4
  refine z_put (fs' := [.ref q0, .ref q1, .ref q2, .ref q3, .ref q4, .null, .null, .null, .null, .int 0, .int 0, .int 0, .int 0, .int 0, .int 0, .int 0, .int 0]) d_m_init_41 44 rfl p_m_23 (by rw [zset_ne n4o]; exact ho4) rfl rfl (Nat.le_of_ble_eq_true rfl) rfl ?_
  have ho5 : (zset (zset H4 q4 (.inl (D.2 1, 64, .inl (fun _ => 0)) : va_E)) o (.inr (ciM, [.ref q0, .ref q1, .ref q2, .ref q3, .ref q4, .null, .null, .null, .null, .int 0, .int 0, .int 0, .int 0, .int 0, .int 0, .int 0, .int 0]))) o = some (.inr (ciM, [.ref q0, .ref q1, .ref q2, .ref q3, .ref q4, .null, .null, .null, .null, .int 0, .int 0, .int 0, .int 0, .int 0, .int 0, .int 0, .int 0])) := zset_self _ _ _
  have a0_5 : (zset (zset H4 q4 (.inl (D.2 1, 64, .inl (fun _ => 0)) : va_E)) o (.inr (ciM, [.ref q0, .ref q1, .ref q2, .ref q3, .ref q4, .null, .null, .null, .null, .int 0, .int 0, .int 0, .int 0, .int 0, .int 0, .int 0, .int 0]))) q0 = some (.inl (D.2 0, 15840, .inl (fun _ => 0)) : va_E) := by rw [zset_ne (Ne.symm n0o), zset_ne n4_0]; exact a0_4
  have a1_5 : (zset (zset H4 q4 (.inl (D.2 1, 64, .inl (fun _ => 0)) : va_E)) o (.inr (ciM, [.ref q0, .ref q1, .ref q2, .ref q3, .ref q4, .null, .null, .null, .null, .int 0, .int 0, .int 0, .int 0, .int 0, .int 0, .int 0, .int 0]))) q1 = some (.inl (D.2 1, 66, .inl (fun _ => 0)) : va_E) := by rw [zset_ne (Ne.symm n1o), zset_ne n4_1]; exact a1_4
  have a2_5 : (zset (zset H4 q4 (.inl (D.2 1, 64, .inl (fun _ => 0)) : va_E)) o (.inr (ciM, [.ref q0, .ref q1, .ref q2, .ref q3, .ref q4, .null, .null, .null, .null, .int 0, .int 0, .int 0, .int 0, .int 0, .int 0, .int 0, .int 0]))) q2 = some (.inl (D.2 1, 66, .inl (fun _ => 0)) : va_E) := by rw [zset_ne (Ne.symm n2o), zset_ne n4_2]; exact a2_4
  have a3_5 : (zset (zset H4 q4 (.inl (D.2 1, 64, .inl (fun _ => 0)) : va_E)) o (.inr (ciM, [.ref q0, .ref q1, .ref q2, .ref q3, .ref q4, .null, .null, .null, .null, .int 0, .int 0, .int 0, .int 0, .int 0, .int 0, .int 0, .int 0]))) q3 = some (.inl (D.2 1, 2, .inl (fun _ => 0)) : va_E) := by rw [zset_ne (Ne.symm n3o), zset_ne n4_3]; exact a3_4
  have a4_5 : (zset (zset H4 q4 (.inl (D.2 1, 64, .inl (fun _ => 0)) : va_E)) o (.inr (ciM, [.ref q0, .ref q1, .ref q2, .ref q3, .ref q4, .null, .null, .null, .null, .int 0, .int 0, .int 0, .int 0, .int 0, .int 0, .int 0, .int 0]))) q4 = some (.inl (D.2 1, 64, .inl (fun _ => 0)) : va_E) := by rw [zset_ne (Ne.symm n4o)]; exact zset_self _ _ _
  have fr5 : ∀ q, q ≠ o → q ≠ q0 → q ≠ q1 → q ≠ q2 → q ≠ q3 → q ≠ q4 → (zset (zset H4 q4 (.inl (D.2 1, 64, .inl (fun _ => 0)) : va_E)) o (.inr (ciM, [.ref q0, .ref q1, .ref q2, .ref q3, .ref q4, .null, .null, .null, .null, .int 0, .int 0, .int 0, .int 0, .int 0, .int 0, .int 0, .int 0]))) q = hp q := fun q e e0 e1 e2 e3 e4 => by rw [zset_ne e, zset_ne e4]; exact fr4 q e e0 e1 e2 e3
  generalize (zset (zset H4 q4 (.inl (D.2 1, 64, .inl (fun _ => 0)) : va_E)) o (.inr (ciM, [.ref q0, .ref q1, .ref q2, .ref q3, .ref q4, .null, .null, .null, .null, .int 0, .int 0, .int 0, .int 0, .int 0, .int 0, .int 0, .int 0]))) = H5 at ho5 a0_5 a1_5 a2_5 a3_5 a4_5 fr5 ⊢
  refine z_aload_n d_m_init_44 45 rfl rfl rfl ?_
  refine z_iconst (v := nI 2) d_m_init_45 46 rfl rfl ?_
  refine z_newI (N := 2) d_m_init_46 48 rfl ac_int (by decide) (by decide) (by decide) (by decide) (by decide) (fun q5 hq5 => ?_)
  have n5o : o ≠ q5 := fun e => by rw [← e, ho5] at hq5; cases hq5
  have n5_0 : q0 ≠ q5 := fun e => by rw [← e, a0_5] at hq5; cases hq5
  have n5_1 : q1 ≠ q5 := fun e => by rw [← e, a1_5] at hq5; cases hq5
  have n5_2 : q2 ≠ q5 := fun e => by rw [← e, a2_5] at hq5; cases hq5
  have n5_3 : q3 ≠ q5 := fun e => by rw [← e, a3_5] at hq5; cases hq5
  have n5_4 : q4 ≠ q5 := fun e => by rw [← e, a4_5] at hq5; cases hq5
  refine z_put (fs' := [.ref q0, .ref q1, .ref q2, .ref q3, .ref q4, .ref q5, .null, .null, .null, .int 0, .int 0, .int 0, .int 0, .int 0, .int 0, .int 0, .int 0]) d_m_init_48 51 rfl p_m_26 (by rw [zset_ne n5o]; exact ho5) rfl rfl (Nat.le_of_ble_eq_true rfl) rfl ?_
  have ho6 : (zset (zset H5 q5 (.inl (D.2 1, 2, .inl (fun _ => 0)) : va_E)) o (.inr (ciM, [.ref q0, .ref q1, .ref q2, .ref q3, .ref q4, .ref q5, .null, .null, .null, .int 0, .int 0, .int 0, .int 0, .int 0, .int 0, .int 0, .int 0]))) o = some (.inr (ciM, [.ref q0, .ref q1, .ref q2, .ref q3, .ref q4, .ref q5, .null, .null, .null, .int 0, .int 0, .int 0, .int 0, .int 0, .int 0, .int 0, .int 0])) := zset_self _ _ _
  have a0_6 : (zset (zset H5 q5 (.inl (D.2 1, 2, .inl (fun _ => 0)) : va_E)) o (.inr (ciM, [.ref q0, .ref q1, .ref q2, .ref q3, .ref q4, .ref q5, .null, .null, .null, .int 0, .int 0, .int 0, .int 0, .int 0, .int 0, .int 0, .int 0]))) q0 = some (.inl (D.2 0, 15840, .inl (fun _ => 0)) : va_E) := by rw [zset_ne (Ne.symm n0o), zset_ne n5_0]; exact a0_5
  have a1_6 : (zset (zset H5 q5 (.inl (D.2 1, 2, .inl (fun _ => 0)) : va_E)) o (.inr (ciM, [.ref q0, .ref q1, .ref q2, .ref q3, .ref q4, .ref q5, .null, .null, .null, .int 0, .int 0, .int 0, .int 0, .int 0, .int 0, .int 0, .int 0]))) q1 = some (.inl (D.2 1, 66, .inl (fun _ => 0)) : va_E) := by rw [zset_ne (Ne.symm n1o), zset_ne n5_1]; exact a1_5
  have a2_6 : (zset (zset H5 q5 (.inl (D.2 1, 2, .inl (fun _ => 0)) : va_E)) o (.inr (ciM, [.ref q0, .ref q1, .ref q2, .ref q3, .ref q4, .ref q5, .null, .null, .null, .int 0, .int 0, .int 0, .int 0, .int 0, .int 0, .int 0, .int 0]))) q2 = some (.inl (D.2 1, 66, .inl (fun _ => 0)) : va_E) := by rw [zset_ne (Ne.symm n2o), zset_ne n5_2]; exact a2_5
  have a3_6 : (zset (zset H5 q5 (.inl (D.2 1, 2, .inl (fun _ => 0)) : va_E)) o (.inr (ciM, [.ref q0, .ref q1, .ref q2, .ref q3, .ref q4, .ref q5, .null, .null, .null, .int 0, .int 0, .int 0, .int 0, .int 0, .int 0, .int 0, .int 0]))) q3 = some (.inl (D.2 1, 2, .inl (fun _ => 0)) : va_E) := by rw [zset_ne (Ne.symm n3o), zset_ne n5_3]; exact a3_5
  have a4_6 : (zset (zset H5 q5 (.inl (D.2 1, 2, .inl (fun _ => 0)) : va_E)) o (.inr (ciM, [.ref q0, .ref q1, .ref q2, .ref q3, .ref q4, .ref q5, .null, .null, .null, .int 0, .int 0, .int 0, .int 0, .int 0, .int 0, .int 0, .int 0]))) q4 = some (.inl (D.2 1, 64, .inl (fun _ => 0)) : va_E) := by rw [zset_ne (Ne.symm n4o), zset_ne n5_4]; exact a4_5
  have a5_6 : (zset (zset H5 q5 (.inl (D.2 1, 2, .inl (fun _ => 0)) : va_E)) o (.inr (ciM, [.ref q0, .ref q1, .ref q2, .ref q3, .ref q4, .ref q5, .null, .null, .null, .int 0, .int 0, .int 0, .int 0, .int 0, .int 0, .int 0, .int 0]))) q5 = some (.inl (D.2 1, 2, .inl (fun _ => 0)) : va_E) := by rw [zset_ne (Ne.symm n5o)]; exact zset_self _ _ _
  have fr6 : ∀ q, q ≠ o → q ≠ q0 → q ≠ q1 → q ≠ q2 → q ≠ q3 → q ≠ q4 → q ≠ q5 → (zset (zset H5 q5 (.inl (D.2 1, 2, .inl (fun _ => 0)) : va_E)) o (.inr (ciM, [.ref q0, .ref q1, .ref q2, .ref q3, .ref q4, .ref q5, .null, .null, .null, .int 0, .int 0, .int 0, .int 0, .int 0, .int 0, .int 0, .int 0]))) q = hp q := fun q e e0 e1 e2 e3 e4 e5 => by rw [zset_ne e, zset_ne e5]; exact fr5 q e e0 e1 e2 e3 e4
  generalize (zset (zset H5 q5 (.inl (D.2 1, 2, .inl (fun _ => 0)) : va_E)) o (.inr (ciM, [.ref q0, .ref q1, .ref q2, .ref q3, .ref q4, .ref q5, .null, .null, .null, .int 0, .int 0, .int 0, .int 0, .int 0, .int 0, .int 0, .int 0]))) = H6 at ho6 a0_6 a1_6 a2_6 a3_6 a4_6 a5_6 fr6 ⊢
  refine z_aload_n d_m_init_51 52 rfl rfl rfl ?_
  refine z_sipush (v := nI 1800) d_m_init_52 55 rfl rfl ?_
  refine z_newI (N := 1800) d_m_init_55 57 rfl ac_int (by decide) (by decide) (by decide) (by decide) (by decide) (fun q6 hq6 => ?_)
  have n6o : o ≠ q6 := fun e => by rw [← e, ho6] at hq6; cases hq6
  have n6_0 : q0 ≠ q6 := fun e => by rw [← e, a0_6] at hq6; cases hq6
  have n6_1 : q1 ≠ q6 := fun e => by rw [← e, a1_6] at hq6; cases hq6
  have n6_2 : q2 ≠ q6 := fun e => by rw [← e, a2_6] at hq6; cases hq6
  have n6_3 : q3 ≠ q6 := fun e => by rw [← e, a3_6] at hq6; cases hq6
  have n6_4 : q4 ≠ q6 := fun e => by rw [← e, a4_6] at hq6; cases hq6
  have n6_5 : q5 ≠ q6 := fun e => by rw [← e, a5_6] at hq6; cases hq6
  refine z_put (fs' := [.ref q0, .ref q1, .ref q2, .ref q3, .ref q4, .ref q5, .ref q6, .null, .null, .int 0, .int 0, .int 0, .int 0, .int 0, .int 0, .int 0, .int 0]) d_m_init_57 60 rfl p_m_29 (by rw [zset_ne n6o]; exact ho6) rfl rfl (Nat.le_of_ble_eq_true rfl) rfl ?_
  have ho7 : (zset (zset H6 q6 (.inl (D.2 1, 1800, .inl (fun _ => 0)) : va_E)) o (.inr (ciM, [.ref q0, .ref q1, .ref q2, .ref q3, .ref q4, .ref q5, .ref q6, .null, .null, .int 0, .int 0, .int 0, .int 0, .int 0, .int 0, .int 0, .int 0]))) o = some (.inr (ciM, [.ref q0, .ref q1, .ref q2, .ref q3, .ref q4, .ref q5, .ref q6, .null, .null, .int 0, .int 0, .int 0, .int 0, .int 0, .int 0, .int 0, .int 0])) := zset_self _ _ _
  have a0_7 : (zset (zset H6 q6 (.inl (D.2 1, 1800, .inl (fun _ => 0)) : va_E)) o (.inr (ciM, [.ref q0, .ref q1, .ref q2, .ref q3, .ref q4, .ref q5, .ref q6, .null, .null, .int 0, .int 0, .int 0, .int 0, .int 0, .int 0, .int 0, .int 0]))) q0 = some (.inl (D.2 0, 15840, .inl (fun _ => 0)) : va_E) := by rw [zset_ne (Ne.symm n0o), zset_ne n6_0]; exact a0_6
  have a1_7 : (zset (zset H6 q6 (.inl (D.2 1, 1800, .inl (fun _ => 0)) : va_E)) o (.inr (ciM, [.ref q0, .ref q1, .ref q2, .ref q3, .ref q4, .ref q5, .ref q6, .null, .null, .int 0, .int 0, .int 0, .int 0, .int 0, .int 0, .int 0, .int 0]))) q1 = some (.inl (D.2 1, 66, .inl (fun _ => 0)) : va_E) := by rw [zset_ne (Ne.symm n1o), zset_ne n6_1]; exact a1_6
  have a2_7 : (zset (zset H6 q6 (.inl (D.2 1, 1800, .inl (fun _ => 0)) : va_E)) o (.inr (ciM, [.ref q0, .ref q1, .ref q2, .ref q3, .ref q4, .ref q5, .ref q6, .null, .null, .int 0, .int 0, .int 0, .int 0, .int 0, .int 0, .int 0, .int 0]))) q2 = some (.inl (D.2 1, 66, .inl (fun _ => 0)) : va_E) := by rw [zset_ne (Ne.symm n2o), zset_ne n6_2]; exact a2_6
  have a3_7 : (zset (zset H6 q6 (.inl (D.2 1, 1800, .inl (fun _ => 0)) : va_E)) o (.inr (ciM, [.ref q0, .ref q1, .ref q2, .ref q3, .ref q4, .ref q5, .ref q6, .null, .null, .int 0, .int 0, .int 0, .int 0, .int 0, .int 0, .int 0, .int 0]))) q3 = some (.inl (D.2 1, 2, .inl (fun _ => 0)) : va_E) := by rw [zset_ne (Ne.symm n3o), zset_ne n6_3]; exact a3_6
  have a4_7 : (zset (zset H6 q6 (.inl (D.2 1, 1800, .inl (fun _ => 0)) : va_E)) o (.inr (ciM, [.ref q0, .ref q1, .ref q2, .ref q3, .ref q4, .ref q5, .ref q6, .null, .null, .int 0, .int 0, .int 0, .int 0, .int 0, .int 0, .int 0, .int 0]))) q4 = some (.inl (D.2 1, 64, .inl (fun _ => 0)) : va_E) := by rw [zset_ne (Ne.symm n4o), zset_ne n6_4]; exact a4_6
  have a5_7 : (zset (zset H6 q6 (.inl (D.2 1, 1800, .inl (fun _ => 0)) : va_E)) o (.inr (ciM, [.ref q0, .ref q1, .ref q2, .ref q3, .ref q4, .ref q5, .ref q6, .null, .null, .int 0, .int 0, .int 0, .int 0, .int 0, .int 0, .int 0, .int 0]))) q5 = some (.inl (D.2 1, 2, .inl (fun _ => 0)) : va_E) := by rw [zset_ne (Ne.symm n5o), zset_ne n6_5]; exact a5_6
  have a6_7 : (zset (zset H6 q6 (.inl (D.2 1, 1800, .inl (fun _ => 0)) : va_E)) o (.inr (ciM, [.ref q0, .ref q1, .ref q2, .ref q3, .ref q4, .ref q5, .ref q6, .null, .null, .int 0, .int 0, .int 0, .int 0, .int 0, .int 0, .int 0, .int 0]))) q6 = some (.inl (D.2 1, 1800, .inl (fun _ => 0)) : va_E) := by rw [zset_ne (Ne.symm n6o)]; exact zset_self _ _ _
  have fr7 : ∀ q, q ≠ o → q ≠ q0 → q ≠ q1 → q ≠ q2 → q ≠ q3 → q ≠ q4 → q ≠ q5 → q ≠ q6 → (zset (zset H6 q6 (.inl (D.2 1, 1800, .inl (fun _ => 0)) : va_E)) o (.inr (ciM, [.ref q0, .ref q1, .ref q2, .ref q3, .ref q4, .ref q5, .ref q6, .null, .null, .int 0, .int 0, .int 0, .int 0, .int 0, .int 0, .int 0, .int 0]))) q = hp q := fun q e e0 e1 e2 e3 e4 e5 e6 => by rw [zset_ne e, zset_ne e6]; exact fr6 q e e0 e1 e2 e3 e4 e5
  generalize (zset (zset H6 q6 (.inl (D.2 1, 1800, .inl (fun _ => 0)) : va_E)) o (.inr (ciM, [.ref q0, .ref q1, .ref q2, .ref q3, .ref q4, .ref q5, .ref q6, .null, .null, .int 0, .int 0, .int 0, .int 0, .int 0, .int 0, .int 0, .int 0]))) = H7 at ho7 a0_7 a1_7 a2_7 a3_7 a4_7 a5_7 a6_7 fr7 ⊢
  refine z_aload_n d_m_init_60 61 rfl rfl rfl ?_
  refine z_iconst (v := nI 2) d_m_init_61 62 rfl rfl ?_
  refine z_newI (N := 2) d_m_init_62 64 rfl ac_int (by decide) (by decide) (by decide) (by decide) (by decide) (fun q7 hq7 => ?_)
  have n7o : o ≠ q7 := fun e => by rw [← e, ho7] at hq7; cases hq7
  have n7_0 : q0 ≠ q7 := fun e => by rw [← e, a0_7] at hq7; cases hq7
  have n7_1 : q1 ≠ q7 := fun e => by rw [← e, a1_7] at hq7; cases hq7
  have n7_2 : q2 ≠ q7 := fun e => by rw [← e, a2_7] at hq7; cases hq7
  have n7_3 : q3 ≠ q7 := fun e => by rw [← e, a3_7] at hq7; cases hq7
  have n7_4 : q4 ≠ q7 := fun e => by rw [← e, a4_7] at hq7; cases hq7
  have n7_5 : q5 ≠ q7 := fun e => by rw [← e, a5_7] at hq7; cases hq7
  have n7_6 : q6 ≠ q7 := fun e => by rw [← e, a6_7] at hq7; cases hq7
  refine z_put (fs' := [.ref q0, .ref q1, .ref q2, .ref q3, .ref q4, .ref q5, .ref q6, .ref q7, .null, .int 0, .int 0, .int 0, .int 0, .int 0, .int 0, .int 0, .int 0]) d_m_init_64 67 rfl p_m_32 (by rw [zset_ne n7o]; exact ho7) rfl rfl (Nat.le_of_ble_eq_true rfl) rfl ?_
  have ho8 : (zset (zset H7 q7 (.inl (D.2 1, 2, .inl (fun _ => 0)) : va_E)) o (.inr (ciM, [.ref q0, .ref q1, .ref q2, .ref q3, .ref q4, .ref q5, .ref q6, .ref q7, .null, .int 0, .int 0, .int 0, .int 0, .int 0, .int 0, .int 0, .int 0]))) o = some (.inr (ciM, [.ref q0, .ref q1, .ref q2, .ref q3, .ref q4, .ref q5, .ref q6, .ref q7, .null, .int 0, .int 0, .int 0, .int 0, .int 0, .int 0, .int 0, .int 0])) := zset_self _ _ _
  have a0_8 : (zset (zset H7 q7 (.inl (D.2 1, 2, .inl (fun _ => 0)) : va_E)) o (.inr (ciM, [.ref q0, .ref q1, .ref q2, .ref q3, .ref q4, .ref q5, .ref q6, .ref q7, .null, .int 0, .int 0, .int 0, .int 0, .int 0, .int 0, .int 0, .int 0]))) q0 = some (.inl (D.2 0, 15840, .inl (fun _ => 0)) : va_E) := by rw [zset_ne (Ne.symm n0o), zset_ne n7_0]; exact a0_7
  have a1_8 : (zset (zset H7 q7 (.inl (D.2 1, 2, .inl (fun _ => 0)) : va_E)) o (.inr (ciM, [.ref q0, .ref q1, .ref q2, .ref q3, .ref q4, .ref q5, .ref q6, .ref q7, .null, .int 0, .int 0, .int 0, .int 0, .int 0, .int 0, .int 0, .int 0]))) q1 = some (.inl (D.2 1, 66, .inl (fun _ => 0)) : va_E) := by rw [zset_ne (Ne.symm n1o), zset_ne n7_1]; exact a1_7
  have a2_8 : (zset (zset H7 q7 (.inl (D.2 1, 2, .inl (fun _ => 0)) : va_E)) o (.inr (ciM, [.ref q0, .ref q1, .ref q2, .ref q3, .ref q4, .ref q5, .ref q6, .ref q7, .null, .int 0, .int 0, .int 0, .int 0, .int 0, .int 0, .int 0, .int 0]))) q2 = some (.inl (D.2 1, 66, .inl (fun _ => 0)) : va_E) := by rw [zset_ne (Ne.symm n2o), zset_ne n7_2]; exact a2_7
  have a3_8 : (zset (zset H7 q7 (.inl (D.2 1, 2, .inl (fun _ => 0)) : va_E)) o (.inr (ciM, [.ref q0, .ref q1, .ref q2, .ref q3, .ref q4, .ref q5, .ref q6, .ref q7, .null, .int 0, .int 0, .int 0, .int 0, .int 0, .int 0, .int 0, .int 0]))) q3 = some (.inl (D.2 1, 2, .inl (fun _ => 0)) : va_E) := by rw [zset_ne (Ne.symm n3o), zset_ne n7_3]; exact a3_7
  have a4_8 : (zset (zset H7 q7 (.inl (D.2 1, 2, .inl (fun _ => 0)) : va_E)) o (.inr (ciM, [.ref q0, .ref q1, .ref q2, .ref q3, .ref q4, .ref q5, .ref q6, .ref q7, .null, .int 0, .int 0, .int 0, .int 0, .int 0, .int 0, .int 0, .int 0]))) q4 = some (.inl (D.2 1, 64, .inl (fun _ => 0)) : va_E) := by rw [zset_ne (Ne.symm n4o), zset_ne n7_4]; exact a4_7
  have a5_8 : (zset (zset H7 q7 (.inl (D.2 1, 2, .inl (fun _ => 0)) : va_E)) o (.inr (ciM, [.ref q0, .ref q1, .ref q2, .ref q3, .ref q4, .ref q5, .ref q6, .ref q7, .null, .int 0, .int 0, .int 0, .int 0, .int 0, .int 0, .int 0, .int 0]))) q5 = some (.inl (D.2 1, 2, .inl (fun _ => 0)) : va_E) := by rw [zset_ne (Ne.symm n5o), zset_ne n7_5]; exact a5_7
  have a6_8 : (zset (zset H7 q7 (.inl (D.2 1, 2, .inl (fun _ => 0)) : va_E)) o (.inr (ciM, [.ref q0, .ref q1, .ref q2, .ref q3, .ref q4, .ref q5, .ref q6, .ref q7, .null, .int 0, .int 0, .int 0, .int 0, .int 0, .int 0, .int 0, .int 0]))) q6 = some (.inl (D.2 1, 1800, .inl (fun _ => 0)) : va_E) := by rw [zset_ne (Ne.symm n6o), zset_ne n7_6]; exact a6_7
  have a7_8 : (zset (zset H7 q7 (.inl (D.2 1, 2, .inl (fun _ => 0)) : va_E)) o (.inr (ciM, [.ref q0, .ref q1, .ref q2, .ref q3, .ref q4, .ref q5, .ref q6, .ref q7, .null, .int 0, .int 0, .int 0, .int 0, .int 0, .int 0, .int 0, .int 0]))) q7 = some (.inl (D.2 1, 2, .inl (fun _ => 0)) : va_E) := by rw [zset_ne (Ne.symm n7o)]; exact zset_self _ _ _
  have fr8 : ∀ q, q ≠ o → q ≠ q0 → q ≠ q1 → q ≠ q2 → q ≠ q3 → q ≠ q4 → q ≠ q5 → q ≠ q6 → q ≠ q7 → (zset (zset H7 q7 (.inl (D.2 1, 2, .inl (fun _ => 0)) : va_E)) o (.inr (ciM, [.ref q0, .ref q1, .ref q2, .ref q3, .ref q4, .ref q5, .ref q6, .ref q7, .null, .int 0, .int 0, .int 0, .int 0, .int 0, .int 0, .int 0, .int 0]))) q = hp q := fun q e e0 e1 e2 e3 e4 e5 e6 e7 => by rw [zset_ne e, zset_ne e7]; exact fr7 q e e0 e1 e2 e3 e4 e5 e6
  generalize (zset (zset H7 q7 (.inl (D.2 1, 2, .inl (fun _ => 0)) : va_E)) o (.inr (ciM, [.ref q0, .ref q1, .ref q2, .ref q3, .ref q4, .ref q5, .ref q6, .ref q7, .null, .int 0, .int 0, .int 0, .int 0, .int 0, .int 0, .int 0, .int 0]))) = H8 at ho8 a0_8 a1_8 a2_8 a3_8 a4_8 a5_8 a6_8 a7_8 fr8 ⊢
  refine z_aload_n d_m_init_67 68 rfl rfl rfl ?_
  refine z_sipush (v := nI 900) d_m_init_68 71 rfl rfl ?_
  refine z_newI (N := 900) d_m_init_71 73 rfl ac_int (by decide) (by decide) (by decide) (by decide) (by decide) (fun q8 hq8 => ?_)
  have n8o : o ≠ q8 := fun e => by rw [← e, ho8] at hq8; cases hq8
  have n8_0 : q0 ≠ q8 := fun e => by rw [← e, a0_8] at hq8; cases hq8
  have n8_1 : q1 ≠ q8 := fun e => by rw [← e, a1_8] at hq8; cases hq8
  have n8_2 : q2 ≠ q8 := fun e => by rw [← e, a2_8] at hq8; cases hq8
  have n8_3 : q3 ≠ q8 := fun e => by rw [← e, a3_8] at hq8; cases hq8
  have n8_4 : q4 ≠ q8 := fun e => by rw [← e, a4_8] at hq8; cases hq8
  have n8_5 : q5 ≠ q8 := fun e => by rw [← e, a5_8] at hq8; cases hq8
  have n8_6 : q6 ≠ q8 := fun e => by rw [← e, a6_8] at hq8; cases hq8
  have n8_7 : q7 ≠ q8 := fun e => by rw [← e, a7_8] at hq8; cases hq8
  refine z_put (fs' := [.ref q0, .ref q1, .ref q2, .ref q3, .ref q4, .ref q5, .ref q6, .ref q7, .ref q8, .int 0, .int 0, .int 0, .int 0, .int 0, .int 0, .int 0, .int 0]) d_m_init_73 76 rfl p_m_35 (by rw [zset_ne n8o]; exact ho8) rfl rfl (Nat.le_of_ble_eq_true rfl) rfl ?_
  have ho9 : (zset (zset H8 q8 (.inl (D.2 1, 900, .inl (fun _ => 0)) : va_E)) o (.inr (ciM, [.ref q0, .ref q1, .ref q2, .ref q3, .ref q4, .ref q5, .ref q6, .ref q7, .ref q8, .int 0, .int 0, .int 0, .int 0, .int 0, .int 0, .int 0, .int 0]))) o = some (.inr (ciM, [.ref q0, .ref q1, .ref q2, .ref q3, .ref q4, .ref q5, .ref q6, .ref q7, .ref q8, .int 0, .int 0, .int 0, .int 0, .int 0, .int 0, .int 0, .int 0])) := zset_self _ _ _
  have a0_9 : (zset (zset H8 q8 (.inl (D.2 1, 900, .inl (fun _ => 0)) : va_E)) o (.inr (ciM, [.ref q0, .ref q1, .ref q2, .ref q3, .ref q4, .ref q5, .ref q6, .ref q7, .ref q8, .int 0, .int 0, .int 0, .int 0, .int 0, .int 0, .int 0, .int 0]))) q0 = some (.inl (D.2 0, 15840, .inl (fun _ => 0)) : va_E) := by rw [zset_ne (Ne.symm n0o), zset_ne n8_0]; exact a0_8
  have a1_9 : (zset (zset H8 q8 (.inl (D.2 1, 900, .inl (fun _ => 0)) : va_E)) o (.inr (ciM, [.ref q0, .ref q1, .ref q2, .ref q3, .ref q4, .ref q5, .ref q6, .ref q7, .ref q8, .int 0, .int 0, .int 0, .int 0, .int 0, .int 0, .int 0, .int 0]))) q1 = some (.inl (D.2 1, 66, .inl (fun _ => 0)) : va_E) := by rw [zset_ne (Ne.symm n1o), zset_ne n8_1]; exact a1_8
  have a2_9 : (zset (zset H8 q8 (.inl (D.2 1, 900, .inl (fun _ => 0)) : va_E)) o (.inr (ciM, [.ref q0, .ref q1, .ref q2, .ref q3, .ref q4, .ref q5, .ref q6, .ref q7, .ref q8, .int 0, .int 0, .int 0, .int 0, .int 0, .int 0, .int 0, .int 0]))) q2 = some (.inl (D.2 1, 66, .inl (fun _ => 0)) : va_E) := by rw [zset_ne (Ne.symm n2o), zset_ne n8_2]; exact a2_8
  have a3_9 : (zset (zset H8 q8 (.inl (D.2 1, 900, .inl (fun _ => 0)) : va_E)) o (.inr (ciM, [.ref q0, .ref q1, .ref q2, .ref q3, .ref q4, .ref q5, .ref q6, .ref q7, .ref q8, .int 0, .int 0, .int 0, .int 0, .int 0, .int 0, .int 0, .int 0]))) q3 = some (.inl (D.2 1, 2, .inl (fun _ => 0)) : va_E) := by rw [zset_ne (Ne.symm n3o), zset_ne n8_3]; exact a3_8
  have a4_9 : (zset (zset H8 q8 (.inl (D.2 1, 900, .inl (fun _ => 0)) : va_E)) o (.inr (ciM, [.ref q0, .ref q1, .ref q2, .ref q3, .ref q4, .ref q5, .ref q6, .ref q7, .ref q8, .int 0, .int 0, .int 0, .int 0, .int 0, .int 0, .int 0, .int 0]))) q4 = some (.inl (D.2 1, 64, .inl (fun _ => 0)) : va_E) := by rw [zset_ne (Ne.symm n4o), zset_ne n8_4]; exact a4_8
  have a5_9 : (zset (zset H8 q8 (.inl (D.2 1, 900, .inl (fun _ => 0)) : va_E)) o (.inr (ciM, [.ref q0, .ref q1, .ref q2, .ref q3, .ref q4, .ref q5, .ref q6, .ref q7, .ref q8, .int 0, .int 0, .int 0, .int 0, .int 0, .int 0, .int 0, .int 0]))) q5 = some (.inl (D.2 1, 2, .inl (fun _ => 0)) : va_E) := by rw [zset_ne (Ne.symm n5o), zset_ne n8_5]; exact a5_8
  have a6_9 : (zset (zset H8 q8 (.inl (D.2 1, 900, .inl (fun _ => 0)) : va_E)) o (.inr (ciM, [.ref q0, .ref q1, .ref q2, .ref q3, .ref q4, .ref q5, .ref q6, .ref q7, .ref q8, .int 0, .int 0, .int 0, .int 0, .int 0, .int 0, .int 0, .int 0]))) q6 = some (.inl (D.2 1, 1800, .inl (fun _ => 0)) : va_E) := by rw [zset_ne (Ne.symm n6o), zset_ne n8_6]; exact a6_8
  have a7_9 : (zset (zset H8 q8 (.inl (D.2 1, 900, .inl (fun _ => 0)) : va_E)) o (.inr (ciM, [.ref q0, .ref q1, .ref q2, .ref q3, .ref q4, .ref q5, .ref q6, .ref q7, .ref q8, .int 0, .int 0, .int 0, .int 0, .int 0, .int 0, .int 0, .int 0]))) q7 = some (.inl (D.2 1, 2, .inl (fun _ => 0)) : va_E) := by rw [zset_ne (Ne.symm n7o), zset_ne n8_7]; exact a7_8
  have a8_9 : (zset (zset H8 q8 (.inl (D.2 1, 900, .inl (fun _ => 0)) : va_E)) o (.inr (ciM, [.ref q0, .ref q1, .ref q2, .ref q3, .ref q4, .ref q5, .ref q6, .ref q7, .ref q8, .int 0, .int 0, .int 0, .int 0, .int 0, .int 0, .int 0, .int 0]))) q8 = some (.inl (D.2 1, 900, .inl (fun _ => 0)) : va_E) := by rw [zset_ne (Ne.symm n8o)]; exact zset_self _ _ _
  have fr9 : ∀ q, q ≠ o → q ≠ q0 → q ≠ q1 → q ≠ q2 → q ≠ q3 → q ≠ q4 → q ≠ q5 → q ≠ q6 → q ≠ q7 → q ≠ q8 → (zset (zset H8 q8 (.inl (D.2 1, 900, .inl (fun _ => 0)) : va_E)) o (.inr (ciM, [.ref q0, .ref q1, .ref q2, .ref q3, .ref q4, .ref q5, .ref q6, .ref q7, .ref q8, .int 0, .int 0, .int 0, .int 0, .int 0, .int 0, .int 0, .int 0]))) q = hp q := fun q e e0 e1 e2 e3 e4 e5 e6 e7 e8 => by rw [zset_ne e, zset_ne e8]; exact fr8 q e e0 e1 e2 e3 e4 e5 e6 e7
  generalize (zset (zset H8 q8 (.inl (D.2 1, 900, .inl (fun _ => 0)) : va_E)) o (.inr (ciM, [.ref q0, .ref q1, .ref q2, .ref q3, .ref q4, .ref q5, .ref q6, .ref q7, .ref q8, .int 0, .int 0, .int 0, .int 0, .int 0, .int 0, .int 0, .int 0]))) = H9 at ho9 a0_9 a1_9 a2_9 a3_9 a4_9 a5_9 a6_9 a7_9 a8_9 fr9 ⊢
  have ad9 : ∀ ad : Nat → Nat, ad 0 = q0 → ad 1 = q1 → ad 2 = q2 → ad 3 = q3 → ad 4 = q4 → ad 5 = q5 → ad 6 = q6 → ad 7 = q7 → ad 8 = q8 → Q none H9 := by
    intro ad c0 c1 c2 c3 c4 c5 c6 c7 c8
    have hok : zok ((D.1.1, ad), D.2) o := by
      constructor
      · intro i j hi hj e
        have e : ad i = ad j := e
        rcases (show i = 0 ∨ i = 1 ∨ i = 2 ∨ i = 3 ∨ i = 4 ∨ i = 5 ∨ i = 6 ∨ i = 7 ∨ i = 8 by omega) with rfl | rfl | rfl | rfl | rfl | rfl | rfl | rfl | rfl <;> rcases (show j = 0 ∨ j = 1 ∨ j = 2 ∨ j = 3 ∨ j = 4 ∨ j = 5 ∨ j = 6 ∨ j = 7 ∨ j = 8 by omega) with rfl | rfl | rfl | rfl | rfl | rfl | rfl | rfl | rfl <;> first | rfl | (exfalso; simp only [c0, c1, c2, c3, c4, c5, c6, c7, c8] at e; first | exact n1_0 e | exact n1_0 e.symm | exact n2_0 e | exact n2_0 e.symm | exact n2_1 e | exact n2_1 e.symm | exact n3_0 e | exact n3_0 e.symm | exact n3_1 e | exact n3_1 e.symm | exact n3_2 e | exact n3_2 e.symm | exact n4_0 e | exact n4_0 e.symm | exact n4_1 e | exact n4_1 e.symm | exact n4_2 e | exact n4_2 e.symm | exact n4_3 e | exact n4_3 e.symm | exact n5_0 e | exact n5_0 e.symm | exact n5_1 e | exact n5_1 e.symm | exact n5_2 e | exact n5_2 e.symm | exact n5_3 e | exact n5_3 e.symm | exact n5_4 e | exact n5_4 e.symm | exact n6_0 e | exact n6_0 e.symm | exact n6_1 e | exact n6_1 e.symm | exact n6_2 e | exact n6_2 e.symm | exact n6_3 e | exact n6_3 e.symm | exact n6_4 e | exact n6_4 e.symm | exact n6_5 e | exact n6_5 e.symm | exact n7_0 e | exact n7_0 e.symm | exact n7_1 e | exact n7_1 e.symm | exact n7_2 e | exact n7_2 e.symm | exact n7_3 e | exact n7_3 e.symm | exact n7_4 e | exact n7_4 e.symm | exact n7_5 e | exact n7_5 e.symm | exact n7_6 e | exact n7_6 e.symm | exact n8_0 e | exact n8_0 e.symm | exact n8_1 e | exact n8_1 e.symm | exact n8_2 e | exact n8_2 e.symm | exact n8_3 e | exact n8_3 e.symm | exact n8_4 e | exact n8_4 e.symm | exact n8_5 e | exact n8_5 e.symm | exact n8_6 e | exact n8_6 e.symm | exact n8_7 e | exact n8_7 e.symm)
      · intro i hi
        show ad i ≠ o
        rcases (show i = 0 ∨ i = 1 ∨ i = 2 ∨ i = 3 ∨ i = 4 ∨ i = 5 ∨ i = 6 ∨ i = 7 ∨ i = 8 by omega) with rfl | rfl | rfl | rfl | rfl | rfl | rfl | rfl | rfl
        · rw [c0]; exact Ne.symm n0o
        · rw [c1]; exact Ne.symm n1o
        · rw [c2]; exact Ne.symm n2o
        · rw [c3]; exact Ne.symm n3o
        · rw [c4]; exact Ne.symm n4o
        · rw [c5]; exact Ne.symm n5o
        · rw [c6]; exact Ne.symm n6o
        · rw [c7]; exact Ne.symm n7o
        · rw [c8]; exact Ne.symm n8o
    have hfr : ∀ j, j < 9 → hp (ad j) = none := by
      intro j hj
      rcases (show j = 0 ∨ j = 1 ∨ j = 2 ∨ j = 3 ∨ j = 4 ∨ j = 5 ∨ j = 6 ∨ j = 7 ∨ j = 8 by omega) with rfl | rfl | rfl | rfl | rfl | rfl | rfl | rfl | rfl
      · rw [c0]; exact hq0
      · rw [c1, ← fr1 q1 (Ne.symm n1o) (Ne.symm n1_0)]; exact hq1
      · rw [c2, ← fr2 q2 (Ne.symm n2o) (Ne.symm n2_0) (Ne.symm n2_1)]; exact hq2
      · rw [c3, ← fr3 q3 (Ne.symm n3o) (Ne.symm n3_0) (Ne.symm n3_1) (Ne.symm n3_2)]; exact hq3
      · rw [c4, ← fr4 q4 (Ne.symm n4o) (Ne.symm n4_0) (Ne.symm n4_1) (Ne.symm n4_2) (Ne.symm n4_3)]; exact hq4
      · rw [c5, ← fr5 q5 (Ne.symm n5o) (Ne.symm n5_0) (Ne.symm n5_1) (Ne.symm n5_2) (Ne.symm n5_3) (Ne.symm n5_4)]; exact hq5
      · rw [c6, ← fr6 q6 (Ne.symm n6o) (Ne.symm n6_0) (Ne.symm n6_1) (Ne.symm n6_2) (Ne.symm n6_3) (Ne.symm n6_4) (Ne.symm n6_5)]; exact hq6
      · rw [c7, ← fr7 q7 (Ne.symm n7o) (Ne.symm n7_0) (Ne.symm n7_1) (Ne.symm n7_2) (Ne.symm n7_3) (Ne.symm n7_4) (Ne.symm n7_5) (Ne.symm n7_6)]; exact hq7
      · rw [c8, ← fr8 q8 (Ne.symm n8o) (Ne.symm n8_0) (Ne.symm n8_1) (Ne.symm n8_2) (Ne.symm n8_3) (Ne.symm n8_4) (Ne.symm n8_5) (Ne.symm n8_6) (Ne.symm n8_7)]; exact hq8
    have hH : H9 = zmod ((D.1.1, ad), D.2) o hp (fun _ _ => 0) (fun _ => 0) := by
      funext q
      by_cases e : q = o
      · rw [e, zmod_o, ho9]
        simp only [zmo, zad_ok hok, c0, c1, c2, c3, c4, c5, c6, c7, c8]
      · by_cases e0 : q = q0
        · rw [e0, a0_9, ← c0, show ad 0 = zad ((D.1.1, ad), D.2) o 0 from (zad_ok hok 0).symm, zmod_a _ _ _ _ _ (by decide)]; rfl
        · by_cases e1 : q = q1
          · rw [e1, a1_9, ← c1, show ad 1 = zad ((D.1.1, ad), D.2) o 1 from (zad_ok hok 1).symm, zmod_a _ _ _ _ _ (by decide)]; rfl
          · by_cases e2 : q = q2
            · rw [e2, a2_9, ← c2, show ad 2 = zad ((D.1.1, ad), D.2) o 2 from (zad_ok hok 2).symm, zmod_a _ _ _ _ _ (by decide)]; rfl
            · by_cases e3 : q = q3
              · rw [e3, a3_9, ← c3, show ad 3 = zad ((D.1.1, ad), D.2) o 3 from (zad_ok hok 3).symm, zmod_a _ _ _ _ _ (by decide)]; rfl
              · by_cases e4 : q = q4
                · rw [e4, a4_9, ← c4, show ad 4 = zad ((D.1.1, ad), D.2) o 4 from (zad_ok hok 4).symm, zmod_a _ _ _ _ _ (by decide)]; rfl
                · by_cases e5 : q = q5
                  · rw [e5, a5_9, ← c5, show ad 5 = zad ((D.1.1, ad), D.2) o 5 from (zad_ok hok 5).symm, zmod_a _ _ _ _ _ (by decide)]; rfl
                  · by_cases e6 : q = q6
                    · rw [e6, a6_9, ← c6, show ad 6 = zad ((D.1.1, ad), D.2) o 6 from (zad_ok hok 6).symm, zmod_a _ _ _ _ _ (by decide)]; rfl
                    · by_cases e7 : q = q7
                      · rw [e7, a7_9, ← c7, show ad 7 = zad ((D.1.1, ad), D.2) o 7 from (zad_ok hok 7).symm, zmod_a _ _ _ _ _ (by decide)]; rfl
                      · by_cases e8 : q = q8
                        · rw [e8, a8_9, ← c8, show ad 8 = zad ((D.1.1, ad), D.2) o 8 from (zad_ok hok 8).symm, zmod_a _ _ _ _ _ (by decide)]; rfl
                        · rw [fr9 q e e0 e1 e2 e3 e4 e5 e6 e7 e8]
                          unfold zmod
                          rw [if_neg e]
                          simp only [zmA, zad_ok hok, c0, c1, c2, c3, c4, c5, c6, c7, c8, e0, e1, e2, e3, e4, e5, e6, e7, e8, if_false]
    rw [hH]
    exact hQ ad hok hfr
  exact z_vret d_m_init_76 rfl (by decide) (by decide) (ad9 (fun j => match j with | 0 => q0 | 1 => q1 | 2 => q2 | 3 => q3 | 4 => q4 | 5 => q5 | 6 => q6 | 7 => q7 | _ => q8) rfl rfl rfl rfl rfl rfl rfl rfl rfl)
end M21
