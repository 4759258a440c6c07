/-! The class: new rows and sets. Own work. -/
section C17
variable {l : Launch} {D : zD} {M : zM} {h : zH} {o b N T : Nat} {f : Nat → Int32} {ns : List Nat} {Q : Option Value → zH → Prop}
theorem c_N_init (ho : h o = some (.inr (6, [.null, .int 0]))) (hQ : ∀ b, h b = none → Q none (zset (zset h b (.inl (D.2 1, 16, .inl (fun _ => 0)))) o (.inr (6, [.ref b, .int (nI 0)])))) : Runs l D M_N_init [.ref o] h 1 16 Q := by
  refine Runs.of rfl rfl (Nat.le_of_ble_eq_true rfl) ?_
  refine z_aload_n d_N_init_0 1 rfl rfl rfl ?_
  refine z_objInit d_N_init_1 4 rfl kl9_N_1 oi_i oi_c (by decide) (Nat.le_of_ble_eq_true rfl) ?_
  refine z_aload_n d_N_init_4 5 rfl rfl rfl ?_
  refine z_bipush (v := nI 16) d_N_init_5 7 rfl rfl ?_
  refine z_newI (N := 16) d_N_init_7 9 rfl ac_int (by decide) rfl (by decide) (by decide) (by decide) (fun b hb => ?_)
  have hob : o ≠ b := fun e => by rw [e, hb] at ho; cases ho
  refine z_put d_N_init_9 12 rfl (p_N_7 _) ((zset_ne hob).trans ho) rfl rfl (Nat.le_of_ble_eq_true rfl) rfl ?_; dsimp only [List.set]
  refine z_aload_n d_N_init_12 13 rfl rfl rfl ?_
  refine z_iconst (v := nI 0) d_N_init_13 14 rfl rfl ?_
  refine z_put d_N_init_14 17 rfl (p_N_13 _) (zset_self _ _ _) rfl rfl (Nat.le_of_ble_eq_true rfl) rfl ?_; dsimp only [List.set]
  rw [zset_zset]
  exact z_vret d_N_init_17 rfl (by decide) (by decide) (hQ b hb)
theorem c_R_init (ho : h o = some (.inr (7, [.null, .int 0]))) (hQ : ∀ b, h b = none → Q none (zset (zset h b (.inl (D.2 0, 240, .inl (fun _ => 0)))) o (.inr (7, [.ref b, .int (nI 0)])))) : Runs l D M_R_init [.ref o] h 1 240 Q := by
  refine Runs.of rfl rfl (Nat.le_of_ble_eq_true rfl) ?_
  refine z_aload_n d_R_init_0 1 rfl rfl rfl ?_
  refine z_objInit d_R_init_1 4 rfl kl9_R_3 oi_i oi_c (by decide) (Nat.le_of_ble_eq_true rfl) ?_
  refine z_aload_n d_R_init_4 5 rfl rfl rfl ?_
  refine z_sipush (v := nI 240) d_R_init_5 8 rfl rfl ?_
  refine z_newB (N := 240) d_R_init_8 10 rfl ac_byte (by decide) rfl (by decide) (by decide) (by decide) (fun b hb => ?_)
  have hob : o ≠ b := fun e => by rw [e, hb] at ho; cases ho
  refine z_put d_R_init_10 13 rfl p_R_9 ((zset_ne hob).trans ho) rfl rfl (Nat.le_of_ble_eq_true rfl) rfl ?_; dsimp only [List.set]
  refine z_aload_n d_R_init_13 14 rfl rfl rfl ?_
  refine z_iconst (v := nI 0) d_R_init_14 15 rfl rfl ?_
  refine z_put d_R_init_15 18 rfl (p_R_15 _) (zset_self _ _ _) rfl rfl (Nat.le_of_ble_eq_true rfl) rfl ?_; dsimp only [List.set]
  rw [zset_zset]
  exact z_vret d_R_init_18 rfl (by decide) (by decide) (hQ b hb)
theorem c_H_clear {v1 : Value} (n : Int32) (ho : h o = some (.inr (5, [v1, .int n]))) (hQ : Q none (zset h o (.inr (5, [v1, .int (nI 0)])))) : Runs l D M_H_clear [.ref o] h 0 0 Q := by
  refine Runs.of rfl rfl (Nat.le_of_ble_eq_true rfl) ?_
  refine z_aload_n d_H_clear_0 1 rfl rfl rfl ?_
  refine z_iconst (v := nI 0) d_H_clear_1 2 rfl rfl ?_
  refine z_put d_H_clear_2 5 rfl (p_H_17 _) ho rfl rfl (Nat.le_of_ble_eq_true rfl) rfl ?_; dsimp only [List.set]
  exact z_vret d_H_clear_5 rfl (by decide) (by decide) hQ
theorem c_H_init (ho : h o = some (.inr (5, [.null, .int 0]))) (hQ : ∀ b, h b = none → Q none (zset (zset h b (.inl (D.2 2, 32, .inr (.inr (.inr (.inr (fun _ => none))))))) o (.inr (5, [.ref b, .int (nI 0)])))) : Runs l D M_H_init [.ref o] h 1 32 Q := by
  refine Runs.of rfl rfl (Nat.le_of_ble_eq_true rfl) ?_
  refine z_aload_n d_H_init_0 1 rfl rfl rfl ?_
  refine z_objInit d_H_init_1 4 rfl kl9_H_3 oi_i oi_c (by decide) (Nat.le_of_ble_eq_true rfl) ?_
  refine z_aload_n d_H_init_4 5 rfl rfl rfl ?_
  refine z_bipush (v := nI 32) d_H_init_5 7 rfl rfl ?_
  refine z_anew (t := 2) (N := 32) d_H_init_7 10 rfl cl_H_9 (by decide) rfl (by decide) rfl (by decide) (by decide) (by decide) (fun b hb => ?_)
  have hob : o ≠ b := fun e => by rw [e, hb] at ho; cases ho
  refine z_put d_H_init_10 13 rfl p_H_11 ((zset_ne hob).trans ho) rfl rfl (Nat.le_of_ble_eq_true rfl) rfl ?_; dsimp only [List.set]
  refine z_aload_n d_H_init_13 14 rfl rfl rfl ?_
  refine z_iconst (v := nI 0) d_H_init_14 15 rfl rfl ?_
  refine z_put d_H_init_15 18 rfl (p_H_17 _) (zset_self _ _ _) rfl rfl (Nat.le_of_ble_eq_true rfl) rfl ?_; dsimp only [List.set]
  rw [zset_zset]
  exact z_vret d_H_init_18 rfl (by decide) (by decide) (hQ b hb)
end C17
