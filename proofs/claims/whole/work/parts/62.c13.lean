/-! The JDK: min, copyOf. Own work. -/
theorem d_J_copyOf_b_0 : decode M_J_copyOf_b.2.1 0 = .ok (.iload_n 1, 1) := by decide +kernel
theorem d_J_copyOf_b_1 : decode M_J_copyOf_b.2.1 1 = .ok (.aload_n 0, 1) := by decide +kernel
theorem d_J_copyOf_b_2 : decode M_J_copyOf_b.2.1 2 = .ok (.arraylength, 1) := by decide +kernel
theorem d_J_copyOf_b_3 : decode M_J_copyOf_b.2.1 3 = .ok (.if_icmp .ne 11, 3) := by decide +kernel
theorem d_J_copyOf_b_6 : decode M_J_copyOf_b.2.1 6 = .ok (.aload_n 0, 1) := by decide +kernel
theorem d_J_copyOf_b_7 : decode M_J_copyOf_b.2.1 7 = .ok (.invokevirtual 310, 3) := by decide +kernel
theorem d_J_copyOf_b_10 : decode M_J_copyOf_b.2.1 10 = .ok (.checkcast 311, 3) := by decide +kernel
theorem d_J_copyOf_b_13 : decode M_J_copyOf_b.2.1 13 = .ok (.areturn, 1) := by decide +kernel
theorem d_J_copyOf_b_14 : decode M_J_copyOf_b.2.1 14 = .ok (.iload_n 1, 1) := by decide +kernel
theorem d_J_copyOf_b_15 : decode M_J_copyOf_b.2.1 15 = .ok (.newarray .byte, 2) := by decide +kernel
theorem d_J_copyOf_b_17 : decode M_J_copyOf_b.2.1 17 = .ok (.astore_n 2, 1) := by decide +kernel
theorem d_J_copyOf_b_18 : decode M_J_copyOf_b.2.1 18 = .ok (.aload_n 0, 1) := by decide +kernel
theorem d_J_copyOf_b_19 : decode M_J_copyOf_b.2.1 19 = .ok (.iconst 0, 1) := by decide +kernel
theorem d_J_copyOf_b_20 : decode M_J_copyOf_b.2.1 20 = .ok (.aload_n 2, 1) := by decide +kernel
theorem d_J_copyOf_b_21 : decode M_J_copyOf_b.2.1 21 = .ok (.iconst 0, 1) := by decide +kernel
theorem d_J_copyOf_b_22 : decode M_J_copyOf_b.2.1 22 = .ok (.aload_n 0, 1) := by decide +kernel
theorem d_J_copyOf_b_23 : decode M_J_copyOf_b.2.1 23 = .ok (.arraylength, 1) := by decide +kernel
theorem d_J_copyOf_b_24 : decode M_J_copyOf_b.2.1 24 = .ok (.iload_n 1, 1) := by decide +kernel
theorem d_J_copyOf_b_25 : decode M_J_copyOf_b.2.1 25 = .ok (.invokestatic 304, 3) := by decide +kernel
theorem d_J_copyOf_b_28 : decode M_J_copyOf_b.2.1 28 = .ok (.invokestatic 150, 3) := by decide +kernel
theorem d_J_copyOf_b_31 : decode M_J_copyOf_b.2.1 31 = .ok (.aload_n 2, 1) := by decide +kernel
theorem d_J_copyOf_b_32 : decode M_J_copyOf_b.2.1 32 = .ok (.areturn, 1) := by decide +kernel
theorem d_K_min_0 : decode M_K_min.2.1 0 = .ok (.iload_n 0, 1) := by decide +kernel
theorem d_K_min_1 : decode M_K_min.2.1 1 = .ok (.iload_n 1, 1) := by decide +kernel
theorem d_K_min_2 : decode M_K_min.2.1 2 = .ok (.if_icmp .gt 7, 3) := by decide +kernel
theorem d_K_min_5 : decode M_K_min.2.1 5 = .ok (.iload_n 0, 1) := by decide +kernel
theorem d_K_min_6 : decode M_K_min.2.1 6 = .ok (.goto 4, 3) := by decide +kernel
theorem d_K_min_9 : decode M_K_min.2.1 9 = .ok (.iload_n 1, 1) := by decide +kernel
theorem d_K_min_10 : decode M_K_min.2.1 10 = .ok (.ireturn, 1) := by decide +kernel
theorem d_J_copyOf_i_0 : decode M_J_copyOf_i.2.1 0 = .ok (.iload_n 1, 1) := by decide +kernel
theorem d_J_copyOf_i_1 : decode M_J_copyOf_i.2.1 1 = .ok (.aload_n 0, 1) := by decide +kernel
theorem d_J_copyOf_i_2 : decode M_J_copyOf_i.2.1 2 = .ok (.arraylength, 1) := by decide +kernel
theorem d_J_copyOf_i_3 : decode M_J_copyOf_i.2.1 3 = .ok (.if_icmp .ne 11, 3) := by decide +kernel
theorem d_J_copyOf_i_6 : decode M_J_copyOf_i.2.1 6 = .ok (.aload_n 0, 1) := by decide +kernel
theorem d_J_copyOf_i_7 : decode M_J_copyOf_i.2.1 7 = .ok (.invokevirtual 316, 3) := by decide +kernel
theorem d_J_copyOf_i_10 : decode M_J_copyOf_i.2.1 10 = .ok (.checkcast 317, 3) := by decide +kernel
theorem d_J_copyOf_i_13 : decode M_J_copyOf_i.2.1 13 = .ok (.areturn, 1) := by decide +kernel
theorem d_J_copyOf_i_14 : decode M_J_copyOf_i.2.1 14 = .ok (.iload_n 1, 1) := by decide +kernel
theorem d_J_copyOf_i_15 : decode M_J_copyOf_i.2.1 15 = .ok (.newarray .int, 2) := by decide +kernel
theorem d_J_copyOf_i_17 : decode M_J_copyOf_i.2.1 17 = .ok (.astore_n 2, 1) := by decide +kernel
theorem d_J_copyOf_i_18 : decode M_J_copyOf_i.2.1 18 = .ok (.aload_n 0, 1) := by decide +kernel
theorem d_J_copyOf_i_19 : decode M_J_copyOf_i.2.1 19 = .ok (.iconst 0, 1) := by decide +kernel
theorem d_J_copyOf_i_20 : decode M_J_copyOf_i.2.1 20 = .ok (.aload_n 2, 1) := by decide +kernel
theorem d_J_copyOf_i_21 : decode M_J_copyOf_i.2.1 21 = .ok (.iconst 0, 1) := by decide +kernel
theorem d_J_copyOf_i_22 : decode M_J_copyOf_i.2.1 22 = .ok (.aload_n 0, 1) := by decide +kernel
theorem d_J_copyOf_i_23 : decode M_J_copyOf_i.2.1 23 = .ok (.arraylength, 1) := by decide +kernel
theorem d_J_copyOf_i_24 : decode M_J_copyOf_i.2.1 24 = .ok (.iload_n 1, 1) := by decide +kernel
theorem d_J_copyOf_i_25 : decode M_J_copyOf_i.2.1 25 = .ok (.invokestatic 304, 3) := by decide +kernel
theorem d_J_copyOf_i_28 : decode M_J_copyOf_i.2.1 28 = .ok (.invokestatic 150, 3) := by decide +kernel
theorem d_J_copyOf_i_31 : decode M_J_copyOf_i.2.1 31 = .ok (.aload_n 2, 1) := by decide +kernel
theorem d_J_copyOf_i_32 : decode M_J_copyOf_i.2.1 32 = .ok (.areturn, 1) := by decide +kernel
theorem sb_fit : ∀ w, w < 256 → fits .byte (.int (sb_b w)) = true := by decide +kernel
section ZCL
variable {l : Launch} {D : zD} {M : zM} {mc ms : Nat} {Q : Option Value → zH → Prop} {hp : zH} {cu su pc : Nat} {lv : List (Option Value)} {rest : List Value}
theorem z_cloneB {index a n : Nat} {f : Nat → Int32} (hd : decode M.2.1 pc = .ok (.invokevirtual index, 3)) (pc' : Nat) (he : pc + 3 = pc') (hl9 : Cond.methodLink M.1.cls index ⟨"[B", "clone", "()Ljava/lang/Object;"⟩ ∈ zT) (ha : hp a = some (.inl (D.2 0, n, .inl f))) (hfit : ∀ i, i < n → fits .byte (.int (f i)) = true) (hfr : 1 ≤ M.2.2.2.2.1) (hlo : (rest.map fun v => v.category).sum + 14 ≤ M.2.2.2.2.2) (hcu : cu + 1 ≤ mc) (hsu : su + n ≤ ms) (kk : ∀ q, hp q = none → Z l D M mc ms Q (zset hp q (.inl (D.2 0, n, .inl f))) (cu + 1) (su + n) pc' lv (.ref q :: rest)) : Z l D M mc ms Q hp cu su pc lv (.ref a :: rest) := by
  subst he
  intro p e s m args below meth c H locs A ls Qc free hC hA hR hn hL hE
  obtain ⟨ws, hP, hD, hS, hw⟩ := hR
  obtain ⟨q0, hq0⟩ := (hw _ _).1 ha
  exact va_clone (ad := "[B") hC.1 hC.2.1 (by rw [hC.2.2.1, ← hn]; exact hL.1.symm) hC.own (hC.t _ hl9) (hC.t _ (zin 276 rfl rfl)) (hC.t _ (zin 277 rfl rfl)) (hC.t _ (zin 278 rfl rfl)) (hC.t _ (zin 279 rfl rfl)) (hC.k.2.1 _ (zinN 280 rfl rfl)) hC.k.1 hP hD hS hA q0 0 hq0 rfl (va_nm_byte (hC.k.1.2 0 (D.2 0, .byte) rfl).2) (va_fit hfit) hfr hlo hcu hsu hd (fun q H1 hK1 hP1 hD1 hS1 => kk q (zR_push hw hD1).1 p e s m args below meth c H1 locs A ls Qc free hC hA ⟨_, hP1, hD1, hS1, (zR_push hw hD1).2⟩ hn hL hE)
theorem z_castB {index a n : Nat} {f : Nat → Int32} (hd : decode M.2.1 pc = .ok (.checkcast index, 3)) (pc' : Nat) (he : pc + 3 = pc') (hcl : Cond.classLink M.1.cls index "[B" ∈ zT) (ha : hp a = some (.inl (D.2 0, n, .inl f))) (kk : Z l D M mc ms Q hp cu su pc' lv (.ref a :: rest)) : Z l D M mc ms Q hp cu su pc lv (.ref a :: rest) := by
  subst he
  intro p e s m args below meth c H locs A ls Qc free hC hA hR hn hL hE
  obtain ⟨ws, hP, hD, hS, hw⟩ := hR
  obtain ⟨q0, hq0⟩ := (hw _ _).1 ha
  exact va_castA hC.1 hC.2.1 hC.own (hC.t _ hcl) hP q0 hq0 (va_nm_byte (hC.k.1.2 0 (D.2 0, .byte) rfl).2) hd (kk p e s m args below meth c H locs A ls Qc free hC hA ⟨ws, hP, hD, hS, hw⟩ hn hL hE)
theorem z_mmin {index : Nat} {x y : Int32} (hd : decode M.2.1 pc = .ok (.invokestatic index, 3)) (pc' : Nat) (he : pc + 3 = pc') (hl9 : Cond.methodLink M.1.cls index Lib.Math.min.name ∈ zT) (hfr : 1 ≤ M.2.2.2.2.1) (hlo : (rest.map fun v => v.category).sum + 13 ≤ M.2.2.2.2.2) (hcu : cu ≤ mc) (hsu : su ≤ ms) (kk : Z l D M mc ms Q hp cu su pc' lv (.int (if y < x then y else x) :: rest)) : Z l D M mc ms Q hp cu su pc lv (.int y :: .int x :: rest) := by
  subst he
  intro p e s m args below meth c H locs A ls Qc free hC hA hR hn hL hE
  exact va_mmin hC.1 hC.2.1 (by rw [hC.2.2.1, ← hn]; exact hL.1.symm) hC.own (hC.t _ hl9) (hC.t _ (zin 283 rfl rfl)) (hC.t _ (zin 10 rfl rfl)) (hC.t _ (zin 284 rfl rfl)) hfr hlo hcu hsu hd (kk p e s m args below meth c H locs A ls Qc free hC hA hR hn hL hE)
end ZCL
section C13
variable {l : Launch} {D : zD} {M : zM} {h : zH} {b N : Nat} {f : Nat → Int32} {bs : List Nat} {Q : Option Value → zH → Prop}
theorem c_J_copyOf_b (hb : h b = some (.inl (D.2 0, N, .inl f))) (hf : byP f bs) (hn : bs.length ≤ N) (hN : N < 2 ^ 29) (hQ : ∀ q g, h q = none → byP g bs → Q (some (.ref q)) (zset h q (.inl (D.2 0, bs.length, .inl g)))) : Runs l D M_J_copyOf_b [.ref b, .int (nI bs.length)] h 1 bs.length Q := by
  refine Runs.of rfl rfl (Nat.le_of_ble_eq_true rfl) ?_
  refine z_iload_n d_J_copyOf_b_0 1 rfl rfl rfl ?_
  refine z_aload_n d_J_copyOf_b_1 2 rfl rfl rfl ?_
  refine z_alen d_J_copyOf_b_2 3 rfl (t := 0) (v := nI N) rfl hb rfl ?_
  refine z_icmp_neN (tgt := 14) d_J_copyOf_b_3 6 rfl rfl (by omega) (by omega) (fun h3 => ?_) (fun h3 => ?_)
  · refine z_iload_n d_J_copyOf_b_14 15 rfl rfl rfl ?_
    refine z_newB d_J_copyOf_b_15 17 rfl ac_byte (nI_pos (by omega)) (nI_clamp (by omega)) (Nat.le_refl 1) (by omega) (by omega) (fun q hq => ?_)
    have hbq : b ≠ q := fun e => by rw [e, hq] at hb; cases hb
    have hb2 := (zset_ne (x := .inl (D.2 0, bs.length, .inl (fun _ => (0 : Int32)))) hbq).trans hb
    refine z_ast2 d_J_copyOf_b_17 18 rfl rfl ?_
    refine z_aload_n d_J_copyOf_b_18 19 rfl rfl rfl ?_
    refine z_iconst (v := nI 0) d_J_copyOf_b_19 20 rfl rfl ?_
    refine z_aload_n d_J_copyOf_b_20 21 rfl rfl rfl ?_
    refine z_iconst (v := nI 0) d_J_copyOf_b_21 22 rfl rfl ?_
    refine z_aload_n d_J_copyOf_b_22 23 rfl rfl rfl ?_
    refine z_alen d_J_copyOf_b_23 24 rfl (t := 0) (v := nI N) rfl hb2 rfl ?_
    refine z_iload_n d_J_copyOf_b_24 25 rfl rfl rfl ?_
    refine z_mmin d_J_copyOf_b_25 28 rfl kl9_J_304 (by decide) (Nat.le_of_ble_eq_true rfl) (by omega) (by omega) ?_
    rw [if_pos (nI_lt (by omega) (by omega))]
    refine z_copy (sp := 0) (dp := 0) (t := 0) d_J_copyOf_b_28 31 rfl kl9_J_150 cp_n cp_s cp_i rfl rfl hb2 (zset_self _ _ _) (by omega) (by omega) (by omega) (by omega) (fun i hi => ?_) (by decide) (by decide) ?_
    · rw [Nat.zero_add, (hf i hi).2]
      exact sb_fit _ (hf i hi).1
    · refine z_aload_n d_J_copyOf_b_31 32 rfl rfl rfl ?_
      refine z_aret (r := some q) d_J_copyOf_b_32 rfl (Or.inr ⟨_, rfl⟩) (by omega) (by omega) ?_
      rw [zset_zset]
      refine hQ q _ hq ?_
      intro k hk
      refine ⟨(hf k hk).1, ?_⟩
      unfold va_cpy
      rw [if_pos (by omega)]
      simpa using (hf k hk).2
  · subst h3
    refine z_aload_n d_J_copyOf_b_6 7 rfl rfl rfl ?_
    refine z_cloneB d_J_copyOf_b_7 10 rfl kl9_J_310 hb (fun i hi => ?_) (by decide) (by decide) (Nat.le_refl 1) (by omega) (fun q hq => ?_)
    · rw [(hf i hi).2]
      exact sb_fit _ (hf i hi).1
    · refine z_castB d_J_copyOf_b_10 13 rfl (zin 281 rfl rfl) (zset_self _ _ _) ?_
      exact z_aret (r := some q) d_J_copyOf_b_13 rfl (Or.inr ⟨_, rfl⟩) (by omega) (by omega) (hQ q f hq hf)
theorem c_J_copyOf_i (n : Nat) (hb : h b = some (.inl (D.2 1, N, .inl f))) (hn : N < n) (hN : n < 2 ^ 26) (hQ : ∀ q g, h q = none → (∀ i, i < N → g i = f i) → Q (some (.ref q)) (zset h q (.inl (D.2 1, n, .inl g)))) : Runs l D M_J_copyOf_i [.ref b, .int (nI n)] h 1 n Q := by
  refine Runs.of rfl rfl (Nat.le_of_ble_eq_true rfl) ?_
  refine z_iload_n d_J_copyOf_i_0 1 rfl rfl rfl ?_
  refine z_aload_n d_J_copyOf_i_1 2 rfl rfl rfl ?_
  refine z_alen d_J_copyOf_i_2 3 rfl (t := 1) (v := nI N) rfl hb rfl ?_
  refine z_icmp_neN (tgt := 14) d_J_copyOf_i_3 6 rfl rfl (by omega) (by omega) (fun h3 => ?_) (fun h3 => ?_)
  · refine z_iload_n d_J_copyOf_i_14 15 rfl rfl rfl ?_
    refine z_newI d_J_copyOf_i_15 17 rfl ac_int (nI_pos (by omega)) (nI_clamp (by omega)) (Nat.le_refl 1) (by omega) (by omega) (fun q hq => ?_)
    have hbq : b ≠ q := fun e => by rw [e, hq] at hb; cases hb
    have hb2 := (zset_ne (x := .inl (D.2 1, n, .inl (fun _ => (0 : Int32)))) hbq).trans hb
    refine z_ast2 d_J_copyOf_i_17 18 rfl rfl ?_
    refine z_aload_n d_J_copyOf_i_18 19 rfl rfl rfl ?_
    refine z_iconst (v := nI 0) d_J_copyOf_i_19 20 rfl rfl ?_
    refine z_aload_n d_J_copyOf_i_20 21 rfl rfl rfl ?_
    refine z_iconst (v := nI 0) d_J_copyOf_i_21 22 rfl rfl ?_
    refine z_aload_n d_J_copyOf_i_22 23 rfl rfl rfl ?_
    refine z_alen d_J_copyOf_i_23 24 rfl (t := 1) (v := nI N) rfl hb2 rfl ?_
    refine z_iload_n d_J_copyOf_i_24 25 rfl rfl rfl ?_
    refine z_mmin d_J_copyOf_i_25 28 rfl kl9_J_304 (by decide) (Nat.le_of_ble_eq_true rfl) (by omega) (by omega) ?_
    rw [if_neg (nI_nlt (by omega) (by omega))]
    refine z_copy (sp := 0) (dp := 0) (t := 1) d_J_copyOf_i_28 31 rfl kl9_J_150 cp_n cp_s cp_i rfl rfl hb2 (zset_self _ _ _) (by omega) (by omega) (by omega) (by omega) (fun i hi => rfl) (by decide) (by decide) ?_
    refine z_aload_n d_J_copyOf_i_31 32 rfl rfl rfl ?_
    refine z_aret (r := some q) d_J_copyOf_i_32 rfl (Or.inr ⟨_, rfl⟩) (by omega) (by omega) ?_
    rw [zset_zset]
    refine hQ q _ hq ?_
    intro k hk
    unfold va_cpy
    rw [if_pos (by omega)]
    simp
  · omega
end C13
