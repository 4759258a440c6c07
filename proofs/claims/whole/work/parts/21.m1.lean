/-! The reference: at, digest, names and digits. Own work. -/
def zrow (va : Nat → Nat → Int32) (s : Nat) (bs : List Nat) : Prop := ∀ k, k < bs.length → bs.getD k 0 < 256 ∧ va 0 (240 * s + k) = sb_b (bs.getD k 0)
theorem sb_and {b : Nat} (h : b < 256) : sb_b b &&& nI 255 = nI b := (sb_byte b h).1
section M1
variable {l : Launch} {D : zD} {hp : zH} {o : Nat} {va : Nat → Nat → Int32} {vf : Nat → Int32} {Q : Option Value → zH → Prop}
theorem c_m_at (s k : Nat) {bs : List Nat} (hr : zrow va s bs) (hk : k < bs.length) (hs : 240 * s + k < 15840) (hQ : Q (some (.int (nI (bs.getD k 0)))) (zmod D o hp va vf)) : Runs l D M_m_at [.ref o, .int (nI s), .int (nI k)] (zmod D o hp va vf) 0 0 Q := by
  refine Runs.of rfl rfl (Nat.le_of_ble_eq_true rfl) ?_
  refine z_aload_n d_m_at_0 1 rfl rfl rfl ?_
  refine zm_getA 0 d_m_at_1 4 rfl f_m_7 rfl ?_
  refine z_sipush (v := nI 240) d_m_at_4 7 rfl rfl ?_
  refine z_iload_n d_m_at_7 8 rfl rfl rfl ?_
  first | refine z_imulN d_m_at_8 9 rfl ?_ | refine z_imul d_m_at_8 9 rfl ?_
  refine z_iload_n d_m_at_9 10 rfl rfl rfl ?_
  first | refine z_iaddN d_m_at_10 11 rfl ?_ | refine z_iadd d_m_at_10 11 rfl ?_
  refine zm_bald d_m_at_11 12 rfl (by omega) ?_
  refine z_sipush (v := nI 255) d_m_at_12 15 rfl rfl ?_
  refine z_iand d_m_at_15 16 rfl ?_
  rw [(hr k hk).2, sb_and (hr k hk).1]
  exact z_iret d_m_at_16 rfl (Nat.le_refl 0) (Nat.le_refl 0) hQ
theorem c_m_digest (b0 s n : Nat) {bs : List Nat} (hr : zrow va s bs) (hn : n ≤ bs.length) (hs : s < 66) (hl : bs.length ≤ 240) (hb0 : b0 < 16777213) (hQ : Q (some (.int (nI (dg b0 (bs.take n))))) (zmod D o hp va vf)) : Runs l D M_m_digest [.ref o, .int (nI b0), .int (nI s), .int (nI n)] (zmod D o hp va vf) 0 0 Q := by
  refine Runs.of rfl rfl (Nat.le_of_ble_eq_true rfl) ?_
  refine z_iload_n d_m_digest_0 1 rfl rfl rfl ?_
  refine z_i2lN d_m_digest_1 2 rfl (by omega) ?_
  refine z_lst4 d_m_digest_2 4 rfl rfl ?_
  refine z_iconst (v := nI 0) d_m_digest_4 5 rfl rfl ?_
  refine z_ist6 d_m_digest_5 7 rfl rfl ?_
  have loop : ∀ (i j : Nat), j + i = n → Z l D M_m_digest 0 0 Q (zmod D o hp va vf) 0 0 7 [some (.ref o), some (.int (nI b0)), some (.int (nI s)), some (.int (nI n)), some (.long (lN (dg b0 (bs.take j)))), none, some (.int (nI j))] [] := by
    intro i
    induction i with
    | zero =>
      intro j hj
      have hj : j = n := by omega
      subst hj
      refine z_iload d_m_digest_7 9 rfl rfl ?_
      refine z_iload_n d_m_digest_9 10 rfl rfl rfl ?_
      refine z_icmp_geN (tgt := 42) d_m_digest_10 13 rfl rfl (by omega) (by omega) (fun h10 => ?_) (fun h10 => ?_)
      · refine z_lload d_m_digest_42 44 rfl rfl ?_
        refine z_l2iN d_m_digest_44 45 rfl ?_
        exact z_iret d_m_digest_45 rfl (Nat.le_refl 0) (Nat.le_refl 0) hQ
      · omega
    | succ i ih =>
      intro j hj
      refine z_iload d_m_digest_7 9 rfl rfl ?_
      refine z_iload_n d_m_digest_9 10 rfl rfl rfl ?_
      refine z_icmp_geN (tgt := 42) d_m_digest_10 13 rfl rfl (by omega) (by omega) (fun h10 => ?_) (fun h10 => ?_)
      · omega
      · have hd := dg_lt hb0 (bs.take j)
        have hbj := (hr j (by omega)).1
        refine z_ldc2 d_m_digest_13 16 rfl ct_m_38 ?_
        refine z_lload d_m_digest_16 18 rfl rfl ?_
        first | refine z_lmulN d_m_digest_18 19 rfl ?_ | refine z_lmul d_m_digest_18 19 rfl ?_
        refine z_aload_n d_m_digest_19 20 rfl rfl rfl ?_
        refine z_iload_n d_m_digest_20 21 rfl rfl rfl ?_
        refine z_iload d_m_digest_21 23 rfl rfl ?_
        refine zm_cV1 d_m_digest_23 26 rfl mv_m_at kl_m_40 (by decide) (fun Q' h => c_m_at s j hr (by omega) (by omega) h) rfl rfl (Nat.le_of_ble_eq_true rfl) ?_
        refine z_i2lN d_m_digest_26 27 rfl (by omega) ?_
        first | refine z_laddN d_m_digest_27 28 rfl ?_ | refine z_ladd d_m_digest_27 28 rfl ?_
        refine z_lconst (v := lN 1) d_m_digest_28 29 rfl rfl ?_
        first | refine z_laddN d_m_digest_29 30 rfl ?_ | refine z_ladd d_m_digest_29 30 rfl ?_
        refine z_ldc2 d_m_digest_30 33 rfl ct_m_44 ?_
        refine z_lremN d_m_digest_33 34 rfl (by omega) (by omega) (by omega) ?_
        refine z_lst4 d_m_digest_34 36 rfl rfl ?_
        have e : (257 * dg b0 (bs.take j) + bs.getD j 0 + 1) % 16777213 = dg b0 (bs.take (j + 1)) := by
          rw [List.take_add_one, show bs[j]? = some (bs.getD j 0) by rw [List.getD_eq_getElem?_getD, List.getElem?_eq_getElem (by omega)]; rfl]
          rw [show (some (bs.getD j 0)).toList = [bs.getD j 0] from rfl, dg_snoc]
          rfl
        rw [e]
        first | refine z_incN6 d_m_digest_36 39 rfl rfl ?_ | refine z_inc6 d_m_digest_36 39 rfl rfl rfl ?_
        refine z_goto (tgt := 7) d_m_digest_39 rfl ?_
        exact ih (j + 1) (by omega)
  exact loop n 0 (by omega)
theorem c_m_isName (v : Int32) (hQ : Q (some (.int (if 0 ≤ v ∧ v ≤ nI 16777215 then 1 else 0))) hp) : Runs l D M_m_isName [.int v] hp 0 0 Q := by
  sorry
end M1
