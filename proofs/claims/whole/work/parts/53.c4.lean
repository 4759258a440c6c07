/-! The class: tag cards, rows joined, the draft. Own work. -/
theorem sb_b8 (w : Nat) : (sb_b w).toInt8.toInt32 = sb_b w := by
  have := pk_vb (nI w)
  rw [vp_nar_byte] at this
  exact this
section C4
variable {l : Launch} {D : zD} {M : zM} {hp : zH} {a b : Nat} {f : Nat → Int32} {Q : Option Value → zH → Prop} {bs : List Nat}
theorem c_R_digestF (ha : hp a = some (.inr (7, [.ref b, .int (nI bs.length)]))) (hb : hp b = some (.inl (D.2 0, 240, .inl f))) (hab : b ≠ a) (hf : byP f bs) (hl : bs.length ≤ 240) (hQ : Q (some (.int (nI (dg 7 bs)))) hp) : Runs l D M_R_digest [.ref a] hp 0 0 Q := by
  have e := rwU_same ha hb
  rw [← e] at hQ ⊢
  exact c_R_digest hab hf hl hQ
theorem c_R_addRow {a2 b2 : Nat} {g2 : Nat → Int32} {cs : List Nat} (hab : b ≠ a) (hf : byP f bs) (hA2 : hp a2 = some (.inr (7, [.ref b2, .int (nI cs.length)]))) (hB2 : hp b2 = some (.inl (D.2 0, 240, .inl g2))) (hg : byP g2 cs) (hc : cs.length ≤ 240) (n1 : a2 ≠ a) (n2 : a2 ≠ b) (n3 : b2 ≠ a) (n4 : b2 ≠ b) (hl : bs.length + cs.length ≤ 240) (hQ : ∀ g, byP g (bs ++ cs) → Q none (rwU D hp a b (bs ++ cs).length g)) : Runs l D M_R_addRow [.ref a, .ref a2] (rwU D hp a b bs.length f) 0 0 Q := by
  refine Runs.of rfl rfl (Nat.le_of_ble_eq_true rfl) ?_
  have hA : ∀ (n : Nat) (g : Nat → Int32), rwU D hp a b n g a2 = some (.inr (7, [.ref b2, .int (nI cs.length)])) := fun n g => by rw [rwU_o _ _ _ _ n1 n2]; exact hA2
  have hB : ∀ (n : Nat) (g : Nat → Int32), rwU D hp a b n g b2 = some (.inl (D.2 0, 240, .inl g2)) := fun n g => by rw [rwU_o _ _ _ _ n3 n4]; exact hB2
  refine z_iconst (v := nI 0) d_R_addRow_0 1 rfl rfl ?_
  refine z_ist2 d_R_addRow_1 2 rfl rfl ?_
  have loop : ∀ (c j : Nat) (g : Nat → Int32), j + c = cs.length → byP g (bs ++ cs.take j) → Z l D M_R_addRow 0 0 Q (rwU D hp a b (bs ++ cs.take j).length g) 0 0 2 [some (.ref a), some (.ref a2), some (.int (nI j))] [] := by
    intro c
    induction c with
    | zero =>
      intro j g hj hb
      rw [List.take_of_length_le (by omega)] at hb ⊢
      refine z_iload_n d_R_addRow_2 3 rfl rfl rfl ?_
      refine z_aload_n d_R_addRow_3 4 rfl rfl rfl ?_
      refine z_get d_R_addRow_4 7 rfl f_R_15 (hA _ _) rfl ?_
      refine z_icmp_geN (tgt := 26) d_R_addRow_7 10 rfl rfl (by omega) (by omega) (fun h7 => ?_) (fun h7 => ?_)
      · exact z_vret d_R_addRow_26 rfl (Nat.le_refl 0) (Nat.le_refl 0) (hQ g hb)
      · omega
    | succ c ih =>
      intro j g hj hb
      have hlen : (bs ++ cs.take j).length = bs.length + j := by simp; omega
      obtain ⟨hw, hgj⟩ := hg j (by omega)
      have htk : bs ++ cs.take j ++ [cs.getD j 0] = bs ++ cs.take (j + 1) := by
        rw [List.take_add_one, show cs[j]? = some (cs.getD j 0) by rw [List.getD_eq_getElem?_getD, List.getElem?_eq_getElem (by omega)]; rfl, List.append_assoc]
        rfl
      refine z_iload_n d_R_addRow_2 3 rfl rfl rfl ?_
      refine z_aload_n d_R_addRow_3 4 rfl rfl rfl ?_
      refine z_get d_R_addRow_4 7 rfl f_R_15 (hA _ _) rfl ?_
      refine z_icmp_geN (tgt := 26) d_R_addRow_7 10 rfl rfl (by omega) (by omega) (fun h7 => ?_) (fun h7 => ?_)
      · omega
      · refine z_aload_n d_R_addRow_10 11 rfl rfl rfl ?_
        refine z_aload_n d_R_addRow_11 12 rfl rfl rfl ?_
        refine z_get d_R_addRow_12 15 rfl f_R_9 (hA _ _) rfl ?_
        refine z_iload_n d_R_addRow_15 16 rfl rfl rfl ?_
        refine z_baldN d_R_addRow_16 17 rfl (hB _ _) (by omega) (by omega) ?_
        rw [hgj]
        refine zr_cV (B := (bs ++ cs.take j ++ [cs.getD j 0])) d_R_addRow_17 20 rfl mv_R_add kl_R_23 (by decide) (fun Q' h => c_R_add (bs := bs ++ cs.take j) (sb_b (cs.getD j 0)) (cs.getD j 0) hab hb (by omega) hw (sb_b8 _) h) rfl rfl (Nat.le_of_ble_eq_true rfl) (fun g1 h1 => ?_)
        rw [htk] at h1 ⊢
        first | refine z_incN2 d_R_addRow_20 23 rfl rfl ?_ | refine z_inc2 d_R_addRow_20 23 rfl rfl rfl ?_
        refine z_goto (tgt := 2) d_R_addRow_23 rfl ?_
        exact ih (j + 1) g1 (by omega) h1
  have := loop cs.length 0 f (by omega) (by simpa using hf)
  simpa using this
theorem c_R_addTagCard (x : Int32) (y : Option Nat) (hab : b ≠ a) (hf : byP f bs) (hl : bs.length + 12 ≤ 240) (hx1 : ¬ x < -10) (hx2 : x ≤ nI 9) (hy : ∀ v, y = some v → v < 16777216) (hQ : ∀ g, byP g (bs ++ ([84, 32, sgn x, 48 + dg1 x] ++ (match y with | none => [32, 42] | some v => 32 :: nmB v) ++ [10])) → Q none (rwU D hp a b (bs ++ ([84, 32, sgn x, 48 + dg1 x] ++ (match y with | none => [32, 42] | some v => 32 :: nmB v) ++ [10])).length g)) : Runs l D M_R_addTagCard [.ref a, .int x, .int (oI y)] (rwU D hp a b bs.length f) 0 0 Q := by
  refine Runs.of rfl rfl (Nat.le_of_ble_eq_true rfl) ?_
  obtain ⟨m, hm, hsg, hdg⟩ : ∃ m, m ≤ 9 ∧ m = dg1 x ∧ (if x < 0 then -1 - x else x) = nI m := by
    have h5 := dig5 x
    rw [decide_eq_true (⟨hx1, hx2⟩ : ¬ x < -10 ∧ x ≤ nI 9)] at h5
    have key : ∀ v : Int32, ¬ v < 0 → ¬ nI 9 < v → ∃ m, m ≤ 9 ∧ m = toN v ∧ v = nI m := by
      intro v h1 h2
      obtain ⟨e, he⟩ := nI_toN h1
      refine ⟨toN v, ?_, rfl, e⟩
      have h3 : ¬ 9 < toN v := fun q => h2 (by rw [e]; exact (nI_ltI (by decide) he).2 q)
      omega
    simp only [dgI, Bool.or_eq_true, Bool.and_eq_true, Bool.not_eq_true', decide_eq_false_iff_not] at h5
    by_cases hn : x < 0
    · obtain ⟨m, q1, q2, q3⟩ := key (-1 - x) (h5.elim (fun h => absurd hn h.1) (fun h => h.1)) (h5.elim (fun h => absurd hn h.1) (fun h => h.2))
      exact ⟨m, q1, by simp [dg1, hn, q2], by rw [if_pos hn]; exact q3⟩
    · obtain ⟨m, q1, q2, q3⟩ := key x hn (fun q => absurd (Int32.lt_of_lt_of_le q hx2) Int32.lt_irrefl)
      exact ⟨m, q1, by simp [dg1, hn, q2], by rw [if_neg hn]; exact q3⟩
  rw [← hsg] at hQ
  have hs2 : sgn x < 256 := by unfold sgn; split <;> decide
  refine z_aload_n d_R_addTagCard_0 1 rfl rfl rfl ?_
  refine z_bipush (v := nI 84) d_R_addTagCard_1 3 rfl rfl ?_
  refine zr_cV (B := (bs ++ [84])) d_R_addTagCard_3 6 rfl mv_R_add kl_R_23 (by decide) (fun Q' h => c_R_add (bs := bs) (nI (84)) (84) hab hf (by first | omega | (simp; omega)) (by omega) rfl h) rfl rfl (Nat.le_of_ble_eq_true rfl) (fun g1 h1 => ?_)
  refine z_aload_n d_R_addTagCard_6 7 rfl rfl rfl ?_
  refine z_bipush (v := nI 32) d_R_addTagCard_7 9 rfl rfl ?_
  refine zr_cV (B := (bs ++ [84] ++ [32])) d_R_addTagCard_9 12 rfl mv_R_add kl_R_23 (by decide) (fun Q' h => c_R_add (bs := bs ++ [84]) (nI (32)) (32) hab h1 (by first | omega | (simp; omega)) (by omega) rfl h) rfl rfl (Nat.le_of_ble_eq_true rfl) (fun g2 h2 => ?_)
  have g24 : Z l D M_R_addTagCard 0 0 Q (rwU D hp a b (bs ++ [84] ++ [32]).length g2) 0 0 24 [some (.ref a), some (.int x), some (.int (oI y))] [.int (nI (sgn x)), .ref a] := by
    refine zr_cV (B := (bs ++ [84] ++ [32] ++ [sgn x])) d_R_addTagCard_24 27 rfl mv_R_add kl_R_23 (by decide) (fun Q' h => c_R_add (bs := bs ++ [84] ++ [32]) (nI (sgn x)) (sgn x) hab h2 (by first | omega | (simp; omega)) (by omega) rfl h) rfl rfl (Nat.le_of_ble_eq_true rfl) (fun g3 h3 => ?_)
    refine z_aload_n d_R_addTagCard_27 28 rfl rfl rfl ?_
    refine z_bipush (v := nI 48) d_R_addTagCard_28 30 rfl rfl ?_
    refine z_iload_n d_R_addTagCard_30 31 rfl rfl rfl ?_
    have g41 : Z l D M_R_addTagCard 0 0 Q (rwU D hp a b (bs ++ [84] ++ [32] ++ [sgn x]).length g3) 0 0 41 [some (.ref a), some (.int x), some (.int (oI y))] [.int (nI m), .int (nI 48), .ref a] := by
      first | refine z_iaddN d_R_addTagCard_41 42 rfl ?_ | refine z_iadd d_R_addTagCard_41 42 rfl ?_
      refine zr_cV (B := (bs ++ [84] ++ [32] ++ [sgn x] ++ [48 + m])) d_R_addTagCard_42 45 rfl mv_R_add kl_R_23 (by decide) (fun Q' h => c_R_add (bs := bs ++ [84] ++ [32] ++ [sgn x]) (nI (48 + m)) (48 + m) hab h3 (by first | omega | (simp; omega)) (by omega) rfl h) rfl rfl (Nat.le_of_ble_eq_true rfl) (fun g4 h4 => ?_)
      refine z_iload_n d_R_addTagCard_45 46 rfl rfl rfl ?_
      refine z_iconst (v := -1) d_R_addTagCard_46 47 rfl (by decide) ?_
      refine z_icmp_ne (tgt := 65) d_R_addTagCard_47 50 rfl rfl (fun h47 => ?_) (fun h47 => ?_)
      · obtain ⟨v, rfl⟩ : ∃ v, y = some v := by
          cases y with
          | none => exact absurd rfl h47
          | some v => exact ⟨v, rfl⟩
        have hv := hy v rfl
        rw [show oI (some v) = nI v from rfl]
        refine z_aload_n d_R_addTagCard_65 66 rfl rfl rfl ?_
        refine z_iload_n d_R_addTagCard_66 67 rfl rfl rfl ?_
        refine zr_cV (B := (bs ++ [84] ++ [32] ++ [sgn x] ++ [48 + m] ++ (32 :: nmB v))) d_R_addTagCard_67 70 rfl mv_R_addSpaceAndName kl_R_27 (by decide) (fun Q' h => c_R_addSpaceAndName (bs := bs ++ [84] ++ [32] ++ [sgn x] ++ [48 + m]) v hab h4 (by first | omega | (simp; omega)) (by omega) h) rfl rfl (Nat.le_of_ble_eq_true rfl) (fun g5 h5 => ?_)
        refine z_aload_n d_R_addTagCard_70 71 rfl rfl rfl ?_
        refine z_bipush (v := nI 10) d_R_addTagCard_71 73 rfl rfl ?_
        refine zr_cV (B := (bs ++ [84] ++ [32] ++ [sgn x] ++ [48 + m] ++ (32 :: nmB v) ++ [10])) d_R_addTagCard_73 76 rfl mv_R_add kl_R_23 (by decide) (fun Q' h => c_R_add (bs := bs ++ [84] ++ [32] ++ [sgn x] ++ [48 + m] ++ (32 :: nmB v)) (nI (10)) (10) hab h5 (by simp [nmB]; omega) (by omega) rfl h) rfl rfl (Nat.le_of_ble_eq_true rfl) (fun g6 h6 => ?_)
        have e : bs ++ [84] ++ [32] ++ [sgn x] ++ [48 + m] ++ (32 :: nmB v) ++ [10] = bs ++ ([84, 32, sgn x, 48 + m] ++ (32 :: nmB v) ++ [10]) := by simp
        rw [e] at h6 ⊢
        exact z_vret d_R_addTagCard_76 rfl (Nat.le_refl 0) (Nat.le_refl 0) (hQ g6 h6)
      · have hy0 : y = none := by
          cases y with
          | none => rfl
          | some v => exact absurd h47 (fun e => by have := oI_pos (v := v) (by have := hy v rfl; omega); rw [e] at this; exact this (by decide))
        subst hy0
        refine z_aload_n d_R_addTagCard_50 51 rfl rfl rfl ?_
        refine z_bipush (v := nI 32) d_R_addTagCard_51 53 rfl rfl ?_
        refine zr_cV (B := (bs ++ [84] ++ [32] ++ [sgn x] ++ [48 + m] ++ [32])) d_R_addTagCard_53 56 rfl mv_R_add kl_R_23 (by decide) (fun Q' h => c_R_add (bs := bs ++ [84] ++ [32] ++ [sgn x] ++ [48 + m]) (nI (32)) (32) hab h4 (by first | omega | (simp; omega)) (by omega) rfl h) rfl rfl (Nat.le_of_ble_eq_true rfl) (fun g5 h5 => ?_)
        refine z_aload_n d_R_addTagCard_56 57 rfl rfl rfl ?_
        refine z_bipush (v := nI 42) d_R_addTagCard_57 59 rfl rfl ?_
        refine zr_cV (B := (bs ++ [84] ++ [32] ++ [sgn x] ++ [48 + m] ++ [32] ++ [42])) d_R_addTagCard_59 62 rfl mv_R_add kl_R_23 (by decide) (fun Q' h => c_R_add (bs := bs ++ [84] ++ [32] ++ [sgn x] ++ [48 + m] ++ [32]) (nI (42)) (42) hab h5 (by first | omega | (simp; omega)) (by omega) rfl h) rfl rfl (Nat.le_of_ble_eq_true rfl) (fun g6 h6 => ?_)
        refine z_goto (tgt := 70) d_R_addTagCard_62 rfl ?_
        refine z_aload_n d_R_addTagCard_70 71 rfl rfl rfl ?_
        refine z_bipush (v := nI 10) d_R_addTagCard_71 73 rfl rfl ?_
        refine zr_cV (B := (bs ++ [84] ++ [32] ++ [sgn x] ++ [48 + m] ++ [32] ++ [42] ++ [10])) d_R_addTagCard_73 76 rfl mv_R_add kl_R_23 (by decide) (fun Q' h => c_R_add (bs := bs ++ [84] ++ [32] ++ [sgn x] ++ [48 + m] ++ [32] ++ [42]) (nI (10)) (10) hab h6 (by first | omega | (simp; omega)) (by omega) rfl h) rfl rfl (Nat.le_of_ble_eq_true rfl) (fun g7 h7 => ?_)
        have e : bs ++ [84] ++ [32] ++ [sgn x] ++ [48 + m] ++ [32] ++ [42] ++ [10] = bs ++ ([84, 32, sgn x, 48 + m] ++ [32, 42] ++ [10]) := by simp
        rw [e] at h7 ⊢
        exact z_vret d_R_addTagCard_76 rfl (Nat.le_refl 0) (Nat.le_refl 0) (hQ g7 h7)
    refine z_if_lt (tgt := 38) d_R_addTagCard_31 34 rfl rfl (fun h31 => ?_) (fun h31 => ?_)
    · refine z_iconst (v := -1) d_R_addTagCard_38 39 rfl (by decide) ?_
      refine z_iload_n d_R_addTagCard_39 40 rfl rfl rfl ?_
      refine z_isub d_R_addTagCard_40 41 rfl ?_
      rw [if_pos h31] at hdg
      rw [hdg]
      exact g41
    · refine z_iload_n d_R_addTagCard_34 35 rfl rfl rfl ?_
      refine z_goto (tgt := 41) d_R_addTagCard_35 rfl ?_
      rw [if_neg h31] at hdg
      rw [hdg] at g41 ⊢
      exact g41
  refine z_aload_n d_R_addTagCard_12 13 rfl rfl rfl ?_
  refine z_iload_n d_R_addTagCard_13 14 rfl rfl rfl ?_
  refine z_if_lt (tgt := 22) d_R_addTagCard_14 17 rfl rfl (fun h14 => ?_) (fun h14 => ?_)
  · refine z_bipush (v := nI 45) d_R_addTagCard_22 24 rfl rfl ?_
    rw [show sgn x = 45 by simp [sgn, h14]] at g24
    exact g24
  · refine z_bipush (v := nI 43) d_R_addTagCard_17 19 rfl rfl ?_
    refine z_goto (tgt := 24) d_R_addTagCard_19 rfl ?_
    rw [show sgn x = 43 by simp [sgn, h14]] at g24
    exact g24
end C4
