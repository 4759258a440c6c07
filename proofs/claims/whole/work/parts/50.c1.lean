/-! The class: rows by Nat places; digestAfter; Row. Own work. -/
section ZN2
variable {l : Launch} {D : zD} {M : zM} {mc ms : Nat} {Q : Option Value → zH → Prop} {hp : zH} {cu su pc : Nat} {lv : List (Option Value)} {rest : List Value}
theorem z_baldN {a n j : Nat} {f : Nat → Int32} (hd : decode M.2.1 pc = .ok (.baload, 1)) (pc' : Nat) (he : pc + 1 = pc') (ha : hp a = some (.inl (D.2 0, n, .inl f))) (hj : j < n) (hn : n < 2 ^ 31) (kk : Z l D M mc ms Q hp cu su pc' lv (.int (f j) :: rest)) : Z l D M mc ms Q hp cu su pc lv (.int (nI j) :: .ref a :: rest) :=
  z_bald hd pc' he ha (vp_in_nI hj hn) (by rw [nI_clamp (by omega)]; exact kk)
theorem z_ialdN {a n j : Nat} {f : Nat → Int32} (hd : decode M.2.1 pc = .ok (.iaload, 1)) (pc' : Nat) (he : pc + 1 = pc') (ha : hp a = some (.inl (D.2 1, n, .inl f))) (hj : j < n) (hn : n < 2 ^ 31) (kk : Z l D M mc ms Q hp cu su pc' lv (.int (f j) :: rest)) : Z l D M mc ms Q hp cu su pc lv (.int (nI j) :: .ref a :: rest) :=
  z_iald hd pc' he ha (vp_in_nI hj hn) (by rw [nI_clamp (by omega)]; exact kk)
theorem z_bastN {a n j : Nat} {f : Nat → Int32} {x : Int32} (hd : decode M.2.1 pc = .ok (.bastore, 1)) (pc' : Nat) (he : pc + 1 = pc') (ha : hp a = some (.inl (D.2 0, n, .inl f))) (hj : j < n) (hn : n < 2 ^ 31) (kk : Z l D M mc ms Q (zset hp a (.inl (D.2 0, n, .inl (upd f j (vp_nar .byte x))))) cu su pc' lv rest) : Z l D M mc ms Q hp cu su pc lv (.int x :: .int (nI j) :: .ref a :: rest) :=
  z_bast hd pc' he ha (vp_in_nI hj hn) (by rw [nI_clamp (by omega)]; exact kk)
theorem z_iastN {a n j : Nat} {f : Nat → Int32} {x : Int32} (hd : decode M.2.1 pc = .ok (.iastore, 1)) (pc' : Nat) (he : pc + 1 = pc') (ha : hp a = some (.inl (D.2 1, n, .inl f))) (hj : j < n) (hn : n < 2 ^ 31) (kk : Z l D M mc ms Q (zset hp a (.inl (D.2 1, n, .inl (upd f j x)))) cu su pc' lv rest) : Z l D M mc ms Q hp cu su pc lv (.int x :: .int (nI j) :: .ref a :: rest) :=
  z_iast hd pc' he ha (vp_in_nI hj hn) (by rw [nI_clamp (by omega)]; exact kk)
end ZN2
/-- an array's contents are these bytes -/
def byP (f : Nat → Int32) (bs : List Nat) : Prop := ∀ k, k < bs.length → bs.getD k 0 < 256 ∧ f k = sb_b (bs.getD k 0)
theorem byP_snoc {f : Nat → Int32} {bs : List Nat} {w : Nat} (h : byP f bs) (hw : w < 256) : byP (upd f bs.length (sb_b w)) (bs ++ [w]) := by
  intro k hk
  simp at hk
  by_cases e : k = bs.length
  · subst e
    rw [pk_us]
    simp [hw]
  · rw [pk_un e, show (bs ++ [w]).getD k 0 = bs.getD k 0 by simp [List.getElem?_append_left (show k < bs.length by omega)]]
    exact h k (by omega)
/-- a Row: its object at a, its bytes at b -/
def rwU (D : zD) (hp : zH) (a b n : Nat) (f : Nat → Int32) : zH := zset (zset hp b (.inl (D.2 0, 240, .inl f))) a (.inr (7, [.ref b, .int (nI n)]))
theorem rwU_a (D : zD) (hp : zH) (a b n : Nat) (f : Nat → Int32) : rwU D hp a b n f a = some (.inr (7, [.ref b, .int (nI n)])) := zset_self _ _ _
theorem rwU_b (D : zD) (hp : zH) {a b : Nat} (n : Nat) (f : Nat → Int32) (h : b ≠ a) : rwU D hp a b n f b = some (.inl (D.2 0, 240, .inl f)) := by
  unfold rwU
  rw [zset_ne h]
  exact zset_self _ _ _
theorem rwU_o (D : zD) (hp : zH) {a b q : Nat} (n : Nat) (f : Nat → Int32) (h : q ≠ a) (h2 : q ≠ b) : rwU D hp a b n f q = hp q := by
  unfold rwU
  rw [zset_ne h, zset_ne h2]
theorem rwU_setA (D : zD) (hp : zH) (a b n m : Nat) (f : Nat → Int32) : zset (rwU D hp a b n f) a (.inr (7, [.ref b, .int (nI m)])) = rwU D hp a b m f := by
  funext q
  unfold rwU zset
  by_cases h : q = a
  · simp [h]
  · simp [h]
theorem rwU_setB (D : zD) (hp : zH) {a b : Nat} (n : Nat) (f g : Nat → Int32) (hab : b ≠ a) : zset (rwU D hp a b n f) b (.inl (D.2 0, 240, .inl g)) = rwU D hp a b n g := by
  funext q
  unfold rwU zset
  by_cases h : q = b
  · simp [h, hab]
  · simp [h]
theorem rwU_same {D : zD} {hp : zH} {a b n : Nat} {f : Nat → Int32} (ha : hp a = some (.inr (7, [.ref b, .int (nI n)]))) (hb : hp b = some (.inl (D.2 0, 240, .inl f))) : rwU D hp a b n f = hp := by
  funext q
  unfold rwU zset
  by_cases h : q = a
  · rw [if_pos h, h, ha]
  · rw [if_neg h]
    by_cases h2 : q = b
    · rw [if_pos h2, h2, hb]
    · rw [if_neg h2]
section C1
variable {l : Launch} {D : zD} {hp : zH} {a b : Nat} {f : Nat → Int32} {Q : Option Value → zH → Prop} {bs : List Nat}
theorem c_B_digestAfter (d n N : Nat) (hb : hp b = some (.inl (D.2 0, N, .inl f))) (hf : byP f bs) (hn : n ≤ bs.length) (hN : bs.length ≤ N) (hN2 : N < 2 ^ 31) (hd : d < 16777213) (hQ : Q (some (.int (nI (dg d (bs.take n))))) hp) : Runs l D M_B_digestAfter [.int (nI d), .ref b, .int (nI n)] hp 0 0 Q := by
  refine Runs.of rfl rfl (Nat.le_of_ble_eq_true rfl) ?_
  refine z_iload_n d_B_digestAfter_0 1 rfl rfl rfl ?_
  refine z_i2lN d_B_digestAfter_1 2 rfl (by omega) ?_
  refine z_lst3 d_B_digestAfter_2 3 rfl rfl ?_
  refine z_iconst (v := nI 0) d_B_digestAfter_3 4 rfl rfl ?_
  refine z_ist5 d_B_digestAfter_4 6 rfl rfl ?_
  have loop : ∀ (i j : Nat), j + i = n → Z l D M_B_digestAfter 0 0 Q hp 0 0 6 [some (.int (nI d)), some (.ref b), some (.int (nI n)), some (.long (lN (dg d (bs.take j)))), none, some (.int (nI j))] [] := by
    intro i
    induction i with
    | zero =>
      intro j hj
      have hj : j = n := by omega
      subst hj
      refine z_iload d_B_digestAfter_6 8 rfl rfl ?_
      refine z_iload_n d_B_digestAfter_8 9 rfl rfl rfl ?_
      refine z_icmp_geN (tgt := 40) d_B_digestAfter_9 12 rfl rfl (by omega) (by omega) (fun h9 => ?_) (fun h9 => ?_)
      · refine z_lload_n d_B_digestAfter_40 41 rfl rfl rfl ?_
        refine z_l2iN d_B_digestAfter_41 42 rfl ?_
        exact z_iret d_B_digestAfter_42 rfl (Nat.le_refl 0) (Nat.le_refl 0) hQ
      · omega
    | succ i ih =>
      intro j hj
      refine z_iload d_B_digestAfter_6 8 rfl rfl ?_
      refine z_iload_n d_B_digestAfter_8 9 rfl rfl rfl ?_
      refine z_icmp_geN (tgt := 40) d_B_digestAfter_9 12 rfl rfl (by omega) (by omega) (fun h9 => ?_) (fun h9 => ?_)
      · omega
      · have hdl := dg_lt hd (bs.take j)
        obtain ⟨hbj, hfj⟩ := hf j (by omega)
        refine z_ldc2 d_B_digestAfter_12 15 rfl ct_B_186 ?_
        refine z_lload_n d_B_digestAfter_15 16 rfl rfl rfl ?_
        first | refine z_lmulN d_B_digestAfter_16 17 rfl ?_ | refine z_lmul d_B_digestAfter_16 17 rfl ?_
        refine z_aload_n d_B_digestAfter_17 18 rfl rfl rfl ?_
        refine z_iload d_B_digestAfter_18 20 rfl rfl ?_
        refine z_baldN d_B_digestAfter_20 21 rfl (by assumption) (by omega) (by omega) ?_
        rw [hfj]
        refine z_sipush (v := nI 255) d_B_digestAfter_21 24 rfl rfl ?_
        refine z_iand d_B_digestAfter_24 25 rfl ?_
        rw [sb_and hbj]
        refine z_i2lN d_B_digestAfter_25 26 rfl (by omega) ?_
        first | refine z_laddN d_B_digestAfter_26 27 rfl ?_ | refine z_ladd d_B_digestAfter_26 27 rfl ?_
        refine z_lconst (v := lN 1) d_B_digestAfter_27 28 rfl rfl ?_
        first | refine z_laddN d_B_digestAfter_28 29 rfl ?_ | refine z_ladd d_B_digestAfter_28 29 rfl ?_
        refine z_ldc2 d_B_digestAfter_29 32 rfl ct_B_188 ?_
        refine z_lremN d_B_digestAfter_32 33 rfl (by omega) (by omega) (by omega) ?_
        refine z_lst3 d_B_digestAfter_33 34 rfl rfl ?_
        rw [← dg_take_succ d (by omega)]
        first | refine z_incN5 d_B_digestAfter_34 37 rfl rfl ?_ | refine z_inc5 d_B_digestAfter_34 37 rfl rfl rfl ?_
        refine z_goto (tgt := 6) d_B_digestAfter_37 rfl ?_
        exact ih (j + 1) (by omega)
  exact loop n 0 (by omega)
theorem c_R_clear (n : Nat) (hQ : Q none (rwU D hp a b 0 f)) : Runs l D M_R_clear [.ref a] (rwU D hp a b n f) 0 0 Q := by
  refine Runs.of rfl rfl (Nat.le_of_ble_eq_true rfl) ?_
  refine z_aload_n d_R_clear_0 1 rfl rfl rfl ?_
  refine z_iconst (v := nI 0) d_R_clear_1 2 rfl rfl ?_
  refine z_put d_R_clear_2 5 rfl (p_R_15 _) (rwU_a _ _ _ _ _ _) rfl rfl (Nat.le_of_ble_eq_true rfl) rfl ?_; dsimp only [List.set]
  rw [rwU_setA]
  exact z_vret d_R_clear_5 rfl (Nat.le_refl 0) (Nat.le_refl 0) hQ
theorem c_R_hasRoomFor (n m : Nat) (hn : n < 2 ^ 30) (hm : m < 2 ^ 30) (hQ : Q (some (.int (zb (decide (n + m ≤ 240))))) (rwU D hp a b n f)) : Runs l D M_R_hasRoomFor [.ref a, .int (nI m)] (rwU D hp a b n f) 0 0 Q := by
  refine Runs.of rfl rfl (Nat.le_of_ble_eq_true rfl) ?_
  refine z_aload_n d_R_hasRoomFor_0 1 rfl rfl rfl ?_
  refine z_get d_R_hasRoomFor_1 4 rfl f_R_15 (rwU_a _ _ _ _ _ _) rfl ?_
  refine z_iload_n d_R_hasRoomFor_4 5 rfl rfl rfl ?_
  first | refine z_iaddN d_R_hasRoomFor_5 6 rfl ?_ | refine z_iadd d_R_hasRoomFor_5 6 rfl ?_
  refine z_sipush (v := nI 240) d_R_hasRoomFor_6 9 rfl rfl ?_
  refine z_icmp_gtN (tgt := 16) d_R_hasRoomFor_9 12 rfl rfl (by omega) (by omega) (fun h9 => ?_) (fun h9 => ?_)
  · refine z_iconst (v := nI 0) d_R_hasRoomFor_16 17 rfl rfl ?_
    exact z_zretB (b := false) d_R_hasRoomFor_17 rfl (Nat.le_refl 0) (Nat.le_refl 0) (by rw [show decide (n + m ≤ 240) = false by simp; omega] at hQ; exact hQ)
  · refine z_iconst (v := nI 1) d_R_hasRoomFor_12 13 rfl rfl ?_
    refine z_goto (tgt := 17) d_R_hasRoomFor_13 rfl ?_
    exact z_zretB (b := true) d_R_hasRoomFor_17 rfl (Nat.le_refl 0) (Nat.le_refl 0) (by rw [show decide (n + m ≤ 240) = true by simp; omega] at hQ; exact hQ)
theorem c_R_digest (hab : b ≠ a) (hf : byP f bs) (hl : bs.length ≤ 240) (hQ : Q (some (.int (nI (dg 7 bs)))) (rwU D hp a b bs.length f)) : Runs l D M_R_digest [.ref a] (rwU D hp a b bs.length f) 0 0 Q := by
  refine Runs.of rfl rfl (Nat.le_of_ble_eq_true rfl) ?_
  refine z_bipush (v := nI 7) d_R_digest_0 2 rfl rfl ?_
  refine z_aload_n d_R_digest_2 3 rfl rfl rfl ?_
  refine z_get d_R_digest_3 6 rfl f_R_9 (rwU_a _ _ _ _ _ _) rfl ?_
  refine z_aload_n d_R_digest_6 7 rfl rfl rfl ?_
  refine z_get d_R_digest_7 10 rfl f_R_15 (rwU_a _ _ _ _ _ _) rfl ?_
  refine z_cS1 d_R_digest_10 13 rfl ms_B_digestAfter kl_R_19 (by decide) 0 0 rfl rfl (Nat.le_refl 0) (Nat.le_refl 0) (fun Q' h => c_B_digestAfter 7 _ 240 (rwU_b _ _ _ _ hab) hf (Nat.le_refl _) hl (by decide) (by decide) h) rfl rfl (Nat.le_of_ble_eq_true rfl) ?_
  rw [List.take_length]
  exact z_iret d_R_digest_13 rfl (Nat.le_refl 0) (Nat.le_refl 0) hQ
theorem c_R_add (x : Int32) (w : Nat) (hab : b ≠ a) (hf : byP f bs) (hl : bs.length < 240) (hw : w < 256) (hx : x.toInt8.toInt32 = sb_b w) (hQ : ∀ g, byP g (bs ++ [w]) → Q none (rwU D hp a b (bs ++ [w]).length g)) : Runs l D M_R_add [.ref a, .int x] (rwU D hp a b bs.length f) 0 0 Q := by
  refine Runs.of rfl rfl (Nat.le_of_ble_eq_true rfl) ?_
  refine z_aload_n d_R_add_0 1 rfl rfl rfl ?_
  refine z_get d_R_add_1 4 rfl f_R_15 (rwU_a _ _ _ _ _ _) rfl ?_
  refine z_sipush (v := nI 240) d_R_add_4 7 rfl rfl ?_
  refine z_icmp_geN (tgt := 31) d_R_add_7 10 rfl rfl (by omega) (by omega) (fun h7 => ?_) (fun h7 => ?_)
  · omega
  · refine z_aload_n d_R_add_10 11 rfl rfl rfl ?_
    refine z_get d_R_add_11 14 rfl f_R_9 (rwU_a _ _ _ _ _ _) rfl ?_
    refine z_aload_n d_R_add_14 15 rfl rfl rfl ?_
    refine z_get d_R_add_15 18 rfl f_R_15 (rwU_a _ _ _ _ _ _) rfl ?_
    refine z_iload_n d_R_add_18 19 rfl rfl rfl ?_
    refine z_i2b d_R_add_19 20 rfl rfl ?_
    refine z_bastN d_R_add_20 21 rfl (rwU_b _ _ _ _ hab) (by omega) (by omega) ?_
    rw [hx, show vp_nar .byte (sb_b w) = sb_b w from pk_vb _, rwU_setB _ _ _ _ _ hab]
    refine z_aload_n d_R_add_21 22 rfl rfl rfl ?_
    refine z_dup d_R_add_22 23 rfl rfl ?_
    refine z_get d_R_add_23 26 rfl f_R_15 (rwU_a _ _ _ _ _ _) rfl ?_
    refine z_iconst (v := nI 1) d_R_add_26 27 rfl rfl ?_
    first | refine z_iaddN d_R_add_27 28 rfl ?_ | refine z_iadd d_R_add_27 28 rfl ?_
    refine z_put d_R_add_28 31 rfl (p_R_15 _) (rwU_a _ _ _ _ _ _) rfl rfl (Nat.le_of_ble_eq_true rfl) rfl ?_; dsimp only [List.set]
    rw [rwU_setA]
    have := hQ _ (byP_snoc hf hw)
    rw [show (bs ++ [w]).length = bs.length + 1 by simp] at this
    exact z_vret d_R_add_31 rfl (Nat.le_refl 0) (Nat.le_refl 0) this
end C1
