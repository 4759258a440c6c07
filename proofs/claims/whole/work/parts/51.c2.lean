/-! The class: cards are written into a Row. Own work. -/
section C2
variable {l : Launch} {D : zD} {M : zM} {hp : zH} {a b : Nat} {f : Nat → Int32} {Q : Option Value → zH → Prop} {bs : List Nat} {pc : Nat} {lv : List (Option Value)} {rest : List Value}
theorem zr_cV {index n m : Nat} {M' : zM} {as st : List Value} {B : List Nat} (hd : decode M.2.1 pc = .ok (.invokevirtual index, 3)) (pc' : Nat) (he : pc + 3 = pc') (hM : zMV M' n 7) (hl : zLk M.1.cls M'.1 index) (hR : zRm M M') (hr : ∀ Q' : Option Value → zH → Prop, (∀ g, byP g B → Q' none (rwU D hp a b B.length g)) → Runs l D M' (.ref a :: as) (rwU D hp a b m f) 0 0 Q') (hn : as.length = n) (hs : st = as.reverse ++ .ref a :: rest) (hrest : (rest.map fun v => v.category).sum ≤ 8)
    (kk : ∀ g, byP g B → Z l D M 0 0 Q (rwU D hp a b B.length g) 0 0 pc' lv rest) : Z l D M 0 0 Q (rwU D hp a b m f) 0 0 pc lv st := by
  refine z_cV (Q' := fun r h => ∃ g, byP g B ∧ r = none ∧ h = rwU D hp a b B.length g) hd pc' he hM hl hR 0 0 rfl rfl (Nat.le_refl 0) (Nat.le_refl 0) (rwU_a _ _ _ _ _ _) (hr _ (fun g hg => ⟨g, hg, rfl, rfl⟩)) hn hs hrest ?_
  rintro r h ⟨g, hg, rfl, rfl⟩
  exact kk g hg
theorem c_R_addSpaceAndName (n : Nat) (hab : b ≠ a) (hf : byP f bs) (hl : bs.length + 7 ≤ 240) (hn : n < 16777216) (hQ : ∀ g, byP g (bs ++ (32 :: nmB n)) → Q none (rwU D hp a b (bs ++ (32 :: nmB n)).length g)) : Runs l D M_R_addSpaceAndName [.ref a, .int (nI n)] (rwU D hp a b bs.length f) 0 0 Q := by
  refine Runs.of rfl rfl (Nat.le_of_ble_eq_true rfl) ?_
  refine z_aload_n d_R_addSpaceAndName_0 1 rfl rfl rfl ?_
  refine z_bipush (v := nI 32) d_R_addSpaceAndName_1 3 rfl rfl ?_
  refine zr_cV (B := (bs ++ [32])) d_R_addSpaceAndName_3 6 rfl mv_R_add kl_R_23 (by decide) (fun Q' h => c_R_add (bs := bs) (nI (32)) (32) hab hf (by first | omega | (simp; omega)) (by omega) rfl h) rfl rfl (Nat.le_of_ble_eq_true rfl) (fun g1 h1 => ?_)
  refine z_iconst (v := nI 5) d_R_addSpaceAndName_6 7 rfl rfl ?_
  refine z_ist2 d_R_addSpaceAndName_7 8 rfl rfl ?_
  have step : ∀ (i p : Nat) (K' : Int32) (B : List Nat) (g : Nat → Int32), i ≤ 5 → nI i + Int32.ofInt (-1) = K' → ((nI (4 * i) &&& 31).toBitVec.smod 32).toNat = p → B.length < 240 → byP g B → (∀ g', byP g' (B ++ [97 + n / 2 ^ p % 16]) → Z l D M_R_addSpaceAndName 0 0 Q (rwU D hp a b (B ++ [97 + n / 2 ^ p % 16]).length g') 0 0 8 [some (.ref a), some (.int (nI n)), some (.int K')] []) → Z l D M_R_addSpaceAndName 0 0 Q (rwU D hp a b B.length g) 0 0 8 [some (.ref a), some (.int (nI n)), some (.int (nI i))] [] := by
    intro i p K' B g hi hK hp9 hB hg go
    refine z_iload_n d_R_addSpaceAndName_8 9 rfl rfl rfl ?_
    refine z_if_lt (tgt := 33) d_R_addSpaceAndName_9 12 rfl rfl (fun h9 => ?_) (fun h9 => ?_)
    · exact absurd h9 (nI_pos (by omega))
    · refine z_aload_n d_R_addSpaceAndName_12 13 rfl rfl rfl ?_
      refine z_bipush (v := nI 97) d_R_addSpaceAndName_13 15 rfl rfl ?_
      refine z_iload_n d_R_addSpaceAndName_15 16 rfl rfl rfl ?_
      refine z_iconst (v := nI 4) d_R_addSpaceAndName_16 17 rfl rfl ?_
      refine z_iload_n d_R_addSpaceAndName_17 18 rfl rfl rfl ?_
      first | refine z_imulN d_R_addSpaceAndName_18 19 rfl ?_ | refine z_imul d_R_addSpaceAndName_18 19 rfl ?_
      refine z_ishr d_R_addSpaceAndName_19 20 rfl ?_
      have hdl : n / 2 ^ p ≤ n := Nat.div_le_self _ _
      rw [pk_shrN (by omega) (nI (4 * i) &&& 31) p hp9]
      refine z_bipush (v := nI 15) d_R_addSpaceAndName_20 22 rfl rfl ?_
      refine z_iand d_R_addSpaceAndName_22 23 rfl ?_
      rw [pk_andN (n := n / 2 ^ p) (by omega) (m := nI 15) 4 (by decide)]
      first | refine z_iaddN d_R_addSpaceAndName_23 24 rfl ?_ | refine z_iadd d_R_addSpaceAndName_23 24 rfl ?_
      refine zr_cV (B := (B ++ [97 + n / 2 ^ p % 2 ^ 4])) d_R_addSpaceAndName_24 27 rfl mv_R_add kl_R_23 (by decide) (fun Q' h => c_R_add (bs := B) (nI (97 + n / 2 ^ p % 2 ^ 4)) (97 + n / 2 ^ p % 2 ^ 4) hab hg (by first | omega | (simp; omega)) (by omega) rfl h) rfl rfl (Nat.le_of_ble_eq_true rfl) (fun g2 h2 => ?_)
      refine z_inc2 d_R_addSpaceAndName_27 30 rfl hK rfl ?_
      refine z_goto (tgt := 8) d_R_addSpaceAndName_30 rfl ?_
      exact go g2 h2
  refine step 5 20 (nI 4) _ _ (by decide) (by decide) (by decide) (by simp; omega) h1 (fun g2 k2 => ?_)
  refine step 4 16 (nI 3) _ _ (by decide) (by decide) (by decide) (by simp; omega) k2 (fun g3 k3 => ?_)
  refine step 3 12 (nI 2) _ _ (by decide) (by decide) (by decide) (by simp; omega) k3 (fun g4 k4 => ?_)
  refine step 2 8 (nI 1) _ _ (by decide) (by decide) (by decide) (by simp; omega) k4 (fun g5 k5 => ?_)
  refine step 1 4 (nI 0) _ _ (by decide) (by decide) (by decide) (by simp; omega) k5 (fun g6 k6 => ?_)
  refine step 0 0 (-1) _ _ (by decide) (by decide) (by decide) (by simp; omega) k6 (fun g7 k7 => ?_)
  have e : bs ++ [32] ++ [97 + n / 2 ^ 20 % 16] ++ [97 + n / 2 ^ 16 % 16] ++ [97 + n / 2 ^ 12 % 16] ++ [97 + n / 2 ^ 8 % 16] ++ [97 + n / 2 ^ 4 % 16] ++ [97 + n / 2 ^ 0 % 16] = bs ++ (32 :: nmB n) := by simp [nmB]
  rw [e] at k7 ⊢
  refine z_iload_n d_R_addSpaceAndName_8 9 rfl rfl rfl ?_
  refine z_if_lt (tgt := 33) d_R_addSpaceAndName_9 12 rfl rfl (fun h9 => ?_) (fun h9 => ?_)
  · exact z_vret d_R_addSpaceAndName_33 rfl (Nat.le_refl 0) (Nat.le_refl 0) (hQ g7 k7)
  · exact absurd (by decide) h9
theorem c_R_addFileCard (d n : Nat) (hab : b ≠ a) (hf : byP f bs) (hl : bs.length + 11 ≤ 240) (hd : d ≤ 9) (hn : n < 16777216) (hQ : ∀ g, byP g (bs ++ ([70, 32, 48 + d, 32] ++ nmB n ++ [10])) → Q none (rwU D hp a b (bs ++ ([70, 32, 48 + d, 32] ++ nmB n ++ [10])).length g)) : Runs l D M_R_addFileCard [.ref a, .int (nI d), .int (nI n)] (rwU D hp a b bs.length f) 0 0 Q := by
  refine Runs.of rfl rfl (Nat.le_of_ble_eq_true rfl) ?_
  refine z_aload_n d_R_addFileCard_0 1 rfl rfl rfl ?_
  refine z_bipush (v := nI 70) d_R_addFileCard_1 3 rfl rfl ?_
  refine zr_cV (B := (bs ++ [70])) d_R_addFileCard_3 6 rfl mv_R_add kl_R_23 (by decide) (fun Q' h => c_R_add (bs := bs) (nI (70)) (70) hab hf (by first | omega | (simp; omega)) (by omega) rfl h) rfl rfl (Nat.le_of_ble_eq_true rfl) (fun g1 h1 => ?_)
  refine z_aload_n d_R_addFileCard_6 7 rfl rfl rfl ?_
  refine z_bipush (v := nI 32) d_R_addFileCard_7 9 rfl rfl ?_
  refine zr_cV (B := (bs ++ [70] ++ [32])) d_R_addFileCard_9 12 rfl mv_R_add kl_R_23 (by decide) (fun Q' h => c_R_add (bs := bs ++ [70]) (nI (32)) (32) hab h1 (by first | omega | (simp; omega)) (by omega) rfl h) rfl rfl (Nat.le_of_ble_eq_true rfl) (fun g2 h2 => ?_)
  refine z_aload_n d_R_addFileCard_12 13 rfl rfl rfl ?_
  refine z_bipush (v := nI 48) d_R_addFileCard_13 15 rfl rfl ?_
  refine z_iload_n d_R_addFileCard_15 16 rfl rfl rfl ?_
  first | refine z_iaddN d_R_addFileCard_16 17 rfl ?_ | refine z_iadd d_R_addFileCard_16 17 rfl ?_
  refine zr_cV (B := (bs ++ [70] ++ [32] ++ [48 + d])) d_R_addFileCard_17 20 rfl mv_R_add kl_R_23 (by decide) (fun Q' h => c_R_add (bs := bs ++ [70] ++ [32]) (nI (48 + d)) (48 + d) hab h2 (by first | omega | (simp; omega)) (by omega) rfl h) rfl rfl (Nat.le_of_ble_eq_true rfl) (fun g3 h3 => ?_)
  refine z_aload_n d_R_addFileCard_20 21 rfl rfl rfl ?_
  refine z_iload_n d_R_addFileCard_21 22 rfl rfl rfl ?_
  refine zr_cV (B := (bs ++ [70] ++ [32] ++ [48 + d] ++ (32 :: nmB n))) d_R_addFileCard_22 25 rfl mv_R_addSpaceAndName kl_R_27 (by decide) (fun Q' h => c_R_addSpaceAndName (bs := bs ++ [70] ++ [32] ++ [48 + d]) n hab h3 (by first | omega | (simp; omega)) (by omega) h) rfl rfl (Nat.le_of_ble_eq_true rfl) (fun g4 h4 => ?_)
  refine z_aload_n d_R_addFileCard_25 26 rfl rfl rfl ?_
  refine z_bipush (v := nI 10) d_R_addFileCard_26 28 rfl rfl ?_
  refine zr_cV (B := (bs ++ [70] ++ [32] ++ [48 + d] ++ (32 :: nmB n) ++ [10])) d_R_addFileCard_28 31 rfl mv_R_add kl_R_23 (by decide) (fun Q' h => c_R_add (bs := bs ++ [70] ++ [32] ++ [48 + d] ++ (32 :: nmB n)) (nI (10)) (10) hab h4 (by simp [nmB]; omega) (by omega) rfl h) rfl rfl (Nat.le_of_ble_eq_true rfl) (fun g5 h5 => ?_)
  have e : bs ++ [70] ++ [32] ++ [48 + d] ++ (32 :: nmB n) ++ [10] = bs ++ ([70, 32, 48 + d, 32] ++ nmB n ++ [10]) := by simp
  rw [e] at h5 ⊢
  exact z_vret d_R_addFileCard_31 rfl (Nat.le_refl 0) (Nat.le_refl 0) (hQ g5 h5)
theorem c_R_addNameCard (c n : Nat) (hab : b ≠ a) (hf : byP f bs) (hl : bs.length + 9 ≤ 240) (hc : c < 256) (hn : n < 16777216) (hQ : ∀ g, byP g (bs ++ ([c, 32] ++ nmB n ++ [10])) → Q none (rwU D hp a b (bs ++ ([c, 32] ++ nmB n ++ [10])).length g)) : Runs l D M_R_addNameCard [.ref a, .int (nI c), .int (nI n)] (rwU D hp a b bs.length f) 0 0 Q := by
  refine Runs.of rfl rfl (Nat.le_of_ble_eq_true rfl) ?_
  refine z_aload_n d_R_addNameCard_0 1 rfl rfl rfl ?_
  refine z_iload_n d_R_addNameCard_1 2 rfl rfl rfl ?_
  refine zr_cV (B := (bs ++ [c])) d_R_addNameCard_2 5 rfl mv_R_add kl_R_23 (by decide) (fun Q' h => c_R_add (bs := bs) (nI (c)) (c) hab hf (by first | omega | (simp; omega)) (by omega) rfl h) rfl rfl (Nat.le_of_ble_eq_true rfl) (fun g1 h1 => ?_)
  refine z_aload_n d_R_addNameCard_5 6 rfl rfl rfl ?_
  refine z_iload_n d_R_addNameCard_6 7 rfl rfl rfl ?_
  refine zr_cV (B := (bs ++ [c] ++ (32 :: nmB n))) d_R_addNameCard_7 10 rfl mv_R_addSpaceAndName kl_R_27 (by decide) (fun Q' h => c_R_addSpaceAndName (bs := bs ++ [c]) n hab h1 (by first | omega | (simp; omega)) (by omega) h) rfl rfl (Nat.le_of_ble_eq_true rfl) (fun g2 h2 => ?_)
  refine z_aload_n d_R_addNameCard_10 11 rfl rfl rfl ?_
  refine z_bipush (v := nI 10) d_R_addNameCard_11 13 rfl rfl ?_
  refine zr_cV (B := (bs ++ [c] ++ (32 :: nmB n) ++ [10])) d_R_addNameCard_13 16 rfl mv_R_add kl_R_23 (by decide) (fun Q' h => c_R_add (bs := bs ++ [c] ++ (32 :: nmB n)) (nI (10)) (10) hab h2 (by simp [nmB]; omega) (by omega) rfl h) rfl rfl (Nat.le_of_ble_eq_true rfl) (fun g3 h3 => ?_)
  have e : bs ++ [c] ++ (32 :: nmB n) ++ [10] = bs ++ ([c, 32] ++ nmB n ++ [10]) := by simp
  rw [e] at h3 ⊢
  exact z_vret d_R_addNameCard_16 rfl (Nat.le_refl 0) (Nat.le_refl 0) (hQ g3 h3)
theorem c_R_addParentCard (n : Nat) (y : Option Nat) (hab : b ≠ a) (hf : byP f bs) (hl : bs.length + 16 ≤ 240) (hn : n < 16777216) (hy : ∀ v, y = some v → v < 16777216) (hQ : ∀ g, byP g (bs ++ ([80, 32] ++ nmB n ++ (match y with | none => [] | some v => 32 :: nmB v) ++ [10])) → Q none (rwU D hp a b (bs ++ ([80, 32] ++ nmB n ++ (match y with | none => [] | some v => 32 :: nmB v) ++ [10])).length g)) : Runs l D M_R_addParentCard [.ref a, .int (nI n), .int (oI y)] (rwU D hp a b bs.length f) 0 0 Q := by
  refine Runs.of rfl rfl (Nat.le_of_ble_eq_true rfl) ?_
  refine z_aload_n d_R_addParentCard_0 1 rfl rfl rfl ?_
  refine z_bipush (v := nI 80) d_R_addParentCard_1 3 rfl rfl ?_
  refine zr_cV (B := (bs ++ [80])) d_R_addParentCard_3 6 rfl mv_R_add kl_R_23 (by decide) (fun Q' h => c_R_add (bs := bs) (nI (80)) (80) hab hf (by first | omega | (simp; omega)) (by omega) rfl h) rfl rfl (Nat.le_of_ble_eq_true rfl) (fun g1 h1 => ?_)
  refine z_aload_n d_R_addParentCard_6 7 rfl rfl rfl ?_
  refine z_iload_n d_R_addParentCard_7 8 rfl rfl rfl ?_
  refine zr_cV (B := (bs ++ [80] ++ (32 :: nmB n))) d_R_addParentCard_8 11 rfl mv_R_addSpaceAndName kl_R_27 (by decide) (fun Q' h => c_R_addSpaceAndName (bs := bs ++ [80]) n hab h1 (by first | omega | (simp; omega)) (by omega) h) rfl rfl (Nat.le_of_ble_eq_true rfl) (fun g2 h2 => ?_)
  refine z_iload_n d_R_addParentCard_11 12 rfl rfl rfl ?_
  refine z_iconst (v := -1) d_R_addParentCard_12 13 rfl (by decide) ?_
  refine z_icmp_eq (tgt := 21) d_R_addParentCard_13 16 rfl rfl (fun h13 => ?_) (fun h13 => ?_)
  · have hy0 : y = none := by
      cases y with
      | none => rfl
      | some v => exact absurd h13 (fun e => by have := oI_pos (v := v) (by have := hy v rfl; omega); rw [e] at this; exact this (by decide))
    subst hy0
    refine z_aload_n d_R_addParentCard_21 22 rfl rfl rfl ?_
    refine z_bipush (v := nI 10) d_R_addParentCard_22 24 rfl rfl ?_
    refine zr_cV (B := (bs ++ [80] ++ (32 :: nmB n) ++ [10])) d_R_addParentCard_24 27 rfl mv_R_add kl_R_23 (by decide) (fun Q' h => c_R_add (bs := bs ++ [80] ++ (32 :: nmB n)) (nI (10)) (10) hab h2 (by simp [nmB]; omega) (by omega) rfl h) rfl rfl (Nat.le_of_ble_eq_true rfl) (fun g3 h3 => ?_)
    have e : bs ++ [80] ++ (32 :: nmB n) ++ [10] = bs ++ ([80, 32] ++ nmB n ++ [] ++ [10]) := by simp
    rw [e] at h3 ⊢
    exact z_vret d_R_addParentCard_27 rfl (Nat.le_refl 0) (Nat.le_refl 0) (hQ g3 h3)
  · obtain ⟨v, rfl⟩ : ∃ v, y = some v := by
      cases y with
      | none => exact absurd rfl h13
      | some v => exact ⟨v, rfl⟩
    have hv := hy v rfl
    rw [show oI (some v) = nI v from rfl]
    refine z_aload_n d_R_addParentCard_16 17 rfl rfl rfl ?_
    refine z_iload_n d_R_addParentCard_17 18 rfl rfl rfl ?_
    refine zr_cV (B := (bs ++ [80] ++ (32 :: nmB n) ++ (32 :: nmB v))) d_R_addParentCard_18 21 rfl mv_R_addSpaceAndName kl_R_27 (by decide) (fun Q' h => c_R_addSpaceAndName (bs := bs ++ [80] ++ (32 :: nmB n)) v hab h2 (by simp [nmB]; omega) (by omega) h) rfl rfl (Nat.le_of_ble_eq_true rfl) (fun g3 h3 => ?_)
    refine z_aload_n d_R_addParentCard_21 22 rfl rfl rfl ?_
    refine z_bipush (v := nI 10) d_R_addParentCard_22 24 rfl rfl ?_
    refine zr_cV (B := (bs ++ [80] ++ (32 :: nmB n) ++ (32 :: nmB v) ++ [10])) d_R_addParentCard_24 27 rfl mv_R_add kl_R_23 (by decide) (fun Q' h => c_R_add (bs := bs ++ [80] ++ (32 :: nmB n) ++ (32 :: nmB v)) (nI (10)) (10) hab h3 (by simp [nmB]; omega) (by omega) rfl h) rfl rfl (Nat.le_of_ble_eq_true rfl) (fun g4 h4 => ?_)
    have e : bs ++ [80] ++ (32 :: nmB n) ++ (32 :: nmB v) ++ [10] = bs ++ ([80, 32] ++ nmB n ++ (32 :: nmB v) ++ [10]) := by simp
    rw [e] at h4 ⊢
    exact z_vret d_R_addParentCard_27 rfl (Nat.le_refl 0) (Nat.le_refl 0) (hQ g4 h4)
end C2
