/-! The class: card, raw, drop. Own work. -/
section C5
variable {l : Launch} {D : zD} {M : zM} {H : zH} {x g0 g1 dA dB sA sB : Nat} {fd fs : Nat → Int32} {Q : Option Value → zH → Prop} {dr : List Nat}
theorem c_B_writeCard (k a b : Int32) {L : List Nat} (hx : H x = some (.inr (1, [.ref g0, .ref g1, .ref dA, .ref sA]))) (hdA : H dA = some (.inr (7, [.ref dB, .int (nI dr.length)]))) (hdB : H dB = some (.inl (D.2 0, 240, .inl fd))) (hfd : byP fd dr) (hdl : dr.length ≤ 240) (n0 : sB ≠ sA) (n1 : x ≠ sA) (n2 : x ≠ sB) (n3 : dA ≠ sA) (n4 : dA ≠ sB) (n5 : dB ≠ sA) (n6 : dB ≠ sB) (n7 : dB ≠ dA)
    (hL : cardW k a b (dg 7 dr) = some L) (hQ : ∀ g, byP g L → Q none (rwU D H sA sB L.length g)) : Runs l D M_B_writeCard [.ref x, .int k, .int a, .int b] (rwU D H sA sB 0 fs) 0 0 Q := by
  refine Runs.of rfl rfl (Nat.le_of_ble_eq_true rfl) ?_
  have hX : ∀ (n : Nat) (g : Nat → Int32), rwU D H sA sB n g x = some (.inr (1, [.ref g0, .ref g1, .ref dA, .ref sA])) := fun n g => by rw [rwU_o _ _ _ _ n1 n2]; exact hx
  have b0 : byP fs [] := fun k hk => by simp at hk
  have hd7 := dg7 dr
  refine z_iload_n d_B_writeCard_0 1 rfl rfl rfl ?_
  rcases sw6 k with rfl | rfl | rfl | rfl | rfl | rfl | hk
  · refine z_tin (off := 39) 40 d_B_writeCard_1 (by decide) (by decide) (by decide +kernel) (by decide) ?_
    rw [cardW, if_pos (by decide)] at hL
    split at hL
    next hc =>
      cases hL
      obtain ⟨e, he⟩ := nI_toN hc.1
      have hm : toN a ≤ 9999 := by have := hc.2; rw [e] at this; exact (nI_leI he (by decide)).1 this
      clear hc
      generalize toN a = m at e he hm hQ
      subst e
      refine z_aload_n d_B_writeCard_40 41 rfl rfl rfl ?_
      refine z_get d_B_writeCard_41 44 rfl f_B_26 (hX _ _) rfl ?_
      refine z_iload_n d_B_writeCard_44 45 rfl rfl rfl ?_
      refine zr_cV (B := ([] ++ ([68, 32] ++ dec m ++ [10]))) d_B_writeCard_45 48 rfl mv_R_addTimeCard kl_B_170 (by decide) (fun Q' h => c_R_addTimeCard (bs := []) m n0 b0 (by simp) hm h) rfl rfl (Nat.le_of_ble_eq_true rfl) (fun g1 h1 => ?_)
      refine z_goto (tgt := 129) d_B_writeCard_48 rfl ?_
      exact z_vret d_B_writeCard_129 rfl (Nat.le_refl 0) (Nat.le_refl 0) (hQ g1 h1)
    next => cases hL
  · refine z_tin (off := 50) 51 d_B_writeCard_1 (by decide) (by decide) (by decide +kernel) (by decide) ?_
    rw [cardW, if_neg (by decide), if_pos rfl] at hL
    split at hL
    next hc =>
      cases hL
      obtain ⟨e, he⟩ := nI_toN hc.1
      have hm : toN a ≤ 9 := by
        have h9 : ¬ 9 < toN a := fun q => hc.2.1 (by rw [e]; exact (nI_ltI (by decide) he).2 q)
        omega
      obtain ⟨-, e2, h2⟩ := isNm_to hc.2.2
      clear hc
      generalize toN a = m at e he hm hQ
      generalize toN b = n at e2 h2 hQ
      subst e
      subst e2
      refine z_aload_n d_B_writeCard_51 52 rfl rfl rfl ?_
      refine z_get d_B_writeCard_52 55 rfl f_B_26 (hX _ _) rfl ?_
      refine z_iload_n d_B_writeCard_55 56 rfl rfl rfl ?_
      refine z_iload_n d_B_writeCard_56 57 rfl rfl rfl ?_
      refine zr_cV (B := ([] ++ ([70, 32, 48 + m, 32] ++ nmB n ++ [10]))) d_B_writeCard_57 60 rfl mv_R_addFileCard kl_B_173 (by decide) (fun Q' h => c_R_addFileCard (bs := []) m n n0 b0 (by simp) hm h2 h) rfl rfl (Nat.le_of_ble_eq_true rfl) (fun g1 h1 => ?_)
      refine z_goto (tgt := 129) d_B_writeCard_60 rfl ?_
      exact z_vret d_B_writeCard_129 rfl (Nat.le_refl 0) (Nat.le_refl 0) (hQ g1 h1)
    next => cases hL
  · refine z_tin (off := 62) 63 d_B_writeCard_1 (by decide) (by decide) (by decide +kernel) (by decide) ?_
    rw [cardW, if_neg (by decide), if_neg (by decide), if_pos rfl] at hL
    split at hL
    next hc =>
      cases hL
      obtain ⟨-, e2, h2⟩ := isNm_to hc
      clear hc
      generalize toN a = n at e2 h2 hQ
      subst e2
      refine z_aload_n d_B_writeCard_63 64 rfl rfl rfl ?_
      refine z_get d_B_writeCard_64 67 rfl f_B_26 (hX _ _) rfl ?_
      refine z_bipush (v := nI 77) d_B_writeCard_67 69 rfl rfl ?_
      refine z_iload_n d_B_writeCard_69 70 rfl rfl rfl ?_
      refine zr_cV (B := ([] ++ ([77, 32] ++ nmB n ++ [10]))) d_B_writeCard_70 73 rfl mv_R_addNameCard kl_B_177 (by decide) (fun Q' h => c_R_addNameCard (bs := []) 77 n n0 b0 (by simp) (by decide) h2 h) rfl rfl (Nat.le_of_ble_eq_true rfl) (fun g1 h1 => ?_)
      refine z_goto (tgt := 129) d_B_writeCard_73 rfl ?_
      exact z_vret d_B_writeCard_129 rfl (Nat.le_refl 0) (Nat.le_refl 0) (hQ g1 h1)
    next => cases hL
  · refine z_tin (off := 75) 76 d_B_writeCard_1 (by decide) (by decide) (by decide +kernel) (by decide) ?_
    rw [cardW, if_neg (by decide), if_neg (by decide), if_neg (by decide), if_neg (by decide), if_pos rfl] at hL
    split at hL
    next hc =>
      obtain ⟨-, e2, h2⟩ := isNm_to hc
      clear hc
      generalize toN a = n at e2 h2 hL
      refine z_aload_n d_B_writeCard_76 77 rfl rfl rfl ?_
      refine z_get d_B_writeCard_77 80 rfl f_B_26 (hX _ _) rfl ?_
      refine z_iload_n d_B_writeCard_80 81 rfl rfl rfl ?_
      refine z_iload_n d_B_writeCard_81 82 rfl rfl rfl ?_
      split at hL
      next hb =>
        cases hL
        subst hb
        rw [e2, show (-1 : Int32) = oI none from rfl]
        refine zr_cV (B := ([] ++ ([80, 32] ++ nmB n ++ [] ++ [10]))) d_B_writeCard_82 85 rfl mv_R_addParentCard kl_B_180 (by decide) (fun Q' h => c_R_addParentCard (bs := []) n none n0 b0 (by simp) h2 (fun v hv => by cases hv) h) rfl rfl (Nat.le_of_ble_eq_true rfl) (fun g1 h1 => ?_)
        refine z_goto (tgt := 129) d_B_writeCard_85 rfl ?_
        exact z_vret d_B_writeCard_129 rfl (Nat.le_refl 0) (Nat.le_refl 0) (by have := hQ g1 (by simpa using h1); simpa using this)
      next hb =>
        split at hL
        next hc2 =>
          cases hL
          obtain ⟨-, e3, h3⟩ := isNm_to hc2.1
          clear hc2
          generalize toN b = v at e3 h3 hQ
          rw [e2, e3, show nI v = oI (some v) from rfl]
          refine zr_cV (B := ([] ++ ([80, 32] ++ nmB n ++ (32 :: nmB v) ++ [10]))) d_B_writeCard_82 85 rfl mv_R_addParentCard kl_B_180 (by decide) (fun Q' h => c_R_addParentCard (bs := []) n (some v) n0 b0 (by simp) h2 (fun w hw => by cases hw; exact h3) h) rfl rfl (Nat.le_of_ble_eq_true rfl) (fun g1 h1 => ?_)
          refine z_goto (tgt := 129) d_B_writeCard_85 rfl ?_
          exact z_vret d_B_writeCard_129 rfl (Nat.le_refl 0) (Nat.le_refl 0) (by have := hQ g1 (by simpa using h1); simpa using this)
        next => cases hL
    next => cases hL
  · refine z_tin (off := 87) 88 d_B_writeCard_1 (by decide) (by decide) (by decide +kernel) (by decide) ?_
    rw [cardW, if_neg (by decide), if_neg (by decide), if_neg (by decide), if_pos rfl] at hL
    split at hL
    next hc =>
      cases hL
      obtain ⟨-, e2, h2⟩ := isNm_to hc
      clear hc
      generalize toN a = n at e2 h2 hQ
      subst e2
      refine z_aload_n d_B_writeCard_88 89 rfl rfl rfl ?_
      refine z_get d_B_writeCard_89 92 rfl f_B_26 (hX _ _) rfl ?_
      refine z_bipush (v := nI 82) d_B_writeCard_92 94 rfl rfl ?_
      refine z_iload_n d_B_writeCard_94 95 rfl rfl rfl ?_
      refine zr_cV (B := ([] ++ ([82, 32] ++ nmB n ++ [10]))) d_B_writeCard_95 98 rfl mv_R_addNameCard kl_B_177 (by decide) (fun Q' h => c_R_addNameCard (bs := []) 82 n n0 b0 (by simp) (by decide) h2 h) rfl rfl (Nat.le_of_ble_eq_true rfl) (fun g1 h1 => ?_)
      refine z_goto (tgt := 129) d_B_writeCard_98 rfl ?_
      exact z_vret d_B_writeCard_129 rfl (Nat.le_refl 0) (Nat.le_refl 0) (hQ g1 h1)
    next => cases hL
  · refine z_tin (off := 100) 101 d_B_writeCard_1 (by decide) (by decide) (by decide +kernel) (by decide) ?_
    rw [cardW, if_neg (by decide), if_neg (by decide), if_neg (by decide), if_neg (by decide), if_neg (by decide), if_pos rfl] at hL
    split at hL
    next hc =>
      refine z_aload_n d_B_writeCard_101 102 rfl rfl rfl ?_
      refine z_get d_B_writeCard_102 105 rfl f_B_26 (hX _ _) rfl ?_
      refine z_iload_n d_B_writeCard_105 106 rfl rfl rfl ?_
      refine z_iload_n d_B_writeCard_106 107 rfl rfl rfl ?_
      split at hL
      next hb =>
        cases hL
        subst hb
        rw [show (-1 : Int32) = oI none from rfl]
        refine zr_cV (B := ([] ++ ([84, 32, sgn a, 48 + dg1 a] ++ [32, 42] ++ [10]))) d_B_writeCard_107 110 rfl mv_R_addTagCard kl_B_183 (by decide) (fun Q' h => c_R_addTagCard (bs := []) a none n0 b0 (by simp) hc.1 hc.2 (fun v hv => by cases hv) h) rfl rfl (Nat.le_of_ble_eq_true rfl) (fun g1 h1 => ?_)
        refine z_goto (tgt := 129) d_B_writeCard_110 rfl ?_
        exact z_vret d_B_writeCard_129 rfl (Nat.le_refl 0) (Nat.le_refl 0) (hQ g1 h1)
      next hb =>
        split at hL
        next hc2 =>
          cases hL
          obtain ⟨-, e3, h3⟩ := isNm_to hc2
          clear hc2
          generalize toN b = v at e3 h3 hQ
          rw [e3, show nI v = oI (some v) from rfl]
          refine zr_cV (B := ([] ++ ([84, 32, sgn a, 48 + dg1 a] ++ (32 :: nmB v) ++ [10]))) d_B_writeCard_107 110 rfl mv_R_addTagCard kl_B_183 (by decide) (fun Q' h => c_R_addTagCard (bs := []) a (some v) n0 b0 (by simp) hc.1 hc.2 (fun w hw => by cases hw; exact h3) h) rfl rfl (Nat.le_of_ble_eq_true rfl) (fun g1 h1 => ?_)
          refine z_goto (tgt := 129) d_B_writeCard_110 rfl ?_
          exact z_vret d_B_writeCard_129 rfl (Nat.le_refl 0) (Nat.le_refl 0) (by have := hQ g1 (by simpa using h1); simpa using this)
        next => cases hL
    next => cases hL
  · refine z_tout 113 d_B_writeCard_1 hk (by decide) ?_
    have q0 : ¬ k = 0 := fun e => by rw [e] at hk; exact absurd hk (by decide)
    have q1 : ¬ k = nI 1 := fun e => by rw [e] at hk; exact absurd hk (by decide)
    have q2 : ¬ k = nI 2 := fun e => by rw [e] at hk; exact absurd hk (by decide)
    have q3 : ¬ k = nI 3 := fun e => by rw [e] at hk; exact absurd hk (by decide)
    have q4 : ¬ k = nI 4 := fun e => by rw [e] at hk; exact absurd hk (by decide)
    have q5 : ¬ k = nI 5 := fun e => by rw [e] at hk; exact absurd hk (by decide)
    rw [cardW, if_neg q0, if_neg q1, if_neg q2, if_neg q4, if_neg q3, if_neg q5] at hL
    split at hL
    next hc =>
      cases hL
      have hA : rwU D H sA sB 0 fs dA = some (.inr (7, [.ref dB, .int (nI dr.length)])) := by rw [rwU_o _ _ _ _ n3 n4]; exact hdA
      have hB : rwU D H sA sB 0 fs dB = some (.inl (D.2 0, 240, .inl fd)) := by rw [rwU_o _ _ _ _ n5 n6]; exact hdB
      refine z_aload_n d_B_writeCard_113 114 rfl rfl rfl ?_
      refine z_get d_B_writeCard_114 117 rfl f_B_26 (hX _ _) rfl ?_
      refine z_bipush (v := nI 90) d_B_writeCard_117 119 rfl rfl ?_
      refine z_aload_n d_B_writeCard_119 120 rfl rfl rfl ?_
      refine z_get d_B_writeCard_120 123 rfl f_B_22 (hX _ _) rfl ?_
      refine z_cV1 d_B_writeCard_123 126 rfl mv_R_digest kl_B_74 (by decide) 0 0 rfl rfl (Nat.le_refl 0) (Nat.le_refl 0) hA (fun Q' h => c_R_digestF hA hB n7 hfd hdl h) rfl rfl (Nat.le_of_ble_eq_true rfl) ?_
      refine zr_cV (B := ([] ++ ([90, 32] ++ nmB (dg 7 dr) ++ [10]))) d_B_writeCard_126 129 rfl mv_R_addNameCard kl_B_177 (by decide) (fun Q' h => c_R_addNameCard (bs := []) 90 _ n0 b0 (by simp) (by decide) (by omega) h) rfl rfl (Nat.le_of_ble_eq_true rfl) (fun g1 h1 => ?_)
      exact z_vret d_B_writeCard_129 rfl (Nat.le_refl 0) (Nat.le_refl 0) (hQ g1 h1)
    next => cases hL
end C5
