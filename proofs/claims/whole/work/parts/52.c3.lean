/-! The class: time and tag cards, rows joined; what can be written. Own work. -/
section ZT
variable {l : Launch} {D : zD} {M : zM} {mc ms : Nat} {Q : Option Value → zH → Prop} {hp : zH} {cu su pc : Nat} {lv : List (Option Value)} {rest : List Value}
theorem z_tin {dflt lo hi : Int} {offs : Array Int} {len : Nat} {x : Int32} {off : Int} (tgt : Nat) (hd : decode M.2.1 pc = .ok (.tableswitch dflt lo hi offs, len)) (h1 : ¬ x.toInt < lo) (h2 : ¬ hi < x.toInt) (ho : offs[(x.toInt - lo).toNat]? = some off) (ht : (pc : Int) + off = (tgt : Int)) (k : Z l D M mc ms Q hp cu su tgt lv rest) : Z l D M mc ms Q hp cu su pc lv (.int x :: rest) := by
  intro p e s m args below meth c H locs A ls Qc free hC hA hR hn hL hE
  exact lv_tableIn hC.1 hC.2.1 hd h1 h2 ho ht (k p e s m args below meth c H locs A ls Qc free hC hA hR hn hL hE)
theorem z_tout {dflt lo hi : Int} {offs : Array Int} {len : Nat} {x : Int32} (tgt : Nat) (hd : decode M.2.1 pc = .ok (.tableswitch dflt lo hi offs, len)) (h : x.toInt < lo ∨ hi < x.toInt) (ht : (pc : Int) + dflt = (tgt : Int)) (k : Z l D M mc ms Q hp cu su tgt lv rest) : Z l D M mc ms Q hp cu su pc lv (.int x :: rest) := by
  intro p e s m args below meth c H locs A ls Qc free hC hA hR hn hL hE
  exact lv_tableOut hC.1 hC.2.1 hd h ht (k p e s m args below meth c H locs A ls Qc free hC hA hR hn hL hE)
end ZT
theorem sw6 (k : Int32) : k = nI 0 ∨ k = nI 1 ∨ k = nI 2 ∨ k = nI 3 ∨ k = nI 4 ∨ k = nI 5 ∨ (k.toInt < 0 ∨ 5 < k.toInt) := by
  by_cases h : k.toInt < 0 ∨ 5 < k.toInt
  · exact Or.inr (Or.inr (Or.inr (Or.inr (Or.inr (Or.inr h)))))
  · have h0 : ¬ k < 0 := fun q => by
      have := Int32.lt_iff_toInt_lt.mp q
      rw [show (0 : Int32).toInt = 0 by decide] at this
      omega
    obtain ⟨e, he⟩ := nI_toN h0
    have h5 : toN k ≤ 5 := by
      rw [e, nI_toInt he] at h
      omega
    generalize toN k = m at e h5
    subst e
    rcases (show m = 0 ∨ m = 1 ∨ m = 2 ∨ m = 3 ∨ m = 4 ∨ m = 5 by omega) with rfl | rfl | rfl | rfl | rfl | rfl <;> simp
def dgI (v : Int32) : Bool := !decide (v < 0) && !decide (nI 9 < v)
theorem dig5 (a : Int32) : (dgI a || dgI (-1 - a)) = decide (¬ a < -10 ∧ a ≤ nI 9) := by
  have hb : -2147483648 ≤ a.toInt ∧ a.toInt < 2147483648 := by
    have h1 := Int32.le_toInt a
    have h2 := Int32.toInt_lt a
    omega
  have e1 : ∀ v : Int32, (v < 0) ↔ v.toInt < 0 := fun v => by rw [Int32.lt_iff_toInt_lt, show (0 : Int32).toInt = 0 by decide]
  have e2 : ∀ v : Int32, (nI 9 < v) ↔ 9 < v.toInt := fun v => by rw [Int32.lt_iff_toInt_lt, show (nI 9 : Int32).toInt = 9 by decide]
  have e3 : (a < -10) ↔ a.toInt < -10 := by rw [Int32.lt_iff_toInt_lt, show (-10 : Int32).toInt = -10 by decide]
  have e4 : (a ≤ nI 9) ↔ a.toInt ≤ 9 := by rw [Int32.le_iff_toInt_le, show (nI 9 : Int32).toInt = 9 by decide]
  have e5 : (-1 - a : Int32).toInt = -1 - a.toInt := by
    rw [Int32.toInt_sub, show (-1 : Int32).toInt = -1 by decide, Int.bmod_eq_of_le (by omega) (by omega)]
  rw [Bool.eq_iff_iff]
  simp only [dgI, Bool.or_eq_true, Bool.and_eq_true, Bool.not_eq_true', decide_eq_false_iff_not, decide_eq_true_eq, e1, e2, e3, e4, e5]
  omega
section C3
variable {l : Launch} {D : zD} {M : zM} {hp : zH} {a b : Nat} {f : Nat → Int32} {Q : Option Value → zH → Prop} {bs : List Nat}
theorem c_B_isName (v : Int32) (hQ : Q (some (.int (zb (isNm v)))) hp) : Runs l D M_B_isName [.int v] hp 0 0 Q := by
  refine Runs.of rfl rfl (Nat.le_of_ble_eq_true rfl) ?_
  refine z_iload_n d_B_isName_0 1 rfl rfl rfl ?_
  refine z_if_lt (tgt := 14) d_B_isName_1 4 rfl rfl (fun h1 => ?_) (fun h1 => ?_)
  · refine z_iconst (v := nI 0) d_B_isName_14 15 rfl rfl ?_
    exact z_zretB (b := false) d_B_isName_15 rfl (Nat.le_refl 0) (Nat.le_refl 0) (by simpa [isNm, *] using hQ)
  · refine z_iload_n d_B_isName_4 5 rfl rfl rfl ?_
    refine z_ldc d_B_isName_5 7 rfl ct_B_166 ?_
    refine z_icmp_gt (tgt := 14) d_B_isName_7 10 rfl rfl (fun h7 => ?_) (fun h7 => ?_)
    · refine z_iconst (v := nI 0) d_B_isName_14 15 rfl rfl ?_
      exact z_zretB (b := false) d_B_isName_15 rfl (Nat.le_refl 0) (Nat.le_refl 0) (by simpa [isNm, *] using hQ)
    · refine z_iconst (v := nI 1) d_B_isName_10 11 rfl rfl ?_
      refine z_goto (tgt := 15) d_B_isName_11 rfl ?_
      exact z_zretB (b := true) d_B_isName_15 rfl (Nat.le_refl 0) (Nat.le_refl 0) (by simpa [isNm, *] using hQ)
theorem c_B_isDigit (v : Int32) (hQ : Q (some (.int (zb (dgI v)))) hp) : Runs l D M_B_isDigit [.int v] hp 0 0 Q := by
  refine Runs.of rfl rfl (Nat.le_of_ble_eq_true rfl) ?_
  refine z_iload_n d_B_isDigit_0 1 rfl rfl rfl ?_
  refine z_if_lt (tgt := 14) d_B_isDigit_1 4 rfl rfl (fun h1 => ?_) (fun h1 => ?_)
  · refine z_iconst (v := nI 0) d_B_isDigit_14 15 rfl rfl ?_
    exact z_zretB (b := false) d_B_isDigit_15 rfl (Nat.le_refl 0) (Nat.le_refl 0) (by simpa [dgI, *] using hQ)
  · refine z_iload_n d_B_isDigit_4 5 rfl rfl rfl ?_
    refine z_bipush (v := nI 9) d_B_isDigit_5 7 rfl rfl ?_
    refine z_icmp_gt (tgt := 14) d_B_isDigit_7 10 rfl rfl (fun h7 => ?_) (fun h7 => ?_)
    · refine z_iconst (v := nI 0) d_B_isDigit_14 15 rfl rfl ?_
      exact z_zretB (b := false) d_B_isDigit_15 rfl (Nat.le_refl 0) (Nat.le_refl 0) (by simpa [dgI, *] using hQ)
    · refine z_iconst (v := nI 1) d_B_isDigit_10 11 rfl rfl ?_
      refine z_goto (tgt := 15) d_B_isDigit_11 rfl ?_
      exact z_zretB (b := true) d_B_isDigit_15 rfl (Nat.le_refl 0) (Nat.le_refl 0) (by simpa [dgI, *] using hQ)
theorem c_B_isWritable (k x y : Int32) (hQ : Q (some (.int (zb (cardW k x y 0).isSome))) hp) : Runs l D M_B_isWritable [.int k, .int x, .int y] hp 0 0 Q := by
  refine Runs.of rfl rfl (Nat.le_of_ble_eq_true rfl) ?_
  have h5 := dig5 x
  refine z_iload_n d_B_isWritable_0 1 rfl rfl rfl ?_
  rcases sw6 k with rfl | rfl | rfl | rfl | rfl | rfl | hk
  · refine z_tin (off := 39) 40 d_B_isWritable_1 (by decide) (by decide) (by decide +kernel) (by decide) ?_
    refine z_iload_n d_B_isWritable_40 41 rfl rfl rfl ?_
    refine z_if_lt (tgt := 55) d_B_isWritable_41 44 rfl rfl (fun h41 => ?_) (fun h41 => ?_)
    · refine z_iconst (v := nI 0) d_B_isWritable_55 56 rfl rfl ?_
      exact z_zretB (b := false) d_B_isWritable_56 rfl (Nat.le_refl 0) (Nat.le_refl 0) (by rw [show (cardW (nI 0) x y 0).isSome = false by (first | (simp [cardW, nI_z, *]; done) | (have h48' := Int32.not_lt.mp h48; simp [cardW, nI_z, *]; done) | (simp [cardW, nI_z, Int32.not_le.mpr, *]; done))] at hQ; exact hQ)
    · refine z_iload_n d_B_isWritable_44 45 rfl rfl rfl ?_
      refine z_sipush (v := nI 9999) d_B_isWritable_45 48 rfl rfl ?_
      refine z_icmp_gt (tgt := 55) d_B_isWritable_48 51 rfl rfl (fun h48 => ?_) (fun h48 => ?_)
      · refine z_iconst (v := nI 0) d_B_isWritable_55 56 rfl rfl ?_
        exact z_zretB (b := false) d_B_isWritable_56 rfl (Nat.le_refl 0) (Nat.le_refl 0) (by rw [show (cardW (nI 0) x y 0).isSome = false by (first | (simp [cardW, nI_z, *]; done) | (have h48' := Int32.not_lt.mp h48; simp [cardW, nI_z, *]; done) | (simp [cardW, nI_z, Int32.not_le.mpr, *]; done))] at hQ; exact hQ)
      · refine z_iconst (v := nI 1) d_B_isWritable_51 52 rfl rfl ?_
        refine z_goto (tgt := 56) d_B_isWritable_52 rfl ?_
        exact z_zretB (b := true) d_B_isWritable_56 rfl (Nat.le_refl 0) (Nat.le_refl 0) (by rw [show (cardW (nI 0) x y 0).isSome = true by (first | (simp [cardW, nI_z, *]; done) | (have h48' := Int32.not_lt.mp h48; simp [cardW, nI_z, *]; done) | (simp [cardW, nI_z, Int32.not_le.mpr, *]; done))] at hQ; exact hQ)
  · refine z_tin (off := 56) 57 d_B_isWritable_1 (by decide) (by decide) (by decide +kernel) (by decide) ?_
    have hc : (cardW (nI 1) x y 0).isSome = (dgI x && isNm y) := by
      unfold cardW
      rw [if_neg (by decide), if_pos rfl]
      by_cases q1 : x < 0 <;> by_cases q2 : nI 9 < x <;> cases q3 : isNm y <;> simp only [dgI, q1, q2, not_true_eq_false, not_false_eq_true, false_and, true_and, and_self, if_true, if_false, decide_true, decide_false, Bool.not_true, Bool.not_false, Bool.false_and, Bool.true_and, Bool.and_false, Bool.and_true, Bool.false_eq_true] <;> rfl
    rw [hc] at hQ
    refine z_iload_n d_B_isWritable_57 58 rfl rfl rfl ?_
    refine z_cS1 d_B_isWritable_58 61 rfl ms_B_isDigit kl_B_149 (by decide) 0 0 rfl rfl (Nat.le_refl 0) (Nat.le_refl 0) (fun Q' h => c_B_isDigit _ h) rfl rfl (Nat.le_of_ble_eq_true rfl) ?_
    refine z_if_eqB (tgt := 75) d_B_isWritable_61 64 rfl rfl (fun h61 => ?_) (fun h61 => ?_)
    · refine z_iconst (v := nI 0) d_B_isWritable_75 76 rfl rfl ?_
      exact z_zretB (b := false) d_B_isWritable_76 rfl (Nat.le_refl 0) (Nat.le_refl 0) (by simpa [*] using hQ)
    · refine z_iload_n d_B_isWritable_64 65 rfl rfl rfl ?_
      refine z_cS1 d_B_isWritable_65 68 rfl ms_B_isName kl_B_167 (by decide) 0 0 rfl rfl (Nat.le_refl 0) (Nat.le_refl 0) (fun Q' h => c_B_isName _ h) rfl rfl (Nat.le_of_ble_eq_true rfl) ?_
      refine z_if_eqB (tgt := 75) d_B_isWritable_68 71 rfl rfl (fun h68 => ?_) (fun h68 => ?_)
      · refine z_iconst (v := nI 0) d_B_isWritable_75 76 rfl rfl ?_
        exact z_zretB (b := false) d_B_isWritable_76 rfl (Nat.le_refl 0) (Nat.le_refl 0) (by simpa [*] using hQ)
      · refine z_iconst (v := nI 1) d_B_isWritable_71 72 rfl rfl ?_
        refine z_goto (tgt := 76) d_B_isWritable_72 rfl ?_
        exact z_zretB (b := true) d_B_isWritable_76 rfl (Nat.le_refl 0) (Nat.le_refl 0) (by simpa [*] using hQ)
  · refine z_tin (off := 76) 77 d_B_isWritable_1 (by decide) (by decide) (by decide +kernel) (by decide) ?_
    refine z_iload_n d_B_isWritable_77 78 rfl rfl rfl ?_
    refine z_cS1 d_B_isWritable_78 81 rfl ms_B_isName kl_B_167 (by decide) 0 0 rfl rfl (Nat.le_refl 0) (Nat.le_refl 0) (fun Q' h => c_B_isName _ h) rfl rfl (Nat.le_of_ble_eq_true rfl) ?_
    exact z_zretB d_B_isWritable_81 rfl (Nat.le_refl 0) (Nat.le_refl 0) (by rw [show (cardW (nI 2) x y 0).isSome = isNm x by (cases h : isNm x <;> simp [cardW, nI_eq, nI_z, h])] at hQ; exact hQ)
  · refine z_tin (off := 81) 82 d_B_isWritable_1 (by decide) (by decide) (by decide +kernel) (by decide) ?_
    refine z_iload_n d_B_isWritable_82 83 rfl rfl rfl ?_
    refine z_cS1 d_B_isWritable_83 86 rfl ms_B_isName kl_B_167 (by decide) 0 0 rfl rfl (Nat.le_refl 0) (Nat.le_refl 0) (fun Q' h => c_B_isName _ h) rfl rfl (Nat.le_of_ble_eq_true rfl) ?_
    refine z_if_eqB (tgt := 110) d_B_isWritable_86 89 rfl rfl (fun h86 => ?_) (fun h86 => ?_)
    · refine z_iconst (v := nI 0) d_B_isWritable_110 111 rfl rfl ?_
      exact z_zretB (b := false) d_B_isWritable_111 rfl (Nat.le_refl 0) (Nat.le_refl 0) (by rw [show (cardW (nI 3) x y 0).isSome = false by (simp [cardW, nI_eq, nI_z, *])] at hQ; exact hQ)
    · refine z_iload_n d_B_isWritable_89 90 rfl rfl rfl ?_
      refine z_iconst (v := -1) d_B_isWritable_90 91 rfl (by decide) ?_
      refine z_icmp_eq (tgt := 106) d_B_isWritable_91 94 rfl rfl (fun h91 => ?_) (fun h91 => ?_)
      · refine z_iconst (v := nI 1) d_B_isWritable_106 107 rfl rfl ?_
        refine z_goto (tgt := 111) d_B_isWritable_107 rfl ?_
        exact z_zretB (b := true) d_B_isWritable_111 rfl (Nat.le_refl 0) (Nat.le_refl 0) (by rw [show (cardW (nI 3) x y 0).isSome = true by (simp [cardW, nI_eq, nI_z, *])] at hQ; exact hQ)
      · refine z_iload_n d_B_isWritable_94 95 rfl rfl rfl ?_
        refine z_cS1 d_B_isWritable_95 98 rfl ms_B_isName kl_B_167 (by decide) 0 0 rfl rfl (Nat.le_refl 0) (Nat.le_refl 0) (fun Q' h => c_B_isName _ h) rfl rfl (Nat.le_of_ble_eq_true rfl) ?_
        refine z_if_eqB (tgt := 110) d_B_isWritable_98 101 rfl rfl (fun h98 => ?_) (fun h98 => ?_)
        · refine z_iconst (v := nI 0) d_B_isWritable_110 111 rfl rfl ?_
          exact z_zretB (b := false) d_B_isWritable_111 rfl (Nat.le_refl 0) (Nat.le_refl 0) (by rw [show (cardW (nI 3) x y 0).isSome = false by (simp [cardW, nI_eq, nI_z, *])] at hQ; exact hQ)
        · refine z_iload_n d_B_isWritable_101 102 rfl rfl rfl ?_
          refine z_iload_n d_B_isWritable_102 103 rfl rfl rfl ?_
          refine z_icmp_eq (tgt := 110) d_B_isWritable_103 106 rfl rfl (fun h103 => ?_) (fun h103 => ?_)
          · refine z_iconst (v := nI 0) d_B_isWritable_110 111 rfl rfl ?_
            exact z_zretB (b := false) d_B_isWritable_111 rfl (Nat.le_refl 0) (Nat.le_refl 0) (by rw [show (cardW (nI 3) x y 0).isSome = false by (simp [cardW, nI_eq, nI_z, *])] at hQ; exact hQ)
          · refine z_iconst (v := nI 1) d_B_isWritable_106 107 rfl rfl ?_
            refine z_goto (tgt := 111) d_B_isWritable_107 rfl ?_
            exact z_zretB (b := true) d_B_isWritable_111 rfl (Nat.le_refl 0) (Nat.le_refl 0) (by rw [show (cardW (nI 3) x y 0).isSome = true by (simp [cardW, nI_eq, nI_z, *])] at hQ; exact hQ)
  · refine z_tin (off := 76) 77 d_B_isWritable_1 (by decide) (by decide) (by decide +kernel) (by decide) ?_
    refine z_iload_n d_B_isWritable_77 78 rfl rfl rfl ?_
    refine z_cS1 d_B_isWritable_78 81 rfl ms_B_isName kl_B_167 (by decide) 0 0 rfl rfl (Nat.le_refl 0) (Nat.le_refl 0) (fun Q' h => c_B_isName _ h) rfl rfl (Nat.le_of_ble_eq_true rfl) ?_
    exact z_zretB d_B_isWritable_81 rfl (Nat.le_refl 0) (Nat.le_refl 0) (by rw [show (cardW (nI 4) x y 0).isSome = isNm x by (cases h : isNm x <;> simp [cardW, nI_eq, nI_z, h])] at hQ; exact hQ)
  · refine z_tin (off := 111) 112 d_B_isWritable_1 (by decide) (by decide) (by decide +kernel) (by decide) ?_
    have hc : (cardW (nI 5) x y 0).isSome = ((dgI x || dgI (-1 - x)) && (decide (y = -1) || isNm y)) := by
      rw [h5]
      unfold cardW
      rw [if_neg (by decide), if_neg (by decide), if_neg (by decide), if_neg (by decide), if_neg (by decide), if_pos rfl]
      by_cases q1 : ¬ x < -10 ∧ x ≤ nI 9
      · rw [if_pos q1, decide_eq_true q1, Bool.true_and]
        by_cases q2 : y = -1
        · rw [if_pos q2, decide_eq_true q2]; rfl
        · rw [if_neg q2, decide_eq_false q2, Bool.false_or]
          cases q3 : isNm y <;> rfl
      · rw [if_neg q1, decide_eq_false q1]; rfl
    rw [hc] at hQ
    refine z_iload_n d_B_isWritable_112 113 rfl rfl rfl ?_
    refine z_cS1 d_B_isWritable_113 116 rfl ms_B_isDigit kl_B_149 (by decide) 0 0 rfl rfl (Nat.le_refl 0) (Nat.le_refl 0) (fun Q' h => c_B_isDigit _ h) rfl rfl (Nat.le_of_ble_eq_true rfl) ?_
    refine z_if_neB (tgt := 128) d_B_isWritable_116 119 rfl rfl (fun h116 => ?_) (fun h116 => ?_)
    · refine z_iload_n d_B_isWritable_128 129 rfl rfl rfl ?_
      refine z_iconst (v := -1) d_B_isWritable_129 130 rfl (by decide) ?_
      refine z_icmp_eq (tgt := 140) d_B_isWritable_130 133 rfl rfl (fun h130 => ?_) (fun h130 => ?_)
      · refine z_iconst (v := nI 1) d_B_isWritable_140 141 rfl rfl ?_
        refine z_goto (tgt := 145) d_B_isWritable_141 rfl ?_
        exact z_zretB (b := true) d_B_isWritable_145 rfl (Nat.le_refl 0) (Nat.le_refl 0) (by simpa [*] using hQ)
      · refine z_iload_n d_B_isWritable_133 134 rfl rfl rfl ?_
        refine z_cS1 d_B_isWritable_134 137 rfl ms_B_isName kl_B_167 (by decide) 0 0 rfl rfl (Nat.le_refl 0) (Nat.le_refl 0) (fun Q' h => c_B_isName _ h) rfl rfl (Nat.le_of_ble_eq_true rfl) ?_
        refine z_if_eqB (tgt := 144) d_B_isWritable_137 140 rfl rfl (fun h137 => ?_) (fun h137 => ?_)
        · refine z_iconst (v := nI 0) d_B_isWritable_144 145 rfl rfl ?_
          exact z_zretB (b := false) d_B_isWritable_145 rfl (Nat.le_refl 0) (Nat.le_refl 0) (by simpa [*] using hQ)
        · refine z_iconst (v := nI 1) d_B_isWritable_140 141 rfl rfl ?_
          refine z_goto (tgt := 145) d_B_isWritable_141 rfl ?_
          exact z_zretB (b := true) d_B_isWritable_145 rfl (Nat.le_refl 0) (Nat.le_refl 0) (by simpa [*] using hQ)
    · refine z_iconst (v := -1) d_B_isWritable_119 120 rfl (by decide) ?_
      refine z_iload_n d_B_isWritable_120 121 rfl rfl rfl ?_
      refine z_isub d_B_isWritable_121 122 rfl ?_
      refine z_cS1 d_B_isWritable_122 125 rfl ms_B_isDigit kl_B_149 (by decide) 0 0 rfl rfl (Nat.le_refl 0) (Nat.le_refl 0) (fun Q' h => c_B_isDigit _ h) rfl rfl (Nat.le_of_ble_eq_true rfl) ?_
      refine z_if_eqB (tgt := 144) d_B_isWritable_125 128 rfl rfl (fun h125 => ?_) (fun h125 => ?_)
      · refine z_iconst (v := nI 0) d_B_isWritable_144 145 rfl rfl ?_
        exact z_zretB (b := false) d_B_isWritable_145 rfl (Nat.le_refl 0) (Nat.le_refl 0) (by simpa [*] using hQ)
      · refine z_iload_n d_B_isWritable_128 129 rfl rfl rfl ?_
        refine z_iconst (v := -1) d_B_isWritable_129 130 rfl (by decide) ?_
        refine z_icmp_eq (tgt := 140) d_B_isWritable_130 133 rfl rfl (fun h130 => ?_) (fun h130 => ?_)
        · refine z_iconst (v := nI 1) d_B_isWritable_140 141 rfl rfl ?_
          refine z_goto (tgt := 145) d_B_isWritable_141 rfl ?_
          exact z_zretB (b := true) d_B_isWritable_145 rfl (Nat.le_refl 0) (Nat.le_refl 0) (by simpa [*] using hQ)
        · refine z_iload_n d_B_isWritable_133 134 rfl rfl rfl ?_
          refine z_cS1 d_B_isWritable_134 137 rfl ms_B_isName kl_B_167 (by decide) 0 0 rfl rfl (Nat.le_refl 0) (Nat.le_refl 0) (fun Q' h => c_B_isName _ h) rfl rfl (Nat.le_of_ble_eq_true rfl) ?_
          refine z_if_eqB (tgt := 144) d_B_isWritable_137 140 rfl rfl (fun h137 => ?_) (fun h137 => ?_)
          · refine z_iconst (v := nI 0) d_B_isWritable_144 145 rfl rfl ?_
            exact z_zretB (b := false) d_B_isWritable_145 rfl (Nat.le_refl 0) (Nat.le_refl 0) (by simpa [*] using hQ)
          · refine z_iconst (v := nI 1) d_B_isWritable_140 141 rfl rfl ?_
            refine z_goto (tgt := 145) d_B_isWritable_141 rfl ?_
            exact z_zretB (b := true) d_B_isWritable_145 rfl (Nat.le_refl 0) (Nat.le_refl 0) (by simpa [*] using hQ)
  · refine z_tout 146 d_B_isWritable_1 hk (by decide) ?_
    have n0 : ¬ k = 0 := fun e => by rw [e] at hk; exact absurd hk (by decide)
    have n1 : ¬ k = nI 1 := fun e => by rw [e] at hk; exact absurd hk (by decide)
    have n2 : ¬ k = nI 2 := fun e => by rw [e] at hk; exact absurd hk (by decide)
    have n3 : ¬ k = nI 3 := fun e => by rw [e] at hk; exact absurd hk (by decide)
    have n4 : ¬ k = nI 4 := fun e => by rw [e] at hk; exact absurd hk (by decide)
    have n5 : ¬ k = nI 5 := fun e => by rw [e] at hk; exact absurd hk (by decide)
    have hc : (cardW k x y 0).isSome = decide (k = nI 6) := by
      unfold cardW
      rw [if_neg n0, if_neg n1, if_neg n2, if_neg n4, if_neg n3, if_neg n5]
      by_cases h6 : k = nI 6
      · rw [if_pos h6, decide_eq_true h6]; rfl
      · rw [if_neg h6, decide_eq_false h6]; rfl
    rw [hc] at hQ
    refine z_iload_n d_B_isWritable_146 147 rfl rfl rfl ?_
    refine z_bipush (v := nI 6) d_B_isWritable_147 149 rfl rfl ?_
    refine z_icmp_ne (tgt := 156) d_B_isWritable_149 152 rfl rfl (fun h149 => ?_) (fun h149 => ?_)
    · refine z_iconst (v := nI 0) d_B_isWritable_156 157 rfl rfl ?_
      exact z_zretB (b := false) d_B_isWritable_157 rfl (Nat.le_refl 0) (Nat.le_refl 0) (by simpa [*] using hQ)
    · refine z_iconst (v := nI 1) d_B_isWritable_152 153 rfl rfl ?_
      refine z_goto (tgt := 157) d_B_isWritable_153 rfl ?_
      exact z_zretB (b := true) d_B_isWritable_157 rfl (Nat.le_refl 0) (Nat.le_refl 0) (by simpa [*] using hQ)
theorem c_R_addTimeCard (m : Nat) (hab : b ≠ a) (hf : byP f bs) (hl : bs.length + 7 ≤ 240) (hm : m ≤ 9999) (hQ : ∀ g, byP g (bs ++ ([68, 32] ++ dec m ++ [10])) → Q none (rwU D hp a b (bs ++ ([68, 32] ++ dec m ++ [10])).length g)) : Runs l D M_R_addTimeCard [.ref a, .int (nI m)] (rwU D hp a b bs.length f) 0 0 Q := by
  refine Runs.of rfl rfl (Nat.le_of_ble_eq_true rfl) ?_
  refine z_aload_n d_R_addTimeCard_0 1 rfl rfl rfl ?_
  refine z_bipush (v := nI 68) d_R_addTimeCard_1 3 rfl rfl ?_
  refine zr_cV (B := (bs ++ [68])) d_R_addTimeCard_3 6 rfl mv_R_add kl_R_23 (by decide) (fun Q' h => c_R_add (bs := bs) (nI (68)) (68) hab hf (by first | omega | (simp; omega)) (by omega) rfl h) rfl rfl (Nat.le_of_ble_eq_true rfl) (fun g1 h1 => ?_)
  refine z_aload_n d_R_addTimeCard_6 7 rfl rfl rfl ?_
  refine z_bipush (v := nI 32) d_R_addTimeCard_7 9 rfl rfl ?_
  refine zr_cV (B := (bs ++ [68] ++ [32])) d_R_addTimeCard_9 12 rfl mv_R_add kl_R_23 (by decide) (fun Q' h => c_R_add (bs := bs ++ [68]) (nI (32)) (32) hab h1 (by first | omega | (simp; omega)) (by omega) rfl h) rfl rfl (Nat.le_of_ble_eq_true rfl) (fun g2 h2 => ?_)
  refine z_sipush (v := nI 1000) d_R_addTimeCard_12 15 rfl rfl ?_
  refine z_ist2 d_R_addTimeCard_15 16 rfl rfl ?_
  have step : ∀ (p p' : Nat) (B : List Nat) (g : Nat → Int32), 0 < p → p ≤ 1000 → p / 10 = p' → byP g B → B.length < 239 → (∀ g', byP g' (B ++ (if p ≤ m ∨ p = 1 then [48 + m / p % 10] else [])) → Z l D M_R_addTimeCard 0 0 Q (rwU D hp a b (B ++ (if p ≤ m ∨ p = 1 then [48 + m / p % 10] else [])).length g') 0 0 16 [some (.ref a), some (.int (nI m)), some (.int (nI p'))] []) → Z l D M_R_addTimeCard 0 0 Q (rwU D hp a b B.length g) 0 0 16 [some (.ref a), some (.int (nI m)), some (.int (nI p))] [] := by
    intro p p' B g hp0 hp1 hpp hg hB next
    have wr : (p ≤ m ∨ p = 1) → Z l D M_R_addTimeCard 0 0 Q (rwU D hp a b B.length g) 0 0 30 [some (.ref a), some (.int (nI m)), some (.int (nI p))] [] := by
      intro hc
      rw [if_pos hc] at next
      have hdiv : m / p ≤ m := Nat.div_le_self _ _
      refine z_aload_n d_R_addTimeCard_30 31 rfl rfl rfl ?_
      refine z_bipush (v := nI 48) d_R_addTimeCard_31 33 rfl rfl ?_
      refine z_iload_n d_R_addTimeCard_33 34 rfl rfl rfl ?_
      refine z_iload_n d_R_addTimeCard_34 35 rfl rfl rfl ?_
      refine z_idivN d_R_addTimeCard_35 36 rfl (by omega) (by omega) (by omega) ?_
      refine z_bipush (v := nI 10) d_R_addTimeCard_36 38 rfl rfl ?_
      refine z_iremN d_R_addTimeCard_38 39 rfl (by omega) (by omega) (by omega) ?_
      first | refine z_iaddN d_R_addTimeCard_39 40 rfl ?_ | refine z_iadd d_R_addTimeCard_39 40 rfl ?_
      refine zr_cV (B := (B ++ [48 + m / p % 10])) d_R_addTimeCard_40 43 rfl mv_R_add kl_R_23 (by decide) (fun Q' h => c_R_add (bs := B) (nI (48 + m / p % 10)) (48 + m / p % 10) hab hg (by first | omega | (simp; omega)) (by omega) rfl h) rfl rfl (Nat.le_of_ble_eq_true rfl) (fun g2 h2 => ?_)
      refine z_iload_n d_R_addTimeCard_43 44 rfl rfl rfl ?_
      refine z_bipush (v := nI 10) d_R_addTimeCard_44 46 rfl rfl ?_
      refine z_idivN d_R_addTimeCard_46 47 rfl (by omega) (by omega) (by omega) ?_
      rw [hpp]
      refine z_ist2 d_R_addTimeCard_47 48 rfl rfl ?_
      refine z_goto (tgt := 16) d_R_addTimeCard_48 rfl ?_
      exact next g2 h2
    refine z_iload_n d_R_addTimeCard_16 17 rfl rfl rfl ?_
    refine z_if_leN (tgt := 51) d_R_addTimeCard_17 20 rfl rfl (by omega) (fun h17 => ?_) (fun h17 => ?_)
    · omega
    · refine z_iload_n d_R_addTimeCard_20 21 rfl rfl rfl ?_
      refine z_iload_n d_R_addTimeCard_21 22 rfl rfl rfl ?_
      refine z_icmp_geN (tgt := 30) d_R_addTimeCard_22 25 rfl rfl (by omega) (by omega) (fun h22 => ?_) (fun h22 => ?_)
      · exact wr (Or.inl h22)
      · refine z_iload_n d_R_addTimeCard_25 26 rfl rfl rfl ?_
        refine z_iconst (v := nI 1) d_R_addTimeCard_26 27 rfl rfl ?_
        refine z_icmp_neN (tgt := 43) d_R_addTimeCard_27 30 rfl rfl (by omega) (by omega) (fun h27 => ?_) (fun h27 => ?_)
        · rw [if_neg (by omega), List.append_nil] at next
          refine z_iload_n d_R_addTimeCard_43 44 rfl rfl rfl ?_
          refine z_bipush (v := nI 10) d_R_addTimeCard_44 46 rfl rfl ?_
          refine z_idivN d_R_addTimeCard_46 47 rfl (by omega) (by omega) (by omega) ?_
          rw [hpp]
          refine z_ist2 d_R_addTimeCard_47 48 rfl rfl ?_
          refine z_goto (tgt := 16) d_R_addTimeCard_48 rfl ?_
          exact next g hg
        · exact wr (Or.inr h27)
  have e1 : dec m = (if 1000 ≤ m ∨ 1000 = 1 then [48 + m / 1000 % 10] else []) ++ ((if 100 ≤ m ∨ 100 = 1 then [48 + m / 100 % 10] else []) ++ ((if 10 ≤ m ∨ 10 = 1 then [48 + m / 10 % 10] else []) ++ (if 1 ≤ m ∨ 1 = 1 then [48 + m / 1 % 10] else []))) := by simp [dec]
  have l1 : ∀ p : Nat, (if p ≤ m ∨ p = 1 then [48 + m / p % 10] else []).length ≤ 1 := by intro p; split <;> simp
  have l2 := l1 1000
  have l3 := l1 100
  have l4 := l1 10
  refine step 1000 100 _ _ (by decide) (by decide) (by decide) h2 (by simp; omega) (fun g3 k3 => ?_)
  refine step 100 10 _ _ (by decide) (by decide) (by decide) k3 (by simp only [List.length_append, List.length_cons, List.length_nil]; omega) (fun g4 k4 => ?_)
  refine step 10 1 _ _ (by decide) (by decide) (by decide) k4 (by simp only [List.length_append, List.length_cons, List.length_nil]; omega) (fun g5 k5 => ?_)
  refine step 1 0 _ _ (by decide) (by decide) (by decide) k5 (by simp only [List.length_append, List.length_cons, List.length_nil]; omega) (fun g6 k6 => ?_)
  have e2 : bs ++ [68] ++ [32] ++ (if 1000 ≤ m ∨ 1000 = 1 then [48 + m / 1000 % 10] else []) ++ (if 100 ≤ m ∨ 100 = 1 then [48 + m / 100 % 10] else []) ++ (if 10 ≤ m ∨ 10 = 1 then [48 + m / 10 % 10] else []) ++ (if 1 ≤ m ∨ 1 = 1 then [48 + m / 1 % 10] else []) = bs ++ ([68, 32] ++ dec m) := by rw [e1]; simp only [List.append_assoc]; rfl
  rw [e2] at k6 ⊢
  have hdl : (dec m).length ≤ 4 := by unfold dec; (repeat' split) <;> simp
  refine z_iload_n d_R_addTimeCard_16 17 rfl rfl rfl ?_
  refine z_if_leN (tgt := 51) d_R_addTimeCard_17 20 rfl rfl (by omega) (fun h17 => ?_) (fun h17 => ?_)
  · refine z_aload_n d_R_addTimeCard_51 52 rfl rfl rfl ?_
    refine z_bipush (v := nI 10) d_R_addTimeCard_52 54 rfl rfl ?_
    refine zr_cV (B := (bs ++ ([68, 32] ++ dec m) ++ [10])) d_R_addTimeCard_54 57 rfl mv_R_add kl_R_23 (by decide) (fun Q' h => c_R_add (bs := bs ++ ([68, 32] ++ dec m)) (nI (10)) (10) hab k6 (by simp; omega) (by omega) rfl h) rfl rfl (Nat.le_of_ble_eq_true rfl) (fun g7 h7 => ?_)
    have e3 : bs ++ ([68, 32] ++ dec m) ++ [10] = bs ++ ([68, 32] ++ dec m ++ [10]) := by simp
    rw [e3] at h7 ⊢
    exact z_vret d_R_addTimeCard_57 rfl (Nat.le_refl 0) (Nat.le_refl 0) (hQ g7 h7)
  · omega
end C3
