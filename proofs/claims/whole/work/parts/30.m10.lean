/-! The reference: cards are written, raw bytes, the draft. Own work. -/
def toN (a : Int32) : Nat := a.toNatClampNeg
theorem toN_nI {n : Nat} (h : n < 2 ^ 31) : toN (nI n) = n := nI_clamp h
theorem nI_toN {a : Int32} (h : ¬ a < 0) : a = nI (toN a) ∧ toN a < 2 ^ 31 := by
  obtain ⟨j, hj, rfl⟩ := nI_of h
  rw [toN_nI hj]
  exact ⟨rfl, hj⟩
theorem isNm_to {a : Int32} (h : isNm a = true) : ¬ a < 0 ∧ a = nI (toN a) ∧ toN a < 16777216 := by
  simp only [isNm, Bool.and_eq_true, Bool.not_eq_true', decide_eq_false_iff_not] at h
  obtain ⟨e, hl⟩ := nI_toN h.1
  refine ⟨h.1, e, ?_⟩
  have h2 := h.2
  rw [e] at h2
  have h3 : ¬ 16777215 < toN a := fun q => h2 ((nI_ltI (by decide) hl).2 q)
  omega
def dec (n : Nat) : List Nat := (if 1000 ≤ n then [48 + n / 1000 % 10] else []) ++ ((if 100 ≤ n then [48 + n / 100 % 10] else []) ++ ((if 10 ≤ n then [48 + n / 10 % 10] else []) ++ [48 + n / 1 % 10]))
def sgn (a : Int32) : Nat := if a < 0 then 45 else 43
def dg1 (a : Int32) : Nat := if a < 0 then toN (-1 - a) else toN a
/-- the bytes of a card that can be written; d: the digest for a Z card -/
def cardW (k a b : Int32) (d : Nat) : Option (List Nat) :=
  if k = 0 then (if ¬ a < 0 ∧ a ≤ nI 9999 then some ([68, 32] ++ dec (toN a) ++ [10]) else none)
  else if k = nI 1 then (if ¬ a < 0 ∧ ¬ nI 9 < a ∧ isNm b = true then some ([70, 32, 48 + toN a, 32] ++ nmB (toN b) ++ [10]) else none)
  else if k = nI 2 then (if isNm a = true then some ([77, 32] ++ nmB (toN a) ++ [10]) else none)
  else if k = nI 4 then (if isNm a = true then some ([82, 32] ++ nmB (toN a) ++ [10]) else none)
  else if k = nI 3 then (if isNm a = true then (if b = -1 then some ([80, 32] ++ nmB (toN a) ++ [10]) else if isNm b = true ∧ ¬ a = b then some ([80, 32] ++ nmB (toN a) ++ [32] ++ nmB (toN b) ++ [10]) else none) else none)
  else if k = nI 5 then (if ¬ a < -10 ∧ a ≤ nI 9 then (if b = -1 then some [84, 32, sgn a, 48 + dg1 a, 32, 42, 10] else if isNm b = true then some ([84, 32, sgn a, 48 + dg1 a, 32] ++ nmB (toN b) ++ [10]) else none) else none)
  else if k = nI 6 then some ([90, 32] ++ nmB d ++ [10]) else none
def szW (k a b : Int32) : Nat := ((cardW k a b 0).map List.length).getD 0
theorem cardW_len (k a b : Int32) (d : Nat) : (cardW k a b d).map List.length = (cardW k a b 0).map List.length := by
  unfold cardW
  (repeat' split) <;> simp [nmB]
theorem szW_le (k a b : Int32) : szW k a b ≤ 16 := by
  unfold szW cardW dec
  (repeat' split) <;> simp [nmB]
theorem szW_some {k a b : Int32} (d : Nat) (h : szW k a b ≠ 0) : ∃ L, cardW k a b d = some L ∧ L.length = szW k a b := by
  have e := cardW_len k a b d
  cases hc : cardW k a b d with
  | none =>
    rw [hc] at e
    exfalso
    apply h
    rw [szW, ← e]
    rfl
  | some L =>
    rw [hc] at e
    refine ⟨L, rfl, ?_⟩
    rw [szW, ← e]
    rfl
theorem szW_none {k a b : Int32} (d : Nat) (h : szW k a b = 0) : cardW k a b d = none := by
  have e := cardW_len k a b d
  cases hc : cardW k a b d with
  | none => rfl
  | some L =>
    rw [hc] at e
    rw [szW, ← e] at h
    simp at h
    exfalso
    subst h
    unfold cardW at hc
    (repeat' split at hc) <;> simp at hc
def ltW (k : Int32) : Nat := if k = 0 then 68 else if k = nI 1 then 70 else if k = nI 2 then 77 else if k = nI 3 then 80 else if k = nI 4 then 82 else if k = nI 5 then 84 else 90
section M10
variable {l : Launch} {D : zD} {hp : zH} {o : Nat} {va : Nat → Nat → Int32} {vf : Nat → Int32} {Q : Option Value → zH → Prop}
theorem c_m_letterOf (k : Int32) (hQ : Q (some (.int (nI (ltW k)))) hp) : Runs l D M_m_letterOf [.int k] hp 0 0 Q := by
  refine Runs.of rfl rfl (Nat.le_of_ble_eq_true rfl) ?_
  refine z_iload_n d_m_letterOf_0 1 rfl rfl rfl ?_
  refine z_if_ne (tgt := 9) d_m_letterOf_1 4 rfl rfl (fun h1 => ?_) (fun h1 => ?_)
  · refine z_iload_n d_m_letterOf_9 10 rfl rfl rfl ?_
    refine z_iconst (v := nI 1) d_m_letterOf_10 11 rfl rfl ?_
    refine z_icmp_ne (tgt := 19) d_m_letterOf_11 14 rfl rfl (fun h11 => ?_) (fun h11 => ?_)
    · refine z_iload_n d_m_letterOf_19 20 rfl rfl rfl ?_
      refine z_iconst (v := nI 2) d_m_letterOf_20 21 rfl rfl ?_
      refine z_icmp_ne (tgt := 29) d_m_letterOf_21 24 rfl rfl (fun h21 => ?_) (fun h21 => ?_)
      · refine z_iload_n d_m_letterOf_29 30 rfl rfl rfl ?_
        refine z_iconst (v := nI 3) d_m_letterOf_30 31 rfl rfl ?_
        refine z_icmp_ne (tgt := 39) d_m_letterOf_31 34 rfl rfl (fun h31 => ?_) (fun h31 => ?_)
        · refine z_iload_n d_m_letterOf_39 40 rfl rfl rfl ?_
          refine z_iconst (v := nI 4) d_m_letterOf_40 41 rfl rfl ?_
          refine z_icmp_ne (tgt := 49) d_m_letterOf_41 44 rfl rfl (fun h41 => ?_) (fun h41 => ?_)
          · refine z_iload_n d_m_letterOf_49 50 rfl rfl rfl ?_
            refine z_iconst (v := nI 5) d_m_letterOf_50 51 rfl rfl ?_
            refine z_icmp_ne (tgt := 59) d_m_letterOf_51 54 rfl rfl (fun h51 => ?_) (fun h51 => ?_)
            · refine z_bipush (v := nI 90) d_m_letterOf_59 61 rfl rfl ?_
              exact z_iret d_m_letterOf_61 rfl (Nat.le_refl 0) (Nat.le_refl 0) (by simpa [ltW, nI_eq, nI_z, *] using hQ)
            · refine z_bipush (v := nI 84) d_m_letterOf_54 56 rfl rfl ?_
              refine z_goto (tgt := 61) d_m_letterOf_56 rfl ?_
              exact z_iret d_m_letterOf_61 rfl (Nat.le_refl 0) (Nat.le_refl 0) (by simpa [ltW, nI_eq, nI_z, *] using hQ)
          · refine z_bipush (v := nI 82) d_m_letterOf_44 46 rfl rfl ?_
            refine z_goto (tgt := 61) d_m_letterOf_46 rfl ?_
            exact z_iret d_m_letterOf_61 rfl (Nat.le_refl 0) (Nat.le_refl 0) (by simpa [ltW, nI_eq, nI_z, *] using hQ)
        · refine z_bipush (v := nI 80) d_m_letterOf_34 36 rfl rfl ?_
          refine z_goto (tgt := 61) d_m_letterOf_36 rfl ?_
          exact z_iret d_m_letterOf_61 rfl (Nat.le_refl 0) (Nat.le_refl 0) (by simpa [ltW, nI_eq, nI_z, *] using hQ)
      · refine z_bipush (v := nI 77) d_m_letterOf_24 26 rfl rfl ?_
        refine z_goto (tgt := 61) d_m_letterOf_26 rfl ?_
        exact z_iret d_m_letterOf_61 rfl (Nat.le_refl 0) (Nat.le_refl 0) (by simpa [ltW, nI_eq, nI_z, *] using hQ)
    · refine z_bipush (v := nI 70) d_m_letterOf_14 16 rfl rfl ?_
      refine z_goto (tgt := 61) d_m_letterOf_16 rfl ?_
      exact z_iret d_m_letterOf_61 rfl (Nat.le_refl 0) (Nat.le_refl 0) (by simpa [ltW, nI_eq, nI_z, *] using hQ)
  · refine z_bipush (v := nI 68) d_m_letterOf_4 6 rfl rfl ?_
    refine z_goto (tgt := 61) d_m_letterOf_6 rfl ?_
    exact z_iret d_m_letterOf_61 rfl (Nat.le_refl 0) (Nat.le_refl 0) (by simpa [ltW, nI_eq, nI_z, *] using hQ)
theorem c_m_size (k a b : Int32) (hQ : Q (some (.int (nI (szW k a b)))) hp) : Runs l D M_m_size [.int k, .int a, .int b] hp 0 0 Q := by
  refine Runs.of rfl rfl (Nat.le_of_ble_eq_true rfl) ?_
  refine z_iload_n d_m_size_0 1 rfl rfl rfl ?_
  refine z_if_ne (tgt := 54) d_m_size_1 4 rfl rfl (fun h1 => ?_) (fun h1 => ?_)
  · refine z_iload_n d_m_size_54 55 rfl rfl rfl ?_
    refine z_iconst (v := nI 1) d_m_size_55 56 rfl rfl ?_
    refine z_icmp_ne (tgt := 83) d_m_size_56 59 rfl rfl (fun h56 => ?_) (fun h56 => ?_)
    · refine z_iload_n d_m_size_83 84 rfl rfl rfl ?_
      refine z_iconst (v := nI 2) d_m_size_84 85 rfl rfl ?_
      refine z_icmp_eq (tgt := 93) d_m_size_85 88 rfl rfl (fun h85 => ?_) (fun h85 => ?_)
      · refine z_iload_n d_m_size_93 94 rfl rfl rfl ?_
        refine zm_cS1 d_m_size_94 97 rfl ms_m_isName kl_m_115 (by decide) (fun Q' h => c_m_isName _ h) rfl rfl (Nat.le_of_ble_eq_true rfl) ?_
        refine z_if_eqB (tgt := 105) d_m_size_97 100 rfl rfl (fun h97 => ?_) (fun h97 => ?_)
        · refine z_iconst (v := nI 0) d_m_size_105 106 rfl rfl ?_
          exact z_iret d_m_size_106 rfl (Nat.le_refl 0) (Nat.le_refl 0) (by rw [show szW k a b = 0 by simp [szW, cardW, nmB, nI_eq, nI_z, *]] at hQ; exact hQ)
        · refine z_bipush (v := nI 9) d_m_size_100 102 rfl rfl ?_
          refine z_goto (tgt := 106) d_m_size_102 rfl ?_
          exact z_iret d_m_size_106 rfl (Nat.le_refl 0) (Nat.le_refl 0) (by rw [show szW k a b = 9 by simp [szW, cardW, nmB, nI_eq, nI_z, *]] at hQ; exact hQ)
      · refine z_iload_n d_m_size_88 89 rfl rfl rfl ?_
        refine z_iconst (v := nI 4) d_m_size_89 90 rfl rfl ?_
        refine z_icmp_ne (tgt := 107) d_m_size_90 93 rfl rfl (fun h90 => ?_) (fun h90 => ?_)
        · refine z_iload_n d_m_size_107 108 rfl rfl rfl ?_
          refine z_iconst (v := nI 3) d_m_size_108 109 rfl rfl ?_
          refine z_icmp_ne (tgt := 152) d_m_size_109 112 rfl rfl (fun h109 => ?_) (fun h109 => ?_)
          · refine z_iload_n d_m_size_152 153 rfl rfl rfl ?_
            refine z_iconst (v := nI 5) d_m_size_153 154 rfl rfl ?_
            refine z_icmp_ne (tgt := 197) d_m_size_154 157 rfl rfl (fun h154 => ?_) (fun h154 => ?_)
            · refine z_iload_n d_m_size_197 198 rfl rfl rfl ?_
              refine z_bipush (v := nI 6) d_m_size_198 200 rfl rfl ?_
              refine z_icmp_ne (tgt := 208) d_m_size_200 203 rfl rfl (fun h200 => ?_) (fun h200 => ?_)
              · refine z_iconst (v := nI 0) d_m_size_208 209 rfl rfl ?_
                exact z_iret d_m_size_209 rfl (Nat.le_refl 0) (Nat.le_refl 0) (by rw [show szW k a b = 0 by simp [szW, cardW, nmB, nI_eq, nI_z, *]] at hQ; exact hQ)
              · refine z_bipush (v := nI 9) d_m_size_203 205 rfl rfl ?_
                refine z_goto (tgt := 209) d_m_size_205 rfl ?_
                exact z_iret d_m_size_209 rfl (Nat.le_refl 0) (Nat.le_refl 0) (by rw [show szW k a b = 9 by simp [szW, cardW, nmB, nI_eq, nI_z, *]] at hQ; exact hQ)
            · refine z_iload_n d_m_size_157 158 rfl rfl rfl ?_
              refine z_bipush (v := -10) d_m_size_158 160 rfl (by decide) ?_
              refine z_icmp_lt (tgt := 169) d_m_size_160 163 rfl rfl (fun h160 => ?_) (fun h160 => ?_)
              · refine z_iconst (v := nI 0) d_m_size_169 170 rfl rfl ?_
                refine z_goto (tgt := 196) d_m_size_170 rfl ?_
                exact z_iret d_m_size_196 rfl (Nat.le_refl 0) (Nat.le_refl 0) (by rw [show szW k a b = 0 by simp [szW, cardW, nmB, nI_eq, nI_z, *]] at hQ; exact hQ)
              · refine z_iload_n d_m_size_163 164 rfl rfl rfl ?_
                refine z_bipush (v := nI 9) d_m_size_164 166 rfl rfl ?_
                refine z_icmp_le (tgt := 173) d_m_size_166 169 rfl rfl (fun h166 => ?_) (fun h166 => ?_)
                · refine z_iload_n d_m_size_173 174 rfl rfl rfl ?_
                  refine z_iconst (v := -1) d_m_size_174 175 rfl (by decide) ?_
                  refine z_icmp_ne (tgt := 183) d_m_size_175 178 rfl rfl (fun h175 => ?_) (fun h175 => ?_)
                  · refine z_iload_n d_m_size_183 184 rfl rfl rfl ?_
                    refine zm_cS1 d_m_size_184 187 rfl ms_m_isName kl_m_115 (by decide) (fun Q' h => c_m_isName _ h) rfl rfl (Nat.le_of_ble_eq_true rfl) ?_
                    refine z_if_eqB (tgt := 195) d_m_size_187 190 rfl rfl (fun h187 => ?_) (fun h187 => ?_)
                    · refine z_iconst (v := nI 0) d_m_size_195 196 rfl rfl ?_
                      exact z_iret d_m_size_196 rfl (Nat.le_refl 0) (Nat.le_refl 0) (by rw [show szW k a b = 0 by simp [szW, cardW, nmB, nI_eq, nI_z, *]] at hQ; exact hQ)
                    · refine z_bipush (v := nI 12) d_m_size_190 192 rfl rfl ?_
                      refine z_goto (tgt := 196) d_m_size_192 rfl ?_
                      exact z_iret d_m_size_196 rfl (Nat.le_refl 0) (Nat.le_refl 0) (by rw [show szW k a b = 12 by simp [szW, cardW, nmB, nI_eq, nI_z, *]] at hQ; exact hQ)
                  · refine z_bipush (v := nI 7) d_m_size_178 180 rfl rfl ?_
                    refine z_goto (tgt := 196) d_m_size_180 rfl ?_
                    exact z_iret d_m_size_196 rfl (Nat.le_refl 0) (Nat.le_refl 0) (by rw [show szW k a b = 7 by simp [szW, cardW, nmB, nI_eq, nI_z, *]] at hQ; exact hQ)
                · refine z_iconst (v := nI 0) d_m_size_169 170 rfl rfl ?_
                  refine z_goto (tgt := 196) d_m_size_170 rfl ?_
                  exact z_iret d_m_size_196 rfl (Nat.le_refl 0) (Nat.le_refl 0) (by rw [show szW k a b = 0 by simp [szW, cardW, nmB, nI_eq, nI_z, *]] at hQ; exact hQ)
          · refine z_iload_n d_m_size_112 113 rfl rfl rfl ?_
            refine zm_cS1 d_m_size_113 116 rfl ms_m_isName kl_m_115 (by decide) (fun Q' h => c_m_isName _ h) rfl rfl (Nat.le_of_ble_eq_true rfl) ?_
            refine z_if_neB (tgt := 123) d_m_size_116 119 rfl rfl (fun h116 => ?_) (fun h116 => ?_)
            · refine z_iload_n d_m_size_123 124 rfl rfl rfl ?_
              refine z_iconst (v := -1) d_m_size_124 125 rfl (by decide) ?_
              refine z_icmp_ne (tgt := 133) d_m_size_125 128 rfl rfl (fun h125 => ?_) (fun h125 => ?_)
              · refine z_iload_n d_m_size_133 134 rfl rfl rfl ?_
                refine zm_cS1 d_m_size_134 137 rfl ms_m_isName kl_m_115 (by decide) (fun Q' h => c_m_isName _ h) rfl rfl (Nat.le_of_ble_eq_true rfl) ?_
                refine z_if_eqB (tgt := 150) d_m_size_137 140 rfl rfl (fun h137 => ?_) (fun h137 => ?_)
                · refine z_iconst (v := nI 0) d_m_size_150 151 rfl rfl ?_
                  exact z_iret d_m_size_151 rfl (Nat.le_refl 0) (Nat.le_refl 0) (by rw [show szW k a b = 0 by simp [szW, cardW, nmB, nI_eq, nI_z, *]] at hQ; exact hQ)
                · refine z_iload_n d_m_size_140 141 rfl rfl rfl ?_
                  refine z_iload_n d_m_size_141 142 rfl rfl rfl ?_
                  refine z_icmp_eq (tgt := 150) d_m_size_142 145 rfl rfl (fun h142 => ?_) (fun h142 => ?_)
                  · refine z_iconst (v := nI 0) d_m_size_150 151 rfl rfl ?_
                    exact z_iret d_m_size_151 rfl (Nat.le_refl 0) (Nat.le_refl 0) (by rw [show szW k a b = 0 by simp [szW, cardW, nmB, nI_eq, nI_z, *]] at hQ; exact hQ)
                  · refine z_bipush (v := nI 16) d_m_size_145 147 rfl rfl ?_
                    refine z_goto (tgt := 151) d_m_size_147 rfl ?_
                    exact z_iret d_m_size_151 rfl (Nat.le_refl 0) (Nat.le_refl 0) (by rw [show szW k a b = 16 by simp [szW, cardW, nmB, nI_eq, nI_z, *]] at hQ; exact hQ)
              · refine z_bipush (v := nI 9) d_m_size_128 130 rfl rfl ?_
                refine z_goto (tgt := 151) d_m_size_130 rfl ?_
                exact z_iret d_m_size_151 rfl (Nat.le_refl 0) (Nat.le_refl 0) (by rw [show szW k a b = 9 by simp [szW, cardW, nmB, nI_eq, nI_z, *]] at hQ; exact hQ)
            · refine z_iconst (v := nI 0) d_m_size_119 120 rfl rfl ?_
              refine z_goto (tgt := 151) d_m_size_120 rfl ?_
              exact z_iret d_m_size_151 rfl (Nat.le_refl 0) (Nat.le_refl 0) (by rw [show szW k a b = 0 by simp [szW, cardW, nmB, nI_eq, nI_z, *]] at hQ; exact hQ)
        · refine z_iload_n d_m_size_93 94 rfl rfl rfl ?_
          refine zm_cS1 d_m_size_94 97 rfl ms_m_isName kl_m_115 (by decide) (fun Q' h => c_m_isName _ h) rfl rfl (Nat.le_of_ble_eq_true rfl) ?_
          refine z_if_eqB (tgt := 105) d_m_size_97 100 rfl rfl (fun h97 => ?_) (fun h97 => ?_)
          · refine z_iconst (v := nI 0) d_m_size_105 106 rfl rfl ?_
            exact z_iret d_m_size_106 rfl (Nat.le_refl 0) (Nat.le_refl 0) (by rw [show szW k a b = 0 by simp [szW, cardW, nmB, nI_eq, nI_z, *]] at hQ; exact hQ)
          · refine z_bipush (v := nI 9) d_m_size_100 102 rfl rfl ?_
            refine z_goto (tgt := 106) d_m_size_102 rfl ?_
            exact z_iret d_m_size_106 rfl (Nat.le_refl 0) (Nat.le_refl 0) (by rw [show szW k a b = 9 by simp [szW, cardW, nmB, nI_eq, nI_z, *]] at hQ; exact hQ)
    · refine z_iload_n d_m_size_59 60 rfl rfl rfl ?_
      refine z_if_lt (tgt := 81) d_m_size_60 63 rfl rfl (fun h60 => ?_) (fun h60 => ?_)
      · refine z_iconst (v := nI 0) d_m_size_81 82 rfl rfl ?_
        exact z_iret d_m_size_82 rfl (Nat.le_refl 0) (Nat.le_refl 0) (by rw [show szW k a b = 0 by simp [szW, cardW, nmB, nI_eq, nI_z, *]] at hQ; exact hQ)
      · refine z_iload_n d_m_size_63 64 rfl rfl rfl ?_
        refine z_bipush (v := nI 9) d_m_size_64 66 rfl rfl ?_
        refine z_icmp_gt (tgt := 81) d_m_size_66 69 rfl rfl (fun h66 => ?_) (fun h66 => ?_)
        · refine z_iconst (v := nI 0) d_m_size_81 82 rfl rfl ?_
          exact z_iret d_m_size_82 rfl (Nat.le_refl 0) (Nat.le_refl 0) (by rw [show szW k a b = 0 by simp [szW, cardW, nmB, nI_eq, nI_z, *]] at hQ; exact hQ)
        · refine z_iload_n d_m_size_69 70 rfl rfl rfl ?_
          refine zm_cS1 d_m_size_70 73 rfl ms_m_isName kl_m_115 (by decide) (fun Q' h => c_m_isName _ h) rfl rfl (Nat.le_of_ble_eq_true rfl) ?_
          refine z_if_eqB (tgt := 81) d_m_size_73 76 rfl rfl (fun h73 => ?_) (fun h73 => ?_)
          · refine z_iconst (v := nI 0) d_m_size_81 82 rfl rfl ?_
            exact z_iret d_m_size_82 rfl (Nat.le_refl 0) (Nat.le_refl 0) (by rw [show szW k a b = 0 by simp [szW, cardW, nmB, nI_eq, nI_z, *]] at hQ; exact hQ)
          · refine z_bipush (v := nI 11) d_m_size_76 78 rfl rfl ?_
            refine z_goto (tgt := 82) d_m_size_78 rfl ?_
            exact z_iret d_m_size_82 rfl (Nat.le_refl 0) (Nat.le_refl 0) (by rw [show szW k a b = 11 by simp [szW, cardW, nmB, nI_eq, nI_z, *]] at hQ; exact hQ)
  · refine z_iload_n d_m_size_4 5 rfl rfl rfl ?_
    refine z_if_lt (tgt := 15) d_m_size_5 8 rfl rfl (fun h5 => ?_) (fun h5 => ?_)
    · refine z_iconst (v := nI 0) d_m_size_15 16 rfl rfl ?_
      refine z_goto (tgt := 53) d_m_size_16 rfl ?_
      exact z_iret d_m_size_53 rfl (Nat.le_refl 0) (Nat.le_refl 0) (by rw [show szW k a b = 0 by simp [szW, cardW, nI_eq, nI_z, *]] at hQ; exact hQ)
    · obtain ⟨e, he⟩ := nI_toN h5
      refine z_iload_n d_m_size_8 9 rfl rfl rfl ?_
      refine z_sipush (v := nI 9999) d_m_size_9 12 rfl rfl ?_
      refine z_icmp_le (tgt := 19) d_m_size_12 15 rfl rfl (fun h12 => ?_) (fun h12 => ?_)
      · have h9 : toN a ≤ 9999 := by rw [e] at h12; exact (nI_leI he (by decide)).1 h12
        have hc : ∀ d, cardW k a b d = some ([68, 32] ++ dec (toN a) ++ [10]) := by intro d; rw [cardW, if_pos h1, if_pos ⟨h5, h12⟩]
        rw [show szW k a b = (dec (toN a)).length + 3 by simp [szW, hc]] at hQ
        generalize toN a = m at e h9 hQ
        subst e
        refine z_iload_n d_m_size_19 20 rfl rfl rfl ?_
        refine z_bipush (v := nI 10) d_m_size_20 22 rfl rfl ?_
        refine z_icmp_geN (tgt := 29) d_m_size_22 25 rfl rfl (by omega) (by omega) (fun h22 => ?_) (fun h22 => ?_)
        · refine z_iload_n d_m_size_29 30 rfl rfl rfl ?_
          refine z_bipush (v := nI 100) d_m_size_30 32 rfl rfl ?_
          refine z_icmp_geN (tgt := 39) d_m_size_32 35 rfl rfl (by omega) (by omega) (fun h32 => ?_) (fun h32 => ?_)
          · refine z_iload_n d_m_size_39 40 rfl rfl rfl ?_
            refine z_sipush (v := nI 1000) d_m_size_40 43 rfl rfl ?_
            refine z_icmp_geN (tgt := 51) d_m_size_43 46 rfl rfl (by omega) (by omega) (fun h43 => ?_) (fun h43 => ?_)
            · refine z_bipush (v := nI 7) d_m_size_51 53 rfl rfl ?_
              exact z_iret d_m_size_53 rfl (Nat.le_refl 0) (Nat.le_refl 0) (by rw [show (dec m).length + 3 = 7 by (simp only [dec]; (repeat' split) <;> simp <;> omega)] at hQ; exact hQ)
            · refine z_bipush (v := nI 6) d_m_size_46 48 rfl rfl ?_
              refine z_goto (tgt := 53) d_m_size_48 rfl ?_
              exact z_iret d_m_size_53 rfl (Nat.le_refl 0) (Nat.le_refl 0) (by rw [show (dec m).length + 3 = 6 by (simp only [dec]; (repeat' split) <;> simp <;> omega)] at hQ; exact hQ)
          · refine z_iconst (v := nI 5) d_m_size_35 36 rfl rfl ?_
            refine z_goto (tgt := 53) d_m_size_36 rfl ?_
            exact z_iret d_m_size_53 rfl (Nat.le_refl 0) (Nat.le_refl 0) (by rw [show (dec m).length + 3 = 5 by (simp only [dec]; (repeat' split) <;> simp <;> omega)] at hQ; exact hQ)
        · refine z_iconst (v := nI 4) d_m_size_25 26 rfl rfl ?_
          refine z_goto (tgt := 53) d_m_size_26 rfl ?_
          exact z_iret d_m_size_53 rfl (Nat.le_refl 0) (Nat.le_refl 0) (by rw [show (dec m).length + 3 = 4 by (simp only [dec]; (repeat' split) <;> simp <;> omega)] at hQ; exact hQ)
      · refine z_iconst (v := nI 0) d_m_size_15 16 rfl rfl ?_
        refine z_goto (tgt := 53) d_m_size_16 rfl ?_
        exact z_iret d_m_size_53 rfl (Nat.le_refl 0) (Nat.le_refl 0) (by rw [show szW k a b = 0 by simp [szW, cardW, h1, h12]] at hQ; exact hQ)
theorem c_m_card (k a b : Int32) {dr : List Nat} (hr : slotP va 64 dr)
    (hQ0 : (cardW k a b (dg 7 dr) = none ∨ ∃ L, cardW k a b (dg 7 dr) = some L ∧ 240 < dr.length + L.length) → Q (some (.int (-1))) (zmod D o hp va vf))
    (hQ : ∀ (L : List Nat) (va' : Nat → Nat → Int32), cardW k a b (dg 7 dr) = some L → dr.length + L.length ≤ 240 → sk 64 va va' → slotP va' 64 (dr ++ L) → Q (some (.int (nI (dr ++ L).length))) (zmod D o hp va' vf)) :
    Runs l D M_m_card [.ref o, .int k, .int a, .int b] (zmod D o hp va vf) 0 0 Q := by
  refine Runs.of rfl rfl (Nat.le_of_ble_eq_true rfl) ?_
  have hsz := szW_le k a b
  have hl := hr.2.2
  have hd7 := dg7 dr
  refine z_iload_n d_m_card_0 1 rfl rfl rfl ?_
  refine z_iload_n d_m_card_1 2 rfl rfl rfl ?_
  refine z_iload_n d_m_card_2 3 rfl rfl rfl ?_
  refine zm_cS1 d_m_card_3 6 rfl ms_m_size kl_m_118 (by decide) (fun Q' h => c_m_size _ _ _ h) rfl rfl (Nat.le_of_ble_eq_true rfl) ?_
  refine z_ist4 d_m_card_6 8 rfl rfl ?_
  refine z_iload d_m_card_8 10 rfl rfl ?_
  refine z_if_eqN (tgt := 29) d_m_card_10 13 rfl rfl (by omega) (fun h10 => ?_) (fun h10 => ?_)
  · refine z_iconst (v := -1) d_m_card_29 30 rfl (by decide) ?_
    exact z_iret d_m_card_30 rfl (Nat.le_refl 0) (Nat.le_refl 0) (hQ0 (Or.inl (szW_none _ h10)))
  · obtain ⟨L, hL, hLl⟩ := szW_some (dg 7 dr) h10
    refine z_aload_n d_m_card_13 14 rfl rfl rfl ?_
    refine zm_getA 1 d_m_card_14 17 rfl f_m_13 rfl ?_
    refine z_bipush (v := nI 64) d_m_card_17 19 rfl rfl ?_
    refine zm_iald d_m_card_19 20 rfl (by decide) rfl (by simp only [zln]; omega) ?_
    rw [hr.2.1]
    refine z_iload d_m_card_20 22 rfl rfl ?_
    first | refine z_iaddN d_m_card_22 23 rfl ?_ | refine z_iadd d_m_card_22 23 rfl ?_
    refine z_sipush (v := nI 240) d_m_card_23 26 rfl rfl ?_
    refine z_icmp_leN (tgt := 31) d_m_card_26 29 rfl rfl (by omega) (by omega) (fun h26 => ?_) (fun h26 => ?_)
    · refine z_aload_n d_m_card_31 32 rfl rfl rfl ?_
      refine z_bipush (v := nI 7) d_m_card_32 34 rfl rfl ?_
      refine z_bipush (v := nI 64) d_m_card_34 36 rfl rfl ?_
      refine z_aload_n d_m_card_36 37 rfl rfl rfl ?_
      refine zm_getA 1 d_m_card_37 40 rfl f_m_13 rfl ?_
      refine z_bipush (v := nI 64) d_m_card_40 42 rfl rfl ?_
      refine zm_iald d_m_card_42 43 rfl (by decide) rfl (by simp only [zln]; omega) ?_
      rw [hr.2.1]
      refine zm_cV1 d_m_card_43 46 rfl mv_m_digest kl_m_94 (by decide) (fun Q' h => c_m_digest 7 64 _ hr.1 (Nat.le_refl _) (by decide) hl (by decide) h) rfl rfl (Nat.le_of_ble_eq_true rfl) ?_
      rw [List.take_length]
      rw [← hLl] at h26
      generalize hsz9 : szW k a b = n9
      clear hsz hLl h10 hsz9
      have hlt : ltW k < 256 := by unfold ltW; (repeat' split) <;> decide
      have s_va := hr
      refine z_ist5 d_m_card_46 48 rfl rfl ?_
      refine z_aload_n d_m_card_48 49 rfl rfl rfl ?_
      refine z_bipush (v := nI 64) d_m_card_49 51 rfl rfl ?_
      refine z_iload_n d_m_card_51 52 rfl rfl rfl ?_
      refine zm_cS1 d_m_card_52 55 rfl ms_m_letterOf kl_m_121 (by decide) (fun Q' h => c_m_letterOf _ h) rfl rfl (Nat.le_of_ble_eq_true rfl) ?_
      have hL3 : 3 ≤ L.length := by
        unfold cardW dec at hL
        (repeat' split at hL) <;> simp at hL <;> (subst hL; simp [nmB])
      refine zm_cVv (fun aa f => vf = f ∧ sk 64 va aa ∧ slotP aa 64 (dr ++ [ltW k])) d_m_card_55 58 rfl mv_m_write kl_m_111 (by decide) (fun Q' h => c_m_write 64 (ltW k) s_va (by decide) (by first | omega | (simp; omega)) (by omega) (fun aa h1 h2 => h _ _ ⟨rfl, h1, h2⟩)) rfl rfl (Nat.le_of_ble_eq_true rfl) ?_; rintro x1 _ ⟨rfl, k_x1, s_x1⟩
      refine z_aload_n d_m_card_58 59 rfl rfl rfl ?_
      refine z_bipush (v := nI 64) d_m_card_59 61 rfl rfl ?_
      refine z_bipush (v := nI 32) d_m_card_61 63 rfl rfl ?_
      refine zm_cVv (fun aa f => vf = f ∧ sk 64 x1 aa ∧ slotP aa 64 (dr ++ [ltW k] ++ [32])) d_m_card_63 66 rfl mv_m_write kl_m_111 (by decide) (fun Q' h => c_m_write 64 (32) s_x1 (by decide) (by first | omega | (simp; omega)) (by omega) (fun aa h1 h2 => h _ _ ⟨rfl, h1, h2⟩)) rfl rfl (Nat.le_of_ble_eq_true rfl) ?_; rintro x2 _ ⟨rfl, k_x2, s_x2⟩
      have kk := k_x1.trans k_x2
      rw [List.append_assoc] at s_x2
      simp only [List.singleton_append] at s_x2
      have tail : ∀ (x : Nat → Nat → Int32) (B : List Nat) (z : Option Value), sk 64 va x → slotP x 64 (dr ++ B) → B ++ [10] = L → Z l D M_m_card 0 0 Q (zmod D o hp x vf) 0 0 274 [some (.ref o), some (.int k), some (.int a), some (.int b), some (.int (nI n9)), some (.int (nI (dg 7 dr))), z] [] := by
        intro x B z hk s_x hB
        subst hB
        simp at h26
        refine z_aload_n d_m_card_274 275 rfl rfl rfl ?_
        refine z_bipush (v := nI 64) d_m_card_275 277 rfl rfl ?_
        refine z_bipush (v := nI 10) d_m_card_277 279 rfl rfl ?_
        refine zm_cVv (fun aa f => vf = f ∧ sk 64 x aa ∧ slotP aa 64 (dr ++ B ++ [10])) d_m_card_279 282 rfl mv_m_write kl_m_111 (by decide) (fun Q' h => c_m_write 64 (10) s_x (by decide) (by first | omega | (simp; omega)) (by omega) (fun aa h1 h2 => h _ _ ⟨rfl, h1, h2⟩)) rfl rfl (Nat.le_of_ble_eq_true rfl) ?_; rintro y _ ⟨rfl, k_y, s_y⟩
        rw [List.append_assoc] at s_y
        refine z_aload_n d_m_card_282 283 rfl rfl rfl ?_
        refine zm_getA 1 d_m_card_283 286 rfl f_m_13 rfl ?_
        refine z_bipush (v := nI 64) d_m_card_286 288 rfl rfl ?_
        refine zm_iald d_m_card_288 289 rfl (by decide) rfl (by simp only [zln]; omega) ?_
        rw [s_y.2.1]
        exact z_iret d_m_card_289 rfl (Nat.le_refl 0) (Nat.le_refl 0) (hQ _ _ hL (by simpa using h26) (hk.trans k_y) s_y)
      refine z_iload_n d_m_card_66 67 rfl rfl rfl ?_
      refine z_if_ne (tgt := 122) d_m_card_67 70 rfl rfl (fun h67 => ?_) (fun h67 => ?_)
      · refine z_iload_n d_m_card_122 123 rfl rfl rfl ?_
        refine z_iconst (v := nI 1) d_m_card_123 124 rfl rfl ?_
        refine z_icmp_ne (tgt := 155) d_m_card_124 127 rfl rfl (fun h124 => ?_) (fun h124 => ?_)
        · refine z_iload_n d_m_card_155 156 rfl rfl rfl ?_
          refine z_iconst (v := nI 5) d_m_card_156 157 rfl rfl ?_
          refine z_icmp_ne (tgt := 231) d_m_card_157 160 rfl rfl (fun h157 => ?_) (fun h157 => ?_)
          · -- M, R, P, Z
            have go : ∀ (n : Nat), n < 16777216 → (k = nI 3 → a = nI n) → dr.length + 9 ≤ 240 → ((¬ k = nI 3 ∨ b = -1) → ltW k :: 32 :: (nmB n ++ [10]) = L) → (k = nI 3 → ¬ b = -1 → isNm b = true ∧ ltW k :: 32 :: (nmB n ++ 32 :: (nmB (toN b) ++ [10])) = L) → Z l D M_m_card 0 0 Q (zmod D o hp x2 vf) 0 0 246 [some (.ref o), some (.int k), some (.int a), some (.int b), some (.int (nI n9)), some (.int (nI (dg 7 dr))), none] [.int (nI n), .int (nI 64), .ref o] := by
              intro n hn hna h9 c1 c2
              refine zm_cVv (fun aa f => vf = f ∧ sk 64 x2 aa ∧ slotP aa 64 (dr ++ (ltW k :: [32]) ++ nmB n)) d_m_card_246 249 rfl mv_m_writeName kl_m_124 (by decide) (fun Q' h => c_m_writeName 64 n s_x2 (by decide) (by first | omega | (simp; omega)) (by omega) (fun aa h1 h2 => h _ _ ⟨rfl, h1, h2⟩)) rfl rfl (Nat.le_of_ble_eq_true rfl) ?_; rintro x3 _ ⟨rfl, k_x3, s_x3⟩
              refine z_iload_n d_m_card_249 250 rfl rfl rfl ?_
              refine z_iconst (v := nI 3) d_m_card_250 251 rfl rfl ?_
              refine z_icmp_ne (tgt := 274) d_m_card_251 254 rfl rfl (fun h251 => ?_) (fun h251 => ?_)
              · exact tail x3 (ltW k :: 32 :: nmB n) none (kk.trans k_x3) (by simpa using s_x3) (by rw [← c1 (Or.inl h251)]; simp)
              · refine z_iload_n d_m_card_254 255 rfl rfl rfl ?_
                refine z_iconst (v := -1) d_m_card_255 256 rfl (by decide) ?_
                refine z_icmp_eq (tgt := 274) d_m_card_256 259 rfl rfl (fun h256 => ?_) (fun h256 => ?_)
                · exact tail x3 (ltW k :: 32 :: nmB n) none (kk.trans k_x3) (by simpa using s_x3) (by rw [← c1 (Or.inr h256)]; simp)
                · obtain ⟨hb, hL2⟩ := c2 h251 h256
                  obtain ⟨b0, b1, b2⟩ := isNm_to hb
                  have hl2 : dr.length + 16 ≤ 240 := by rw [← hL2] at h26; simpa [nmB] using h26
                  generalize toN b = m at b1 b2 hL2
                  subst b1
                  have s_x3 : slotP x3 64 (dr ++ (ltW k :: 32 :: nmB n)) := by simpa using s_x3
                  refine z_aload_n d_m_card_259 260 rfl rfl rfl ?_
                  refine z_bipush (v := nI 64) d_m_card_260 262 rfl rfl ?_
                  refine z_bipush (v := nI 32) d_m_card_262 264 rfl rfl ?_
                  refine zm_cVv (fun aa f => vf = f ∧ sk 64 x3 aa ∧ slotP aa 64 (dr ++ (ltW k :: 32 :: nmB n) ++ [32])) d_m_card_264 267 rfl mv_m_write kl_m_111 (by decide) (fun Q' h => c_m_write 64 (32) s_x3 (by decide) (by simp [nmB]; omega) (by omega) (fun aa h1 h2 => h _ _ ⟨rfl, h1, h2⟩)) rfl rfl (Nat.le_of_ble_eq_true rfl) ?_; rintro x4 _ ⟨rfl, k_x4, s_x4⟩
                  refine z_aload_n d_m_card_267 268 rfl rfl rfl ?_
                  refine z_bipush (v := nI 64) d_m_card_268 270 rfl rfl ?_
                  refine z_iload_n d_m_card_270 271 rfl rfl rfl ?_
                  refine zm_cVv (fun aa f => vf = f ∧ sk 64 x4 aa ∧ slotP aa 64 (dr ++ (ltW k :: 32 :: nmB n) ++ [32] ++ nmB m)) d_m_card_271 274 rfl mv_m_writeName kl_m_124 (by decide) (fun Q' h => c_m_writeName 64 m s_x4 (by decide) (by simp [nmB]; omega) (by omega) (fun aa h1 h2 => h _ _ ⟨rfl, h1, h2⟩)) rfl rfl (Nat.le_of_ble_eq_true rfl) ?_; rintro x5 _ ⟨rfl, k_x5, s_x5⟩
                  exact tail x5 (ltW k :: 32 :: (nmB n ++ 32 :: nmB m)) none (((kk.trans k_x3).trans k_x4).trans k_x5) (by simpa using s_x5) (by rw [← hL2]; simp)
            refine z_aload_n d_m_card_231 232 rfl rfl rfl ?_
            refine z_bipush (v := nI 64) d_m_card_232 234 rfl rfl ?_
            refine z_iload_n d_m_card_234 235 rfl rfl rfl ?_
            refine z_bipush (v := nI 6) d_m_card_235 237 rfl rfl ?_
            refine z_icmp_ne (tgt := 245) d_m_card_237 240 rfl rfl (fun h237 => ?_) (fun h237 => ?_)
            · -- M, R, P
              have hk6 : ¬ k = nI 6 := h237
              refine z_iload_n d_m_card_245 246 rfl rfl rfl ?_
              have h3 : isNm a = true := by
                unfold cardW at hL
                (repeat' split at hL) <;> first | assumption | (simp at hL; done) | (exfalso; simp_all; done)
              have hL8 : 9 ≤ L.length := by
                unfold cardW at hL
                (repeat' split at hL) <;> simp at hL <;> first | (subst hL; simp [nmB]; done) | (exfalso; simp_all; done)
              have c1 : (¬ k = nI 3 ∨ b = -1) → ltW k :: 32 :: (nmB (toN a) ++ [10]) = L := by
                intro hc
                simp only [cardW, h67, h124, h157, hk6, h3, if_true, if_false, ite_true, ite_false] at hL
                simp only [ltW, h67, h124, h157, if_true, if_false, ite_true, ite_false]
                (repeat' split at hL) <;> simp_all [nI_eq, nI_z]
              have c2 : k = nI 3 → ¬ b = -1 → isNm b = true ∧ ltW k :: 32 :: (nmB (toN a) ++ 32 :: (nmB (toN b) ++ [10])) = L := by
                intro hc hb
                subst hc
                simp only [cardW, h3, hb, if_true, if_false, ite_true, ite_false, show ¬ (nI 3 : Int32) = 0 by decide, show ¬ (nI 3 : Int32) = nI 1 by decide, show ¬ (nI 3 : Int32) = nI 2 by decide, show ¬ (nI 3 : Int32) = nI 4 by decide] at hL
                split at hL
                next hq => cases hL; exact ⟨hq.1, by simp [ltW, show ¬ (nI 3 : Int32) = 0 by decide, show ¬ (nI 3 : Int32) = nI 1 by decide, show ¬ (nI 3 : Int32) = nI 2 by decide]⟩
                next => cases hL
              obtain ⟨a0, a1, a2⟩ := isNm_to h3
              have r := go (toN a) a2 (fun _ => a1) (by omega) c1 c2
              rw [← a1] at r
              exact r
            · -- Z
              refine z_iload d_m_card_240 242 rfl rfl ?_
              refine z_goto (tgt := 246) d_m_card_242 rfl ?_
              subst h237
              simp [cardW, show ¬ (nI 6 : Int32) = 0 by decide, show ¬ (nI 6 : Int32) = nI 1 by decide, show ¬ (nI 6 : Int32) = nI 2 by decide, show ¬ (nI 6 : Int32) = nI 4 by decide, show ¬ (nI 6 : Int32) = nI 3 by decide, show ¬ (nI 6 : Int32) = nI 5 by decide] at hL
              subst hL
              exact go (dg 7 dr) (by omega) (fun h => absurd h (by decide)) (by simp [nmB] at h26; omega) (fun _ => by simp [ltW, show ¬ (nI 6 : Int32) = 0 by decide, show ¬ (nI 6 : Int32) = nI 1 by decide, show ¬ (nI 6 : Int32) = nI 2 by decide, show ¬ (nI 6 : Int32) = nI 4 by decide, show ¬ (nI 6 : Int32) = nI 3 by decide, show ¬ (nI 6 : Int32) = nI 5 by decide]) (fun h => absurd h (by decide))
          · -- T
            subst h157
            have hlt5 : ltW (nI 5) = 84 := by decide
            rw [hlt5] at s_x2
            have hT : ¬ a < -10 ∧ a ≤ nI 9 ∧ (b = -1 ∨ isNm b = true) := by
              simp only [cardW, show ¬ (nI 5 : Int32) = 0 by decide, show ¬ (nI 5 : Int32) = nI 1 by decide, show ¬ (nI 5 : Int32) = nI 2 by decide, show ¬ (nI 5 : Int32) = nI 4 by decide, show ¬ (nI 5 : Int32) = nI 3 by decide, if_true, if_false, ite_true, ite_false] at hL
              split at hL
              next hq =>
                refine ⟨hq.1, hq.2, ?_⟩
                split at hL
                next hb => exact Or.inl hb
                next =>
                  split at hL
                  next hb => exact Or.inr hb
                  next => cases hL
              next => cases hL
            obtain ⟨ta, tb, tc⟩ := hT
            have hLT : L = if b = -1 then [84, 32, sgn a, 48 + dg1 a, 32, 42, 10] else [84, 32, sgn a, 48 + dg1 a, 32] ++ nmB (toN b) ++ [10] := by
              simp only [cardW, show ¬ (nI 5 : Int32) = 0 by decide, show ¬ (nI 5 : Int32) = nI 1 by decide, show ¬ (nI 5 : Int32) = nI 2 by decide, show ¬ (nI 5 : Int32) = nI 4 by decide, show ¬ (nI 5 : Int32) = nI 3 by decide, if_true, if_false, ite_true, ite_false] at hL
              rw [if_pos ⟨ta, tb⟩] at hL
              split
              next hb => rw [if_pos hb] at hL; cases hL; rfl
              next hb => rw [if_neg hb, if_pos (tc.resolve_left hb)] at hL; cases hL; rfl
            have hL7 : 7 ≤ L.length := by rw [hLT]; split <;> simp [nmB]
            obtain ⟨m, hm, hsg, hdg⟩ : ∃ m, m ≤ 9 ∧ m = dg1 a ∧ (if a < 0 then -1 - a else a) = nI m := by
              by_cases hn : a < 0
              · have : ¬ (-1 - a) < 0 ∧ (-1 - a) ≤ nI 9 := by
                  have h1 := Int32.lt_iff_toInt_lt.mp hn
                  have h2 : ¬ a.toInt < (-10 : Int32).toInt := fun q => ta (Int32.lt_iff_toInt_lt.mpr q)
                  have h3 : (-1 - a : Int32).toInt = -1 - a.toInt := by
                    rw [Int32.toInt_sub, show (-1 : Int32).toInt = -1 by decide]
                    rw [show ((-10 : Int32)).toInt = -10 by decide] at h2
                    rw [show ((0 : Int32)).toInt = 0 by decide] at h1
                    rw [Int.bmod_eq_of_le (by omega) (by omega)]
                  rw [show ((-10 : Int32)).toInt = -10 by decide] at h2
                  rw [show ((0 : Int32)).toInt = 0 by decide] at h1
                  constructor
                  · intro q
                    have := Int32.lt_iff_toInt_lt.mp q
                    rw [h3, show ((0 : Int32)).toInt = 0 by decide] at this
                    omega
                  · apply Int32.le_iff_toInt_le.mpr
                    rw [h3, show (nI 9 : Int32).toInt = 9 by decide]
                    omega
                obtain ⟨e, he⟩ := nI_toN this.1
                refine ⟨toN (-1 - a), ?_, by simp [dg1, hn], by rw [if_pos hn]; exact e⟩
                have h9 := this.2
                rw [e] at h9
                exact (nI_leI he (by decide)).1 h9
              · obtain ⟨e, he⟩ := nI_toN hn
                refine ⟨toN a, ?_, by simp [dg1, hn], by rw [if_neg hn]; exact e⟩
                rw [e] at tb
                exact (nI_leI he (by decide)).1 tb
            rw [← hsg] at hLT
            have s_x2 : slotP x2 64 (dr ++ [84, 32]) := by simpa using s_x2
            have go : ∀ z : Option Value, Z l D M_m_card 0 0 Q (zmod D o hp x2 vf) 0 0 174 [some (.ref o), some (.int (nI 5)), some (.int a), some (.int b), some (.int (nI n9)), some (.int (nI (dg 7 dr))), none] [.int (nI (sgn a)), .int (nI 64), .ref o] := by
              intro z
              have hs2 : sgn a < 256 := by unfold sgn; split <;> decide
              refine zm_cVv (fun aa f => vf = f ∧ sk 64 x2 aa ∧ slotP aa 64 (dr ++ [84, 32] ++ [sgn a])) d_m_card_174 177 rfl mv_m_write kl_m_111 (by decide) (fun Q' h => c_m_write 64 (sgn a) s_x2 (by decide) (by first | omega | (simp; omega)) (by omega) (fun aa h1 h2 => h _ _ ⟨rfl, h1, h2⟩)) rfl rfl (Nat.le_of_ble_eq_true rfl) ?_; rintro x3 _ ⟨rfl, k_x3, s_x3⟩
              refine z_aload_n d_m_card_177 178 rfl rfl rfl ?_
              refine z_bipush (v := nI 64) d_m_card_178 180 rfl rfl ?_
              refine z_bipush (v := nI 48) d_m_card_180 182 rfl rfl ?_
              refine z_iload_n d_m_card_182 183 rfl rfl rfl ?_
              have go2 : Z l D M_m_card 0 0 Q (zmod D o hp x3 vf) 0 0 193 [some (.ref o), some (.int (nI 5)), some (.int a), some (.int b), some (.int (nI n9)), some (.int (nI (dg 7 dr))), none] [.int (nI m), .int (nI 48), .int (nI 64), .ref o] := by
                first | refine z_iaddN d_m_card_193 194 rfl ?_ | refine z_iadd d_m_card_193 194 rfl ?_
                refine zm_cVv (fun aa f => vf = f ∧ sk 64 x3 aa ∧ slotP aa 64 (dr ++ [84, 32] ++ [sgn a] ++ [48 + m])) d_m_card_194 197 rfl mv_m_write kl_m_111 (by decide) (fun Q' h => c_m_write 64 (48 + m) s_x3 (by decide) (by first | omega | (simp; omega)) (by omega) (fun aa h1 h2 => h _ _ ⟨rfl, h1, h2⟩)) rfl rfl (Nat.le_of_ble_eq_true rfl) ?_; rintro x4 _ ⟨rfl, k_x4, s_x4⟩
                refine z_aload_n d_m_card_197 198 rfl rfl rfl ?_
                refine z_bipush (v := nI 64) d_m_card_198 200 rfl rfl ?_
                refine z_bipush (v := nI 32) d_m_card_200 202 rfl rfl ?_
                refine zm_cVv (fun aa f => vf = f ∧ sk 64 x4 aa ∧ slotP aa 64 (dr ++ [84, 32] ++ [sgn a] ++ [48 + m] ++ [32])) d_m_card_202 205 rfl mv_m_write kl_m_111 (by decide) (fun Q' h => c_m_write 64 (32) s_x4 (by decide) (by first | omega | (simp; omega)) (by omega) (fun aa h1 h2 => h _ _ ⟨rfl, h1, h2⟩)) rfl rfl (Nat.le_of_ble_eq_true rfl) ?_; rintro x5 _ ⟨rfl, k_x5, s_x5⟩
                have ka := ((kk.trans k_x3).trans k_x4).trans k_x5
                refine z_iload_n d_m_card_205 206 rfl rfl rfl ?_
                refine z_iconst (v := -1) d_m_card_206 207 rfl (by decide) ?_
                refine z_icmp_ne (tgt := 221) d_m_card_207 210 rfl rfl (fun h207 => ?_) (fun h207 => ?_)
                · rw [if_neg h207] at hLT
                  obtain ⟨b0, b1, b2⟩ := isNm_to (tc.resolve_left h207)
                  have hl2 : dr.length + 12 ≤ 240 := by rw [hLT] at h26; simpa [nmB] using h26
                  generalize toN b = q at b1 b2 hLT
                  subst b1
                  refine z_aload_n d_m_card_221 222 rfl rfl rfl ?_
                  refine z_bipush (v := nI 64) d_m_card_222 224 rfl rfl ?_
                  refine z_iload_n d_m_card_224 225 rfl rfl rfl ?_
                  refine zm_cVv (fun aa f => vf = f ∧ sk 64 x5 aa ∧ slotP aa 64 (dr ++ [84, 32] ++ [sgn a] ++ [48 + m] ++ [32] ++ nmB q)) d_m_card_225 228 rfl mv_m_writeName kl_m_124 (by decide) (fun Q' h => c_m_writeName 64 q s_x5 (by decide) (by first | omega | (simp; omega)) (by omega) (fun aa h1 h2 => h _ _ ⟨rfl, h1, h2⟩)) rfl rfl (Nat.le_of_ble_eq_true rfl) ?_; rintro x6 _ ⟨rfl, k_x6, s_x6⟩
                  refine z_goto (tgt := 274) d_m_card_228 rfl ?_
                  exact tail x6 ([84, 32, sgn a, 48 + m, 32] ++ nmB q) none (ka.trans k_x6) (by simpa using s_x6) (by rw [hLT])
                · rw [if_pos h207] at hLT
                  refine z_aload_n d_m_card_210 211 rfl rfl rfl ?_
                  refine z_bipush (v := nI 64) d_m_card_211 213 rfl rfl ?_
                  refine z_bipush (v := nI 42) d_m_card_213 215 rfl rfl ?_
                  refine zm_cVv (fun aa f => vf = f ∧ sk 64 x5 aa ∧ slotP aa 64 (dr ++ [84, 32] ++ [sgn a] ++ [48 + m] ++ [32] ++ [42])) d_m_card_215 218 rfl mv_m_write kl_m_111 (by decide) (fun Q' h => c_m_write 64 (42) s_x5 (by decide) (by first | omega | (simp; omega)) (by omega) (fun aa h1 h2 => h _ _ ⟨rfl, h1, h2⟩)) rfl rfl (Nat.le_of_ble_eq_true rfl) ?_; rintro x6 _ ⟨rfl, k_x6, s_x6⟩
                  refine z_goto (tgt := 274) d_m_card_218 rfl ?_
                  exact tail x6 [84, 32, sgn a, 48 + m, 32, 42] none (ka.trans k_x6) (by simpa using s_x6) (by rw [hLT]; rfl)
              refine z_if_lt (tgt := 190) d_m_card_183 186 rfl rfl (fun h183 => ?_) (fun h183 => ?_)
              · refine z_iconst (v := -1) d_m_card_190 191 rfl (by decide) ?_
                refine z_iload_n d_m_card_191 192 rfl rfl rfl ?_
                refine z_isub d_m_card_192 193 rfl ?_
                rw [if_pos h183] at hdg
                rw [hdg]
                exact go2
              · refine z_iload_n d_m_card_186 187 rfl rfl rfl ?_
                refine z_goto (tgt := 193) d_m_card_187 rfl ?_
                rw [if_neg h183] at hdg
                rw [hdg] at go2 ⊢
                exact go2
            refine z_aload_n d_m_card_160 161 rfl rfl rfl ?_
            refine z_bipush (v := nI 64) d_m_card_161 163 rfl rfl ?_
            refine z_iload_n d_m_card_163 164 rfl rfl rfl ?_
            refine z_if_lt (tgt := 172) d_m_card_164 167 rfl rfl (fun h164 => ?_) (fun h164 => ?_)
            · refine z_bipush (v := nI 45) d_m_card_172 174 rfl rfl ?_
              have := go none
              rw [show sgn a = 45 by simp [sgn, h164]] at this
              exact this
            · refine z_bipush (v := nI 43) d_m_card_167 169 rfl rfl ?_
              refine z_goto (tgt := 174) d_m_card_169 rfl ?_
              have := go none
              rw [show sgn a = 43 by simp [sgn, h164]] at this
              exact this
        · -- F
          subst h124
          have hF : ¬ a < 0 ∧ ¬ nI 9 < a ∧ isNm b = true := by
            simp only [cardW, show ¬ (nI 1 : Int32) = 0 by decide, if_true, if_false, ite_true, ite_false] at hL
            split at hL
            next hq => exact hq
            next => cases hL
          have hLF : L = [70, 32, 48 + toN a, 32] ++ nmB (toN b) ++ [10] := by
            simp only [cardW, show ¬ (nI 1 : Int32) = 0 by decide, if_true, if_false, ite_true, ite_false] at hL
            rw [if_pos hF] at hL
            cases hL
            rfl
          obtain ⟨a1, a2⟩ := nI_toN hF.1
          have a3 : toN a ≤ 9 := by
            have := hF.2.1
            rw [a1] at this
            have h9 : ¬ 9 < toN a := fun q => this ((nI_ltI (by decide) a2).2 q)
            omega
          obtain ⟨b0, b1, b2⟩ := isNm_to hF.2.2
          rw [show ltW (nI 1) = 70 by decide] at s_x2
          have s_x2 : slotP x2 64 (dr ++ [70, 32]) := by simpa using s_x2
          clear hF hL3
          generalize toN a = m at a1 a2 a3 hLF
          generalize toN b = q at b1 b2 hLF
          have hl2 : dr.length + 11 ≤ 240 := by rw [hLF] at h26; simpa [nmB] using h26
          subst a1
          subst b1
          refine z_aload_n d_m_card_127 128 rfl rfl rfl ?_
          refine z_bipush (v := nI 64) d_m_card_128 130 rfl rfl ?_
          refine z_bipush (v := nI 48) d_m_card_130 132 rfl rfl ?_
          refine z_iload_n d_m_card_132 133 rfl rfl rfl ?_
          first | refine z_iaddN d_m_card_133 134 rfl ?_ | refine z_iadd d_m_card_133 134 rfl ?_
          refine zm_cVv (fun aa f => vf = f ∧ sk 64 x2 aa ∧ slotP aa 64 (dr ++ [70, 32] ++ [48 + m])) d_m_card_134 137 rfl mv_m_write kl_m_111 (by decide) (fun Q' h => c_m_write 64 (48 + m) s_x2 (by decide) (by first | omega | (simp; omega)) (by omega) (fun aa h1 h2 => h _ _ ⟨rfl, h1, h2⟩)) rfl rfl (Nat.le_of_ble_eq_true rfl) ?_; rintro x3 _ ⟨rfl, k_x3, s_x3⟩
          refine z_aload_n d_m_card_137 138 rfl rfl rfl ?_
          refine z_bipush (v := nI 64) d_m_card_138 140 rfl rfl ?_
          refine z_bipush (v := nI 32) d_m_card_140 142 rfl rfl ?_
          refine zm_cVv (fun aa f => vf = f ∧ sk 64 x3 aa ∧ slotP aa 64 (dr ++ [70, 32] ++ [48 + m] ++ [32])) d_m_card_142 145 rfl mv_m_write kl_m_111 (by decide) (fun Q' h => c_m_write 64 (32) s_x3 (by decide) (by first | omega | (simp; omega)) (by omega) (fun aa h1 h2 => h _ _ ⟨rfl, h1, h2⟩)) rfl rfl (Nat.le_of_ble_eq_true rfl) ?_; rintro x4 _ ⟨rfl, k_x4, s_x4⟩
          refine z_aload_n d_m_card_145 146 rfl rfl rfl ?_
          refine z_bipush (v := nI 64) d_m_card_146 148 rfl rfl ?_
          refine z_iload_n d_m_card_148 149 rfl rfl rfl ?_
          refine zm_cVv (fun aa f => vf = f ∧ sk 64 x4 aa ∧ slotP aa 64 (dr ++ [70, 32] ++ [48 + m] ++ [32] ++ nmB q)) d_m_card_149 152 rfl mv_m_writeName kl_m_124 (by decide) (fun Q' h => c_m_writeName 64 q s_x4 (by decide) (by first | omega | (simp; omega)) (by omega) (fun aa h1 h2 => h _ _ ⟨rfl, h1, h2⟩)) rfl rfl (Nat.le_of_ble_eq_true rfl) ?_; rintro x5 _ ⟨rfl, k_x5, s_x5⟩
          refine z_goto (tgt := 274) d_m_card_152 rfl ?_
          exact tail x5 ([70, 32, 48 + m, 32] ++ nmB q) none (((kk.trans k_x3).trans k_x4).trans k_x5) (by simpa using s_x5) (by rw [hLF])
      · -- D
        have hD : ¬ a < 0 ∧ a ≤ nI 9999 := by
          simp only [cardW, if_pos h67] at hL
          split at hL
          next hq => exact hq
          next => cases hL
        have hLD : L = [68, 32] ++ dec (toN a) ++ [10] := by
          simp only [cardW, if_pos h67] at hL
          rw [if_pos hD] at hL
          cases hL
          rfl
        obtain ⟨a1, a2⟩ := nI_toN hD.1
        have a3 : toN a ≤ 9999 := by
          have := hD.2
          rw [a1] at this
          exact (nI_leI a2 (by decide)).1 this
        rw [show ltW k = 68 by simp [ltW, h67]] at s_x2
        have s_x2 : slotP x2 64 (dr ++ ([68, 32] ++ [])) := by simpa using s_x2
        clear hD hL3
        generalize toN a = m at a1 a2 a3 hLD
        subst a1
        refine z_sipush (v := nI 1000) d_m_card_70 73 rfl rfl ?_
        refine z_ist6 d_m_card_73 75 rfl rfl ?_
        -- one figure
        have step : ∀ (p p' : Nat) (x : Nat → Nat → Int32) (B : List Nat), 0 < p → p ≤ 1000 → p / 10 = p' → sk 64 va x → slotP x 64 (dr ++ ([68, 32] ++ B)) → B.length ≤ 3 → (∃ T, dec m = B ++ ((if p ≤ m ∨ p = 1 then [48 + m / p % 10] else []) ++ T)) → (∀ x' , sk 64 va x' → slotP x' 64 (dr ++ ([68, 32] ++ (B ++ (if p ≤ m ∨ p = 1 then [48 + m / p % 10] else [])))) → Z l D M_m_card 0 0 Q (zmod D o hp x' vf) 0 0 75 [some (.ref o), some (.int k), some (.int (nI m)), some (.int b), some (.int (nI n9)), some (.int (nI (dg 7 dr))), some (.int (nI p'))] []) → Z l D M_m_card 0 0 Q (zmod D o hp x vf) 0 0 75 [some (.ref o), some (.int k), some (.int (nI m)), some (.int b), some (.int (nI n9)), some (.int (nI (dg 7 dr))), some (.int (nI p))] [] := by
          intro p p' x B hp0 hp1 hpp hk s_x hB hT next
          have wr : (p ≤ m ∨ p = 1) → Z l D M_m_card 0 0 Q (zmod D o hp x vf) 0 0 93 [some (.ref o), some (.int k), some (.int (nI m)), some (.int b), some (.int (nI n9)), some (.int (nI (dg 7 dr))), some (.int (nI p))] [] := by
            intro hc
            rw [if_pos hc] at next
            obtain ⟨T, hT⟩ := hT
            rw [if_pos hc] at hT
            have hroom : dr.length + B.length + 4 ≤ 240 := by
              rw [hLD, hT] at h26
              simp at h26
              omega
            have hdiv : m / p ≤ m := Nat.div_le_self _ _
            refine z_aload_n d_m_card_93 94 rfl rfl rfl ?_
            refine z_bipush (v := nI 64) d_m_card_94 96 rfl rfl ?_
            refine z_bipush (v := nI 48) d_m_card_96 98 rfl rfl ?_
            refine z_iload_n d_m_card_98 99 rfl rfl rfl ?_
            refine z_iload d_m_card_99 101 rfl rfl ?_
            refine z_idivN d_m_card_101 102 rfl (by omega) (by omega) (by omega) ?_
            refine z_bipush (v := nI 10) d_m_card_102 104 rfl rfl ?_
            refine z_iremN d_m_card_104 105 rfl (by omega) (by omega) (by omega) ?_
            first | refine z_iaddN d_m_card_105 106 rfl ?_ | refine z_iadd d_m_card_105 106 rfl ?_
            refine zm_cVv (fun aa f => vf = f ∧ sk 64 x aa ∧ slotP aa 64 (dr ++ ([68, 32] ++ B) ++ [48 + m / p % 10])) d_m_card_106 109 rfl mv_m_write kl_m_111 (by decide) (fun Q' h => c_m_write 64 (48 + m / p % 10) s_x (by decide) (by first | omega | (simp; omega)) (by omega) (fun aa h1 h2 => h _ _ ⟨rfl, h1, h2⟩)) rfl rfl (Nat.le_of_ble_eq_true rfl) ?_; rintro y _ ⟨rfl, k_y, s_y⟩
            rw [List.append_assoc, List.append_assoc] at s_y
            refine z_iload d_m_card_109 111 rfl rfl ?_
            refine z_bipush (v := nI 10) d_m_card_111 113 rfl rfl ?_
            refine z_idivN d_m_card_113 114 rfl (by omega) (by omega) (by omega) ?_
            rw [hpp]
            refine z_ist6 d_m_card_114 116 rfl rfl ?_
            refine z_goto (tgt := 75) d_m_card_116 rfl ?_
            exact next y (hk.trans k_y) s_y
          refine z_iload d_m_card_75 77 rfl rfl ?_
          refine z_iconst (v := nI 1) d_m_card_77 78 rfl rfl ?_
          refine z_icmp_ltN (tgt := 119) d_m_card_78 81 rfl rfl (by omega) (by omega) (fun h78 => ?_) (fun h78 => ?_)
          · omega
          · refine z_iload_n d_m_card_81 82 rfl rfl rfl ?_
            refine z_iload d_m_card_82 84 rfl rfl ?_
            refine z_icmp_geN (tgt := 93) d_m_card_84 87 rfl rfl (by omega) (by omega) (fun h84 => ?_) (fun h84 => ?_)
            · exact wr (Or.inl h84)
            · refine z_iload d_m_card_87 89 rfl rfl ?_
              refine z_iconst (v := nI 1) d_m_card_89 90 rfl rfl ?_
              refine z_icmp_neN (tgt := 109) d_m_card_90 93 rfl rfl (by omega) (by omega) (fun h90 => ?_) (fun h90 => ?_)
              · rw [if_neg (by omega), List.append_nil] at next
                refine z_iload d_m_card_109 111 rfl rfl ?_
                refine z_bipush (v := nI 10) d_m_card_111 113 rfl rfl ?_
                refine z_idivN d_m_card_113 114 rfl (by omega) (by omega) (by omega) ?_
                rw [hpp]
                refine z_ist6 d_m_card_114 116 rfl rfl ?_
                refine z_goto (tgt := 75) d_m_card_116 rfl ?_
                exact next x hk s_x
              · exact wr (Or.inr h90)
        have e1 : dec m = (if 1000 ≤ m ∨ 1000 = 1 then [48 + m / 1000 % 10] else []) ++ ((if 100 ≤ m ∨ 100 = 1 then [48 + m / 100 % 10] else []) ++ ((if 10 ≤ m ∨ 10 = 1 then [48 + m / 10 % 10] else []) ++ (if 1 ≤ m ∨ 1 = 1 then [48 + m / 1 % 10] else []))) := by simp [dec]
        generalize hb1 : (if 1000 ≤ m ∨ 1000 = 1 then [48 + m / 1000 % 10] else []) = B1 at e1
        generalize hb2 : (if 100 ≤ m ∨ 100 = 1 then [48 + m / 100 % 10] else []) = B2 at e1
        generalize hb3 : (if 10 ≤ m ∨ 10 = 1 then [48 + m / 10 % 10] else []) = B3 at e1
        generalize hb4 : (if 1 ≤ m ∨ 1 = 1 then [48 + m / 1 % 10] else []) = B4 at e1
        have l1 : B1.length ≤ 1 := by rw [← hb1]; split <;> simp
        have l2 : B2.length ≤ 1 := by rw [← hb2]; split <;> simp
        have l3 : B3.length ≤ 1 := by rw [← hb3]; split <;> simp
        refine step 1000 100 x2 [] (by decide) (by decide) (by decide) kk s_x2 (by simp) ⟨_, by rw [hb1, List.nil_append]; exact e1⟩ (fun y1 ky1 sy1 => ?_)
        rw [hb1, List.nil_append] at sy1
        refine step 100 10 y1 B1 (by decide) (by decide) (by decide) ky1 sy1 (by omega) ⟨_, by rw [hb2]; exact e1⟩ (fun y2 ky2 sy2 => ?_)
        rw [hb2] at sy2
        refine step 10 1 y2 (B1 ++ B2) (by decide) (by decide) (by decide) ky2 sy2 (by simp; omega) ⟨_, by rw [hb3, List.append_assoc]; exact e1⟩ (fun y3 ky3 sy3 => ?_)
        rw [hb3] at sy3
        refine step 1 0 y3 (B1 ++ B2 ++ B3) (by decide) (by decide) (by decide) ky3 sy3 (by simp; omega) ⟨[], by rw [hb4, List.append_nil, List.append_assoc, List.append_assoc]; exact e1⟩ (fun y4 ky4 sy4 => ?_)
        rw [hb4] at sy4
        refine z_iload d_m_card_75 77 rfl rfl ?_
        refine z_iconst (v := nI 1) d_m_card_77 78 rfl rfl ?_
        refine z_icmp_ltN (tgt := 119) d_m_card_78 81 rfl rfl (by omega) (by omega) (fun h78 => ?_) (fun h78 => ?_)
        · refine z_goto (tgt := 274) d_m_card_119 rfl ?_
          exact tail y4 ([68, 32] ++ (B1 ++ B2 ++ B3 ++ B4)) (some (.int (nI 0))) ky4 sy4 (by rw [hLD, e1]; simp)
        · omega
    · refine z_iconst (v := -1) d_m_card_29 30 rfl (by decide) ?_
      exact z_iret d_m_card_30 rfl (Nat.le_refl 0) (Nat.le_refl 0) (hQ0 (Or.inr ⟨L, hL, by omega⟩))
end M10
