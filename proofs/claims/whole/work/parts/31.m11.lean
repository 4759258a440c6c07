/-! The reference: drop, files, hold, put. Own work. -/
/-- a repository has taken a text into its slot n -/
def hdR (r n : Nat) (va va' : Nat → Nat → Int32) : Prop := (∀ j, 4 ≤ j → va' j = va j) ∧ (∀ q, q ≠ r → va' 3 q = va 3 q) ∧ (∀ q, q ≠ 32 * r + n → va' 2 q = va 2 q ∧ va' 1 q = va 1 q) ∧ ∀ i, (i < 240 * (32 * r + n) ∨ 240 * (32 * r + n) + 240 ≤ i) → va' 0 i = va 0 i
theorem hdR.slot {r n t : Nat} {va va' : Nat → Nat → Int32} {bs : List Nat} (h : hdR r n va va') (ht : t ≠ 32 * r + n) (hr : slotP va t bs) : slotP va' t bs := by
  refine ⟨fun k hk => ?_, by rw [(h.2.2.1 t ht).2]; exact hr.2.1, hr.2.2⟩
  have hl := hr.2.2
  rw [h.2.2.2 _ (by omega)]
  exact hr.1 k hk
theorem hdR.rep {r n q : Nat} {va va' : Nat → Nat → Int32} {As : List (List Nat)} (h : hdR r n va va') (hn : n < 32) (hq : q ≠ r) (hr : repP va q As) : repP va' q As := by
  have h32 := hr.1
  refine ⟨hr.1, by rw [h.2.1 q hq]; exact hr.2.1, fun i hi => ⟨h.slot (by omega) (hr.2.2 i hi).1, by rw [(h.2.2.1 _ (by omega)).1]; exact (hr.2.2 i hi).2⟩⟩
section M11
variable {l : Launch} {D : zD} {hp : zH} {o : Nat} {va : Nat → Nat → Int32} {vf : Nat → Int32} {Q : Option Value → zH → Prop}
theorem c_m_drop {dr : List Nat} (hr : slotP va 64 dr) (hQ : ∀ va', sk 64 va va' → slotP va' 64 [] → Q (some (.int (nI dr.length))) (zmod D o hp va' vf)) : Runs l D M_m_drop [.ref o] (zmod D o hp va vf) 0 0 Q := by
  refine Runs.of rfl rfl (Nat.le_of_ble_eq_true rfl) ?_
  refine z_aload_n d_m_drop_0 1 rfl rfl rfl ?_
  refine zm_getA 1 d_m_drop_1 4 rfl f_m_13 rfl ?_
  refine z_bipush (v := nI 64) d_m_drop_4 6 rfl rfl ?_
  refine zm_iald d_m_drop_6 7 rfl (by decide) rfl (by simp only [zln]; omega) ?_
  rw [hr.2.1]
  refine z_ist1 d_m_drop_7 8 rfl rfl ?_
  refine z_aload_n d_m_drop_8 9 rfl rfl rfl ?_
  refine zm_getA 1 d_m_drop_9 12 rfl f_m_13 rfl ?_
  refine z_bipush (v := nI 64) d_m_drop_12 14 rfl rfl ?_
  refine z_iconst (v := nI 0) d_m_drop_14 15 rfl rfl ?_
  refine zm_iast d_m_drop_15 16 rfl (by decide) rfl (by simp only [zln]; omega) ?_
  refine z_iload_n d_m_drop_16 17 rfl rfl rfl ?_
  exact z_iret d_m_drop_17 rfl (Nat.le_refl 0) (Nat.le_refl 0) (hQ _ ⟨fun j hj => by simp only [va_up]; rw [if_neg (by omega)], fun t ht => by show upd (va 1) 64 _ t = _; exact pk_un ht, fun i _ => rfl⟩ ⟨fun k hk => by simp at hk, by show upd (va 1) 64 _ 64 = _; rw [pk_us]; rfl, by simp⟩)
theorem isRp_of {r : Int32} (h : isRp r = true) : ∃ q : Nat, q < 2 ∧ r = nI q := by
  simp only [isRp, Bool.or_eq_true, decide_eq_true_eq] at h
  rcases h with h | h
  · exact ⟨0, by decide, h⟩
  · exact ⟨1, by decide, h⟩
theorem c_m_files (r : Int32) {As : Nat → List (List Nat)} {dr : List Nat} (hR : ∀ q, q < 2 → repP va q (As q)) (hr : slotP va 64 dr)
    (hQ : ∀ f : Nat → Int32, f 9 = vf 9 → Q (some (.int (if isRp r = true then oI (filesL (As (toN r)) (lns dr) 7) else -1))) (zmod D o hp va f)) : Runs l D M_m_files [.ref o, .int r] (zmod D o hp va vf) 0 0 Q := by
  refine Runs.of rfl rfl (Nat.le_of_ble_eq_true rfl) ?_
  refine z_iload_n d_m_files_0 1 rfl rfl rfl ?_
  refine zm_cS1 d_m_files_1 4 rfl ms_m_isRepository kl_m_129 (by decide) (fun Q' h => c_m_isRepository _ h) rfl rfl (Nat.le_of_ble_eq_true rfl) ?_
  refine z_if_eqB (tgt := 17) d_m_files_4 7 rfl rfl (fun h4 => ?_) (fun h4 => ?_)
  · rw [h4] at hQ
    refine z_iconst (v := -1) d_m_files_17 18 rfl (by decide) ?_
    exact z_iret d_m_files_18 rfl (Nat.le_refl 0) (Nat.le_refl 0) (hQ vf rfl)
  · rw [h4] at hQ
    obtain ⟨q, hq, rfl⟩ := isRp_of h4
    rw [toN_nI (by omega), if_pos rfl] at hQ
    refine z_aload_n d_m_files_7 8 rfl rfl rfl ?_
    refine z_iload_n d_m_files_8 9 rfl rfl rfl ?_
    refine z_bipush (v := nI 64) d_m_files_9 11 rfl rfl ?_
    refine zm_cV (fun v a f => v = .int (oI (filesL (As q) (lns dr) 7)) ∧ va = a ∧ f 9 = vf 9) d_m_files_11 14 rfl mv_m_filesOf kl_m_105 (by decide) (fun Q' h => c_m_filesOf q 64 hq (hR q hq) hr (by decide) (fun f h1 => h _ _ _ ⟨rfl, rfl, h1⟩)) rfl rfl (Nat.le_of_ble_eq_true rfl) ?_; rintro _ _ f ⟨rfl, rfl, i1⟩
    refine z_goto (tgt := 18) d_m_files_14 rfl ?_
    exact z_iret d_m_files_18 rfl (Nat.le_refl 0) (Nat.le_refl 0) (hQ f i1)
theorem c_m_hold (r s : Nat) {As : List (List Nat)} {bs : List Nat} (hr2 : r < 2) (hR : repP va r As) (hs : s < 66) (hne : As.length < 32 → s ≠ 32 * r + As.length) (hr : slotP va s bs)
    (hQ0 : (fnd (nI (dg 7 bs)) As (32 * r) ≠ none ∨ As.length = 32) → Q none (zmod D o hp va vf))
    (hQ : fnd (nI (dg 7 bs)) As (32 * r) = none → As.length < 32 → ∀ va', hdR r As.length va va' → repP va' r (As ++ [bs]) → Q none (zmod D o hp va' vf)) :
    Runs l D M_m_hold [.ref o, .int (nI r), .int (nI s), .int (nI (dg 7 bs))] (zmod D o hp va vf) 0 0 Q := by
  refine Runs.of rfl rfl (Nat.le_of_ble_eq_true rfl) ?_
  have h32 := hR.1
  have hl := hr.2.2
  refine z_aload_n d_m_hold_0 1 rfl rfl rfl ?_
  refine z_iload_n d_m_hold_1 2 rfl rfl rfl ?_
  refine z_iload_n d_m_hold_2 3 rfl rfl rfl ?_
  refine zm_cV1 d_m_hold_3 6 rfl mv_m_find kl_m_98 (by decide) (fun Q' h => c_m_find r _ hr2 hR h) rfl rfl (Nat.le_of_ble_eq_true rfl) ?_
  refine z_if_geO (tgt := 20) d_m_hold_6 9 rfl rfl (fun v h => by obtain ⟨h1, h2, -⟩ := (fnd_lk _ As (32 * r)).2 v h; omega) (fun w6 h6 => ?_) (fun h6 => ?_)
  · exact z_vret d_m_hold_20 rfl (Nat.le_refl 0) (Nat.le_refl 0) (hQ0 (Or.inl (by rw [h6]; simp)))
  · refine z_aload_n d_m_hold_9 10 rfl rfl rfl ?_
    refine zm_getA 3 d_m_hold_10 13 rfl f_m_20 rfl ?_
    refine z_iload_n d_m_hold_13 14 rfl rfl rfl ?_
    refine zm_iald d_m_hold_14 15 rfl (by decide) rfl (by simp only [zln]; omega) ?_
    rw [hR.2.1]
    refine z_bipush (v := nI 32) d_m_hold_15 17 rfl rfl ?_
    refine z_icmp_neN (tgt := 21) d_m_hold_17 20 rfl rfl (by omega) (by omega) (fun h17 => ?_) (fun h17 => ?_)
    · have hlt : As.length < 32 := by omega
      have hne := hne hlt
      refine z_bipush (v := nI 32) d_m_hold_21 23 rfl rfl ?_
      refine z_iload_n d_m_hold_23 24 rfl rfl rfl ?_
      first | refine z_imulN d_m_hold_24 25 rfl ?_ | refine z_imul d_m_hold_24 25 rfl ?_
      refine z_aload_n d_m_hold_25 26 rfl rfl rfl ?_
      refine zm_getA 3 d_m_hold_26 29 rfl f_m_20 rfl ?_
      refine z_iload_n d_m_hold_29 30 rfl rfl rfl ?_
      refine zm_iald d_m_hold_30 31 rfl (by decide) rfl (by simp only [zln]; omega) ?_
      rw [hR.2.1]
      first | refine z_iaddN d_m_hold_31 32 rfl ?_ | refine z_iadd d_m_hold_31 32 rfl ?_
      refine z_ist4 d_m_hold_32 34 rfl rfl ?_
      refine z_iconst (v := nI 0) d_m_hold_34 35 rfl rfl ?_
      refine z_ist5 d_m_hold_35 37 rfl rfl ?_
      have loop : ∀ (c k : Nat) (x : Nat → Nat → Int32), k + c = bs.length → (∀ j, 1 ≤ j → x j = va j) → (∀ i, (i < 240 * (32 * r + As.length) ∨ 240 * (32 * r + As.length) + k ≤ i) → x 0 i = va 0 i) → (∀ i, i < k → x 0 (240 * (32 * r + As.length) + i) = sb_b (bs.getD i 0)) → Z l D M_m_hold 0 0 Q (zmod D o hp x vf) 0 0 37 [some (.ref o), some (.int (nI r)), some (.int (nI s)), some (.int (nI (dg 7 bs))), some (.int (nI (32 * r + As.length))), some (.int (nI k))] [] := by
        intro c
        induction c with
        | zero =>
          intro k x hk h1 h2 h3
          refine z_iload d_m_hold_37 39 rfl rfl ?_
          refine z_aload_n d_m_hold_39 40 rfl rfl rfl ?_
          refine zm_getA 1 d_m_hold_40 43 rfl f_m_13 rfl ?_
          refine z_iload_n d_m_hold_43 44 rfl rfl rfl ?_
          refine zm_iald d_m_hold_44 45 rfl (by decide) rfl (by simp only [zln]; omega) ?_
          rw [h1 1 (by decide), hr.2.1]
          refine z_icmp_geN (tgt := 81) d_m_hold_45 48 rfl rfl (by omega) (by omega) (fun h45 => ?_) (fun h45 => ?_)
          · refine z_aload_n d_m_hold_81 82 rfl rfl rfl ?_
            refine zm_getA 1 d_m_hold_82 85 rfl f_m_13 rfl ?_
            refine z_iload d_m_hold_85 87 rfl rfl ?_
            refine z_aload_n d_m_hold_87 88 rfl rfl rfl ?_
            refine zm_getA 1 d_m_hold_88 91 rfl f_m_13 rfl ?_
            refine z_iload_n d_m_hold_91 92 rfl rfl rfl ?_
            refine zm_iald d_m_hold_92 93 rfl (by decide) rfl (by simp only [zln]; omega) ?_
            rw [h1 1 (by decide), hr.2.1]
            refine zm_iast d_m_hold_93 94 rfl (by decide) rfl (by simp only [zln]; omega) ?_
            refine z_aload_n d_m_hold_94 95 rfl rfl rfl ?_
            refine zm_getA 2 d_m_hold_95 98 rfl f_m_17 rfl ?_
            refine z_iload d_m_hold_98 100 rfl rfl ?_
            refine z_iload_n d_m_hold_100 101 rfl rfl rfl ?_
            refine zm_iast d_m_hold_101 102 rfl (by decide) rfl (by simp only [zln]; omega) ?_
            refine z_aload_n d_m_hold_102 103 rfl rfl rfl ?_
            refine zm_getA 3 d_m_hold_103 106 rfl f_m_20 rfl ?_
            refine z_iload_n d_m_hold_106 107 rfl rfl rfl ?_
            refine z_dup2 d_m_hold_107 108 rfl rfl rfl ?_
            refine zm_iald d_m_hold_108 109 rfl (by decide) rfl (by simp only [zln]; omega) ?_
            rw [show (va_up (va_up x 1 (upd (x 1) (32 * r + As.length) (nI bs.length))) 2 (upd ((va_up x 1 (upd (x 1) (32 * r + As.length) (nI bs.length))) 2) (32 * r + As.length) (nI (dg 7 bs)))) 3 r = nI As.length by
              show x 3 r = _
              rw [h1 3 (by decide)]
              exact hR.2.1]
            refine z_iconst (v := nI 1) d_m_hold_109 110 rfl rfl ?_
            first | refine z_iaddN d_m_hold_110 111 rfl ?_ | refine z_iadd d_m_hold_110 111 rfl ?_
            refine zm_iast d_m_hold_111 112 rfl (by decide) rfl (by simp only [zln]; omega) ?_
            have hnew : ∀ y, y = (va_up (va_up (va_up x 1 (upd (x 1) (32 * r + As.length) (nI bs.length))) 2 (upd ((va_up x 1 (upd (x 1) (32 * r + As.length) (nI bs.length))) 2) (32 * r + As.length) (nI (dg 7 bs)))) 3 (upd ((va_up (va_up x 1 (upd (x 1) (32 * r + As.length) (nI bs.length))) 2 (upd ((va_up x 1 (upd (x 1) (32 * r + As.length) (nI bs.length))) 2) (32 * r + As.length) (nI (dg 7 bs)))) 3) r (nI (As.length + 1)))) → hdR r As.length va y ∧ repP y r (As ++ [bs]) := by
              intro y hy
              have y0 : y 0 = x 0 := by rw [hy]; rfl
              have y1 : y 1 = upd (va 1) (32 * r + As.length) (nI bs.length) := by rw [hy, ← h1 1 (by decide)]; rfl
              have y2 : y 2 = upd (va 2) (32 * r + As.length) (nI (dg 7 bs)) := by rw [hy, ← h1 2 (by decide)]; rfl
              have y3 : y 3 = upd (va 3) r (nI (As.length + 1)) := by rw [hy, ← h1 3 (by decide)]; rfl
              have hh : hdR r As.length va y := by
                refine ⟨fun j hj => ?_, fun q hq => by rw [y3]; exact pk_un hq, fun q hq => ⟨by rw [y2]; exact pk_un hq, by rw [y1]; exact pk_un hq⟩, fun i hi => ?_⟩
                · rw [hy]
                  simp only [va_up]
                  rw [if_neg (by omega), if_neg (by omega), if_neg (by omega)]
                  exact h1 j (by omega)
                · rw [y0]
                  exact h2 i (by omega)
              refine ⟨hh, by simp; omega, by rw [y3, pk_us]; simp, fun i hi => ?_⟩
              simp at hi
              by_cases hi2 : i = As.length
              · subst hi2
                have e : (As ++ [bs]).getD As.length [] = bs := by simp
                rw [e]
                refine ⟨⟨fun q hq => ⟨(hr.1 q hq).1, ?_⟩, by rw [y1, pk_us], hl⟩, by rw [y2, pk_us]⟩
                rw [y0]
                exact h3 q (by omega)
              · have e : (As ++ [bs]).getD i [] = As.getD i [] := by simp [List.getElem?_append_left (show i < As.length by omega)]
                rw [e]
                obtain ⟨a1, a2⟩ := hR.2.2 i (by omega)
                refine ⟨hh.slot (by omega) a1, ?_⟩
                rw [y2, pk_un (by omega)]
                exact a2
            obtain ⟨n1, n2⟩ := hnew _ rfl
            exact z_vret d_m_hold_112 rfl (Nat.le_refl 0) (Nat.le_refl 0) (hQ h6 hlt _ n1 n2)
          · omega
        | succ c ih =>
          intro k x hk h1 h2 h3
          refine z_iload d_m_hold_37 39 rfl rfl ?_
          refine z_aload_n d_m_hold_39 40 rfl rfl rfl ?_
          refine zm_getA 1 d_m_hold_40 43 rfl f_m_13 rfl ?_
          refine z_iload_n d_m_hold_43 44 rfl rfl rfl ?_
          refine zm_iald d_m_hold_44 45 rfl (by decide) rfl (by simp only [zln]; omega) ?_
          rw [h1 1 (by decide), hr.2.1]
          refine z_icmp_geN (tgt := 81) d_m_hold_45 48 rfl rfl (by omega) (by omega) (fun h45 => ?_) (fun h45 => ?_)
          · omega
          · refine z_aload_n d_m_hold_48 49 rfl rfl rfl ?_
            refine zm_getA 0 d_m_hold_49 52 rfl f_m_7 rfl ?_
            refine z_sipush (v := nI 240) d_m_hold_52 55 rfl rfl ?_
            refine z_iload d_m_hold_55 57 rfl rfl ?_
            first | refine z_imulN d_m_hold_57 58 rfl ?_ | refine z_imul d_m_hold_57 58 rfl ?_
            refine z_iload d_m_hold_58 60 rfl rfl ?_
            first | refine z_iaddN d_m_hold_60 61 rfl ?_ | refine z_iadd d_m_hold_60 61 rfl ?_
            refine z_aload_n d_m_hold_61 62 rfl rfl rfl ?_
            refine zm_getA 0 d_m_hold_62 65 rfl f_m_7 rfl ?_
            refine z_sipush (v := nI 240) d_m_hold_65 68 rfl rfl ?_
            refine z_iload_n d_m_hold_68 69 rfl rfl rfl ?_
            first | refine z_imulN d_m_hold_69 70 rfl ?_ | refine z_imul d_m_hold_69 70 rfl ?_
            refine z_iload d_m_hold_70 72 rfl rfl ?_
            first | refine z_iaddN d_m_hold_72 73 rfl ?_ | refine z_iadd d_m_hold_72 73 rfl ?_
            refine zm_bald d_m_hold_73 74 rfl (by omega) ?_
            rw [h2 (240 * s + k) (by omega), (hr.1 k (by omega)).2]
            refine zm_bast d_m_hold_74 75 rfl (by omega) ?_
            rw [show vp_nar .byte (sb_b (bs.getD k 0)) = sb_b (bs.getD k 0) from pk_vb _]
            first | refine z_incN5 d_m_hold_75 78 rfl rfl ?_ | refine z_inc5 d_m_hold_75 78 rfl rfl rfl ?_
            refine z_goto (tgt := 37) d_m_hold_78 rfl ?_
            refine ih (k + 1) _ (by omega) (fun j hj => ?_) (fun i hi => ?_) (fun i hi => ?_)
            · simp only [va_up]
              rw [if_neg (by omega)]
              exact h1 j hj
            · show upd (x 0) _ _ i = _
              rw [pk_un (by omega)]
              exact h2 i (by omega)
            · show upd (x 0) _ _ _ = _
              by_cases hik : i = k
              · subst hik
                rw [pk_us]
              · rw [pk_un (by omega)]
                exact h3 i (by omega)
      exact loop bs.length 0 va (by omega) (fun _ _ => rfl) (fun _ _ => rfl) (fun i hi => by omega)
    · exact z_vret d_m_hold_20 rfl (Nat.le_refl 0) (Nat.le_refl 0) (hQ0 (Or.inr (by omega)))
theorem c_m_put (r : Int32) {As : Nat → List (List Nat)} {dr : List Nat} (hR : ∀ q, q < 2 → repP va q (As q)) (hr : slotP va 64 dr)
    (hQ0 : (isRp r = false ∨ dr = [] ∨ ((As (toN r)).length = 32 ∧ lk (As (toN r)) (nI (dg 7 dr)) = none)) → Q (some (.int (-1))) (zmod D o hp va vf))
    (hQ1 : isRp r = true → dr ≠ [] → lk (As (toN r)) (nI (dg 7 dr)) ≠ none → ∀ va', sk 64 va va' → slotP va' 64 [] → Q (some (.int (nI (dg 7 dr)))) (zmod D o hp va' vf))
    (hQ2 : isRp r = true → dr ≠ [] → lk (As (toN r)) (nI (dg 7 dr)) = none → (As (toN r)).length < 32 → ∀ va1 va', hdR (toN r) (As (toN r)).length va va1 → repP va1 (toN r) (As (toN r) ++ [dr]) → sk 64 va1 va' → slotP va' 64 [] → Q (some (.int (nI (dg 7 dr)))) (zmod D o hp va' vf)) :
    Runs l D M_m_put [.ref o, .int r] (zmod D o hp va vf) 0 0 Q := by
  refine Runs.of rfl rfl (Nat.le_of_ble_eq_true rfl) ?_
  have hl := hr.2.2
  have hd := dg7 dr
  refine z_iload_n d_m_put_0 1 rfl rfl rfl ?_
  refine zm_cS1 d_m_put_1 4 rfl ms_m_isRepository kl_m_129 (by decide) (fun Q' h => c_m_isRepository _ h) rfl rfl (Nat.le_of_ble_eq_true rfl) ?_
  refine z_if_eqB (tgt := 17) d_m_put_4 7 rfl rfl (fun h4 => ?_) (fun h4 => ?_)
  · refine z_iconst (v := -1) d_m_put_17 18 rfl (by decide) ?_
    exact z_iret d_m_put_18 rfl (Nat.le_refl 0) (Nat.le_refl 0) (hQ0 (Or.inl h4))
  · obtain ⟨q, hq, rfl⟩ := isRp_of h4
    rw [toN_nI (by omega)] at hQ0 hQ1 hQ2
    have hRq := hR q hq
    have h32 := hRq.1
    obtain ⟨j1, j2⟩ := fnd_lk (nI (dg 7 dr)) (As q) (32 * q)
    have clr : ∀ x : Nat → Nat → Int32, slotP x 64 dr → sk 64 x (va_up x 1 (upd (x 1) 64 (nI 0))) ∧ slotP (va_up x 1 (upd (x 1) 64 (nI 0))) 64 [] := by
      intro x hx
      exact ⟨⟨fun j hj => by simp only [va_up]; rw [if_neg (by omega)], fun t ht => by show upd (x 1) 64 _ t = _; exact pk_un ht, fun i _ => rfl⟩, ⟨fun k hk => by simp at hk, by show upd (x 1) 64 _ 64 = _; rw [pk_us]; rfl, by simp⟩⟩
    refine z_aload_n d_m_put_7 8 rfl rfl rfl ?_
    refine zm_getA 1 d_m_put_8 11 rfl f_m_13 rfl ?_
    refine z_bipush (v := nI 64) d_m_put_11 13 rfl rfl ?_
    refine zm_iald d_m_put_13 14 rfl (by decide) rfl (by simp only [zln]; omega) ?_
    rw [hr.2.1]
    refine z_if_neN (tgt := 19) d_m_put_14 17 rfl rfl (by omega) (fun h14 => ?_) (fun h14 => ?_)
    · have hdr : dr ≠ [] := fun e => h14 (by rw [e]; rfl)
      refine z_aload_n d_m_put_19 20 rfl rfl rfl ?_
      refine z_bipush (v := nI 7) d_m_put_20 22 rfl rfl ?_
      refine z_bipush (v := nI 64) d_m_put_22 24 rfl rfl ?_
      refine z_aload_n d_m_put_24 25 rfl rfl rfl ?_
      refine zm_getA 1 d_m_put_25 28 rfl f_m_13 rfl ?_
      refine z_bipush (v := nI 64) d_m_put_28 30 rfl rfl ?_
      refine zm_iald d_m_put_30 31 rfl (by decide) rfl (by simp only [zln]; omega) ?_
      rw [hr.2.1]
      refine zm_cV1 d_m_put_31 34 rfl mv_m_digest kl_m_94 (by decide) (fun Q' h => c_m_digest 7 64 _ hr.1 (Nat.le_refl _) (by decide) hl (by decide) h) rfl rfl (Nat.le_of_ble_eq_true rfl) ?_
      rw [List.take_length]
      have go : (lk (As q) (nI (dg 7 dr)) = none → (As q).length < 32) → Z l D M_m_put 0 0 Q (zmod D o hp va vf) 0 0 57 [some (.ref o), some (.int (nI q)), some (.int (nI (dg 7 dr)))] [] := by
        intro hok
        refine z_aload_n d_m_put_57 58 rfl rfl rfl ?_
        refine z_iload_n d_m_put_58 59 rfl rfl rfl ?_
        refine z_bipush (v := nI 64) d_m_put_59 61 rfl rfl ?_
        refine z_iload_n d_m_put_61 62 rfl rfl rfl ?_
        refine zm_cVv (fun a f => vf = f ∧ ((a = va ∧ lk (As q) (nI (dg 7 dr)) ≠ none) ∨ (lk (As q) (nI (dg 7 dr)) = none ∧ hdR q (As q).length va a ∧ repP a q (As q ++ [dr])))) d_m_put_62 65 rfl mv_m_hold kl_m_132 (by decide) (fun Q' h => c_m_hold q 64 hq hRq (by decide) (fun _ => by omega) hr (fun h0 => h _ _ ⟨rfl, Or.inl ⟨rfl, fun e => by rcases h0 with h0 | h0; (cases hf : fnd (nI (dg 7 dr)) (As q) (32 * q) with | none => exact h0 hf | some v => (obtain ⟨-, -, b3, -⟩ := j2 v hf; rw [b3] at e; cases e)); (have := hok e; omega)⟩⟩) (fun h1 h2 a h3 h4 => h _ _ ⟨rfl, Or.inr ⟨j1 h1, h3, h4⟩⟩)) rfl rfl (Nat.le_of_ble_eq_true rfl) ?_; rintro x _ ⟨rfl, hx⟩
        rcases hx with ⟨rfl, hne⟩ | ⟨he, hx1, hx2⟩
        · refine z_aload_n d_m_put_65 66 rfl rfl rfl ?_
          refine zm_getA 1 d_m_put_66 69 rfl f_m_13 rfl ?_
          refine z_bipush (v := nI 64) d_m_put_69 71 rfl rfl ?_
          refine z_iconst (v := nI 0) d_m_put_71 72 rfl rfl ?_
          refine zm_iast d_m_put_72 73 rfl (by decide) rfl (by simp only [zln]; omega) ?_
          refine z_iload_n d_m_put_73 74 rfl rfl rfl ?_
          obtain ⟨c1, c2⟩ := clr _ hr
          exact z_iret d_m_put_74 rfl (Nat.le_refl 0) (Nat.le_refl 0) (hQ1 h4 hdr hne _ c1 c2)
        · have hxr := hx1.slot (t := 64) (by have := hok he; omega) hr
          refine z_aload_n d_m_put_65 66 rfl rfl rfl ?_
          refine zm_getA 1 d_m_put_66 69 rfl f_m_13 rfl ?_
          refine z_bipush (v := nI 64) d_m_put_69 71 rfl rfl ?_
          refine z_iconst (v := nI 0) d_m_put_71 72 rfl rfl ?_
          refine zm_iast d_m_put_72 73 rfl (by decide) rfl (by simp only [zln]; omega) ?_
          refine z_iload_n d_m_put_73 74 rfl rfl rfl ?_
          obtain ⟨c1, c2⟩ := clr _ hxr
          exact z_iret d_m_put_74 rfl (Nat.le_refl 0) (Nat.le_refl 0) (hQ2 h4 hdr he (hok he) _ _ hx1 hx2 c1 c2)
      refine z_ist2 d_m_put_34 35 rfl rfl ?_
      refine z_aload_n d_m_put_35 36 rfl rfl rfl ?_
      refine zm_getA 3 d_m_put_36 39 rfl f_m_20 rfl ?_
      refine z_iload_n d_m_put_39 40 rfl rfl rfl ?_
      refine zm_iald d_m_put_40 41 rfl (by decide) rfl (by simp only [zln]; omega) ?_
      rw [hRq.2.1]
      refine z_bipush (v := nI 32) d_m_put_41 43 rfl rfl ?_
      refine z_icmp_neN (tgt := 57) d_m_put_43 46 rfl rfl (by omega) (by omega) (fun h43 => ?_) (fun h43 => ?_)
      · exact go (fun _ => by omega)
      · refine z_aload_n d_m_put_46 47 rfl rfl rfl ?_
        refine z_iload_n d_m_put_47 48 rfl rfl rfl ?_
        refine z_iload_n d_m_put_48 49 rfl rfl rfl ?_
        refine zm_cV1 d_m_put_49 52 rfl mv_m_find kl_m_98 (by decide) (fun Q' h => c_m_find q _ hq hRq h) rfl rfl (Nat.le_of_ble_eq_true rfl) ?_
        refine z_if_geO (tgt := 57) d_m_put_52 55 rfl rfl (fun v h => by obtain ⟨h1, h2, -⟩ := j2 v h; omega) (fun w52 h52 => ?_) (fun h52 => ?_)
        · exact go (fun e => by obtain ⟨-, -, b3, -⟩ := j2 _ h52; rw [b3] at e; cases e)
        · refine z_iconst (v := -1) d_m_put_55 56 rfl (by decide) ?_
          exact z_iret d_m_put_56 rfl (Nat.le_refl 0) (Nat.le_refl 0) (hQ0 (Or.inr (Or.inr ⟨h43, j1 h52⟩)))
    · refine z_iconst (v := -1) d_m_put_17 18 rfl (by decide) ?_
      exact z_iret d_m_put_18 rfl (Nat.le_refl 0) (Nat.le_refl 0) (hQ0 (Or.inr (Or.inl (List.length_eq_zero_iff.mp h14))))
end M11
