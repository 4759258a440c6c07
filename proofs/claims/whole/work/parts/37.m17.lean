/-! The reference: check-ins, children, leaves, names, rebuilding. Own work. -/
section M17
variable {l : Launch} {D : zD} {hp : zH} {o : Nat} {va : Nat → Nat → Int32} {vf : Nat → Int32} {Q : Option Value → zH → Prop} {As : Nat → List (List Nat)} {T K : Nat → List Nat} {dr : List Nat}
def ciN (As : List (List Nat)) : Nat := lcount (isCI As) As
theorem c_m_checkIns (r : Int32) (hR : ∀ q, q < 2 → repP va q (As q))
    (hQ : ∀ f, Q (some (.int (if isRp r = true then nI (ciN (As (toN r))) else -1))) (zmod D o hp va f)) : Runs l D M_m_checkIns [.ref o, .int r] (zmod D o hp va vf) 0 0 Q := by
  refine Runs.of rfl rfl (Nat.le_of_ble_eq_true rfl) ?_
  refine z_iload_n d_m_checkIns_0 1 rfl rfl rfl ?_
  refine zm_cS1 d_m_checkIns_1 4 rfl ms_m_isRepository kl_m_129 (by decide) (fun Q' h => c_m_isRepository _ h) rfl rfl (Nat.le_of_ble_eq_true rfl) ?_
  refine z_if_neB (tgt := 9) d_m_checkIns_4 7 rfl rfl (fun h4 => ?_) (fun h4 => ?_)
  · rw [h4, if_pos rfl] at hQ
    obtain ⟨q, hq, rfl⟩ := isRp_of h4
    rw [toN_nI (by omega)] at hQ
    have hR := hR q hq
    obtain ⟨h32, hmany, hslot⟩ := hR
    generalize hAe : As q = B at *
    refine z_iconst (v := nI 0) d_m_checkIns_9 10 rfl rfl ?_
    refine z_ist2 d_m_checkIns_10 11 rfl rfl ?_
    refine z_bipush (v := nI 32) d_m_checkIns_11 13 rfl rfl ?_
    refine z_iload_n d_m_checkIns_13 14 rfl rfl rfl ?_
    first | refine z_imulN d_m_checkIns_14 15 rfl ?_ | refine z_imul d_m_checkIns_14 15 rfl ?_
    refine z_ist3 d_m_checkIns_15 16 rfl rfl ?_
    have loop : ∀ (c j n : Nat) (f : Nat → Int32), j + c = B.length → n ≤ j → ciN B = n + lcount (isCI B) (B.drop j) → Z l D M_m_checkIns 0 0 Q (zmod D o hp va f) 0 0 16 [some (.ref o), some (.int (nI q)), some (.int (nI n)), some (.int (nI (32 * q + j)))] [] := by
      intro c
      induction c with
      | zero =>
        intro j n f hj hn he
        rw [List.drop_eq_nil_of_le (by omega)] at he
        refine z_iload_n d_m_checkIns_16 17 rfl rfl rfl ?_
        refine z_bipush (v := nI 32) d_m_checkIns_17 19 rfl rfl ?_
        refine z_iload_n d_m_checkIns_19 20 rfl rfl rfl ?_
        first | refine z_imulN d_m_checkIns_20 21 rfl ?_ | refine z_imul d_m_checkIns_20 21 rfl ?_
        refine z_aload_n d_m_checkIns_21 22 rfl rfl rfl ?_
        refine zm_getA 3 d_m_checkIns_22 25 rfl f_m_20 rfl ?_
        refine z_iload_n d_m_checkIns_25 26 rfl rfl rfl ?_
        refine zm_iald d_m_checkIns_26 27 rfl (by decide) rfl (by simp only [zln]; omega) ?_
        rw [hmany]
        first | refine z_iaddN d_m_checkIns_27 28 rfl ?_ | refine z_iadd d_m_checkIns_27 28 rfl ?_
        refine z_icmp_geN (tgt := 54) d_m_checkIns_28 31 rfl rfl (by omega) (by omega) (fun h28 => ?_) (fun h28 => ?_)
        · refine z_iload_n d_m_checkIns_54 55 rfl rfl rfl ?_
          exact z_iret d_m_checkIns_55 rfl (Nat.le_refl 0) (Nat.le_refl 0) (by have := hQ f; rw [he] at this; exact this)
        · omega
      | succ c ih =>
        intro j n f hj hn he
        rw [drop_cons (by omega), lcount_cons] at he
        refine z_iload_n d_m_checkIns_16 17 rfl rfl rfl ?_
        refine z_bipush (v := nI 32) d_m_checkIns_17 19 rfl rfl ?_
        refine z_iload_n d_m_checkIns_19 20 rfl rfl rfl ?_
        first | refine z_imulN d_m_checkIns_20 21 rfl ?_ | refine z_imul d_m_checkIns_20 21 rfl ?_
        refine z_aload_n d_m_checkIns_21 22 rfl rfl rfl ?_
        refine zm_getA 3 d_m_checkIns_22 25 rfl f_m_20 rfl ?_
        refine z_iload_n d_m_checkIns_25 26 rfl rfl rfl ?_
        refine zm_iald d_m_checkIns_26 27 rfl (by decide) rfl (by simp only [zln]; omega) ?_
        rw [hmany]
        first | refine z_iaddN d_m_checkIns_27 28 rfl ?_ | refine z_iadd d_m_checkIns_27 28 rfl ?_
        refine z_icmp_geN (tgt := 54) d_m_checkIns_28 31 rfl rfl (by omega) (by omega) (fun h28 => ?_) (fun h28 => ?_)
        · omega
        · have hsl := (hslot j (by omega)).1
          have fin : ∀ (v : Nat) (g : Nat → Int32), v = (if isCI B (B.getD j []) = true then 1 else 0) → Z l D M_m_checkIns 0 0 Q (zmod D o hp va g) 0 0 46 [some (.ref o), some (.int (nI q)), some (.int (nI n)), some (.int (nI (32 * q + j)))] [.int (nI v), .int (nI n)] := by
            intro v g hv
            have hv1 : v ≤ 1 := by rw [hv]; split <;> omega
            first | refine z_iaddN d_m_checkIns_46 47 rfl ?_ | refine z_iadd d_m_checkIns_46 47 rfl ?_
            refine z_ist2 d_m_checkIns_47 48 rfl rfl ?_
            first | refine z_incN3 d_m_checkIns_48 51 rfl rfl ?_ | refine z_inc3 d_m_checkIns_48 51 rfl rfl rfl ?_
            refine z_goto (tgt := 16) d_m_checkIns_51 rfl ?_
            exact ih (j + 1) (n + v) g (by omega) (by omega) (by rw [he, hv]; omega)
          refine z_iload_n d_m_checkIns_31 32 rfl rfl rfl ?_
          refine z_aload_n d_m_checkIns_32 33 rfl rfl rfl ?_
          refine z_iload_n d_m_checkIns_33 34 rfl rfl rfl ?_
          refine z_iload_n d_m_checkIns_34 35 rfl rfl rfl ?_
          refine zm_cV (fun v a f' => v = .int (zb (isCI B (B.getD j []))) ∧ va = a) d_m_checkIns_35 38 rfl mv_m_isCheckIn kl_m_164 (by decide) (fun Q' hq' => c_m_isCheckIn q _ hq ⟨h32, hmany, hslot⟩ hsl (by omega) (fun f h1 => hq' _ _ _ ⟨rfl, rfl⟩)) rfl rfl (Nat.le_of_ble_eq_true rfl) ?_; rintro _ _ f1 ⟨rfl, rfl⟩
          refine z_if_eqB (tgt := 45) d_m_checkIns_38 41 rfl rfl (fun h38 => ?_) (fun h38 => ?_)
          · refine z_iconst (v := nI 0) d_m_checkIns_45 46 rfl rfl ?_
            exact fin 0 f1 (by rw [h38]; rfl)
          · refine z_iconst (v := nI 1) d_m_checkIns_41 42 rfl rfl ?_
            refine z_goto (tgt := 46) d_m_checkIns_42 rfl ?_
            exact fin 1 f1 (by rw [h38]; rfl)
    exact loop B.length 0 0 vf (by omega) (Nat.le_refl 0) (by rw [Nat.zero_add]; rfl)
  · rw [h4] at hQ
    refine z_iconst (v := -1) d_m_checkIns_7 8 rfl (by decide) ?_
    exact z_iret d_m_checkIns_8 rfl (Nat.le_refl 0) (Nat.le_refl 0) (hQ vf)
theorem c_m_children (r nm : Int32) (hR : ∀ q, q < 2 → repP va q (As q))
    (hQ : ∀ f, Q (some (.int (if isRp r = true then nI (chN (As (toN r)) nm) else -1))) (zmod D o hp va f)) : Runs l D M_m_children [.ref o, .int r, .int nm] (zmod D o hp va vf) 0 0 Q := by
  refine Runs.of rfl rfl (Nat.le_of_ble_eq_true rfl) ?_
  refine z_iload_n d_m_children_0 1 rfl rfl rfl ?_
  refine zm_cS1 d_m_children_1 4 rfl ms_m_isRepository kl_m_129 (by decide) (fun Q' h => c_m_isRepository _ h) rfl rfl (Nat.le_of_ble_eq_true rfl) ?_
  refine z_if_neB (tgt := 9) d_m_children_4 7 rfl rfl (fun h4 => ?_) (fun h4 => ?_)
  · rw [h4, if_pos rfl] at hQ
    obtain ⟨q, hq, rfl⟩ := isRp_of h4
    rw [toN_nI (by omega)] at hQ
    have hR := hR q hq
    obtain ⟨h32, hmany, hslot⟩ := hR
    generalize hAe : As q = B at *
    refine z_iconst (v := nI 0) d_m_children_9 10 rfl rfl ?_
    refine z_ist3 d_m_children_10 11 rfl rfl ?_
    refine z_bipush (v := nI 32) d_m_children_11 13 rfl rfl ?_
    refine z_iload_n d_m_children_13 14 rfl rfl rfl ?_
    first | refine z_imulN d_m_children_14 15 rfl ?_ | refine z_imul d_m_children_14 15 rfl ?_
    refine z_ist4 d_m_children_15 17 rfl rfl ?_
    have loop : ∀ (c j n : Nat) (f : Nat → Int32), j + c = B.length → n ≤ j → chN B nm = n + lcount (isCh B nm) (B.drop j) → Z l D M_m_children 0 0 Q (zmod D o hp va f) 0 0 17 [some (.ref o), some (.int (nI q)), some (.int nm), some (.int (nI n)), some (.int (nI (32 * q + j)))] [] := by
      intro c
      induction c with
      | zero =>
        intro j n f hj hn he
        rw [List.drop_eq_nil_of_le (by omega)] at he
        refine z_iload d_m_children_17 19 rfl rfl ?_
        refine z_bipush (v := nI 32) d_m_children_19 21 rfl rfl ?_
        refine z_iload_n d_m_children_21 22 rfl rfl rfl ?_
        first | refine z_imulN d_m_children_22 23 rfl ?_ | refine z_imul d_m_children_22 23 rfl ?_
        refine z_aload_n d_m_children_23 24 rfl rfl rfl ?_
        refine zm_getA 3 d_m_children_24 27 rfl f_m_20 rfl ?_
        refine z_iload_n d_m_children_27 28 rfl rfl rfl ?_
        refine zm_iald d_m_children_28 29 rfl (by decide) rfl (by simp only [zln]; omega) ?_
        rw [hmany]
        first | refine z_iaddN d_m_children_29 30 rfl ?_ | refine z_iadd d_m_children_29 30 rfl ?_
        refine z_icmp_geN (tgt := 73) d_m_children_30 33 rfl rfl (by omega) (by omega) (fun h30 => ?_) (fun h30 => ?_)
        · refine z_iload_n d_m_children_73 74 rfl rfl rfl ?_
          exact z_iret d_m_children_74 rfl (Nat.le_refl 0) (Nat.le_refl 0) (by have := hQ f; rw [he] at this; exact this)
        · omega
      | succ c ih =>
        intro j n f hj hn he
        rw [drop_cons (by omega), lcount_cons] at he
        refine z_iload d_m_children_17 19 rfl rfl ?_
        refine z_bipush (v := nI 32) d_m_children_19 21 rfl rfl ?_
        refine z_iload_n d_m_children_21 22 rfl rfl rfl ?_
        first | refine z_imulN d_m_children_22 23 rfl ?_ | refine z_imul d_m_children_22 23 rfl ?_
        refine z_aload_n d_m_children_23 24 rfl rfl rfl ?_
        refine zm_getA 3 d_m_children_24 27 rfl f_m_20 rfl ?_
        refine z_iload_n d_m_children_27 28 rfl rfl rfl ?_
        refine zm_iald d_m_children_28 29 rfl (by decide) rfl (by simp only [zln]; omega) ?_
        rw [hmany]
        first | refine z_iaddN d_m_children_29 30 rfl ?_ | refine z_iadd d_m_children_29 30 rfl ?_
        refine z_icmp_geN (tgt := 73) d_m_children_30 33 rfl rfl (by omega) (by omega) (fun h30 => ?_) (fun h30 => ?_)
        · omega
        · have hsl := (hslot j (by omega)).1
          have fin : ∀ (v : Nat) (g : Nat → Int32), v = (if isCh B nm (B.getD j []) = true then 1 else 0) → Z l D M_m_children 0 0 Q (zmod D o hp va g) 0 0 65 [some (.ref o), some (.int (nI q)), some (.int nm), some (.int (nI n)), some (.int (nI (32 * q + j)))] [.int (nI v), .int (nI n)] := by
            intro v g hv
            have hv1 : v ≤ 1 := by rw [hv]; split <;> omega
            first | refine z_iaddN d_m_children_65 66 rfl ?_ | refine z_iadd d_m_children_65 66 rfl ?_
            refine z_ist3 d_m_children_66 67 rfl rfl ?_
            first | refine z_incN4 d_m_children_67 70 rfl rfl ?_ | refine z_inc4 d_m_children_67 70 rfl rfl rfl ?_
            refine z_goto (tgt := 17) d_m_children_70 rfl ?_
            exact ih (j + 1) (n + v) g (by omega) (by omega) (by rw [he, hv]; omega)
          refine z_iload_n d_m_children_33 34 rfl rfl rfl ?_
          refine z_iload_n d_m_children_34 35 rfl rfl rfl ?_
          refine z_if_lt (tgt := 64) d_m_children_35 38 rfl rfl (fun h35 => ?_) (fun h35 => ?_)
          · refine z_iconst (v := nI 0) d_m_children_64 65 rfl rfl ?_
            exact fin 0 f (by simp only [isCh, decide_eq_true h35, Bool.not_true, Bool.false_and]; rfl)
          · refine z_aload_n d_m_children_38 39 rfl rfl rfl ?_
            refine z_iload_n d_m_children_39 40 rfl rfl rfl ?_
            refine z_iload d_m_children_40 42 rfl rfl ?_
            refine zm_cV (fun v a f' => v = .int (zb (isCI B (B.getD j []))) ∧ va = a) d_m_children_42 45 rfl mv_m_isCheckIn kl_m_164 (by decide) (fun Q' hq' => c_m_isCheckIn q _ hq ⟨h32, hmany, hslot⟩ hsl (by omega) (fun f h1 => hq' _ _ _ ⟨rfl, rfl⟩)) rfl rfl (Nat.le_of_ble_eq_true rfl) ?_; rintro _ _ f1 ⟨rfl, rfl⟩
            refine z_if_eqB (tgt := 64) d_m_children_45 48 rfl rfl (fun h45 => ?_) (fun h45 => ?_)
            · refine z_iconst (v := nI 0) d_m_children_64 65 rfl rfl ?_
              exact fin 0 f1 (by simp only [isCh, h45, Bool.false_and, Bool.and_false]; rfl)
            · refine z_aload_n d_m_children_48 49 rfl rfl rfl ?_
              refine z_iload d_m_children_49 51 rfl rfl ?_
              refine z_bipush (v := nI 80) d_m_children_51 53 rfl rfl ?_
              refine z_iload_n d_m_children_53 54 rfl rfl rfl ?_
              refine zm_cV (fun v a f' => v = .int (zb (hasL 80 nm (lns (B.getD j [])))) ∧ va = a) d_m_children_54 57 rfl mv_m_has kl_m_108 (by decide) (fun Q' hq' => c_m_has _ 80 _ hsl (by omega) (by decide) (fun f h1 => hq' _ _ _ ⟨rfl, rfl⟩)) rfl rfl (Nat.le_of_ble_eq_true rfl) ?_; rintro _ _ f2 ⟨rfl, rfl⟩
              refine z_if_eqB (tgt := 64) d_m_children_57 60 rfl rfl (fun h57 => ?_) (fun h57 => ?_)
              · refine z_iconst (v := nI 0) d_m_children_64 65 rfl rfl ?_
                exact fin 0 f2 (by simp only [isCh, h57, Bool.and_false]; rfl)
              · refine z_iconst (v := nI 1) d_m_children_60 61 rfl rfl ?_
                refine z_goto (tgt := 65) d_m_children_61 rfl ?_
                exact fin 1 f2 (by simp only [isCh, h57, h45, decide_eq_false h35]; rfl)
    exact loop B.length 0 0 vf (by omega) (Nat.le_refl 0) (by rw [Nat.zero_add]; rfl)
  · rw [h4] at hQ
    refine z_iconst (v := -1) d_m_children_7 8 rfl (by decide) ?_
    exact z_iret d_m_children_8 rfl (Nat.le_refl 0) (Nat.le_refl 0) (hQ vf)
theorem isRp_nI {q : Nat} (hq : q < 2) : isRp (nI q) = true := by
  rcases (show q = 0 ∨ q = 1 by omega) with rfl | rfl <;> decide
theorem c_m_leaves (r : Int32) (hR : ∀ q, q < 2 → repP va q (As q))
    (hQ : ∀ f, Q (some (.int (if isRp r = true then nI (lfN (As (toN r))) else -1))) (zmod D o hp va f)) : Runs l D M_m_leaves [.ref o, .int r] (zmod D o hp va vf) 0 0 Q := by
  refine Runs.of rfl rfl (Nat.le_of_ble_eq_true rfl) ?_
  refine z_iload_n d_m_leaves_0 1 rfl rfl rfl ?_
  refine zm_cS1 d_m_leaves_1 4 rfl ms_m_isRepository kl_m_129 (by decide) (fun Q' h => c_m_isRepository _ h) rfl rfl (Nat.le_of_ble_eq_true rfl) ?_
  refine z_if_neB (tgt := 9) d_m_leaves_4 7 rfl rfl (fun h4 => ?_) (fun h4 => ?_)
  · rw [h4, if_pos rfl] at hQ
    obtain ⟨q, hq, rfl⟩ := isRp_of h4
    rw [toN_nI (by omega)] at hQ
    have hR0 := hR
    have hR := hR q hq
    obtain ⟨h32, hmany, hslot⟩ := hR
    have hch : ∀ nm, chN (As q) nm ≤ 32 := fun nm => Nat.le_trans (lcount_le _ _) h32
    refine z_iconst (v := nI 0) d_m_leaves_9 10 rfl rfl ?_
    refine z_ist2 d_m_leaves_10 11 rfl rfl ?_
    refine z_bipush (v := nI 32) d_m_leaves_11 13 rfl rfl ?_
    refine z_iload_n d_m_leaves_13 14 rfl rfl rfl ?_
    first | refine z_imulN d_m_leaves_14 15 rfl ?_ | refine z_imul d_m_leaves_14 15 rfl ?_
    refine z_ist3 d_m_leaves_15 16 rfl rfl ?_
    have loop : ∀ (c j n : Nat) (f : Nat → Int32), j + c = (As q).length → n ≤ j → lfN (As q) = n + lcount (fun a => isCI (As q) a && decide (chN (As q) (nI (dg 7 a)) = 0)) ((As q).drop j) → Z l D M_m_leaves 0 0 Q (zmod D o hp va f) 0 0 16 [some (.ref o), some (.int (nI q)), some (.int (nI n)), some (.int (nI (32 * q + j)))] [] := by
      intro c
      induction c with
      | zero =>
        intro j n f hj hn he
        rw [List.drop_eq_nil_of_le (by omega)] at he
        refine z_iload_n d_m_leaves_16 17 rfl rfl rfl ?_
        refine z_bipush (v := nI 32) d_m_leaves_17 19 rfl rfl ?_
        refine z_iload_n d_m_leaves_19 20 rfl rfl rfl ?_
        first | refine z_imulN d_m_leaves_20 21 rfl ?_ | refine z_imul d_m_leaves_20 21 rfl ?_
        refine z_aload_n d_m_leaves_21 22 rfl rfl rfl ?_
        refine zm_getA 3 d_m_leaves_22 25 rfl f_m_20 rfl ?_
        refine z_iload_n d_m_leaves_25 26 rfl rfl rfl ?_
        refine zm_iald d_m_leaves_26 27 rfl (by decide) rfl (by simp only [zln]; omega) ?_
        rw [hmany]
        first | refine z_iaddN d_m_leaves_27 28 rfl ?_ | refine z_iadd d_m_leaves_27 28 rfl ?_
        refine z_icmp_geN (tgt := 68) d_m_leaves_28 31 rfl rfl (by omega) (by omega) (fun h28 => ?_) (fun h28 => ?_)
        · refine z_iload_n d_m_leaves_68 69 rfl rfl rfl ?_
          exact z_iret d_m_leaves_69 rfl (Nat.le_refl 0) (Nat.le_refl 0) (by have := hQ f; rw [he] at this; exact this)
        · omega
      | succ c ih =>
        intro j n f hj hn he
        rw [drop_cons (by omega), lcount_cons] at he
        refine z_iload_n d_m_leaves_16 17 rfl rfl rfl ?_
        refine z_bipush (v := nI 32) d_m_leaves_17 19 rfl rfl ?_
        refine z_iload_n d_m_leaves_19 20 rfl rfl rfl ?_
        first | refine z_imulN d_m_leaves_20 21 rfl ?_ | refine z_imul d_m_leaves_20 21 rfl ?_
        refine z_aload_n d_m_leaves_21 22 rfl rfl rfl ?_
        refine zm_getA 3 d_m_leaves_22 25 rfl f_m_20 rfl ?_
        refine z_iload_n d_m_leaves_25 26 rfl rfl rfl ?_
        refine zm_iald d_m_leaves_26 27 rfl (by decide) rfl (by simp only [zln]; omega) ?_
        rw [hmany]
        first | refine z_iaddN d_m_leaves_27 28 rfl ?_ | refine z_iadd d_m_leaves_27 28 rfl ?_
        refine z_icmp_geN (tgt := 68) d_m_leaves_28 31 rfl rfl (by omega) (by omega) (fun h28 => ?_) (fun h28 => ?_)
        · omega
        · have hsl := (hslot j (by omega)).1
          have hnm := (hslot j (by omega)).2
          have fin : ∀ (v : Nat) (g : Nat → Int32), v = (if (isCI (As q) ((As q).getD j []) && decide (chN (As q) (nI (dg 7 ((As q).getD j []))) = 0)) = true then 1 else 0) → Z l D M_m_leaves 0 0 Q (zmod D o hp va g) 0 0 60 [some (.ref o), some (.int (nI q)), some (.int (nI n)), some (.int (nI (32 * q + j)))] [.int (nI v), .int (nI n)] := by
            intro v g hv
            have hv1 : v ≤ 1 := by rw [hv]; split <;> omega
            first | refine z_iaddN d_m_leaves_60 61 rfl ?_ | refine z_iadd d_m_leaves_60 61 rfl ?_
            refine z_ist2 d_m_leaves_61 62 rfl rfl ?_
            first | refine z_incN3 d_m_leaves_62 65 rfl rfl ?_ | refine z_inc3 d_m_leaves_62 65 rfl rfl rfl ?_
            refine z_goto (tgt := 16) d_m_leaves_65 rfl ?_
            exact ih (j + 1) (n + v) g (by omega) (by omega) (by rw [he, hv]; omega)
          refine z_iload_n d_m_leaves_31 32 rfl rfl rfl ?_
          refine z_aload_n d_m_leaves_32 33 rfl rfl rfl ?_
          refine z_iload_n d_m_leaves_33 34 rfl rfl rfl ?_
          refine z_iload_n d_m_leaves_34 35 rfl rfl rfl ?_
          refine zm_cV (fun v a f' => v = .int (zb (isCI (As q) ((As q).getD j []))) ∧ va = a) d_m_leaves_35 38 rfl mv_m_isCheckIn kl_m_164 (by decide) (fun Q' hq' => c_m_isCheckIn q _ hq ⟨h32, hmany, hslot⟩ hsl (by omega) (fun f h1 => hq' _ _ _ ⟨rfl, rfl⟩)) rfl rfl (Nat.le_of_ble_eq_true rfl) ?_; rintro _ _ f1 ⟨rfl, rfl⟩
          refine z_if_eqB (tgt := 59) d_m_leaves_38 41 rfl rfl (fun h38 => ?_) (fun h38 => ?_)
          · refine z_iconst (v := nI 0) d_m_leaves_59 60 rfl rfl ?_
            exact fin 0 f1 (by rw [h38]; rfl)
          · refine z_aload_n d_m_leaves_41 42 rfl rfl rfl ?_
            refine z_iload_n d_m_leaves_42 43 rfl rfl rfl ?_
            refine z_aload_n d_m_leaves_43 44 rfl rfl rfl ?_
            refine zm_getA 2 d_m_leaves_44 47 rfl f_m_17 rfl ?_
            refine z_iload_n d_m_leaves_47 48 rfl rfl rfl ?_
            refine zm_iald d_m_leaves_48 49 rfl (by decide) rfl (by simp only [zln]; omega) ?_
            rw [hnm]
            have hc9 := hch (nI (dg 7 ((As q).getD j [])))
            refine zm_cV (fun v a f' => v = .int (nI (chN (As q) (nI (dg 7 ((As q).getD j []))))) ∧ va = a) d_m_leaves_49 52 rfl mv_m_children kl_m_170 (by decide) (fun Q' hq' => c_m_children (nI q) _ hR0 (fun f => by rw [isRp_nI hq, if_pos rfl, toN_nI (by omega)]; exact hq' _ _ _ ⟨rfl, rfl⟩)) rfl rfl (Nat.le_of_ble_eq_true rfl) ?_; rintro _ _ f2 ⟨rfl, rfl⟩
            refine z_if_neN (tgt := 59) d_m_leaves_52 55 rfl rfl (by omega) (fun h52 => ?_) (fun h52 => ?_)
            · refine z_iconst (v := nI 0) d_m_leaves_59 60 rfl rfl ?_
              exact fin 0 f2 (by rw [decide_eq_false h52, Bool.and_false]; rfl)
            · refine z_iconst (v := nI 1) d_m_leaves_55 56 rfl rfl ?_
              refine z_goto (tgt := 60) d_m_leaves_56 rfl ?_
              exact fin 1 f2 (by rw [decide_eq_true h52, h38]; rfl)
    exact loop (As q).length 0 0 vf (by omega) (Nat.le_refl 0) (by rw [Nat.zero_add]; rfl)
  · rw [h4] at hQ
    refine z_iconst (v := -1) d_m_leaves_7 8 rfl (by decide) ?_
    exact z_iret d_m_leaves_8 rfl (Nat.le_refl 0) (Nat.le_refl 0) (hQ vf)
theorem c_m_rebuild (r : Int32) (h : mSt As T K dr va)
    (hQ : ∀ va' f, mSt As (if isRp r = true then upF T (toN r) [] else T) K dr va' → Q (some (.int (if isRp r = true then nI (ciN (As (toN r))) else -1))) (zmod D o hp va' f)) : Runs l D M_m_rebuild [.ref o, .int r] (zmod D o hp va vf) 0 0 Q := by
  refine Runs.of rfl rfl (Nat.le_of_ble_eq_true rfl) ?_
  refine z_iload_n d_m_rebuild_0 1 rfl rfl rfl ?_
  refine zm_cS1 d_m_rebuild_1 4 rfl ms_m_isRepository kl_m_129 (by decide) (fun Q' h => c_m_isRepository _ h) rfl rfl (Nat.le_of_ble_eq_true rfl) ?_
  refine z_if_neB (tgt := 9) d_m_rebuild_4 7 rfl rfl (fun h4 => ?_) (fun h4 => ?_)
  · rw [h4, if_pos rfl, if_pos rfl] at hQ
    obtain ⟨q, hq, rfl⟩ := isRp_of h4
    rw [toN_nI (by omega)] at hQ
    refine z_aload_n d_m_rebuild_9 10 rfl rfl rfl ?_
    refine zm_getA 5 d_m_rebuild_10 13 rfl f_m_26 rfl ?_
    refine z_iload_n d_m_rebuild_13 14 rfl rfl rfl ?_
    refine z_iconst (v := nI 0) d_m_rebuild_14 15 rfl rfl ?_
    refine zm_iast d_m_rebuild_15 16 rfl (by decide) rfl (by simp only [zln]; omega) ?_
    refine z_aload_n d_m_rebuild_16 17 rfl rfl rfl ?_
    refine z_iload_n d_m_rebuild_17 18 rfl rfl rfl ?_
    have hst : mSt As (upF T q []) K dr (va_up va 5 (upd (va 5) q (nI 0))) := by
      refine ⟨h.1, fun p hp => ?_, h.2.2.1, h.2.2.2⟩
      unfold upF
      by_cases e : p = q
      · rw [if_pos e, e]
        exact ⟨by show upd (va 5) q _ q = _; rw [pk_us]; rfl, by simp, fun i hi => by simp at hi⟩
      · rw [if_neg e]
        obtain ⟨a1, a2, a3⟩ := h.2.1 p hp
        exact ⟨by show upd (va 5) q _ p = _; rw [pk_un e]; exact a1, a2, a3⟩
    refine zm_cV (fun v a f' => v = .int (nI (ciN (As q))) ∧ va_up va 5 (upd (va 5) q (nI 0)) = a) d_m_rebuild_18 21 rfl mv_m_checkIns kl_m_176 (by decide) (fun Q' hq' => c_m_checkIns (nI q) hst.1 (fun f => by rw [isRp_nI hq, if_pos rfl, toN_nI (by omega)]; exact hq' _ _ _ ⟨rfl, rfl⟩)) rfl rfl (Nat.le_of_ble_eq_true rfl) ?_; rintro _ _ f2 ⟨rfl, rfl⟩
    exact z_iret d_m_rebuild_21 rfl (Nat.le_refl 0) (Nat.le_refl 0) (hQ _ f2 hst)
  · rw [h4] at hQ
    refine z_iconst (v := -1) d_m_rebuild_7 8 rfl (by decide) ?_
    exact z_iret d_m_rebuild_8 rfl (Nat.le_refl 0) (Nat.le_refl 0) (hQ va vf h)
def nameL (As : List (List Nat)) : List Nat := srt (As.map (dg 7))
theorem nameL_len {As : List (List Nat)} (h : (As.map (dg 7)).Nodup) : As.length ≤ (nameL As).length := by
  have := nodup_len h (fun x hx => (srt_mem x _).2 hx)
  rw [List.length_map] at this
  exact this
theorem c_m_name (r k : Int32) (h : mSt As T K dr va) (hN : ∀ q, q < 2 → ((As q).map (dg 7)).Nodup)
    (hQ : ∀ va' f, mSt As T K dr va' → Q (some (.int (if isRp r = true ∧ ¬ k < 0 ∧ toN k < (As (toN r)).length then nI ((nameL (As (toN r))).getD (toN k) 0) else -1))) (zmod D o hp va' f)) : Runs l D M_m_name [.ref o, .int r, .int k] (zmod D o hp va vf) 0 0 Q := by
  refine Runs.of rfl rfl (Nat.le_of_ble_eq_true rfl) ?_
  refine z_iload_n d_m_name_0 1 rfl rfl rfl ?_
  refine zm_cS1 d_m_name_1 4 rfl ms_m_isRepository kl_m_129 (by decide) (fun Q' h => c_m_isRepository _ h) rfl rfl (Nat.le_of_ble_eq_true rfl) ?_
  refine z_if_eqB (tgt := 21) d_m_name_4 7 rfl rfl (fun h4 => ?_) (fun h4 => ?_)
  · rw [if_neg (by rw [h4]; simp)] at hQ
    refine z_iconst (v := -1) d_m_name_21 22 rfl (by decide) ?_
    exact z_iret d_m_name_22 rfl (Nat.le_refl 0) (Nat.le_refl 0) (hQ va vf h)
  · obtain ⟨q, hq, rfl⟩ := isRp_of h4
    rw [toN_nI (by omega)] at hQ
    have hR := h.1 q hq
    have h32 := hR.1
    refine z_iload_n d_m_name_7 8 rfl rfl rfl ?_
    refine z_if_lt (tgt := 21) d_m_name_8 11 rfl rfl (fun h8 => ?_) (fun h8 => ?_)
    · rw [if_neg (fun e => e.2.1 h8)] at hQ
      refine z_iconst (v := -1) d_m_name_21 22 rfl (by decide) ?_
      exact z_iret d_m_name_22 rfl (Nat.le_refl 0) (Nat.le_refl 0) (hQ va vf h)
    · obtain ⟨e, he⟩ := nI_toN h8
      simp only [h4, h8, not_false_eq_true, true_and] at hQ
      generalize toN k = m at e he hQ
      subst e
      refine z_iload_n d_m_name_11 12 rfl rfl rfl ?_
      refine z_aload_n d_m_name_12 13 rfl rfl rfl ?_
      refine zm_getA 3 d_m_name_13 16 rfl f_m_20 rfl ?_
      refine z_iload_n d_m_name_16 17 rfl rfl rfl ?_
      refine zm_iald d_m_name_17 18 rfl (by decide) rfl (by simp only [zln]; omega) ?_
      rw [hR.2.1]
      refine z_icmp_ltN (tgt := 23) d_m_name_18 21 rfl rfl (by omega) (by omega) (fun h18 => ?_) (fun h18 => ?_)
      · rw [if_pos h18] at hQ
        have hll := nameL_len (hN q hq)
        refine z_aload_n d_m_name_23 24 rfl rfl rfl ?_
        refine z_iconst (v := nI 0) d_m_name_24 25 rfl rfl ?_
        refine zm_putF 9 d_m_name_25 28 rfl (p_m_136 _) (by decide) (by decide) ?_
        refine z_bipush (v := nI 32) d_m_name_28 30 rfl rfl ?_
        refine z_iload_n d_m_name_30 31 rfl rfl rfl ?_
        first | refine z_imulN d_m_name_31 32 rfl ?_ | refine z_imul d_m_name_31 32 rfl ?_
        refine z_ist3 d_m_name_32 33 rfl rfl ?_
        have loop : ∀ (c j : Nat) (x : Nat → Nat → Int32) (f : Nat → Int32) (L : List Nat), j + c = (As q).length → k8 va x → (∀ y, y ∈ L ↔ y ∈ ((As q).take j).map (dg 7)) → listP x f L → Z l D M_m_name 0 0 Q (zmod D o hp x f) 0 0 33 [some (.ref o), some (.int (nI q)), some (.int (nI m)), some (.int (nI (32 * q + j)))] [] := by
          intro c
          induction c with
          | zero =>
            intro j x f L hj hx hm hL
            have hRx := hx.rep hR
            rw [List.take_of_length_le (by omega)] at hm
            have hLe : nameL (As q) = L := SS_ext (srt_SS _) hL.2.2.1 (fun y => by rw [nameL, srt_mem, hm y])
            rw [hLe] at hll
            refine z_iload_n d_m_name_33 34 rfl rfl rfl ?_
            refine z_bipush (v := nI 32) d_m_name_34 36 rfl rfl ?_
            refine z_iload_n d_m_name_36 37 rfl rfl rfl ?_
            first | refine z_imulN d_m_name_37 38 rfl ?_ | refine z_imul d_m_name_37 38 rfl ?_
            refine z_aload_n d_m_name_38 39 rfl rfl rfl ?_
            refine zm_getA 3 d_m_name_39 42 rfl f_m_20 rfl ?_
            refine z_iload_n d_m_name_42 43 rfl rfl rfl ?_
            refine zm_iald d_m_name_43 44 rfl (by decide) rfl (by simp only [zln]; omega) ?_
            rw [hRx.2.1]
            first | refine z_iaddN d_m_name_44 45 rfl ?_ | refine z_iadd d_m_name_44 45 rfl ?_
            refine z_icmp_geN (tgt := 64) d_m_name_45 48 rfl rfl (by omega) (by omega) (fun h45 => ?_) (fun h45 => ?_)
            · refine z_aload_n d_m_name_64 65 rfl rfl rfl ?_
              refine zm_getA 8 d_m_name_65 68 rfl f_m_35 rfl ?_
              refine z_iload_n d_m_name_68 69 rfl rfl rfl ?_
              refine zm_iald d_m_name_69 70 rfl (by decide) rfl (by simp only [zln]; omega) ?_
              rw [(hL.2.2.2 m (by omega)).1, ← hLe]
              exact z_iret d_m_name_70 rfl (Nat.le_refl 0) (Nat.le_refl 0) (hQ x f (h.k8 hx))
            · omega
          | succ c ih =>
            intro j x f L hj hx hm hL
            have hRx := hx.rep hR
            have hd := dg7 ((As q).getD j [])
            have hl : L.length ≤ (((As q).take j).map (dg 7)).length := SS_len hL.2.2.1 (fun y hy => (hm y).1 hy)
            rw [List.length_map, List.length_take] at hl
            have htk : (As q).take (j + 1) = (As q).take j ++ [(As q).getD j []] := by
              rw [List.take_add_one, show (As q)[j]? = some ((As q).getD j []) by rw [List.getD_eq_getElem?_getD, List.getElem?_eq_getElem (by omega)]; rfl]
              rfl
            refine z_iload_n d_m_name_33 34 rfl rfl rfl ?_
            refine z_bipush (v := nI 32) d_m_name_34 36 rfl rfl ?_
            refine z_iload_n d_m_name_36 37 rfl rfl rfl ?_
            first | refine z_imulN d_m_name_37 38 rfl ?_ | refine z_imul d_m_name_37 38 rfl ?_
            refine z_aload_n d_m_name_38 39 rfl rfl rfl ?_
            refine zm_getA 3 d_m_name_39 42 rfl f_m_20 rfl ?_
            refine z_iload_n d_m_name_42 43 rfl rfl rfl ?_
            refine zm_iald d_m_name_43 44 rfl (by decide) rfl (by simp only [zln]; omega) ?_
            rw [hRx.2.1]
            first | refine z_iaddN d_m_name_44 45 rfl ?_ | refine z_iadd d_m_name_44 45 rfl ?_
            refine z_icmp_geN (tgt := 64) d_m_name_45 48 rfl rfl (by omega) (by omega) (fun h45 => ?_) (fun h45 => ?_)
            · omega
            · refine z_aload_n d_m_name_48 49 rfl rfl rfl ?_
              refine z_aload_n d_m_name_49 50 rfl rfl rfl ?_
              refine zm_getA 2 d_m_name_50 53 rfl f_m_17 rfl ?_
              refine z_iload_n d_m_name_53 54 rfl rfl rfl ?_
              refine zm_iald d_m_name_54 55 rfl (by decide) rfl (by simp only [zln]; omega) ?_
              rw [(hRx.2.2 j (by omega)).2]
              refine zm_cVv (fun a f' => ∃ L', k8 x a ∧ (∀ y, y ∈ L' ↔ y = dg 7 ((As q).getD j []) ∨ y ∈ L) ∧ listP a f' L') d_m_name_55 58 rfl mv_m_enlist kl_m_142 (by decide) (fun Q' hq' => c_m_enlist _ (by omega) hL (by omega) (fun a f L' h1 h2 h3 h4 => hq' _ _ ⟨L', h1, h3, h4⟩)) rfl rfl (Nat.le_of_ble_eq_true rfl) ?_; rintro x2 f2 ⟨L2, i2, i3, i4⟩
              first | refine z_incN3 d_m_name_58 61 rfl rfl ?_ | refine z_inc3 d_m_name_58 61 rfl rfl rfl ?_
              refine z_goto (tgt := 33) d_m_name_61 rfl ?_
              refine ih (j + 1) x2 f2 L2 (by omega) (hx.trans i2) (fun y => ?_) i4
              rw [i3 y, hm y, htk, List.map_append, List.mem_append]
              constructor
              · rintro (e | e)
                · exact Or.inr (by simp [e])
                · exact Or.inl e
              · rintro (e | e)
                · exact Or.inr e
                · exact Or.inl (by simpa using e)
        exact loop (As q).length 0 va _ [] (by omega) (fun _ _ => rfl) (fun y => by simp) ⟨by rw [pk_us]; rfl, by simp, List.Pairwise.nil, fun i hi => by simp at hi⟩
      · rw [if_neg (by omega)] at hQ
        refine z_iconst (v := -1) d_m_name_21 22 rfl (by decide) ?_
        exact z_iret d_m_name_22 rfl (Nat.le_refl 0) (Nat.le_refl 0) (hQ va vf h)
end M17
