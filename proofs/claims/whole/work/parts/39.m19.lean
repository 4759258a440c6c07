/-! The reference: the timeline, raw bytes. Own work. -/
/-- does b come before a -/
def bef (a b : List Nat) : Bool := decide (tmN b < tmN a) || (decide (tmN b = tmN a) && decide (dg 7 b < dg 7 a))
def befN (As : List (List Nat)) (a : List Nat) : Nat := lcount (fun b => isCI As b && bef a b) As
def tlF (As : List (List Nat)) (k : Nat) : List (List Nat) → Int32
  | [] => -1
  | a :: t => if isCI As a = true ∧ befN As a = k then nI (dg 7 a) else tlF As k t
theorem isCI_sort {As : List (List Nat)} {a : List Nat} (h : isCI As a = true) : sortM a = 1 := by
  unfold isCI at h
  simp only [Bool.and_eq_true, decide_eq_true_eq] at h
  exact h.1
theorem tmN_le {a : List Nat} (h : sortM a = 1 ∨ sortM a = 2) : tmN a ≤ 9999 := by
  obtain ⟨e, c, -, -, h3, h4⟩ := sort_D h
  omega
section M19
variable {l : Launch} {D : zD} {hp : zH} {o : Nat} {va : Nat → Nat → Int32} {vf : Nat → Int32} {Q : Option Value → zH → Prop} {As : Nat → List (List Nat)} {T K : Nat → List Nat} {dr : List Nat}
theorem c_m_timeline (r k : Int32) (hR : ∀ q, q < 2 → repP va q (As q))
    (hQ : ∀ f, Q (some (.int (if isRp r = true ∧ ¬ k < 0 then tlF (As (toN r)) (toN k) (As (toN r)) else -1))) (zmod D o hp va f)) : Runs l D M_m_timeline [.ref o, .int r, .int k] (zmod D o hp va vf) 0 0 Q := by
  refine Runs.of rfl rfl (Nat.le_of_ble_eq_true rfl) ?_
  refine z_iload_n d_m_timeline_0 1 rfl rfl rfl ?_
  refine zm_cS1 d_m_timeline_1 4 rfl ms_m_isRepository kl_m_129 (by decide) (fun Q' h => c_m_isRepository _ h) rfl rfl (Nat.le_of_ble_eq_true rfl) ?_
  refine z_if_eqB (tgt := 11) d_m_timeline_4 7 rfl rfl (fun h4 => ?_) (fun h4 => ?_)
  · rw [if_neg (by rw [h4]; simp)] at hQ
    refine z_iconst (v := -1) d_m_timeline_11 12 rfl (by decide) ?_
    exact z_iret d_m_timeline_12 rfl (Nat.le_refl 0) (Nat.le_refl 0) (hQ vf)
  · obtain ⟨q, hq, rfl⟩ := isRp_of h4
    rw [toN_nI (by omega)] at hQ
    have hRq := hR q hq
    obtain ⟨h32, hmany, hslot⟩ := hRq
    refine z_iload_n d_m_timeline_7 8 rfl rfl rfl ?_
    refine z_if_ge (tgt := 13) d_m_timeline_8 11 rfl rfl (fun h8 => ?_) (fun h8 => ?_)
    · have h8 : ¬ k < 0 := fun h => Int32.lt_irrefl (Int32.lt_of_lt_of_le h h8)
      obtain ⟨e, he⟩ := nI_toN h8
      rw [if_pos ⟨h4, h8⟩] at hQ
      generalize toN k = m at e he hQ
      subst e
      generalize hAe : As q = B at *
      refine z_bipush (v := nI 32) d_m_timeline_13 15 rfl rfl ?_
      refine z_iload_n d_m_timeline_15 16 rfl rfl rfl ?_
      first | refine z_imulN d_m_timeline_16 17 rfl ?_ | refine z_imul d_m_timeline_16 17 rfl ?_
      refine z_ist3 d_m_timeline_17 18 rfl rfl ?_
      have loop : ∀ (c j : Nat) (f : Nat → Int32) (y4 y5 y6 y7 : Option Value), j + c = B.length → tlF B m B = tlF B m (B.drop j) → (∀ v, y4 = some v → v.category = 1) → (∀ v, y5 = some v → v.category = 1) → (∀ v, y6 = some v → v.category = 1) → Z l D M_m_timeline 0 0 Q (zmod D o hp va f) 0 0 18 [some (.ref o), some (.int (nI q)), some (.int (nI m)), some (.int (nI (32 * q + j))), y4, y5, y6, y7] [] := by
        intro c
        induction c with
        | zero =>
          intro j f y4 y5 y6 y7 hj he hy4 hy5 hy6
          rw [List.drop_eq_nil_of_le (by omega), tlF] at he
          refine z_iload_n d_m_timeline_18 19 rfl rfl rfl ?_
          refine z_bipush (v := nI 32) d_m_timeline_19 21 rfl rfl ?_
          refine z_iload_n d_m_timeline_21 22 rfl rfl rfl ?_
          first | refine z_imulN d_m_timeline_22 23 rfl ?_ | refine z_imul d_m_timeline_22 23 rfl ?_
          refine z_aload_n d_m_timeline_23 24 rfl rfl rfl ?_
          refine zm_getA 3 d_m_timeline_24 27 rfl f_m_20 rfl ?_
          refine z_iload_n d_m_timeline_27 28 rfl rfl rfl ?_
          refine zm_iald d_m_timeline_28 29 rfl (by decide) rfl (by simp only [zln]; omega) ?_
          rw [hmany]
          first | refine z_iaddN d_m_timeline_29 30 rfl ?_ | refine z_iadd d_m_timeline_29 30 rfl ?_
          refine z_icmp_geN (tgt := 157) d_m_timeline_30 33 rfl rfl (by omega) (by omega) (fun h30 => ?_) (fun h30 => ?_)
          · refine z_iconst (v := -1) d_m_timeline_157 158 rfl (by decide) ?_
            exact z_iret d_m_timeline_158 rfl (Nat.le_refl 0) (Nat.le_refl 0) (by have := hQ f; rw [he] at this; exact this)
          · omega
        | succ c ih =>
          intro j f y4 y5 y6 y7 hj he hy4 hy5 hy6
          rw [drop_cons (by omega), tlF] at he
          refine z_iload_n d_m_timeline_18 19 rfl rfl rfl ?_
          refine z_bipush (v := nI 32) d_m_timeline_19 21 rfl rfl ?_
          refine z_iload_n d_m_timeline_21 22 rfl rfl rfl ?_
          first | refine z_imulN d_m_timeline_22 23 rfl ?_ | refine z_imul d_m_timeline_22 23 rfl ?_
          refine z_aload_n d_m_timeline_23 24 rfl rfl rfl ?_
          refine zm_getA 3 d_m_timeline_24 27 rfl f_m_20 rfl ?_
          refine z_iload_n d_m_timeline_27 28 rfl rfl rfl ?_
          refine zm_iald d_m_timeline_28 29 rfl (by decide) rfl (by simp only [zln]; omega) ?_
          rw [hmany]
          first | refine z_iaddN d_m_timeline_29 30 rfl ?_ | refine z_iadd d_m_timeline_29 30 rfl ?_
          refine z_icmp_geN (tgt := 157) d_m_timeline_30 33 rfl rfl (by omega) (by omega) (fun h30 => ?_) (fun h30 => ?_)
          · omega
          · have hsl := (hslot j (by omega)).1
            have hnm := (hslot j (by omega)).2
            generalize B.getD j [] = a at hsl hnm he
            have hda := dg7 a
            refine z_aload_n d_m_timeline_33 34 rfl rfl rfl ?_
            refine z_iload_n d_m_timeline_34 35 rfl rfl rfl ?_
            refine z_iload_n d_m_timeline_35 36 rfl rfl rfl ?_
            refine zm_cV (fun v x f' => v = .int (zb (isCI B a)) ∧ va = x) d_m_timeline_36 39 rfl mv_m_isCheckIn kl_m_164 (by decide) (fun Q' hq' => c_m_isCheckIn q _ hq ⟨h32, hmany, hslot⟩ hsl (by omega) (fun f h1 => hq' _ _ _ ⟨rfl, rfl⟩)) rfl rfl (Nat.le_of_ble_eq_true rfl) ?_; rintro _ _ f1 ⟨rfl, rfl⟩
            refine z_if_eqB (tgt := 151) d_m_timeline_39 42 rfl rfl (fun h39 => ?_) (fun h39 => ?_)
            · rw [if_neg (by rw [h39]; simp)] at he
              first | refine z_incN3 d_m_timeline_151 154 rfl rfl ?_ | refine z_inc3 d_m_timeline_151 154 rfl rfl rfl ?_
              refine z_goto (tgt := 18) d_m_timeline_154 rfl ?_
              exact ih (j + 1) f1 y4 y5 y6 y7 (by omega) he hy4 hy5 hy6
            · have hta := tmN_le (Or.inl (isCI_sort h39))
              refine z_aload_n d_m_timeline_42 43 rfl rfl rfl ?_
              refine z_iload_n d_m_timeline_43 44 rfl rfl rfl ?_
              refine zm_cV (fun v x f' => v = .int (nI (tmN a)) ∧ va = x) d_m_timeline_44 47 rfl mv_m_timeOf kl_m_167 (by decide) (fun Q' hq' => c_m_timeD _ hsl (by omega) (Or.inl (isCI_sort h39)) (fun f h1 => hq' _ _ _ ⟨rfl, rfl⟩)) rfl rfl (Nat.le_of_ble_eq_true rfl) ?_; rintro _ _ f2 ⟨rfl, rfl⟩
              refine z_ist4 d_m_timeline_47 49 rfl rfl ?_
              refine z_iconst (v := nI 0) d_m_timeline_49 50 rfl rfl ?_
              refine z_ist5 d_m_timeline_50 52 rfl rfl ?_
              refine z_bipush (v := nI 32) d_m_timeline_52 54 rfl rfl ?_
              refine z_iload_n d_m_timeline_54 55 rfl rfl rfl ?_
              first | refine z_imulN d_m_timeline_55 56 rfl ?_ | refine z_imul d_m_timeline_55 56 rfl ?_
              refine z_ist6 d_m_timeline_56 58 rfl rfl ?_
              have inner : ∀ (c2 i n : Nat) (g : Nat → Int32) (y7 : Option Value), i + c2 = B.length → n ≤ i → befN B a = n + lcount (fun b => isCI B b && bef a b) (B.drop i) → Z l D M_m_timeline 0 0 Q (zmod D o hp va g) 0 0 58 [some (.ref o), some (.int (nI q)), some (.int (nI m)), some (.int (nI (32 * q + j))), some (.int (nI (tmN a))), some (.int (nI n)), some (.int (nI (32 * q + i))), y7] [] := by
                intro c2
                induction c2 with
                | zero =>
                  intro i n g y7 hi hn hb
                  rw [List.drop_eq_nil_of_le (by omega)] at hb
                  have hb : befN B a = n := hb
                  refine z_iload d_m_timeline_58 60 rfl rfl ?_
                  refine z_bipush (v := nI 32) d_m_timeline_60 62 rfl rfl ?_
                  refine z_iload_n d_m_timeline_62 63 rfl rfl rfl ?_
                  first | refine z_imulN d_m_timeline_63 64 rfl ?_ | refine z_imul d_m_timeline_63 64 rfl ?_
                  refine z_aload_n d_m_timeline_64 65 rfl rfl rfl ?_
                  refine zm_getA 3 d_m_timeline_65 68 rfl f_m_20 rfl ?_
                  refine z_iload_n d_m_timeline_68 69 rfl rfl rfl ?_
                  refine zm_iald d_m_timeline_69 70 rfl (by decide) rfl (by simp only [zln]; omega) ?_
                  rw [hmany]
                  first | refine z_iaddN d_m_timeline_70 71 rfl ?_ | refine z_iadd d_m_timeline_70 71 rfl ?_
                  refine z_icmp_geN (tgt := 138) d_m_timeline_71 74 rfl rfl (by omega) (by omega) (fun h71 => ?_) (fun h71 => ?_)
                  · refine z_iload d_m_timeline_138 140 rfl rfl ?_
                    refine z_iload_n d_m_timeline_140 141 rfl rfl rfl ?_
                    refine z_icmp_neN (tgt := 151) d_m_timeline_141 144 rfl rfl (by omega) (by omega) (fun h141 => ?_) (fun h141 => ?_)
                    · rw [if_neg (by rw [hb]; exact fun h => h141 h.2)] at he
                      first | refine z_incN3 d_m_timeline_151 154 rfl rfl ?_ | refine z_inc3 d_m_timeline_151 154 rfl rfl rfl ?_
                      refine z_goto (tgt := 18) d_m_timeline_154 rfl ?_
                      exact ih (j + 1) g _ _ _ _ (by omega) he (fun v hv => by cases hv; rfl) (fun v hv => by cases hv; rfl) (fun v hv => by cases hv; rfl)
                    · rw [if_pos ⟨h39, by rw [hb]; exact h141⟩] at he
                      refine z_aload_n d_m_timeline_144 145 rfl rfl rfl ?_
                      refine zm_getA 2 d_m_timeline_145 148 rfl f_m_17 rfl ?_
                      refine z_iload_n d_m_timeline_148 149 rfl rfl rfl ?_
                      refine zm_iald d_m_timeline_149 150 rfl (by decide) rfl (by simp only [zln]; omega) ?_
                      rw [hnm]
                      exact z_iret d_m_timeline_150 rfl (Nat.le_refl 0) (Nat.le_refl 0) (by have := hQ g; rw [he] at this; exact this)
                  · omega
                | succ c2 ih2 =>
                  intro i n g y7 hi hn hb
                  rw [drop_cons (by omega), lcount_cons] at hb
                  refine z_iload d_m_timeline_58 60 rfl rfl ?_
                  refine z_bipush (v := nI 32) d_m_timeline_60 62 rfl rfl ?_
                  refine z_iload_n d_m_timeline_62 63 rfl rfl rfl ?_
                  first | refine z_imulN d_m_timeline_63 64 rfl ?_ | refine z_imul d_m_timeline_63 64 rfl ?_
                  refine z_aload_n d_m_timeline_64 65 rfl rfl rfl ?_
                  refine zm_getA 3 d_m_timeline_65 68 rfl f_m_20 rfl ?_
                  refine z_iload_n d_m_timeline_68 69 rfl rfl rfl ?_
                  refine zm_iald d_m_timeline_69 70 rfl (by decide) rfl (by simp only [zln]; omega) ?_
                  rw [hmany]
                  first | refine z_iaddN d_m_timeline_70 71 rfl ?_ | refine z_iadd d_m_timeline_70 71 rfl ?_
                  refine z_icmp_geN (tgt := 138) d_m_timeline_71 74 rfl rfl (by omega) (by omega) (fun h71 => ?_) (fun h71 => ?_)
                  · omega
                  · have hsb := (hslot i (by omega)).1
                    have hnb := (hslot i (by omega)).2
                    generalize B.getD i [] = b at hsb hnb hb
                    have hdb := dg7 b
                    refine z_aload_n d_m_timeline_74 75 rfl rfl rfl ?_
                    refine z_iload_n d_m_timeline_75 76 rfl rfl rfl ?_
                    refine z_iload d_m_timeline_76 78 rfl rfl ?_
                    refine zm_cV (fun v x f' => v = .int (zb (isCI B b)) ∧ va = x) d_m_timeline_78 81 rfl mv_m_isCheckIn kl_m_164 (by decide) (fun Q' hq' => c_m_isCheckIn q _ hq ⟨h32, hmany, hslot⟩ hsb (by omega) (fun f h1 => hq' _ _ _ ⟨rfl, rfl⟩)) rfl rfl (Nat.le_of_ble_eq_true rfl) ?_; rintro _ _ g1 ⟨rfl, rfl⟩
                    refine z_if_eqB (tgt := 132) d_m_timeline_81 84 rfl rfl (fun h81 => ?_) (fun h81 => ?_)
                    · rw [if_neg (by rw [h81]; simp), Nat.zero_add] at hb
                      first | refine z_incN6 d_m_timeline_132 135 rfl rfl ?_ | refine z_inc6 d_m_timeline_132 135 rfl rfl rfl ?_
                      refine z_goto (tgt := 58) d_m_timeline_135 rfl ?_
                      exact ih2 (i + 1) n g1 _ (by omega) (by omega) hb
                    · have htb := tmN_le (Or.inl (isCI_sort h81))
                      refine z_aload_n d_m_timeline_84 85 rfl rfl rfl ?_
                      refine z_iload d_m_timeline_85 87 rfl rfl ?_
                      refine zm_cV (fun v x f' => v = .int (nI (tmN b)) ∧ va = x) d_m_timeline_87 90 rfl mv_m_timeOf kl_m_167 (by decide) (fun Q' hq' => c_m_timeD _ hsb (by omega) (Or.inl (isCI_sort h81)) (fun f h1 => hq' _ _ _ ⟨rfl, rfl⟩)) rfl rfl (Nat.le_of_ble_eq_true rfl) ?_; rintro _ _ g2 ⟨rfl, rfl⟩
                      have fin : ∀ v, v = (if bef a b = true then 1 else 0) → Z l D M_m_timeline 0 0 Q (zmod D o hp va g2) 0 0 129 [some (.ref o), some (.int (nI q)), some (.int (nI m)), some (.int (nI (32 * q + j))), some (.int (nI (tmN a))), some (.int (nI n)), some (.int (nI (32 * q + i))), some (.int (nI (tmN b)))] [.int (nI v), .int (nI n)] := by
                        intro v hv
                        have hv1 : v ≤ 1 := by rw [hv]; split <;> omega
                        rw [h81, Bool.true_and] at hb
                        first | refine z_iaddN d_m_timeline_129 130 rfl ?_ | refine z_iadd d_m_timeline_129 130 rfl ?_
                        refine z_ist5 d_m_timeline_130 132 rfl rfl ?_
                        first | refine z_incN6 d_m_timeline_132 135 rfl rfl ?_ | refine z_inc6 d_m_timeline_132 135 rfl rfl rfl ?_
                        refine z_goto (tgt := 58) d_m_timeline_135 rfl ?_
                        exact ih2 (i + 1) (n + v) g2 _ (by omega) (by omega) (by rw [hb, hv]; omega)
                      refine z_ist7 d_m_timeline_90 92 rfl rfl ?_
                      refine z_iload d_m_timeline_92 94 rfl rfl ?_
                      refine z_iload d_m_timeline_94 96 rfl rfl ?_
                      refine z_iload d_m_timeline_96 98 rfl rfl ?_
                      refine z_icmp_ltN (tgt := 124) d_m_timeline_98 101 rfl rfl (by omega) (by omega) (fun h98 => ?_) (fun h98 => ?_)
                      · refine z_iconst (v := nI 1) d_m_timeline_124 125 rfl rfl ?_
                        refine z_goto (tgt := 129) d_m_timeline_125 rfl ?_
                        exact fin 1 (by simp [bef, h98])
                      · refine z_iload d_m_timeline_101 103 rfl rfl ?_
                        refine z_iload d_m_timeline_103 105 rfl rfl ?_
                        refine z_icmp_neN (tgt := 128) d_m_timeline_105 108 rfl rfl (by omega) (by omega) (fun h105 => ?_) (fun h105 => ?_)
                        · refine z_iconst (v := nI 0) d_m_timeline_128 129 rfl rfl ?_
                          exact fin 0 (by simp [bef, h105]; omega)
                        · refine z_aload_n d_m_timeline_108 109 rfl rfl rfl ?_
                          refine zm_getA 2 d_m_timeline_109 112 rfl f_m_17 rfl ?_
                          refine z_iload d_m_timeline_112 114 rfl rfl ?_
                          refine zm_iald d_m_timeline_114 115 rfl (by decide) rfl (by simp only [zln]; omega) ?_
                          rw [hnb]
                          refine z_aload_n d_m_timeline_115 116 rfl rfl rfl ?_
                          refine zm_getA 2 d_m_timeline_116 119 rfl f_m_17 rfl ?_
                          refine z_iload_n d_m_timeline_119 120 rfl rfl rfl ?_
                          refine zm_iald d_m_timeline_120 121 rfl (by decide) rfl (by simp only [zln]; omega) ?_
                          rw [hnm]
                          refine z_icmp_geN (tgt := 128) d_m_timeline_121 124 rfl rfl (by omega) (by omega) (fun h121 => ?_) (fun h121 => ?_)
                          · refine z_iconst (v := nI 0) d_m_timeline_128 129 rfl rfl ?_
                            exact fin 0 (by simp [bef]; omega)
                          · refine z_iconst (v := nI 1) d_m_timeline_124 125 rfl rfl ?_
                            refine z_goto (tgt := 129) d_m_timeline_125 rfl ?_
                            exact fin 1 (by simp [bef, h105, h121])
              exact inner B.length 0 0 f2 y7 (by omega) (Nat.le_refl 0) (by rw [Nat.zero_add]; rfl)
      exact loop B.length 0 vf none none none none (by omega) (by rw [List.drop_zero]) (fun v hv => by cases hv) (fun v hv => by cases hv) (fun v hv => by cases hv)
    · rw [if_neg (fun e => e.2 (Int32.not_le.mp h8))] at hQ
      refine z_iconst (v := -1) d_m_timeline_11 12 rfl (by decide) ?_
      exact z_iret d_m_timeline_12 rfl (Nat.le_refl 0) (Nat.le_refl 0) (hQ vf)
end M19
