/-! The reference: signs, tags, the timeline. Own work. -/
def tmN (bs : List Nat) : Nat := match rdl bs 0 with
  | some (_, some c) => c.2.2.2.2.2
  | _ => 0
theorem wf_no68 (bs : List Nat) : ∀ (g k : Nat) (cs cs' : List CV), wfF bs g k cs = some cs' → 68 < lastL cs → cnt 68 cs' = cnt 68 cs := by
  intro g
  induction g with
  | zero => intro k cs cs' hw hl; simp only [wfF] at hw; cases hw; rfl
  | succ g ih =>
    intro k cs cs' hw hl
    rw [wfF] at hw
    split at hw
    · split at hw
      next e c hrd =>
        split at hw
        next hok =>
          obtain ⟨ho, -⟩ := Bool.and_eq_true_iff.mp hok
          have hc : lastL cs ≤ c.1 := by
            unfold okC at ho
            unfold lastL
            cases hl2 : cs.getLast? with
            | none => simp
            | some a =>
              rw [hl2] at ho
              simp only [Bool.or_eq_true, decide_eq_true_eq, Bool.and_eq_true] at ho
              simp only
              omega
          rw [ih e (cs ++ [c]) cs' hw (by simp [lastL]; omega), cnt_snoc, if_neg (by omega)]
          rfl
        next => cases hw
      next => cases hw
    · cases hw; rfl
/-- a manifest or control begins with its D card -/
theorem sort_D {bs : List Nat} (h : sortM bs = 1 ∨ sortM bs = 2) : ∃ e c, rdl bs 0 = some (e, some c) ∧ c.1 = 68 ∧ tmN bs = c.2.2.2.2.2 ∧ c.2.2.2.2.2 ≤ 9999 := by
  obtain ⟨cs, hw, hs⟩ := sort_wf (bs := bs) (by omega)
  have h68 : cnt 68 cs = 1 := by
    rw [hs] at h
    unfold sortC at h
    (repeat' split at h) <;> omega
  unfold wf at hw
  cases hl : bs.length with
  | zero => rw [hl, wfF] at hw; cases hw; simp [cnt] at h68
  | succ n =>
    rw [hl, wfF, if_pos (by omega)] at hw
    split at hw
    next e c hrd =>
      split at hw
      next hok =>
        have hcv := (rdl_some (Nat.zero_le _) hrd).2.2 c rfl
        by_cases h9 : c.1 = 68
        · exact ⟨e, c, hrd, h9, by simp [tmN, hrd], hcv.2.2.2.2.1⟩
        · exfalso
          have := wf_no68 bs n e [c] cs hw (by have := hcv.1; simp [lastL]; omega)
          rw [h68] at this
          simp [cnt, List.filter, h9] at this
      next => cases hw
    next => cases hw
def sgF (d : Nat) (nm : Int32) : List (Option CV) → Int32 → Int32
  | [], s => s
  | none :: t, s => sgF d nm t s
  | some c :: t, s => sgF d nm t (if c.1 = 84 ∧ c.2.1 = d ∧ oI c.2.2.2.1 = nm then zb c.2.2.1 else s)
section M18
variable {l : Launch} {D : zD} {hp : zH} {o : Nat} {va : Nat → Nat → Int32} {vf : Nat → Int32} {Q : Option Value → zH → Prop} {As : Nat → List (List Nat)} {T K : Nat → List Nat} {dr : List Nat}
/-- timeOf, where the text begins with a D card -/
theorem c_m_timeD (s : Nat) {bs : List Nat} (hr : slotP va s bs) (hs : s < 66) (hk : sortM bs = 1 ∨ sortM bs = 2)
    (hQ : ∀ f : Nat → Int32, f 9 = vf 9 → Q (some (.int (nI (tmN bs)))) (zmod D o hp va f)) : Runs l D M_m_timeOf [.ref o, .int (nI s)] (zmod D o hp va vf) 0 0 Q := by
  obtain ⟨e, c, h1, h2, h3, -⟩ := sort_D hk
  refine c_m_timeOf s hr hs (fun f h4 h5 => ?_)
  rw [h1] at h5
  have := h5.2.2.2.2.2.2 h2
  rw [this, ← h3]
  exact hQ f h4
theorem c_m_signOf (s d : Nat) (nm : Int32) {bs : List Nat} (hr : slotP va s bs) (hs : s < 66) (hd : d ≤ 9)
    (hQ : ∀ f : Nat → Int32, f 9 = vf 9 → Q (some (.int (sgF d nm (lns bs) (-1)))) (zmod D o hp va f)) : Runs l D M_m_signOf [.ref o, .int (nI s), .int (nI d), .int nm] (zmod D o hp va vf) 0 0 Q := by
  refine Runs.of rfl rfl (Nat.le_of_ble_eq_true rfl) ?_
  obtain ⟨hr1, hlen, hl⟩ := hr
  have loop : ∀ (c k : Nat) (sg : Int32) (f : Nat → Int32), bs.length ≤ k + c → k ≤ bs.length → f 9 = vf 9 → sgF d nm (lns bs) (-1) = sgF d nm (lnsF bs c k) sg → Z l D M_m_signOf 0 0 Q (zmod D o hp va f) 0 0 6 [some (.ref o), some (.int (nI s)), some (.int (nI d)), some (.int nm), some (.int sg), some (.int (nI k))] [] := by
    intro c
    induction c with
    | zero =>
      intro k sg f hc hk hf he
      rw [lnsF_end (by omega), sgF] at he
      refine z_iload d_m_signOf_6 8 rfl rfl ?_
      refine z_aload_n d_m_signOf_8 9 rfl rfl rfl ?_
      refine zm_getA 1 d_m_signOf_9 12 rfl f_m_13 rfl ?_
      refine z_iload_n d_m_signOf_12 13 rfl rfl rfl ?_
      refine zm_iald d_m_signOf_13 14 rfl (by decide) rfl (by simp only [zln]; omega) ?_
      rw [hlen]
      refine z_icmp_geN (tgt := 75) d_m_signOf_14 17 rfl rfl (by omega) (by omega) (fun h14 => ?_) (fun h14 => ?_)
      · refine z_iload d_m_signOf_75 77 rfl rfl ?_
        exact z_iret d_m_signOf_77 rfl (Nat.le_refl 0) (Nat.le_refl 0) (by have := hQ f hf; rw [he] at this; exact this)
      · omega
    | succ c ih =>
      intro k sg f hc hk hf he
      refine z_iload d_m_signOf_6 8 rfl rfl ?_
      refine z_aload_n d_m_signOf_8 9 rfl rfl rfl ?_
      refine zm_getA 1 d_m_signOf_9 12 rfl f_m_13 rfl ?_
      refine z_iload_n d_m_signOf_12 13 rfl rfl rfl ?_
      refine zm_iald d_m_signOf_13 14 rfl (by decide) rfl (by simp only [zln]; omega) ?_
      rw [hlen]
      refine z_icmp_geN (tgt := 75) d_m_signOf_14 17 rfl rfl (by omega) (by omega) (fun h14 => ?_) (fun h14 => ?_)
      · rw [lnsF_end (by omega), sgF] at he
        refine z_iload d_m_signOf_75 77 rfl rfl ?_
        exact z_iret d_m_signOf_77 rfl (Nat.le_refl 0) (Nat.le_refl 0) (by have := hQ f hf; rw [he] at this; exact this)
      · refine z_aload_n d_m_signOf_17 18 rfl rfl rfl ?_
        refine z_iload_n d_m_signOf_18 19 rfl rfl rfl ?_
        refine z_iload d_m_signOf_19 21 rfl rfl ?_
        refine zm_cV (fun v a f' => v = .int (zb (rdl bs k).isSome) ∧ va = a ∧ f' 9 = f 9 ∧ rdP (rdl bs k) f') d_m_signOf_21 24 rfl mv_m_readLine kl_m_90 (by decide) (fun Q' h => c_m_readLine s k hr1 hlen hk hs hl (fun f h1 h2 => h _ _ _ ⟨rfl, rfl, h1, h2⟩)) rfl rfl (Nat.le_of_ble_eq_true rfl) ?_; rintro _ _ g ⟨rfl, rfl, i1, i2⟩
        refine z_if_eqB (tgt := 75) d_m_signOf_24 27 rfl rfl (fun h24 => ?_) (fun h24 => ?_)
        · rw [lnsF_none (by simpa using h24), sgF] at he
          refine z_iload d_m_signOf_75 77 rfl rfl ?_
          exact z_iret d_m_signOf_77 rfl (Nat.le_refl 0) (Nat.le_refl 0) (by have := hQ g (i1.trans hf); rw [he] at this; exact this)
        · obtain ⟨⟨e, cd⟩, hrd⟩ := Option.isSome_iff_exists.mp h24
          obtain ⟨e1, e2, e3⟩ := rdl_some hk hrd
          rw [lnsF_some (by omega) hrd] at he
          rw [hrd] at i2
          have g10 : g 10 = nI e := by cases cd with
            | none => exact i2.1
            | some c => exact i2.1
          refine z_aload_n d_m_signOf_27 28 rfl rfl rfl ?_
          refine zm_getF 10 d_m_signOf_28 31 rfl f_m_51 rfl ?_; try simp only [pk_us, pk_un, ne_eq, Nat.reduceEqDiff, not_false_eq_true]
          rw [g10]
          refine z_ist5 d_m_signOf_31 33 rfl rfl ?_
          refine z_aload_n d_m_signOf_33 34 rfl rfl rfl ?_
          refine zm_getF 11 d_m_signOf_34 37 rfl f_m_47 rfl ?_; try simp only [pk_us, pk_un, ne_eq, Nat.reduceEqDiff, not_false_eq_true]
          cases cd with
          | none =>
            rw [i2.2]
            refine z_bipush (v := nI 84) d_m_signOf_37 39 rfl rfl ?_
            refine z_icmp_neN (tgt := 6) d_m_signOf_39 42 rfl rfl (by omega) (by omega) (fun h39 => ?_) (fun h39 => ?_)
            · exact ih e sg g (by omega) e2 (i1.trans hf) he
            · omega
          | some c =>
            obtain ⟨i3, i4, i5, i6, i7, i8, i9⟩ := i2
            obtain ⟨hc1, -, -, hdg, -⟩ := e3 c rfl
            rw [sgF] at he
            rw [i4]
            refine z_bipush (v := nI 84) d_m_signOf_37 39 rfl rfl ?_
            refine z_icmp_neN (tgt := 6) d_m_signOf_39 42 rfl rfl (by omega) (by omega) (fun h39 => ?_) (fun h39 => ?_)
            · rw [if_neg (fun q => h39 q.1)] at he
              exact ih e sg g (by omega) e2 (i1.trans hf) he
            · refine z_aload_n d_m_signOf_42 43 rfl rfl rfl ?_
              refine zm_getF 12 d_m_signOf_43 46 rfl f_m_74 rfl ?_; try simp only [pk_us, pk_un, ne_eq, Nat.reduceEqDiff, not_false_eq_true]
              rw [i7 (Or.inr h39)]
              refine z_iload_n d_m_signOf_46 47 rfl rfl rfl ?_
              refine z_icmp_neN (tgt := 6) d_m_signOf_47 50 rfl rfl (by omega) (by omega) (fun h47 => ?_) (fun h47 => ?_)
              · rw [if_neg (fun q => h47 q.2.1)] at he
                exact ih e sg g (by omega) e2 (i1.trans hf) he
              · refine z_aload_n d_m_signOf_50 51 rfl rfl rfl ?_
                refine zm_getF 14 d_m_signOf_51 54 rfl f_m_58 rfl ?_; try simp only [pk_us, pk_un, ne_eq, Nat.reduceEqDiff, not_false_eq_true]
                rw [i5]
                refine z_iload_n d_m_signOf_54 55 rfl rfl rfl ?_
                refine z_icmp_ne (tgt := 6) d_m_signOf_55 58 rfl rfl (fun h55 => ?_) (fun h55 => ?_)
                · rw [if_neg (fun q => h55 q.2.2)] at he
                  exact ih e sg g (by omega) e2 (i1.trans hf) he
                · rw [if_pos ⟨h39, h47, h55⟩] at he
                  refine z_aload_n d_m_signOf_58 59 rfl rfl rfl ?_
                  refine zm_getF 13 d_m_signOf_59 62 rfl f_m_86 rfl ?_; try simp only [pk_us, pk_un, ne_eq, Nat.reduceEqDiff, not_false_eq_true]
                  rw [i8 h39]
                  refine z_if_eqB (tgt := 69) d_m_signOf_62 65 rfl rfl (fun h62 => ?_) (fun h62 => ?_)
                  · rw [h62] at he
                    refine z_iconst (v := nI 0) d_m_signOf_69 70 rfl rfl ?_
                    refine z_ist4 d_m_signOf_70 72 rfl rfl ?_
                    refine z_goto (tgt := 6) d_m_signOf_72 rfl ?_
                    exact ih e _ g (by omega) e2 (i1.trans hf) he
                  · rw [h62] at he
                    refine z_iconst (v := nI 1) d_m_signOf_65 66 rfl rfl ?_
                    refine z_goto (tgt := 70) d_m_signOf_66 rfl ?_
                    refine z_ist4 d_m_signOf_70 72 rfl rfl ?_
                    refine z_goto (tgt := 6) d_m_signOf_72 rfl ?_
                    exact ih e _ g (by omega) e2 (i1.trans hf) he
  refine z_iconst (v := -1) d_m_signOf_0 1 rfl (by decide) ?_
  refine z_ist4 d_m_signOf_1 3 rfl rfl ?_
  refine z_iconst (v := nI 0) d_m_signOf_3 4 rfl rfl ?_
  refine z_ist5 d_m_signOf_4 6 rfl rfl ?_
  exact loop bs.length 0 (-1) vf (by omega) (Nat.zero_le _) rfl rfl
/-- what a text says of a tag -/
def gotA (nm : Int32) (d : Nat) (a : List Nat) : Int32 := if sortM a = 2 ∧ ¬ nm < 0 then sgF d nm (lns a) (-1) else if sortM a = 1 ∧ nI (dg 7 a) = nm then sgF d (-1) (lns a) (-1) else -1
def tagF (nm : Int32) (d : Nat) : List (List Nat) → Int32 × Int32 × Int32 → Int32
  | [], z => z.1
  | a :: t, z => tagF nm d t (if ¬ gotA nm d a < 0 ∧ (z.2.1 < nI (tmN a) ∨ (nI (tmN a) = z.2.1 ∧ z.2.2 < nI (dg 7 a))) then (gotA nm d a, nI (tmN a), nI (dg 7 a)) else z)
theorem c_m_tag (r nm d : Int32) (hR : ∀ q, q < 2 → repP va q (As q))
    (hQ : ∀ f, Q (some (.int (if isRp r = true ∧ ¬ d < 0 ∧ d ≤ nI 9 then tagF nm (toN d) (As (toN r)) (-1, -1, -1) else -1))) (zmod D o hp va f)) : Runs l D M_m_tag [.ref o, .int r, .int nm, .int d] (zmod D o hp va vf) 0 0 Q := by
  refine Runs.of rfl rfl (Nat.le_of_ble_eq_true rfl) ?_
  refine z_iload_n d_m_tag_0 1 rfl rfl rfl ?_
  refine zm_cS1 d_m_tag_1 4 rfl ms_m_isRepository kl_m_129 (by decide) (fun Q' h => c_m_isRepository _ h) rfl rfl (Nat.le_of_ble_eq_true rfl) ?_
  refine z_if_eqB (tgt := 17) d_m_tag_4 7 rfl rfl (fun h4 => ?_) (fun h4 => ?_)
  · rw [if_neg (by rw [h4]; simp)] at hQ
    refine z_iconst (v := -1) d_m_tag_17 18 rfl (by decide) ?_
    exact z_iret d_m_tag_18 rfl (Nat.le_refl 0) (Nat.le_refl 0) (hQ vf)
  · obtain ⟨q, hq, rfl⟩ := isRp_of h4
    rw [toN_nI (by omega)] at hQ
    obtain ⟨h32, hmany, hslot⟩ := hR q hq
    refine z_iload_n d_m_tag_7 8 rfl rfl rfl ?_
    refine z_if_lt (tgt := 17) d_m_tag_8 11 rfl rfl (fun h8 => ?_) (fun h8 => ?_)
    · rw [if_neg (fun e => e.2.1 h8)] at hQ
      refine z_iconst (v := -1) d_m_tag_17 18 rfl (by decide) ?_
      exact z_iret d_m_tag_18 rfl (Nat.le_refl 0) (Nat.le_refl 0) (hQ vf)
    · refine z_iload_n d_m_tag_11 12 rfl rfl rfl ?_
      refine z_bipush (v := nI 9) d_m_tag_12 14 rfl rfl ?_
      refine z_icmp_le (tgt := 19) d_m_tag_14 17 rfl rfl (fun h14 => ?_) (fun h14 => ?_)
      · obtain ⟨e, he⟩ := nI_toN h8
        have hd9 : toN d ≤ 9 := by rw [e] at h14; exact (nI_leI he (by decide)).1 h14
        rw [if_pos ⟨h4, h8, h14⟩] at hQ
        generalize toN d = m at e he hd9 hQ
        subst e
        generalize hAe : As q = B at *
        refine z_iconst (v := -1) d_m_tag_19 20 rfl (by decide) ?_
        refine z_ist4 d_m_tag_20 22 rfl rfl ?_
        refine z_iconst (v := -1) d_m_tag_22 23 rfl (by decide) ?_
        refine z_ist5 d_m_tag_23 25 rfl rfl ?_
        refine z_iconst (v := -1) d_m_tag_25 26 rfl (by decide) ?_
        refine z_ist6 d_m_tag_26 28 rfl rfl ?_
        refine z_bipush (v := nI 32) d_m_tag_28 30 rfl rfl ?_
        refine z_iload_n d_m_tag_30 31 rfl rfl rfl ?_
        first | refine z_imulN d_m_tag_31 32 rfl ?_ | refine z_imul d_m_tag_31 32 rfl ?_
        refine z_ist7 d_m_tag_32 34 rfl rfl ?_
        have loop : ∀ (c j : Nat) (z : Int32 × Int32 × Int32) (f : Nat → Int32) (y8 y9 y10 : Option Value), j + c = B.length → tagF nm m B (-1, -1, -1) = tagF nm m (B.drop j) z → (∀ v, y8 = some v → v.category = 1) → (∀ v, y9 = some v → v.category = 1) → Z l D M_m_tag 0 0 Q (zmod D o hp va f) 0 0 34 [some (.ref o), some (.int (nI q)), some (.int nm), some (.int (nI m)), some (.int z.1), some (.int z.2.1), some (.int z.2.2), some (.int (nI (32 * q + j))), y8, y9, y10] [] := by
          intro c
          induction c with
          | zero =>
            intro j z f y8 y9 y10 hj he hy8 hy9
            rw [List.drop_eq_nil_of_le (by omega), tagF] at he
            refine z_iload d_m_tag_34 36 rfl rfl ?_
            refine z_bipush (v := nI 32) d_m_tag_36 38 rfl rfl ?_
            refine z_iload_n d_m_tag_38 39 rfl rfl rfl ?_
            first | refine z_imulN d_m_tag_39 40 rfl ?_ | refine z_imul d_m_tag_39 40 rfl ?_
            refine z_aload_n d_m_tag_40 41 rfl rfl rfl ?_
            refine zm_getA 3 d_m_tag_41 44 rfl f_m_20 rfl ?_
            refine z_iload_n d_m_tag_44 45 rfl rfl rfl ?_
            refine zm_iald d_m_tag_45 46 rfl (by decide) rfl (by simp only [zln]; omega) ?_
            rw [hmany]
            first | refine z_iaddN d_m_tag_46 47 rfl ?_ | refine z_iadd d_m_tag_46 47 rfl ?_
            refine z_icmp_geN (tgt := 181) d_m_tag_47 50 rfl rfl (by omega) (by omega) (fun h47 => ?_) (fun h47 => ?_)
            · refine z_iload d_m_tag_181 183 rfl rfl ?_
              exact z_iret d_m_tag_183 rfl (Nat.le_refl 0) (Nat.le_refl 0) (by have := hQ f; rw [he] at this; exact this)
            · omega
          | succ c ih =>
            intro j z f y8 y9 y10 hj he hy8 hy9
            rw [drop_cons (by omega), tagF] at he
            refine z_iload d_m_tag_34 36 rfl rfl ?_
            refine z_bipush (v := nI 32) d_m_tag_36 38 rfl rfl ?_
            refine z_iload_n d_m_tag_38 39 rfl rfl rfl ?_
            first | refine z_imulN d_m_tag_39 40 rfl ?_ | refine z_imul d_m_tag_39 40 rfl ?_
            refine z_aload_n d_m_tag_40 41 rfl rfl rfl ?_
            refine zm_getA 3 d_m_tag_41 44 rfl f_m_20 rfl ?_
            refine z_iload_n d_m_tag_44 45 rfl rfl rfl ?_
            refine zm_iald d_m_tag_45 46 rfl (by decide) rfl (by simp only [zln]; omega) ?_
            rw [hmany]
            first | refine z_iaddN d_m_tag_46 47 rfl ?_ | refine z_iadd d_m_tag_46 47 rfl ?_
            refine z_icmp_geN (tgt := 181) d_m_tag_47 50 rfl rfl (by omega) (by omega) (fun h47 => ?_) (fun h47 => ?_)
            · omega
            · have hsl := (hslot j (by omega)).1
              have hnm := (hslot j (by omega)).2
              have h3 := sortM_le (B.getD j [])
              generalize B.getD j [] = a at hsl hnm h3 he
              refine z_aload_n d_m_tag_50 51 rfl rfl rfl ?_
              refine z_iload d_m_tag_51 53 rfl rfl ?_
              refine zm_cV (fun v x f' => v = .int (nI (sortM a)) ∧ va = x) d_m_tag_53 56 rfl mv_m_sort kl_m_101 (by decide) (fun Q' hq' => c_m_sort _ hsl (by omega) (fun f h1 => hq' _ _ _ ⟨rfl, rfl⟩)) rfl rfl (Nat.le_of_ble_eq_true rfl) ?_; rintro _ _ f1 ⟨rfl, rfl⟩
              refine z_ist8 d_m_tag_56 58 rfl rfl ?_
              -- from the sign on
              have next : ∀ (z' : Int32 × Int32 × Int32) (g : Nat → Int32) (v9 v10 : Int32), tagF nm m B (-1, -1, -1) = tagF nm m (B.drop (j + 1)) z' → Z l D M_m_tag 0 0 Q (zmod D o hp va g) 0 0 175 [some (.ref o), some (.int (nI q)), some (.int nm), some (.int (nI m)), some (.int z'.1), some (.int z'.2.1), some (.int z'.2.2), some (.int (nI (32 * q + j))), some (.int (nI (sortM a))), some (.int v9), some (.int v10)] [] := by
                intro z' g v9 v10 hz
                first | refine z_incN7 d_m_tag_175 178 rfl rfl ?_ | refine z_inc7 d_m_tag_175 178 rfl rfl rfl ?_
                refine z_goto (tgt := 34) d_m_tag_178 rfl ?_
                exact ih (j + 1) z' g _ _ _ (by omega) hz (fun v hv => by cases hv; rfl) (fun v hv => by cases hv; rfl)
              have g108 : ∀ (x : Int32) (g : Nat → Int32), x = gotA nm m a → Z l D M_m_tag 0 0 Q (zmod D o hp va g) 0 0 108 [some (.ref o), some (.int (nI q)), some (.int nm), some (.int (nI m)), some (.int z.1), some (.int z.2.1), some (.int z.2.2), some (.int (nI (32 * q + j))), some (.int (nI (sortM a))), y9, y10] [.int x] := by
                intro x g hx
                rw [← hx] at he
                refine z_ist9 d_m_tag_108 110 rfl rfl ?_
                refine z_iload d_m_tag_110 112 rfl rfl ?_
                refine z_if_ge (tgt := 119) d_m_tag_112 115 rfl rfl (fun h112 => ?_) (fun h112 => ?_)
                · have hlt : ¬ x < 0 := fun h => Int32.lt_irrefl (Int32.lt_of_lt_of_le h h112)
                  have h12 : sortM a = 1 ∨ sortM a = 2 := by
                    unfold gotA at hx
                    split at hx
                    next h => exact Or.inr h.1
                    next =>
                      split at hx
                      next h => exact Or.inl h.1
                      next => rw [hx] at hlt; exact absurd (by decide) hlt
                  refine z_aload_n d_m_tag_119 120 rfl rfl rfl ?_
                  refine z_iload d_m_tag_120 122 rfl rfl ?_
                  refine zm_cV (fun v y f' => v = .int (nI (tmN a)) ∧ va = y) d_m_tag_122 125 rfl mv_m_timeOf kl_m_167 (by decide) (fun Q' hq' => c_m_timeD _ hsl (by omega) h12 (fun f h1 => hq' _ _ _ ⟨rfl, rfl⟩)) rfl rfl (Nat.le_of_ble_eq_true rfl) ?_; rintro _ _ f2 ⟨rfl, rfl⟩
                  have take : (z.2.1 < nI (tmN a) ∨ (nI (tmN a) = z.2.1 ∧ z.2.2 < nI (dg 7 a))) → Z l D M_m_tag 0 0 Q (zmod D o hp va f2) 0 0 158 [some (.ref o), some (.int (nI q)), some (.int nm), some (.int (nI m)), some (.int z.1), some (.int z.2.1), some (.int z.2.2), some (.int (nI (32 * q + j))), some (.int (nI (sortM a))), some (.int x), some (.int (nI (tmN a)))] [] := by
                    intro hc
                    rw [if_pos ⟨hlt, hc⟩] at he
                    refine z_iload d_m_tag_158 160 rfl rfl ?_
                    refine z_ist4 d_m_tag_160 162 rfl rfl ?_
                    refine z_iload d_m_tag_162 164 rfl rfl ?_
                    refine z_ist5 d_m_tag_164 166 rfl rfl ?_
                    refine z_aload_n d_m_tag_166 167 rfl rfl rfl ?_
                    refine zm_getA 2 d_m_tag_167 170 rfl f_m_17 rfl ?_
                    refine z_iload d_m_tag_170 172 rfl rfl ?_
                    refine zm_iald d_m_tag_172 173 rfl (by decide) rfl (by simp only [zln]; omega) ?_
                    rw [hnm]
                    refine z_ist6 d_m_tag_173 175 rfl rfl ?_
                    exact next (x, nI (tmN a), nI (dg 7 a)) f2 _ _ he
                  have skip : ¬ (z.2.1 < nI (tmN a) ∨ (nI (tmN a) = z.2.1 ∧ z.2.2 < nI (dg 7 a))) → Z l D M_m_tag 0 0 Q (zmod D o hp va f2) 0 0 175 [some (.ref o), some (.int (nI q)), some (.int nm), some (.int (nI m)), some (.int z.1), some (.int z.2.1), some (.int z.2.2), some (.int (nI (32 * q + j))), some (.int (nI (sortM a))), some (.int x), some (.int (nI (tmN a)))] [] := by
                    intro hc
                    rw [if_neg (fun h => hc h.2)] at he
                    exact next z f2 _ _ he
                  refine z_ist10 d_m_tag_125 127 rfl rfl ?_
                  refine z_iload d_m_tag_127 129 rfl rfl ?_
                  refine z_if_lt (tgt := 175) d_m_tag_129 132 rfl rfl (fun h129 => ?_) (fun h129 => ?_)
                  · exact absurd h129 hlt
                  · refine z_iload d_m_tag_132 134 rfl rfl ?_
                    refine z_iload d_m_tag_134 136 rfl rfl ?_
                    refine z_icmp_gt (tgt := 158) d_m_tag_136 139 rfl rfl (fun h136 => ?_) (fun h136 => ?_)
                    · exact take (Or.inl h136)
                    · refine z_iload d_m_tag_139 141 rfl rfl ?_
                      refine z_iload d_m_tag_141 143 rfl rfl ?_
                      refine z_icmp_ne (tgt := 175) d_m_tag_143 146 rfl rfl (fun h143 => ?_) (fun h143 => ?_)
                      · exact skip (fun h => h.elim h136 (fun h => h143 h.1))
                      · refine z_aload_n d_m_tag_146 147 rfl rfl rfl ?_
                        refine zm_getA 2 d_m_tag_147 150 rfl f_m_17 rfl ?_
                        refine z_iload d_m_tag_150 152 rfl rfl ?_
                        refine zm_iald d_m_tag_152 153 rfl (by decide) rfl (by simp only [zln]; omega) ?_
                        rw [hnm]
                        refine z_iload d_m_tag_153 155 rfl rfl ?_
                        refine z_icmp_le (tgt := 175) d_m_tag_155 158 rfl rfl (fun h155 => ?_) (fun h155 => ?_)
                        · exact skip (fun h => h.elim h136 (fun h => Int32.lt_irrefl (Int32.lt_of_lt_of_le h.2 h155)))
                        · exact take (Or.inr ⟨h143, Int32.not_le.mp h155⟩)
                · have hlt : x < 0 := Int32.not_le.mp h112
                  rw [if_neg (fun h => h.1 hlt)] at he
                  refine z_iconst (v := -1) d_m_tag_115 116 rfl (by decide) ?_
                  refine z_goto (tgt := 125) d_m_tag_116 rfl ?_
                  refine z_ist10 d_m_tag_125 127 rfl rfl ?_
                  refine z_iload d_m_tag_127 129 rfl rfl ?_
                  refine z_if_lt (tgt := 175) d_m_tag_129 132 rfl rfl (fun h129 => ?_) (fun h129 => ?_)
                  · exact next z g _ _ he
                  · exact absurd hlt h129
              have g79 : ¬ (sortM a = 2 ∧ ¬ nm < 0) → Z l D M_m_tag 0 0 Q (zmod D o hp va f1) 0 0 79 [some (.ref o), some (.int (nI q)), some (.int nm), some (.int (nI m)), some (.int z.1), some (.int z.2.1), some (.int z.2.2), some (.int (nI (32 * q + j))), some (.int (nI (sortM a))), y9, y10] [] := by
                intro hn2
                refine z_iload d_m_tag_79 81 rfl rfl ?_
                refine z_iconst (v := nI 1) d_m_tag_81 82 rfl rfl ?_
                refine z_icmp_neN (tgt := 107) d_m_tag_82 85 rfl rfl (by omega) (by omega) (fun h82 => ?_) (fun h82 => ?_)
                · refine z_iconst (v := -1) d_m_tag_107 108 rfl (by decide) ?_
                  exact g108 (-1) f1 (by unfold gotA; rw [if_neg hn2, if_neg (fun h => h82 h.1)])
                · refine z_aload_n d_m_tag_85 86 rfl rfl rfl ?_
                  refine zm_getA 2 d_m_tag_86 89 rfl f_m_17 rfl ?_
                  refine z_iload d_m_tag_89 91 rfl rfl ?_
                  refine zm_iald d_m_tag_91 92 rfl (by decide) rfl (by simp only [zln]; omega) ?_
                  rw [hnm]
                  refine z_iload_n d_m_tag_92 93 rfl rfl rfl ?_
                  refine z_icmp_ne (tgt := 107) d_m_tag_93 96 rfl rfl (fun h93 => ?_) (fun h93 => ?_)
                  · refine z_iconst (v := -1) d_m_tag_107 108 rfl (by decide) ?_
                    exact g108 (-1) f1 (by unfold gotA; rw [if_neg hn2, if_neg (fun h => h93 h.2)])
                  · refine z_aload_n d_m_tag_96 97 rfl rfl rfl ?_
                    refine z_iload d_m_tag_97 99 rfl rfl ?_
                    refine z_iload_n d_m_tag_99 100 rfl rfl rfl ?_
                    refine z_iconst (v := -1) d_m_tag_100 101 rfl (by decide) ?_
                    refine zm_cV (fun v y f' => v = .int (sgF m (-1) (lns a) (-1)) ∧ va = y) d_m_tag_101 104 rfl mv_m_signOf kl_m_173 (by decide) (fun Q' hq' => c_m_signOf _ m _ hsl (by omega) hd9 (fun f h1 => hq' _ _ _ ⟨rfl, rfl⟩)) rfl rfl (Nat.le_of_ble_eq_true rfl) ?_; rintro _ _ f2 ⟨rfl, rfl⟩
                    refine z_goto (tgt := 108) d_m_tag_104 rfl ?_
                    exact g108 _ f2 (by unfold gotA; rw [if_neg hn2, if_pos ⟨h82, h93⟩])
              refine z_iload d_m_tag_58 60 rfl rfl ?_
              refine z_iconst (v := nI 2) d_m_tag_60 61 rfl rfl ?_
              refine z_icmp_neN (tgt := 79) d_m_tag_61 64 rfl rfl (by omega) (by omega) (fun h61 => ?_) (fun h61 => ?_)
              · exact g79 (fun h => h61 h.1)
              · refine z_iload_n d_m_tag_64 65 rfl rfl rfl ?_
                refine z_if_lt (tgt := 79) d_m_tag_65 68 rfl rfl (fun h65 => ?_) (fun h65 => ?_)
                · exact g79 (fun h => h.2 h65)
                · refine z_aload_n d_m_tag_68 69 rfl rfl rfl ?_
                  refine z_iload d_m_tag_69 71 rfl rfl ?_
                  refine z_iload_n d_m_tag_71 72 rfl rfl rfl ?_
                  refine z_iload_n d_m_tag_72 73 rfl rfl rfl ?_
                  refine zm_cV (fun v y f' => v = .int (sgF m nm (lns a) (-1)) ∧ va = y) d_m_tag_73 76 rfl mv_m_signOf kl_m_173 (by decide) (fun Q' hq' => c_m_signOf _ m _ hsl (by omega) hd9 (fun f h1 => hq' _ _ _ ⟨rfl, rfl⟩)) rfl rfl (Nat.le_of_ble_eq_true rfl) ?_; rintro _ _ f2 ⟨rfl, rfl⟩
                  refine z_goto (tgt := 108) d_m_tag_76 rfl ?_
                  exact g108 _ f2 (by unfold gotA; rw [if_pos ⟨h61, h65⟩])
        exact loop B.length 0 (-1, -1, -1) vf none none none (by omega) (by rw [List.drop_zero]) (fun v hv => by cases hv) (fun v hv => by cases hv)
      · rw [if_neg (fun e => h14 e.2.2)] at hQ
        refine z_iconst (v := -1) d_m_tag_17 18 rfl (by decide) ?_
        exact z_iret d_m_tag_18 rfl (Nat.le_refl 0) (Nat.le_refl 0) (hQ vf)
end M18
