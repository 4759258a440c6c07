/-! The reference: what the lines of a text say. Own work. -/
/-- what holds of every card -/
def cvOk (c : CV) : Prop := (c.1 = 68 ∨ c.1 = 70 ∨ c.1 = 77 ∨ c.1 = 80 ∨ c.1 = 82 ∨ c.1 = 84 ∨ c.1 = 90) ∧ (∀ v, c.2.2.2.1 = some v → v < 16777216) ∧ (∀ v, c.2.2.2.2.1 = some v → v < 16777216) ∧ c.2.1 ≤ 9 ∧ c.2.2.2.2.2 ≤ 9999 ∧ (c.1 = 68 → c.2.2.2.1 = none) ∧ (c.1 ≠ 68 → c.1 ≠ 84 → c.2.2.2.1.isSome = true) ∧ (c.1 ≠ 80 → c.2.2.2.2.1 = none)
theorem cardB_ok {g : Nat → Nat} {n : Nat} {c : CV} (hn : 3 ≤ n) (h : cardB g n = some c) : cvOk c := by
  simp only [cardB] at h
  split at h
  next h0 =>
    simp only [cardD] at h
    split at h
    next h1 =>
      cases h
      refine ⟨Or.inl rfl, by simp, by simp, by simp, ?_, by simp, by simp, by simp⟩
      have h2 := nuF_lt g (n - 2) 2 0 h1.2.2
      have h3 : 10 ^ (n - 2) ≤ 10 ^ 4 := Nat.pow_le_pow_right (by decide) (by omega)
      show nuF g 2 (n - 2) 0 ≤ 9999
      omega
    next => cases h
  next h0 =>
    split at h
    next h1 =>
      simp only [card1] at h
      split at h
      · obtain ⟨v, hv, rfl⟩ := Option.map_eq_some_iff.mp h
        have := nm6_lt hv
        refine ⟨?_, by simpa using this, by simp, by simp, by simp, ?_, by simp, by simp⟩
        · show g 0 = 68 ∨ g 0 = 70 ∨ g 0 = 77 ∨ g 0 = 80 ∨ g 0 = 82 ∨ g 0 = 84 ∨ g 0 = 90
          omega
        · intro h9; exact absurd h9 h0
      · cases h
    next =>
      split at h
      next h1 =>
        simp only [cardF] at h
        split at h
        next h2 =>
          obtain ⟨v, hv, rfl⟩ := Option.map_eq_some_iff.mp h
          have := nm6_lt hv
          have h3 := h2.2.2
          simp only [isDg, Bool.and_eq_true, decide_eq_true_eq] at h3
          refine ⟨by simp, by simpa using this, by simp, ?_, by simp, by simp, by simp, by simp⟩
          show g 2 - 48 ≤ 9
          omega
        · cases h
      next =>
        split at h
        next h1 =>
          simp only [cardP] at h
          split at h
          · obtain ⟨v, hv, rfl⟩ := Option.map_eq_some_iff.mp h
            have := nm6_lt hv
            exact ⟨by simp, by simpa using this, by simp, by simp, by simp, by simp, by simp, by simp⟩
          · split at h
            · obtain ⟨a, ha, h⟩ := Option.bind_eq_some_iff.mp h
              obtain ⟨b, hb, h⟩ := Option.bind_eq_some_iff.mp h
              have h5 := nm6_lt ha
              have h6 := nm6_lt hb
              split at h
              · cases h
              · cases h
                exact ⟨by simp, by simpa using h5, by simpa using h6, by simp, by simp, by simp, by simp, by simp⟩
            · cases h
        next =>
          split at h
          next h1 =>
            simp only [cardT] at h
            split at h
            next h2 =>
              have h3 := h2.2.2.1
              simp only [isDg, Bool.and_eq_true, decide_eq_true_eq] at h3
              split at h
              · split at h
                · cases h
                  refine ⟨by simp, by simp, by simp, ?_, by simp, by simp, by simp, by simp⟩
                  show g 3 - 48 ≤ 9
                  omega
                · cases h
              · obtain ⟨v, hv, rfl⟩ := Option.map_eq_some_iff.mp h
                have := nm6_lt hv
                refine ⟨by simp, by simpa using this, by simp, ?_, by simp, by simp, by simp, by simp⟩
                show g 3 - 48 ≤ 9
                omega
            · cases h
          next => cases h
theorem cardG_ok {g : Nat → Nat} {n : Nat} {c : CV} (h : cardG g n = some c) : cvOk c := by
  simp only [cardG] at h
  split at h
  next h1 => exact cardB_ok h1.1 h
  next => cases h
theorem rdl_some {bs : List Nat} {k e : Nat} {cd : Option CV} (hk : k ≤ bs.length) (h : rdl bs k = some (e, cd)) : k < e ∧ e ≤ bs.length ∧ ∀ c, cd = some c → cvOk c := by
  simp only [rdl] at h
  split at h
  next h1 =>
    cases h
    have := eol_le hk
    exact ⟨by omega, by omega, fun c hc => cardG_ok hc⟩
  next => cases h
/-- the cards of the lines from k on -/
def lnsF (bs : List Nat) : Nat → Nat → List (Option CV)
  | 0, _ => []
  | c + 1, k => if k < bs.length then (match rdl bs k with
    | none => []
    | some (e, cd) => cd :: lnsF bs c e) else []
def lns (bs : List Nat) : List (Option CV) := lnsF bs bs.length 0
theorem lnsF_end {bs : List Nat} {c k : Nat} (h : bs.length ≤ k) : lnsF bs c k = [] := by
  cases c with
  | zero => rfl
  | succ c => rw [lnsF, if_neg (by omega)]
theorem lnsF_none {bs : List Nat} {c k : Nat} (h : rdl bs k = none) : lnsF bs c k = [] := by
  cases c with
  | zero => rfl
  | succ c =>
    rw [lnsF]
    split
    · rw [h]
    · rfl
theorem lnsF_some {bs : List Nat} {c k e : Nat} {cd : Option CV} (hk : k < bs.length) (h : rdl bs k = some (e, cd)) : lnsF bs (c + 1) k = cd :: lnsF bs c e := by
  rw [lnsF, if_pos hk, h]
def hasL (w : Nat) (nm : Int32) : List (Option CV) → Bool
  | [] => false
  | none :: t => hasL w nm t
  | some c :: t => (decide (c.1 = w) && (decide (oI c.2.2.2.1 = nm) || decide (oI c.2.2.2.2.1 = nm))) || hasL w nm t
def lk (As : List (List Nat)) (nm : Int32) : Option (List Nat) := As.find? fun a => decide (nI (dg 7 a) = nm)
def filesL (As : List (List Nat)) : List (Option CV) → Nat → Option Nat
  | [], d => some d
  | none :: t, d => filesL As t d
  | some c :: t, d => if c.1 = 70 then (match lk As (oI c.2.2.2.1) with
    | none => none
    | some b => filesL As t (dg d b)) else filesL As t d
theorem fnd_lk (nm : Int32) : ∀ (As : List (List Nat)) (i : Nat), (fnd nm As i = none → lk As nm = none) ∧ ∀ q, fnd nm As i = some q → i ≤ q ∧ q - i < As.length ∧ lk As nm = some (As.getD (q - i) []) ∧ nI (dg 7 (As.getD (q - i) [])) = nm := by
  intro As
  induction As with
  | nil => intro i; exact ⟨fun _ => rfl, fun q h => by cases h⟩
  | cons a t ih =>
    intro i
    by_cases h : nI (dg 7 a) = nm
    · refine ⟨fun h1 => by simp [fnd, h] at h1, fun q h1 => ?_⟩
      simp [fnd, h] at h1
      subst h1
      simp [lk, h]
    · obtain ⟨h1, h2⟩ := ih (i + 1)
      refine ⟨fun h3 => ?_, fun q h3 => ?_⟩
      · rw [fnd, if_neg h] at h3
        have := h1 h3
        simp only [lk] at this ⊢
        rw [List.find?_cons_of_neg (by simpa using h)]
        exact this
      · rw [fnd, if_neg h] at h3
        obtain ⟨b1, b2, b3, b4⟩ := h2 q h3
        have e : q - i = q - (i + 1) + 1 := by omega
        rw [e]
        refine ⟨by omega, by simp; omega, ?_, by simpa using b4⟩
        simp only [lk] at b3 ⊢
        rw [List.find?_cons_of_neg (by simpa using h), b3]
        simp
section M7
variable {l : Launch} {D : zD} {hp : zH} {o : Nat} {va : Nat → Nat → Int32} {vf : Nat → Int32} {Q : Option Value → zH → Prop}
theorem c_m_has (s w : Nat) (nm : Int32) {bs : List Nat} (hr : slotP va s bs) (hs : s < 66) (hw : 0 < w ∧ w < 256)
    (hQ : ∀ f : Nat → Int32, f 9 = vf 9 → Q (some (.int (zb (hasL w nm (lns bs))))) (zmod D o hp va f)) : Runs l D M_m_has [.ref o, .int (nI s), .int (nI w), .int nm] (zmod D o hp va vf) 0 0 Q := by
  refine Runs.of rfl rfl (Nat.le_of_ble_eq_true rfl) ?_
  obtain ⟨hr1, hlen, hl⟩ := hr
  have loop : ∀ (c k : Nat) (b : Bool) (f : Nat → Int32), bs.length ≤ k + c → k ≤ bs.length → f 9 = vf 9 → hasL w nm (lns bs) = (b || hasL w nm (lnsF bs c k)) → Z l D M_m_has 0 0 Q (zmod D o hp va f) 0 0 6 [some (.ref o), some (.int (nI s)), some (.int (nI w)), some (.int nm), some (.int (zb b)), some (.int (nI k))] [] := by
    intro c
    induction c with
    | zero =>
      intro k b f hc hk hf he
      refine z_iload d_m_has_6 8 rfl rfl ?_
      refine z_aload_n d_m_has_8 9 rfl rfl rfl ?_
      refine zm_getA 1 d_m_has_9 12 rfl f_m_13 rfl ?_
      refine z_iload_n d_m_has_12 13 rfl rfl rfl ?_
      refine zm_iald d_m_has_13 14 rfl (by decide) rfl (by simp only [zln]; omega) ?_
      rw [hlen]
      refine z_icmp_geN (tgt := 72) d_m_has_14 17 rfl rfl (by omega) (by omega) (fun h14 => ?_) (fun h14 => ?_)
      · rw [lnsF_end (by omega), hasL, Bool.or_false] at he
        refine z_iload d_m_has_72 74 rfl rfl ?_
        exact z_zretB d_m_has_74 rfl (Nat.le_refl 0) (Nat.le_refl 0) (by rw [← he]; exact hQ f hf)
      · omega
    | succ c ih =>
      intro k b f hc hk hf he
      refine z_iload d_m_has_6 8 rfl rfl ?_
      refine z_aload_n d_m_has_8 9 rfl rfl rfl ?_
      refine zm_getA 1 d_m_has_9 12 rfl f_m_13 rfl ?_
      refine z_iload_n d_m_has_12 13 rfl rfl rfl ?_
      refine zm_iald d_m_has_13 14 rfl (by decide) rfl (by simp only [zln]; omega) ?_
      rw [hlen]
      refine z_icmp_geN (tgt := 72) d_m_has_14 17 rfl rfl (by omega) (by omega) (fun h14 => ?_) (fun h14 => ?_)
      · rw [lnsF_end (by omega), hasL, Bool.or_false] at he
        refine z_iload d_m_has_72 74 rfl rfl ?_
        exact z_zretB d_m_has_74 rfl (Nat.le_refl 0) (Nat.le_refl 0) (by rw [← he]; exact hQ f hf)
      · refine z_iload d_m_has_17 19 rfl rfl ?_
        refine z_if_neB (tgt := 72) d_m_has_19 22 rfl rfl (fun h19 => ?_) (fun h19 => ?_)
        · subst h19
          rw [Bool.true_or] at he
          refine z_iload d_m_has_72 74 rfl rfl ?_
          exact z_zretB d_m_has_74 rfl (Nat.le_refl 0) (Nat.le_refl 0) (by rw [← he]; exact hQ f hf)
        · subst h19
          refine z_aload_n d_m_has_22 23 rfl rfl rfl ?_
          refine z_iload_n d_m_has_23 24 rfl rfl rfl ?_
          refine z_iload d_m_has_24 26 rfl rfl ?_
          refine zm_cV (fun v a f' => v = .int (zb (rdl bs k).isSome) ∧ va = a ∧ f' 9 = f 9 ∧ rdP (rdl bs k) f') d_m_has_26 29 rfl mv_m_readLine kl_m_90 (by decide) (fun Q' h => c_m_readLine s k hr1 hlen hk hs hl (fun f h1 h2 => h _ _ _ ⟨rfl, rfl, h1, h2⟩)) rfl rfl (Nat.le_of_ble_eq_true rfl) ?_; rintro _ _ g ⟨rfl, rfl, i1, i2⟩
          refine z_if_eqB (tgt := 72) d_m_has_29 32 rfl rfl (fun h29 => ?_) (fun h29 => ?_)
          · rw [lnsF_none (by simpa using h29), hasL, Bool.or_false] at he
            refine z_iload d_m_has_72 74 rfl rfl ?_
            exact z_zretB d_m_has_74 rfl (Nat.le_refl 0) (Nat.le_refl 0) (by rw [← he]; exact hQ g (i1.trans hf))
          · obtain ⟨⟨e, cd⟩, hrd⟩ := Option.isSome_iff_exists.mp h29
            obtain ⟨e1, e2, e3⟩ := rdl_some hk hrd
            rw [lnsF_some (by omega) hrd, Bool.false_or] at he
            rw [hrd] at i2
            have fin : ∀ b', hasL w nm (lns bs) = (b' || hasL w nm (lnsF bs c e)) → Z l D M_m_has 0 0 Q (zmod D o hp va g) 0 0 61 [some (.ref o), some (.int (nI s)), some (.int (nI w)), some (.int nm), some (.int (zb false)), some (.int (nI k))] [.int (zb b')] := by
              intro b' hb'
              have g10 : g 10 = nI e := by cases cd with
                | none => exact i2.1
                | some c => exact i2.1
              refine z_ist4 d_m_has_61 63 rfl rfl ?_
              refine z_aload_n d_m_has_63 64 rfl rfl rfl ?_
              refine zm_getF 10 d_m_has_64 67 rfl f_m_51 rfl ?_; try simp only [pk_us, pk_un, ne_eq, Nat.reduceEqDiff, not_false_eq_true]
              rw [g10]
              refine z_ist5 d_m_has_67 69 rfl rfl ?_
              refine z_goto (tgt := 6) d_m_has_69 rfl ?_
              exact ih e b' g (by omega) e2 (i1.trans hf) hb'
            cases cd with
            | none =>
              refine z_aload_n d_m_has_32 33 rfl rfl rfl ?_
              refine zm_getF 11 d_m_has_33 36 rfl f_m_47 rfl ?_; try simp only [pk_us, pk_un, ne_eq, Nat.reduceEqDiff, not_false_eq_true]
              rw [i2.2]
              refine z_iload_n d_m_has_36 37 rfl rfl rfl ?_
              refine z_icmp_neN (tgt := 60) d_m_has_37 40 rfl rfl (by omega) (by omega) (fun h37 => ?_) (fun h37 => ?_)
              · refine z_iconst (v := nI 0) d_m_has_60 61 rfl rfl ?_
                exact fin false (by rw [he, hasL, Bool.false_or])
              · omega
            | some c =>
              obtain ⟨i3, i4, i5, i6, -⟩ := i2
              have hc1 := (e3 c rfl).1
              refine z_aload_n d_m_has_32 33 rfl rfl rfl ?_
              refine zm_getF 11 d_m_has_33 36 rfl f_m_47 rfl ?_; try simp only [pk_us, pk_un, ne_eq, Nat.reduceEqDiff, not_false_eq_true]
              rw [i4]
              refine z_iload_n d_m_has_36 37 rfl rfl rfl ?_
              refine z_icmp_neN (tgt := 60) d_m_has_37 40 rfl rfl (by omega) (by omega) (fun h37 => ?_) (fun h37 => ?_)
              · refine z_iconst (v := nI 0) d_m_has_60 61 rfl rfl ?_
                exact fin false (by rw [he, hasL]; simp [h37])
              · refine z_aload_n d_m_has_40 41 rfl rfl rfl ?_
                refine zm_getF 14 d_m_has_41 44 rfl f_m_58 rfl ?_; try simp only [pk_us, pk_un, ne_eq, Nat.reduceEqDiff, not_false_eq_true]
                rw [i5]
                refine z_iload_n d_m_has_44 45 rfl rfl rfl ?_
                refine z_icmp_eq (tgt := 56) d_m_has_45 48 rfl rfl (fun h45 => ?_) (fun h45 => ?_)
                · refine z_iconst (v := nI 1) d_m_has_56 57 rfl rfl ?_
                  refine z_goto (tgt := 61) d_m_has_57 rfl ?_
                  exact fin true (by rw [he, hasL]; simp [h37, h45])
                · refine z_aload_n d_m_has_48 49 rfl rfl rfl ?_
                  refine zm_getF 15 d_m_has_49 52 rfl f_m_61 rfl ?_; try simp only [pk_us, pk_un, ne_eq, Nat.reduceEqDiff, not_false_eq_true]
                  rw [i6]
                  refine z_iload_n d_m_has_52 53 rfl rfl rfl ?_
                  refine z_icmp_ne (tgt := 60) d_m_has_53 56 rfl rfl (fun h53 => ?_) (fun h53 => ?_)
                  · refine z_iconst (v := nI 0) d_m_has_60 61 rfl rfl ?_
                    exact fin false (by rw [he, hasL]; simp [h37, h45, h53])
                  · refine z_iconst (v := nI 1) d_m_has_56 57 rfl rfl ?_
                    refine z_goto (tgt := 61) d_m_has_57 rfl ?_
                    exact fin true (by rw [he, hasL]; simp [h37, h45, h53])
  refine z_iconst (v := nI 0) d_m_has_0 1 rfl rfl ?_
  refine z_ist4 d_m_has_1 3 rfl rfl ?_
  refine z_iconst (v := nI 0) d_m_has_3 4 rfl rfl ?_
  refine z_ist5 d_m_has_4 6 rfl rfl ?_
  exact loop bs.length 0 false vf (by omega) (Nat.zero_le _) rfl (by rw [Bool.false_or]; rfl)
theorem c_m_filesOf (r s : Nat) {As : List (List Nat)} {bs : List Nat} (hr2 : r < 2) (hR : repP va r As) (hr : slotP va s bs) (hs : s < 66)
    (hQ : ∀ f : Nat → Int32, f 9 = vf 9 → Q (some (.int (oI (filesL As (lns bs) 7)))) (zmod D o hp va f)) : Runs l D M_m_filesOf [.ref o, .int (nI r), .int (nI s)] (zmod D o hp va vf) 0 0 Q := by
  refine Runs.of rfl rfl (Nat.le_of_ble_eq_true rfl) ?_
  obtain ⟨hr1, hlen, hl⟩ := hr
  have loop : ∀ (c k d : Nat) (f : Nat → Int32) (z : Option Value), bs.length ≤ k + c → k ≤ bs.length → d < 16777213 → f 9 = vf 9 → filesL As (lns bs) 7 = filesL As (lnsF bs c k) d → Z l D M_m_filesOf 0 0 Q (zmod D o hp va f) 0 0 6 [some (.ref o), some (.int (nI r)), some (.int (nI s)), some (.int (nI d)), some (.int (nI k)), z] [] := by
    intro c
    induction c with
    | zero =>
      intro k d f z hc hk hd hf he
      refine z_iload d_m_filesOf_6 8 rfl rfl ?_
      refine z_aload_n d_m_filesOf_8 9 rfl rfl rfl ?_
      refine zm_getA 1 d_m_filesOf_9 12 rfl f_m_13 rfl ?_
      refine z_iload_n d_m_filesOf_12 13 rfl rfl rfl ?_
      refine zm_iald d_m_filesOf_13 14 rfl (by decide) rfl (by simp only [zln]; omega) ?_
      rw [hlen]
      refine z_icmp_geN (tgt := 78) d_m_filesOf_14 17 rfl rfl (by omega) (by omega) (fun h14 => ?_) (fun h14 => ?_)
      · rw [lnsF_end (by omega), filesL] at he
        refine z_iload_n d_m_filesOf_78 79 rfl rfl rfl ?_
        exact z_iret d_m_filesOf_79 rfl (Nat.le_refl 0) (Nat.le_refl 0) (by have := hQ f hf; rw [he] at this; exact this)
      · omega
    | succ c ih =>
      intro k d f z hc hk hd hf he
      refine z_iload d_m_filesOf_6 8 rfl rfl ?_
      refine z_aload_n d_m_filesOf_8 9 rfl rfl rfl ?_
      refine zm_getA 1 d_m_filesOf_9 12 rfl f_m_13 rfl ?_
      refine z_iload_n d_m_filesOf_12 13 rfl rfl rfl ?_
      refine zm_iald d_m_filesOf_13 14 rfl (by decide) rfl (by simp only [zln]; omega) ?_
      rw [hlen]
      refine z_icmp_geN (tgt := 78) d_m_filesOf_14 17 rfl rfl (by omega) (by omega) (fun h14 => ?_) (fun h14 => ?_)
      · rw [lnsF_end (by omega), filesL] at he
        refine z_iload_n d_m_filesOf_78 79 rfl rfl rfl ?_
        exact z_iret d_m_filesOf_79 rfl (Nat.le_refl 0) (Nat.le_refl 0) (by have := hQ f hf; rw [he] at this; exact this)
      · refine z_aload_n d_m_filesOf_17 18 rfl rfl rfl ?_
        refine z_iload_n d_m_filesOf_18 19 rfl rfl rfl ?_
        refine z_iload d_m_filesOf_19 21 rfl rfl ?_
        refine zm_cV (fun v a f' => v = .int (zb (rdl bs k).isSome) ∧ va = a ∧ f' 9 = f 9 ∧ rdP (rdl bs k) f') d_m_filesOf_21 24 rfl mv_m_readLine kl_m_90 (by decide) (fun Q' h => c_m_readLine s k hr1 hlen hk hs hl (fun f h1 h2 => h _ _ _ ⟨rfl, rfl, h1, h2⟩)) rfl rfl (Nat.le_of_ble_eq_true rfl) ?_; rintro _ _ g ⟨rfl, rfl, i1, i2⟩
        refine z_if_eqB (tgt := 78) d_m_filesOf_24 27 rfl rfl (fun h24 => ?_) (fun h24 => ?_)
        · rw [lnsF_none (by simpa using h24), filesL] at he
          refine z_iload_n d_m_filesOf_78 79 rfl rfl rfl ?_
          exact z_iret d_m_filesOf_79 rfl (Nat.le_refl 0) (Nat.le_refl 0) (by have := hQ g (i1.trans hf); rw [he] at this; exact this)
        · obtain ⟨⟨e, cd⟩, hrd⟩ := Option.isSome_iff_exists.mp h24
          obtain ⟨e1, e2, e3⟩ := rdl_some hk hrd
          rw [lnsF_some (by omega) hrd] at he
          rw [hrd] at i2
          have g10 : g 10 = nI e := by cases cd with
            | none => exact i2.1
            | some c => exact i2.1
          refine z_aload_n d_m_filesOf_27 28 rfl rfl rfl ?_
          refine zm_getF 10 d_m_filesOf_28 31 rfl f_m_51 rfl ?_; try simp only [pk_us, pk_un, ne_eq, Nat.reduceEqDiff, not_false_eq_true]
          rw [g10]
          refine z_ist4 d_m_filesOf_31 33 rfl rfl ?_
          refine z_aload_n d_m_filesOf_33 34 rfl rfl rfl ?_
          refine zm_getF 11 d_m_filesOf_34 37 rfl f_m_47 rfl ?_; try simp only [pk_us, pk_un, ne_eq, Nat.reduceEqDiff, not_false_eq_true]
          cases cd with
          | none =>
            rw [i2.2]
            refine z_bipush (v := nI 70) d_m_filesOf_37 39 rfl rfl ?_
            refine z_icmp_neN (tgt := 6) d_m_filesOf_39 42 rfl rfl (by omega) (by omega) (fun h39 => ?_) (fun h39 => ?_)
            · exact ih e d g z (by omega) e2 hd (i1.trans hf) he
            · omega
          | some c =>
            obtain ⟨i3, i4, i5, -⟩ := i2
            have hc1 := (e3 c rfl).1
            rw [i4]
            refine z_bipush (v := nI 70) d_m_filesOf_37 39 rfl rfl ?_
            refine z_icmp_neN (tgt := 6) d_m_filesOf_39 42 rfl rfl (by omega) (by omega) (fun h39 => ?_) (fun h39 => ?_)
            · rw [filesL, if_neg h39] at he
              exact ih e d g z (by omega) e2 hd (i1.trans hf) he
            · rw [filesL, if_pos h39] at he
              refine z_aload_n d_m_filesOf_42 43 rfl rfl rfl ?_
              refine z_iload_n d_m_filesOf_43 44 rfl rfl rfl ?_
              refine z_aload_n d_m_filesOf_44 45 rfl rfl rfl ?_
              refine zm_getF 14 d_m_filesOf_45 48 rfl f_m_58 rfl ?_; try simp only [pk_us, pk_un, ne_eq, Nat.reduceEqDiff, not_false_eq_true]
              rw [i5]
              obtain ⟨j1, j2⟩ := fnd_lk (oI c.2.2.2.1) As (32 * r)
              refine zm_cV1 d_m_filesOf_48 51 rfl mv_m_find kl_m_98 (by decide) (fun Q' h => c_m_find r _ hr2 hR h) rfl rfl (Nat.le_of_ble_eq_true rfl) ?_
              refine z_ist5 d_m_filesOf_51 53 rfl rfl ?_
              refine z_iload d_m_filesOf_53 55 rfl rfl ?_
              cases hq : fnd (oI c.2.2.2.1) As (32 * r) with
              | none =>
                rw [j1 hq] at he
                refine z_if_ge (tgt := 60) d_m_filesOf_55 58 rfl rfl (fun h55 => ?_) (fun h55 => ?_)
                · exact absurd h55 (by decide)
                · refine z_iconst (v := oI none) d_m_filesOf_58 59 rfl (by decide) ?_
                  exact z_iret d_m_filesOf_59 rfl (Nat.le_refl 0) (Nat.le_refl 0) (by have := hQ g (i1.trans hf); rw [he] at this; exact this)
              | some q =>
                obtain ⟨b1, b2, b3, -⟩ := j2 q hq
                rw [b3] at he
                have hA := hR.1
                obtain ⟨hsl, -⟩ := hR.2.2 (q - 32 * r) b2
                rw [show 32 * r + (q - 32 * r) = q by omega] at hsl
                refine z_if_ge (tgt := 60) d_m_filesOf_55 58 rfl rfl (fun h55 => ?_) (fun h55 => ?_)
                · rw [show oI (some q) = nI q from rfl]
                  refine z_aload_n d_m_filesOf_60 61 rfl rfl rfl ?_
                  refine z_iload_n d_m_filesOf_61 62 rfl rfl rfl ?_
                  refine z_iload d_m_filesOf_62 64 rfl rfl ?_
                  refine z_aload_n d_m_filesOf_64 65 rfl rfl rfl ?_
                  refine zm_getA 1 d_m_filesOf_65 68 rfl f_m_13 rfl ?_
                  refine z_iload d_m_filesOf_68 70 rfl rfl ?_
                  refine zm_iald d_m_filesOf_70 71 rfl (by decide) rfl (by simp only [zln]; omega) ?_
                  rw [hsl.2.1]
                  refine zm_cV1 d_m_filesOf_71 74 rfl mv_m_digest kl_m_94 (by decide) (fun Q' h => c_m_digest d q _ hsl.1 (Nat.le_refl _) (by omega) hsl.2.2 hd h) rfl rfl (Nat.le_of_ble_eq_true rfl) ?_
                  rw [List.take_length]
                  refine z_ist3 d_m_filesOf_74 75 rfl rfl ?_
                  refine z_goto (tgt := 6) d_m_filesOf_75 rfl ?_
                  exact ih e (dg d (As.getD (q - 32 * r) [])) g _ (by omega) e2 (dg_lt hd _) (i1.trans hf) he
                · exact absurd (nI_pos' (by omega)) h55
  refine z_bipush (v := nI 7) d_m_filesOf_0 2 rfl rfl ?_
  refine z_ist3 d_m_filesOf_2 3 rfl rfl ?_
  refine z_iconst (v := nI 0) d_m_filesOf_3 4 rfl rfl ?_
  refine z_ist4 d_m_filesOf_4 6 rfl rfl ?_
  exact loop bs.length 0 7 vf none (by omega) (Nat.zero_le _) (by decide) rfl rfl
end M7
