/-! The class: the cards of a text. Own work. -/
/-- all that was there is there as it was -/
def ext (h h' : zH) : Prop := ∀ q e, h q = some e → h' q = some e
theorem ext_refl (h : zH) : ext h h := fun _ _ e => e
theorem ext_trans {h h' h'' : zH} (a : ext h h') (b : ext h' h'') : ext h h'' := fun q e x => b q e (a q e x)
theorem ext_none {h h' : zH} (a : ext h h') {q : Nat} (hq : h' q = none) : h q = none := by
  cases e : h q with
  | none => rfl
  | some x => rw [a q x e] at hq; cases hq
theorem ext_set {h h' : zH} (a : ext h h') {q : Nat} (hq : h q = none) (x : va_E) : ext h (zset h' q x) := by
  intro r e hr
  have : r ≠ q := fun e' => by rw [e', hq] at hr; cases hr
  rw [zset_ne this]
  exact a r e hr
/-- an array of cards, all in good cells -/
def crG (G : Nat → Prop) (D : zD) (h : zH) (p : Nat) (cs : List CV) : Prop := ∃ f : Nat → Option Nat, G p ∧ h p = some (.inl (D.2 3, cs.length, .inr (.inr (.inr (.inr f))))) ∧ ∀ (i : Nat) (c : CV), cs[i]? = some c → ∃ q, f i = some q ∧ G q ∧ h q = some (cObj c)
theorem crG.P {G : Nat → Prop} {D : zD} {h : zH} {p : Nat} {cs : List CV} (x : crG G D h p cs) : crP D h p cs := by
  obtain ⟨f, -, h1, h2⟩ := x
  exact ⟨f, h1, fun i c e => by obtain ⟨q, a, -, b⟩ := h2 i c e; exact ⟨q, a, b⟩⟩
theorem crG.mono {G G' : Nat → Prop} {D : zD} {h h' : zH} {p : Nat} {cs : List CV} (x : crG G D h p cs) (hG : ∀ q, G q → G' q) (hh : ∀ q e, G q → h q = some e → h' q = some e) : crG G' D h' p cs := by
  obtain ⟨f, h0, h1, h2⟩ := x
  exact ⟨f, hG p h0, hh p _ h0 h1, fun i c e => by obtain ⟨q, a, g, b⟩ := h2 i c e; exact ⟨q, a, hG q g, hh q _ g b⟩⟩
/-- while lines are read -/
def rlI (D : zD) (h hm : zH) (p N : Nat) (f : Nat → Option Nat) (cs : List CV) : Prop := hm p = some (.inl (D.2 3, N, .inr (.inr (.inr (.inr f))))) ∧ h p = none ∧ ext h hm ∧ ∀ (i : Nat) (c : CV), cs[i]? = some c → ∃ q, f i = some q ∧ h q = none ∧ q ≠ p ∧ hm q = some (cObj c)
theorem rl_step {D : zD} {h hm : zH} {p N q : Nat} {f : Nat → Option Nat} {cs : List CV} {c : CV} (hi : rlI D h hm p N f cs) (hq : hm q = none) : rlI D h (zset (zset hm q (cObj c)) p (.inl (D.2 3, N, .inr (.inr (.inr (.inr (va_up f cs.length (some q)))))))) p N (va_up f cs.length (some q)) (cs ++ [c]) := by
  obtain ⟨h1, h2, h3, h4⟩ := hi
  have hqp : q ≠ p := fun e => by rw [e, h1] at hq; cases hq
  refine ⟨zset_self _ _ _, h2, ext_set (ext_set h3 (ext_none h3 hq) _) h2 _, ?_⟩
  intro i c' hc
  by_cases hl : i < cs.length
  · rw [List.getElem?_append_left hl] at hc
    obtain ⟨r, a1, a2, a3, a4⟩ := h4 i c' hc
    have hrq : r ≠ q := fun e => by rw [e, hq] at a4; cases a4
    refine ⟨r, ?_, a2, a3, ?_⟩
    · unfold va_up
      rw [if_neg (by omega)]
      exact a1
    · rw [zset_ne a3, zset_ne hrq]
      exact a4
  · have hil : i < (cs ++ [c]).length := (List.getElem?_eq_some_iff.mp hc).1
    have hi : i = cs.length := by simp at hil; omega
    subst hi
    rw [List.getElem?_append_right (Nat.le_refl _), Nat.sub_self] at hc
    cases hc
    refine ⟨q, ?_, ext_none h3 hq, hqp, ?_⟩
    · unfold va_up
      rw [if_pos rfl]
    · rw [zset_ne hqp, zset_self]
/-- the cards from place k on -/
def rdF (bs : List Nat) : Nat → Nat → List CV → List CV
  | 0, _, cs => cs
  | f + 1, k, cs => if k < bs.length then (match cardG (gB bs k) (eol bs k - k) with
    | none => []
    | some c => rdF bs f (eol bs k + 1) (cs ++ [c])) else cs
def rdC (bs : List Nat) : List CV := if 0 < bs.length ∧ bs.getD (bs.length - 1) 0 = 10 then rdF bs bs.length 0 [] else []
theorem eol_is {bs : List Nat} {k e : Nat} (hk : k ≤ e) (he : e < bs.length) (h10 : bs.getD e 0 = 10) (hno : ∀ j, k ≤ j → j < e → bs.getD j 0 ≠ 10) : eol bs k = e := by
  have h1 := eol_le (bs := bs) (k := k) (by omega)
  rcases Nat.lt_trichotomy (eol bs k) e with h | h | h
  · exact absurd (eol_at (by omega) (by omega)) (hno _ h1.1 h)
  · exact h
  · exact absurd h10 (eolF_no bs _ k e hk h)
theorem nlc_pos {bs : List Nat} {i : Nat} (hi : i < bs.length) (hl : bs.getD (bs.length - 1) 0 = 10) : 0 < nlc (bs.drop i) := by
  unfold nlc
  have hm : 10 ∈ bs.drop i := by
    rw [List.mem_iff_getElem?]
    refine ⟨bs.length - 1 - i, ?_⟩
    rw [List.getElem?_drop, show i + (bs.length - 1 - i) = bs.length - 1 by omega]
    rw [List.getD_eq_getElem?_getD, List.getElem?_eq_getElem (by omega)] at hl
    rw [List.getElem?_eq_getElem (by omega)]
    exact congrArg some hl
  exact List.length_pos_of_mem (List.mem_filter.2 ⟨hm, by decide⟩)
theorem cardG_3 {g : Nat → Nat} {n : Nat} {c : CV} (h : cardG g n = some c) : 3 ≤ n ∧ cvOk c := by
  unfold cardG at h
  split at h
  next h0 => exact ⟨h0.1, cardB_ok h0.1 h⟩
  next => cases h
section C12
variable {l : Launch} {D : zD} {M : zM} {h : zH} {b : Nat} {f : Nat → Int32} {bs : List Nat} {Q : Option Value → zH → Prop}
theorem crG_nil {G : Nat → Prop} {q : Nat} {g : Nat → Option Nat} (hG : G q) (hq : h q = some (.inl (D.2 3, 0, .inr (.inr (.inr (.inr g)))))) : crG G D h q [] := ⟨g, hG, hq, fun i c e => by cases e⟩
theorem c_A_readLines (hb : h b = some (.inl (D.2 0, bs.length, .inl f))) (hf : byP f bs) (hl : bs.length ≤ 240) (hQ : ∀ p h', ext h h' → crG (fun q => h q = none) D h' p (rdC bs) → Q (some (.ref p)) h') : Runs l D M_A_readLines [.ref b] h 62 540 Q := by
  refine Runs.of rfl rfl (Nat.le_of_ble_eq_true rfl) ?_
  have out : ∀ (lv : List (Option Value)) (hm : zH) (cu su : Nat), ext h hm → cu + 1 ≤ 62 → su ≤ 540 → rdC bs = [] → ∀ k, (k = 16 ∨ k = 74) → Z l D M_A_readLines 62 540 Q hm cu su k lv [] := by
    intro lv hm cu su hx h1 h2 h3 k hk
    rw [h3] at hQ
    rcases hk with rfl | rfl
    · refine z_iconst (v := nI 0) d_A_readLines_16 17 rfl rfl ?_
      refine z_anew (t := 3) (N := 0) d_A_readLines_17 20 rfl cl_A_64 (by decide) rfl (by decide) rfl h1 h2 (by decide) (fun q hq => ?_)
      exact z_aret (r := some q) d_A_readLines_20 rfl (Or.inr ⟨_, rfl⟩) h1 h2 (hQ q _ (ext_set hx (ext_none hx hq) _) (crG_nil (ext_none hx hq) (zset_self _ _ _)))
    · refine z_iconst (v := nI 0) d_A_readLines_74 75 rfl rfl ?_
      refine z_anew (t := 3) (N := 0) d_A_readLines_75 78 rfl cl_A_64 (by decide) rfl (by decide) rfl h1 h2 (by decide) (fun q hq => ?_)
      exact z_aret (r := some q) d_A_readLines_78 rfl (Or.inr ⟨_, rfl⟩) h1 h2 (hQ q _ (ext_set hx (ext_none hx hq) _) (crG_nil (ext_none hx hq) (zset_self _ _ _)))
  have hnl : nlc bs ≤ bs.length := List.length_filter_le _ _
  have hb2 := hb
  refine z_aload_n d_A_readLines_0 1 rfl rfl rfl ?_
  refine z_alen d_A_readLines_1 2 rfl (t := 0) rfl hb rfl ?_
  refine z_if_eqN (tgt := 16) d_A_readLines_2 5 rfl rfl (by omega) (fun h2 => ?_) (fun h2 => ?_)
  · exact out _ h 0 0 (ext_refl h) (by decide) (by decide) (by unfold rdC; rw [if_neg (by omega)]) 16 (Or.inl rfl)
  · obtain ⟨hbj, hfj⟩ := hf (bs.length - 1) (by omega)
    refine z_aload_n d_A_readLines_5 6 rfl rfl rfl ?_
    refine z_aload_n d_A_readLines_6 7 rfl rfl rfl ?_
    refine z_alen d_A_readLines_7 8 rfl (t := 0) rfl hb rfl ?_
    refine z_iconst (v := nI 1) d_A_readLines_8 9 rfl rfl ?_
    refine z_isubN d_A_readLines_9 10 rfl (by omega) ?_
    refine z_baldN d_A_readLines_10 11 rfl hb2 (by omega) (by omega) ?_
    rw [hfj]
    refine z_bipush (v := nI 10) d_A_readLines_11 13 rfl rfl ?_
    refine z_icmp_eq (tgt := 21) d_A_readLines_13 16 rfl rfl (fun h13 => ?_) (fun h13 => ?_)
    · have hlast := (cb_eq _ hbj 10 (by decide)).1 h13
      have hrd : rdC bs = rdF bs bs.length 0 [] := by unfold rdC; rw [if_pos ⟨by omega, hlast⟩]
      refine z_aload_n d_A_readLines_21 22 rfl rfl rfl ?_
      refine z_cS1 d_A_readLines_22 25 rfl ms_A_countLines kl_A_69 (by decide) 0 0 rfl rfl (Nat.zero_le _) (Nat.zero_le _) (fun Q' q => c_A_countLines hb hf hl q) rfl rfl (Nat.le_of_ble_eq_true rfl) ?_
      refine z_anew (t := 3) (N := nlc bs) d_A_readLines_25 28 rfl cl_A_64 (by decide) rfl (nI_pos (by omega)) (nI_clamp (by omega)) (by decide) (by omega) (by omega) (fun p hp => ?_)
      refine z_ast1 d_A_readLines_28 29 rfl rfl ?_
      refine z_iconst (v := nI 0) d_A_readLines_29 30 rfl rfl ?_
      refine z_ist2 d_A_readLines_30 31 rfl rfl ?_
      refine z_iconst (v := nI 0) d_A_readLines_31 32 rfl rfl ?_
      refine z_ist3 d_A_readLines_32 33 rfl rfl ?_
      refine z_iconst (v := nI 0) d_A_readLines_33 34 rfl rfl ?_
      refine z_ist4 d_A_readLines_34 36 rfl rfl ?_
      have loop : ∀ (t k n m cu su : Nat) (cs : List CV) (hm : zH) (g : Nat → Option Nat) (F : Nat), k + n + t = bs.length → (∀ j, k ≤ j → j < k + n → bs.getD j 0 ≠ 10) → m = cs.length → nlc bs = m + nlc (bs.drop (k + n)) → 4 * m ≤ k → cu = 1 + m → su = nlc bs + 5 * m → bs.length ≤ k + F → rdC bs = rdF bs F k cs → rlI D h hm p (nlc bs) g cs → Z l D M_A_readLines 62 540 Q hm cu su 36 [some (.ref b), some (.ref p), some (.int (nI k)), some (.int (nI m)), some (.int (nI (k + n)))] [] := by
        intro t
        induction t with
        | zero =>
          intro k n m cu su cs hm g F hk hno em he h4 ec es hF hr hi
          have hb2 := hi.2.2.1 _ _ hb
          refine z_iload d_A_readLines_36 38 rfl rfl ?_
          refine z_aload_n d_A_readLines_38 39 rfl rfl rfl ?_
          refine z_alen d_A_readLines_39 40 rfl (t := 0) rfl hb2 rfl ?_
          refine z_icmp_geN (tgt := 93) d_A_readLines_40 43 rfl rfl (by omega) (by omega) (fun h40 => ?_) (fun h40 => ?_)
          · have hn0 : n = 0 := by
              rcases Nat.eq_zero_or_pos n with e | e
              · exact e
              · exact absurd hlast (hno _ (by omega) (by omega))
            have ecs : rdC bs = cs := by
              rw [hr]
              cases F with
              | zero => rfl
              | succ F => rw [rdF, if_neg (by omega)]
            have hlen : nlc bs = cs.length := by
              rw [List.drop_eq_nil_of_le (by omega)] at he
              rw [he, em]
              rfl
            refine z_aload_n d_A_readLines_93 94 rfl rfl rfl ?_
            refine z_aret (r := some p) d_A_readLines_94 rfl (Or.inr ⟨_, rfl⟩) (by omega) (by omega) (hQ p hm hi.2.2.1 ?_)
            rw [ecs]
            refine ⟨g, hi.2.1, ?_, ?_⟩
            · rw [← hlen]; exact hi.1
            · intro i c hc
              obtain ⟨q, a1, a2, -, a4⟩ := hi.2.2.2 i c hc
              exact ⟨q, a1, a2, a4⟩
          · omega
        | succ t ih =>
          intro k n m cu su cs hm g F hk hno em he h4 ec es hF hr hi
          have hb2 := hi.2.2.1 _ _ hb
          have hpos := nlc_pos (bs := bs) (i := k + n) (by omega) hlast
          obtain ⟨hbj, hfj⟩ := hf (k + n) (by omega)
          rw [drop_consB (by omega), nlc_cons] at he
          refine z_iload d_A_readLines_36 38 rfl rfl ?_
          refine z_aload_n d_A_readLines_38 39 rfl rfl rfl ?_
          refine z_alen d_A_readLines_39 40 rfl (t := 0) rfl hb2 rfl ?_
          refine z_icmp_geN (tgt := 93) d_A_readLines_40 43 rfl rfl (by omega) (by omega) (fun h40 => ?_) (fun h40 => ?_)
          · omega
          · refine z_iload_n d_A_readLines_43 44 rfl rfl rfl ?_
            refine z_aload_n d_A_readLines_44 45 rfl rfl rfl ?_
            refine z_alen d_A_readLines_45 46 rfl (t := 3) rfl hi.1 rfl ?_
            refine z_icmp_geN (tgt := 93) d_A_readLines_46 49 rfl rfl (by omega) (by omega) (fun h46 => ?_) (fun h46 => ?_)
            · exfalso
              rw [drop_consB (by omega), nlc_cons] at hpos
              omega
            · refine z_aload_n d_A_readLines_49 50 rfl rfl rfl ?_
              refine z_iload d_A_readLines_50 52 rfl rfl ?_
              refine z_baldN d_A_readLines_52 53 rfl hb2 (by omega) (by omega) ?_
              rw [hfj]
              refine z_bipush (v := nI 10) d_A_readLines_53 55 rfl rfl ?_
              refine z_icmp_ne (tgt := 87) d_A_readLines_55 58 rfl rfl (fun h55 => ?_) (fun h55 => ?_)
              · have h1 : ¬ bs.getD (k + n) 0 = 10 := fun e => h55 ((cb_eq _ hbj 10 (by decide)).2 e)
                rw [if_neg h1] at he
                first | refine z_incN4 d_A_readLines_87 90 rfl rfl ?_ | refine z_inc4 d_A_readLines_87 90 rfl rfl rfl ?_
                refine z_goto (tgt := 36) d_A_readLines_90 rfl ?_
                refine ih k (n + 1) m cu su cs hm g F (by omega) ?_ em ?_ h4 ec es hF hr hi
                · intro j j1 j2
                  rcases Nat.lt_or_ge j (k + n) with e | e
                  · exact hno j j1 e
                  · rw [show j = k + n by omega]; exact h1
                · rw [show k + (n + 1) = k + n + 1 by omega]; omega
              · have h1 := (cb_eq _ hbj 10 (by decide)).1 h55
                rw [if_pos h1] at he
                have heol := eol_is (k := k) (by omega) (by omega) h1 hno
                obtain ⟨F, rfl⟩ : ∃ F', F = F' + 1 := ⟨F - 1, by omega⟩
                rw [rdF, if_pos (by omega), heol, show k + n - k = n by omega] at hr
                refine z_aload_n d_A_readLines_58 59 rfl rfl rfl ?_
                refine z_iload_n d_A_readLines_59 60 rfl rfl rfl ?_
                refine z_aload_n d_A_readLines_60 61 rfl rfl rfl ?_
                refine z_iload_n d_A_readLines_61 62 rfl rfl rfl ?_
                refine z_iload d_A_readLines_62 64 rfl rfl ?_
                refine z_cS (Q' := fun r h' => (cardG (gB bs k) n = none ∧ r = some .null ∧ hm = h') ∨ ∃ c q, cardG (gB bs k) n = some c ∧ hm q = none ∧ r = some (.ref q) ∧ zset hm q (cObj c) = h') d_A_readLines_64 67 rfl ms_C_read kl_A_73 (by decide) (cu + 1) (su + 5) rfl rfl (by omega) (by omega) (c_C_read k n hb2 hf (by omega) (Nat.le_refl _) (by omega) (fun q => Or.inl ⟨q, rfl, rfl⟩) (fun c q a1 a2 => Or.inr ⟨c, q, a1, a2, rfl, rfl⟩)) rfl rfl (Nat.le_of_ble_eq_true rfl) ?_
                rintro _ _ (⟨hc, rfl, rfl⟩ | ⟨c, q, hc, hq, rfl, rfl⟩)
                · rw [hc] at hr
                  refine z_aastN (t := 3) (C := "ArtifactBags$Card") d_A_readLines_67 68 rfl rfl hi.1 (vp_in_nI (by omega) (by omega)) ?_
                  rw [nI_clamp (by omega)]
                  refine z_aload_n d_A_readLines_68 69 rfl rfl rfl ?_
                  refine z_iload_n d_A_readLines_69 70 rfl rfl rfl ?_
                  refine z_aald (t := 3) (C := "ArtifactBags$Card") d_A_readLines_70 71 rfl rfl (zset_self _ _ _) (vp_in_nI (by omega) (by omega)) ?_
                  rw [nI_clamp (by omega)]
                  have e0 : va_up g m none m = none := by unfold va_up; rw [if_pos rfl]
                  rw [e0]
                  refine z_ifnonnull (tgt := 79) d_A_readLines_71 74 rfl rfl (fun a71 h71 => ?_) (fun h71 => ?_)
                  · cases h71
                  · exact out _ _ _ _ (ext_set hi.2.2.1 hi.2.1 _) (by omega) (by omega) hr 74 (Or.inr rfl)
                · rw [hc] at hr
                  have h3 := (cardG_3 hc).1
                  have hqp : p ≠ q := fun e => by rw [← e, hi.1] at hq; cases hq
                  refine z_aast (t := 3) (r := (zcl[4]'(by decide))) d_A_readLines_67 68 rfl rfl ((zset_ne hqp).trans hi.1) (zset_self _ _ _) rfl (vp_in_nI (by omega) (by omega)) ?_
                  rw [nI_clamp (by omega)]
                  refine z_aload_n d_A_readLines_68 69 rfl rfl rfl ?_
                  refine z_iload_n d_A_readLines_69 70 rfl rfl rfl ?_
                  refine z_aald (t := 3) (C := "ArtifactBags$Card") d_A_readLines_70 71 rfl rfl (zset_self _ _ _) (vp_in_nI (by omega) (by omega)) ?_
                  rw [nI_clamp (by omega)]
                  have e0 : va_up g m (some q) m = some q := by unfold va_up; rw [if_pos rfl]
                  rw [e0]
                  refine z_ifnonnull (tgt := 79) d_A_readLines_71 74 rfl rfl (fun a71 h71 => ?_) (fun h71 => ?_)
                  · first | refine z_incN3 d_A_readLines_79 82 rfl rfl ?_ | refine z_inc3 d_A_readLines_79 82 rfl rfl rfl ?_
                    refine z_iload d_A_readLines_82 84 rfl rfl ?_
                    refine z_iconst (v := nI 1) d_A_readLines_84 85 rfl rfl ?_
                    first | refine z_iaddN d_A_readLines_85 86 rfl ?_ | refine z_iadd d_A_readLines_85 86 rfl ?_
                    refine z_ist2 d_A_readLines_86 87 rfl rfl ?_
                    first | refine z_incN4 d_A_readLines_87 90 rfl rfl ?_ | refine z_inc4 d_A_readLines_87 90 rfl rfl rfl ?_
                    refine z_goto (tgt := 36) d_A_readLines_90 rfl ?_
                    subst em
                    exact ih (k + n + 1) 0 (cs.length + 1) (cu + 1) (su + 5) (cs ++ [c]) _ _ F (by omega) (fun j j1 j2 => by omega) (by simp) (by simp only [Nat.add_zero]; omega) (by omega) (by omega) (by omega) (by omega) hr (rl_step hi hq)
                  · cases h71
      rw [show 0 + nlc bs = nlc bs from Nat.zero_add _]
      refine loop bs.length 0 0 0 1 (nlc bs) [] _ (fun _ => none) bs.length (by omega) (fun j j1 j2 => by omega) rfl (by simp) (by omega) (by omega) (by omega) (by omega) hrd ⟨zset_self _ _ _, hp, ext_set (ext_refl h) hp _, fun i c e => by cases e⟩
    · exact out _ h 0 0 (ext_refl h) (by decide) (by decide) (by unfold rdC; rw [if_neg (fun e => h13 ((cb_eq _ hbj 10 (by decide)).2 e.2))]) 16 (Or.inl rfl)
end C12
