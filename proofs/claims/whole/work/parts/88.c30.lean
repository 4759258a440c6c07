/-! The class: sets and histories in their regions. Own work. -/
section C30
variable {l : Launch} {D : zD} {M : zM} {h : zH} {o b N T : Nat} {f : Nat → Int32} {ns : List Nat} {Q : Option Value → zH → Prop}
theorem c_N_addM (v mc ms : Nat) (hs : nsP D h o b N f ns) (hob : o ≠ b) (hT : plT (nI v) ns T) (h23 : ns.length < 1023) (h0 : 0 < N) (hm : ¬ (T < ns.length ∧ nI (ns.getD T 0) = nI v) → ns.length = N → 1 ≤ mc ∧ 2 * N ≤ ms)
    (hQ0 : T < ns.length → nI (ns.getD T 0) = nI v → Q none h)
    (hQ1 : ¬ (T < ns.length ∧ nI (ns.getD T 0) = nI v) → ∀ h' b' f', nsP D h' o b' (if ns.length = N then 2 * N else N) f' (insL ns T v) → o ≠ b' → (if ns.length = N then h b' = none else b' = b) → (∀ q e, q ≠ o → q ≠ b → h q = some e → h' q = some e) → Q none h') :
    Runs l D M_N_add [.ref o, .int (nI v)] h mc ms Q := by
  refine Runs.of rfl rfl (Nat.le_of_ble_eq_true rfl) ?_
  have hs' := hs
  obtain ⟨ho, hb, hN, h10, hN2, hf⟩ := hs'
  have hT1 := hT.1
  have j54 : ∀ (h1 : zH) (b1 N1 : Nat) (f1 : Nat → Int32) (cu su : Nat), ¬ (T < ns.length ∧ nI (ns.getD T 0) = nI v) → cu ≤ mc → su ≤ ms → N1 = (if ns.length = N then 2 * N else N) → (if ns.length = N then h b1 = none else b1 = b) → h1 o = some (.inr (6, [.ref b1, .int (nI ns.length)])) → h1 b1 = some (.inl (D.2 1, N1, .inl f1)) → o ≠ b1 → ns.length < N1 → N1 < 2 ^ 20 → (∀ i, i < ns.length → f1 i = nI (ns.getD i 0)) → (∀ q e, q ≠ o → q ≠ b → h q = some e → h1 q = some e) →
      Z l D M_N_add mc ms Q h1 cu su 54 [some (.ref o), some (.int (nI v)), some (.int (nI T))] [] := by
    intro h1 b1 N1 f1 cu su hno hcu hsu hN1 hbb ho1 hb1 ob1 hl1 hN12 hf1 hfr
    refine z_aload_n d_N_add_54 55 rfl rfl rfl ?_
    refine z_get d_N_add_55 58 rfl f_N_7 ho1 rfl ?_
    refine z_iload_n d_N_add_58 59 rfl rfl rfl ?_
    refine z_aload_n d_N_add_59 60 rfl rfl rfl ?_
    refine z_get d_N_add_60 63 rfl f_N_7 ho1 rfl ?_
    refine z_iload_n d_N_add_63 64 rfl rfl rfl ?_
    refine z_iconst (v := nI 1) d_N_add_64 65 rfl rfl ?_
    first | refine z_iaddN d_N_add_65 66 rfl ?_ | refine z_iadd d_N_add_65 66 rfl ?_
    refine z_aload_n d_N_add_66 67 rfl rfl rfl ?_
    refine z_get d_N_add_67 70 rfl f_N_13 ho1 rfl ?_
    refine z_iload_n d_N_add_70 71 rfl rfl rfl ?_
    refine z_isubN d_N_add_71 72 rfl (by omega) ?_
    refine z_copy (sp := T) (dp := T + 1) (n := ns.length - T) (t := 1) d_N_add_72 75 rfl kl9_N_27 cp_n cp_s cp_i rfl rfl hb1 hb1 (by omega) (by omega) (by omega) (by omega) (fun i hi => rfl) (by decide) (by decide) ?_
    have ho2 : ∀ e, zset h1 b1 e o = some (.inr (6, [.ref b1, .int (nI ns.length)])) := fun e => (zset_ne ob1).trans ho1
    refine z_aload_n d_N_add_75 76 rfl rfl rfl ?_
    refine z_get d_N_add_76 79 rfl f_N_7 (ho2 _) rfl ?_
    refine z_iload_n d_N_add_79 80 rfl rfl rfl ?_
    refine z_iload_n d_N_add_80 81 rfl rfl rfl ?_
    refine z_iastN d_N_add_81 82 rfl (zset_self _ _ _) (by omega) (by omega) ?_
    rw [zset_zset]
    refine z_aload_n d_N_add_82 83 rfl rfl rfl ?_
    refine z_dup d_N_add_83 84 rfl rfl ?_
    refine z_get d_N_add_84 87 rfl f_N_13 (ho2 _) rfl ?_
    refine z_iconst (v := nI 1) d_N_add_87 88 rfl rfl ?_
    first | refine z_iaddN d_N_add_88 89 rfl ?_ | refine z_iadd d_N_add_88 89 rfl ?_
    refine z_put d_N_add_89 92 rfl (p_N_13 _) (ho2 _) rfl rfl (Nat.le_of_ble_eq_true rfl) rfl ?_; dsimp only [List.set]
    have hQ2 := hQ1 hno
    rw [← hN1] at hQ2
    refine z_vret d_N_add_92 rfl hcu hsu (hQ2 _ b1 _ ⟨?_, (zset_ne (Ne.symm ob1)).trans (zset_self _ _ _), ?_, ?_, ?_, ?_⟩ ob1 hbb ?_)
    · rw [insL_len]; exact zset_self _ _ _
    · rw [insL_len]; omega
    · rw [insL_len]; omega
    · exact hN12
    · intro i hi
      rw [insL_len] at hi
      rw [insL_get hT1]
      unfold upd va_cpy
      by_cases e1 : i < T
      · rw [if_neg (show ¬ i = T by omega), if_neg (by omega), if_pos e1]
        exact hf1 i (by omega)
      · by_cases e2 : i = T
        · rw [if_pos e2, if_neg e1, if_pos e2]
        · rw [if_neg e2, if_pos (by omega), if_neg e1, if_neg e2, show T + (i - (T + 1)) = i - 1 by omega]
          exact hf1 _ (by omega)
    · intro q e q1 q2 hq
      have hqb : q ≠ b1 := by
        intro e9
        by_cases hg : ns.length = N
        · rw [if_pos hg] at hbb
          rw [e9, hbb] at hq
          cases hq
        · rw [if_neg hg] at hbb
          exact q2 (e9.trans hbb)
      rw [zset_ne q1, zset_ne hqb]
      exact hfr q e q1 q2 hq
  have j25 : ¬ (T < ns.length ∧ nI (ns.getD T 0) = nI v) → Z l D M_N_add mc ms Q h 0 0 25 [some (.ref o), some (.int (nI v)), some (.int (nI T))] [] := by
    intro hno
    refine z_aload_n d_N_add_25 26 rfl rfl rfl ?_
    refine z_get d_N_add_26 29 rfl f_N_13 ho rfl ?_
    refine z_aload_n d_N_add_29 30 rfl rfl rfl ?_
    refine z_get d_N_add_30 33 rfl f_N_7 ho rfl ?_
    refine z_alen d_N_add_33 34 rfl (t := 1) (v := nI N) rfl hb rfl ?_
    refine z_icmp_neN (tgt := 54) d_N_add_34 37 rfl rfl (by omega) (by omega) (fun h34 => ?_) (fun h34 => ?_)
    · exact j54 h b N f 0 0 hno (Nat.zero_le _) (Nat.zero_le _) (by rw [if_neg h34]) (by rw [if_neg h34]) ho hb hob (by omega) hN2 hf (fun q e _ _ x => x)
    · refine z_aload_n d_N_add_37 38 rfl rfl rfl ?_
      refine z_aload_n d_N_add_38 39 rfl rfl rfl ?_
      refine z_get d_N_add_39 42 rfl f_N_7 ho rfl ?_
      refine z_iconst (v := nI 2) d_N_add_42 43 rfl rfl ?_
      refine z_aload_n d_N_add_43 44 rfl rfl rfl ?_
      refine z_get d_N_add_44 47 rfl f_N_13 ho rfl ?_
      first | refine z_imulN d_N_add_47 48 rfl ?_ | refine z_imul d_N_add_47 48 rfl ?_
      refine z_cS (Q' := fun r h' => ∃ q g, h q = none ∧ (∀ i, i < N → g i = f i) ∧ r = some (.ref q) ∧ zset h q (.inl (D.2 1, 2 * ns.length, .inl g)) = h') d_N_add_48 51 rfl ms_J_copyOf_i kl_N_21 (by decide) 1 (0 + 2 * ns.length) rfl rfl (hm hno h34).1 (by have := hm hno h34; omega) (c_J_copyOf_i (2 * ns.length) hb (by omega) (by omega) (fun q g h1 h2 => ⟨q, g, h1, h2, rfl, rfl⟩)) rfl rfl (Nat.le_of_ble_eq_true rfl) ?_
      rintro _ _ ⟨q, g, hq, hg, rfl, rfl⟩
      have hoq : o ≠ q := fun e => by rw [e, hq] at ho; cases ho
      refine z_put d_N_add_51 54 rfl (p_N_7 _) ((zset_ne hoq).trans ho) rfl rfl (Nat.le_of_ble_eq_true rfl) rfl ?_; dsimp only [List.set]
      refine j54 _ q (2 * ns.length) g _ _ hno (hm hno h34).1 (by have := hm hno h34; omega) (by rw [if_pos h34]; omega) (by rw [if_pos h34]; exact hq) (zset_self _ _ _) ((zset_ne (Ne.symm hoq)).trans (zset_self _ _ _)) hoq (by omega) (by omega) (fun i hi => (hg i (by omega)).trans (hf i hi)) ?_
      intro r e r1 r2 hr
      have hrq : r ≠ q := fun e => by rw [e, hq] at hr; cases hr
      rw [zset_ne r1, zset_ne hrq]
      exact hr
  refine z_aload_n d_N_add_0 1 rfl rfl rfl ?_
  refine z_iload_n d_N_add_1 2 rfl rfl rfl ?_
  refine z_cV1 d_N_add_2 5 rfl mv_N_placeOf kl_N_17 (by decide) 0 0 rfl rfl (Nat.zero_le _) (Nat.zero_le _) ho (fun Q' q => c_N_placeOf (nI v) hs hT q) rfl rfl (Nat.le_of_ble_eq_true rfl) ?_
  refine z_ist2 d_N_add_5 6 rfl rfl ?_
  refine z_iload_n d_N_add_6 7 rfl rfl rfl ?_
  refine z_aload_n d_N_add_7 8 rfl rfl rfl ?_
  refine z_get d_N_add_8 11 rfl f_N_13 ho rfl ?_
  refine z_icmp_geN (tgt := 25) d_N_add_11 14 rfl rfl (by omega) (by omega) (fun h11 => ?_) (fun h11 => ?_)
  · exact j25 (fun e => by omega)
  · refine z_aload_n d_N_add_14 15 rfl rfl rfl ?_
    refine z_get d_N_add_15 18 rfl f_N_7 ho rfl ?_
    refine z_iload_n d_N_add_18 19 rfl rfl rfl ?_
    refine z_ialdN d_N_add_19 20 rfl hb (by omega) (by omega) ?_
    rw [hf _ (by omega)]
    refine z_iload_n d_N_add_20 21 rfl rfl rfl ?_
    refine z_icmp_ne (tgt := 25) d_N_add_21 24 rfl rfl (fun h21 => ?_) (fun h21 => ?_)
    · exact j25 (fun e => h21 e.2)
    · exact z_vret d_N_add_24 rfl (Nat.zero_le _) (Nat.zero_le _) (hQ0 (by omega) h21)
end C30
theorem nsP_ne {D : zD} {h : zH} {o b N : Nat} {f : Nat → Int32} {ns : List Nat} (hn : nsP D h o b N f ns) : o ≠ b := fun e => by
  have h1 := hn.1
  rw [e, hn.2.1] at h1
  cases h1
section C31
variable {l : Launch} {D : zD} {M : zM} {W : Nat → Nat} {h : zH} {k o a : Nat} {bs : List Nat} {S : NS} {H : List (Nat × List Nat)} {Q : Option Value → zH → Prop}
theorem c_N_addW (v u : Nat) (x : setW W D h k o S) (hv : v < 16777216) (hl : S.2.length < 1000) (hu : (addS S v).1 = S.1 + u) (hQ : ∀ W' h', stp (· = k) W h W' h' → setW W' D h' k o (addS S v) → Q none h') : Runs l D M_N_add [.ref o, .int (nI v)] h u (2 * u) Q := by
  obtain ⟨b, f, wo, wb, hn, ok⟩ := x
  obtain ⟨T, hT⟩ := plT_ex (nI v) ok.1
  have hmem := plT_mem ok.1 hv hT
  have h16 := ok.2.2
  unfold okN at h16
  refine c_N_addM v u (2 * u) hn (nsP_ne hn) hT (by omega) (by omega) (fun e1 e2 => addS_u ok hu (fun e3 => e1 (hmem.2 e3)) e2) ?_ ?_
  · intro e1 e2
    have hin : v ∈ S.2 := hmem.1 ⟨e1, e2⟩
    rw [show addS S v = S from if_pos hin] at hQ
    exact hQ W h (stp.rf _ _ _) ⟨b, f, wo, wb, hn, ok⟩
  · intro e1 h' b' f' hn' _ hb hfr
    have hno : ¬ v ∈ S.2 := fun e3 => e1 (hmem.2 e3)
    rw [insL_S ok.1 hv hT hno] at hn'
    have he : addS S v = (if S.2.length = S.1 then 2 * S.1 else S.1, insS v S.2) := if_neg hno
    obtain ⟨W', s, y⟩ := setW_new (S := addS S v) wo wb (by rw [he]; exact hn') (addS_ok ok hv hl) (by
      split at hb
      · exact Or.inl hb
      · exact Or.inr hb) hfr
    exact hQ W' h' s y
theorem c_N_removeW (v : Nat) (x : setW W D h k o S) (hv : v < 16777216) (hQ : ∀ W' h', stp (· = k) W h W' h' → setW W' D h' k o (remS S v) → Q none h') : Runs l D M_N_remove [.ref o, .int (nI v)] h 0 0 Q := by
  obtain ⟨b, f, wo, wb, hn, ok⟩ := x
  obtain ⟨T, hT⟩ := plT_ex (nI v) ok.1
  have hmem := plT_mem ok.1 hv hT
  refine c_N_remove (nI v) hn (nsP_ne hn) hT ?_ ?_
  · intro e1
    have hno : ¬ v ∈ S.2 := fun e3 => e1 (hmem.2 e3)
    rw [show remS S v = S from Prod.ext rfl (filt_all hno)] at hQ
    exact hQ W h (stp.rf _ _ _) ⟨b, f, wo, wb, hn, ok⟩
  · intro e1 e2 h' f' hn' hfr
    have e3 : S.2.getD T 0 = v := (nI_eq (by have := ok.1.2 _ (getD_memN e1); omega) (by omega)).1 e2
    have he : delL S.2 T = (remS S v).2 := by
      rw [delL_S ok.1 e1, e3]
      rfl
    rw [he] at hn'
    obtain ⟨W', s, y⟩ := setW_new (S := remS S v) (h := h) wo wb hn' (remS_ok ok) (Or.inr rfl) (fun q e q1 q2 hq => by rw [hfr q q1 q2]; exact hq)
    exact hQ W' h' s y
theorem c_N_clearW (x : setW W D h k o S) (hQ : ∀ W' h', stp (· = k) W h W' h' → setW W' D h' k o (S.1, []) → Q none h') : Runs l D M_N_clear [.ref o] h 0 0 Q := by
  obtain ⟨b, f, wo, wb, hn, ok⟩ := x
  refine c_N_clear hn (hQ W _ (stp_set _ wo) ⟨b, f, wo, wb, ⟨zset_self _ _ _, (zset_ne (Ne.symm (nsP_ne hn))).trans hn.2.1, Nat.zero_le _, (Nat.succ_le_succ (Nat.zero_le _) : 0 < 1024), hn.2.2.2.2.1, fun i hi => absurd hi (Nat.not_lt_zero i)⟩, ⟨List.Pairwise.nil, fun n hn => by cases hn⟩, Nat.zero_le _, ok.2.2⟩)
theorem c_N_containsW (v : Nat) (x : setW W D h k o S) (hv : v < 16777216) (hQ : Q (some (.int (zb (decide (v ∈ S.2))))) h) : Runs l D M_N_contains [.ref o, .int (nI v)] h 0 0 Q := by
  obtain ⟨b, f, wo, wb, hn, ok⟩ := x
  obtain ⟨T, hT⟩ := plT_ex (nI v) ok.1
  have hmem := plT_mem ok.1 hv hT
  refine c_N_contains (nI v) hn hT ?_
  rw [show decide (T < S.2.length ∧ nI (S.2.getD T 0) = nI v) = decide (v ∈ S.2) from by rw [Bool.eq_iff_iff, decide_eq_true_eq, decide_eq_true_eq]; exact hmem]
  exact hQ
theorem plT_any {x : Int32} {ns : List Nat} {T : Nat} (hr : risL ns) (hT : plT x ns T) : (T < ns.length ∧ nI (ns.getD T 0) = x) ↔ (ns.any fun n => decide (nI n = x)) = true := by
  rw [List.any_eq_true]
  constructor
  · rintro ⟨h1, h2⟩
    exact ⟨ns.getD T 0, getD_memN h1, decide_eq_true h2⟩
  · rintro ⟨n, hn, he⟩
    rw [decide_eq_true_eq] at he
    obtain ⟨i, hi, hi2⟩ := mem_getD hn
    have h1 := hT.2 i hi
    rw [hi2, he] at h1
    have hii : ¬ i < T := fun h9 => by
      have := h1.2 h9
      rw [Int32.lt_iff_toInt_lt] at this
      omega
    have hTi : ¬ T < i := fun h9 => by
      have h2 := SS_lt hr.1 h9 hi
      have h3 := hr.2 _ (getD_memN hi)
      have h4 := (hT.2 T (by omega)).1 (by rw [← he, ← hi2]; exact nI_lt h2 (by omega))
      omega
    have : T = i := by omega
    subst this
    exact ⟨hi, by rw [hi2]; exact he⟩
theorem c_N_containsX (v : Int32) (x : setW W D h k o S) (hQ : Q (some (.int (zb (S.2.any fun n => decide (nI n = v))))) h) : Runs l D M_N_contains [.ref o, .int v] h 0 0 Q := by
  obtain ⟨b, f, wo, wb, hn, ok⟩ := x
  obtain ⟨T, hT⟩ := plT_ex v ok.1
  have hmem := plT_any ok.1 hT
  refine c_N_contains v hn hT ?_
  rw [show decide (T < S.2.length ∧ nI (S.2.getD T 0) = v) = (S.2.any fun n => decide (nI n = v)) from by rw [Bool.eq_iff_iff, decide_eq_true_eq]; exact hmem]
  exact hQ
theorem c_N_copyFromW {k2 o2 : Nat} {S2 : NS} (x : setW W D h k o S) (x2 : setW W D h k2 o2 S2) (hk : k ≠ k2) (hQ : ∀ W' h', stp (· = k) W h W' h' → setW W' D h' k o (cpyS S S2) → Q none h') : Runs l D M_N_copyFrom [.ref o, .ref o2] h (if S.1 < S2.2.length then 1 else 0) (if S.1 < S2.2.length then S2.1 else 0) Q := by
  obtain ⟨b, f, wo, wb, hn, ok⟩ := x
  obtain ⟨b2, f2, wo2, wb2, hn2, ok2⟩ := x2
  have dif : ∀ {p q}, W p = k → W q = k2 → q ≠ p := fun h1 h2 e => hk (by rw [← h1, ← h2, e])
  refine c_N_copyFrom hn (nsP_ne hn) hn2 (dif wo wo2) (dif wo wb2) (dif wb wb2) (dif wb wo2) ?_
  intro h' b' f' hn' _ hb hfr
  obtain ⟨W', s, y⟩ := setW_new (S := cpyS S S2) wo wb hn' (cpyS_ok ok ok2) (by
    split at hb
    · exact Or.inl hb
    · exact Or.inr hb) hfr
  exact hQ W' h' s y
theorem c_H_clearW (x : hisW W D h k o H) (hk : k ≠ 0) (hQ : ∀ W' h', stp (· = k) W h W' h' → hisW W' D h' k o [] → Q none h') : Runs l D M_H_clear [.ref o] h 0 0 Q := by
  obtain ⟨b, f, wo, wb, ho, hL⟩ := x
  have hob : b ≠ o := fun e => by
    have h1 := hL.1
    rw [e, ho] at h1
    cases h1
  exact c_H_clear _ ho (hQ W _ (stp_set _ wo) ⟨b, f, wo, wb, zset_self _ _ _, (zset_ne hob).trans hL.1, Nat.zero_le _, fun i y hy => by simp at hy⟩)
theorem c_H_addF {v1 : Value} (ho : h o = some (.inr (5, [v1, .int (nI 32)]))) (hQ : Q none h) : Runs l D M_H_add [.ref o, .ref a] h 0 0 Q := by
  refine Runs.of rfl rfl (Nat.le_of_ble_eq_true rfl) ?_
  refine z_aload_n d_H_add_0 1 rfl rfl rfl ?_
  refine z_get d_H_add_1 4 rfl f_H_17 ho rfl ?_
  refine z_bipush (v := nI 32) d_H_add_4 6 rfl rfl ?_
  refine z_icmp_ltN (tgt := 10) d_H_add_6 9 rfl rfl (by omega) (by omega) (fun h6 => ?_) (fun h6 => ?_)
  · omega
  · exact z_vret d_H_add_9 rfl (Nat.zero_le _) (Nat.zero_le _) hQ
theorem c_H_addW (x : hisW W D h k o H) (hk : k ≠ 0) (ha : arG (G0 W) D h a bs) (hbs : bs.length ≤ 240) (hQ : ∀ W' h', stp (· = k) W h W' h' → hisW W' D h' k o (hAdd H (a, bs)) → Q none h') : Runs l D M_H_add [.ref o, .ref a] h 0 0 Q := by
  obtain ⟨b, f, wo, wb, ho, hL⟩ := x
  have hob : o ≠ b := fun e => by
    have h1 := hL.1
    rw [← e, ho] at h1
    cases h1
  by_cases h32 : H.length < 32
  · refine c_H_add ho hL ha hbs h32 hob (fun e => hk (wo.symm.trans e)) (fun e => hk (wb.symm.trans e)) ?_
    intro f' hL'
    rw [show hAdd H (a, bs) = H.take (plH bs H H.length) ++ (a, bs) :: H.drop (plH bs H H.length) from if_pos h32] at hQ
    refine hQ W _ ((stp_set _ wb).tr (stp_set _ wo)) ⟨b, f', wo, wb, ?_, hL'⟩
    rw [ins_len (plH_le _ _ _)]
    exact zset_self _ _ _
  · have e32 : H.length = 32 := by have := hL.2.1; omega
    rw [show hAdd H (a, bs) = H from if_neg h32] at hQ
    have ho2 := ho
    rw [e32] at ho2
    exact c_H_addF ho2 (hQ W h (stp.rf _ _ _) ⟨b, f, wo, wb, ho, hL⟩)
end C31
