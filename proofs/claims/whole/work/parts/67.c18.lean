/-! The class: a name more in a set. Own work. -/
def insL (ns : List Nat) (T v : Nat) : List Nat := ns.take T ++ v :: ns.drop T
theorem insL_len {ns : List Nat} {T v : Nat} : (insL ns T v).length = ns.length + 1 := by
  unfold insL
  simp
  omega
theorem insL_get {ns : List Nat} {T v : Nat} (hT : T ≤ ns.length) (i : Nat) : (insL ns T v).getD i 0 = if i < T then ns.getD i 0 else if i = T then v else ns.getD (i - 1) 0 := by
  unfold insL
  rw [List.getD_eq_getElem?_getD, List.getD_eq_getElem?_getD, List.getD_eq_getElem?_getD, List.getElem?_append, List.length_take, Nat.min_eq_left hT]
  by_cases h1 : i < T
  · rw [if_pos h1, if_pos h1, List.getElem?_take_of_lt h1]
  · rw [if_neg h1, if_neg h1]
    by_cases h2 : i = T
    · subst h2
      rw [if_pos rfl, Nat.sub_self]
      rfl
    · rw [if_neg h2, show i - T = (i - T - 1) + 1 by omega, List.getElem?_cons_succ, List.getElem?_drop, show T + (i - T - 1) = i - 1 by omega]
section C18
variable {l : Launch} {D : zD} {M : zM} {h : zH} {o b N T : Nat} {f : Nat → Int32} {ns : List Nat} {Q : Option Value → zH → Prop}
theorem c_N_add (v : Nat) (hs : nsP D h o b N f ns) (hob : o ≠ b) (hT : plT (nI v) ns T) (h23 : ns.length < 1023) (h0 : 0 < N)
    (hQ0 : T < ns.length → nI (ns.getD T 0) = nI v → Q none h)
    (hQ1 : ¬ (T < ns.length ∧ nI (ns.getD T 0) = nI v) → ∀ h' b' f', nsP D h' o b' (if ns.length = N then 2 * N else N) f' (insL ns T v) → o ≠ b' → (if ns.length = N then h b' = none else b' = b) → (∀ q e, q ≠ o → q ≠ b → h q = some e → h' q = some e) → Q none h') :
    Runs l D M_N_add [.ref o, .int (nI v)] h (if ns.length = N then 1 else 0) (if ns.length = N then 2 * N else 0) Q := by
  refine Runs.of rfl rfl (Nat.le_of_ble_eq_true rfl) ?_
  have hs' := hs
  obtain ⟨ho, hb, hN, h10, hN2, hf⟩ := hs'
  have hT1 := hT.1
  have j54 : ∀ (h1 : zH) (b1 N1 : Nat) (f1 : Nat → Int32) (cu su : Nat), ¬ (T < ns.length ∧ nI (ns.getD T 0) = nI v) → cu ≤ (if ns.length = N then 1 else 0) → su ≤ (if ns.length = N then 2 * N else 0) → N1 = (if ns.length = N then 2 * N else N) → (if ns.length = N then h b1 = none else b1 = b) → h1 o = some (.inr (6, [.ref b1, .int (nI ns.length)])) → h1 b1 = some (.inl (D.2 1, N1, .inl f1)) → o ≠ b1 → ns.length < N1 → N1 < 2 ^ 20 → (∀ i, i < ns.length → f1 i = nI (ns.getD i 0)) → (∀ q e, q ≠ o → q ≠ b → h q = some e → h1 q = some e) →
      Z l D M_N_add (if ns.length = N then 1 else 0) (if ns.length = N then 2 * N else 0) Q h1 cu su 54 [some (.ref o), some (.int (nI v)), some (.int (nI T))] [] := by
    intro h1 b1 N1 f1 cu su hno hcu hsu hN1 hbb ho1 hb1 ob1 hl1 hN12 hf1 hfr
    refine z_aload_n d_N_add_54 55 rfl rfl rfl ?_
    refine z_get d_N_add_55 58 rfl f_N_7 ho1 rfl ?_
    refine z_iload_n d_N_add_58 59 rfl rfl rfl ?_
    refine z_aload_n d_N_add_59 60 rfl rfl rfl ?_
    refine z_get d_N_add_60 63 rfl f_N_7 ho1 rfl ?_
    refine z_iload_n d_N_add_63 64 rfl rfl rfl ?_
    refine z_iconst (v := nI 1) d_N_add_64 65 rfl rfl ?_
    first | refine z_iaddN d_N_add_65 66 rfl ?_ | refine z_iadd d_N_add_65 66 rfl ?_
    refine z_aload_n d_N_add_66 67 rfl rfl rfl ?_
    refine z_get d_N_add_67 70 rfl f_N_13 ho1 rfl ?_
    refine z_iload_n d_N_add_70 71 rfl rfl rfl ?_
    refine z_isubN d_N_add_71 72 rfl (by omega) ?_
    refine z_copy (sp := T) (dp := T + 1) (n := ns.length - T) (t := 1) d_N_add_72 75 rfl kl9_N_27 cp_n cp_s cp_i rfl rfl hb1 hb1 (by omega) (by omega) (by omega) (by omega) (fun i hi => rfl) (by decide) (by decide) ?_
    have ho2 : ∀ e, zset h1 b1 e o = some (.inr (6, [.ref b1, .int (nI ns.length)])) := fun e => (zset_ne ob1).trans ho1
    refine z_aload_n d_N_add_75 76 rfl rfl rfl ?_
    refine z_get d_N_add_76 79 rfl f_N_7 (ho2 _) rfl ?_
    refine z_iload_n d_N_add_79 80 rfl rfl rfl ?_
    refine z_iload_n d_N_add_80 81 rfl rfl rfl ?_
    refine z_iastN d_N_add_81 82 rfl (zset_self _ _ _) (by omega) (by omega) ?_
    rw [zset_zset]
    refine z_aload_n d_N_add_82 83 rfl rfl rfl ?_
    refine z_dup d_N_add_83 84 rfl rfl ?_
    refine z_get d_N_add_84 87 rfl f_N_13 (ho2 _) rfl ?_
    refine z_iconst (v := nI 1) d_N_add_87 88 rfl rfl ?_
    first | refine z_iaddN d_N_add_88 89 rfl ?_ | refine z_iadd d_N_add_88 89 rfl ?_
    refine z_put d_N_add_89 92 rfl (p_N_13 _) (ho2 _) rfl rfl (Nat.le_of_ble_eq_true rfl) rfl ?_; dsimp only [List.set]
    have hQ2 := hQ1 hno
    rw [← hN1] at hQ2
    refine z_vret d_N_add_92 rfl hcu hsu (hQ2 _ b1 _ ⟨?_, (zset_ne (Ne.symm ob1)).trans (zset_self _ _ _), ?_, ?_, ?_, ?_⟩ ob1 hbb ?_)
    · rw [insL_len]; exact zset_self _ _ _
    · rw [insL_len]; omega
    · rw [insL_len]; omega
    · exact hN12
    · intro i hi
      rw [insL_len] at hi
      rw [insL_get hT1]
      unfold upd va_cpy
      by_cases e1 : i < T
      · rw [if_neg (show ¬ i = T by omega), if_neg (by omega), if_pos e1]
        exact hf1 i (by omega)
      · by_cases e2 : i = T
        · rw [if_pos e2, if_neg e1, if_pos e2]
        · rw [if_neg e2, if_pos (by omega), if_neg e1, if_neg e2, show T + (i - (T + 1)) = i - 1 by omega]
          exact hf1 _ (by omega)
    · intro q e q1 q2 hq
      have hqb : q ≠ b1 := by
        intro e9
        by_cases hg : ns.length = N
        · rw [if_pos hg] at hbb
          rw [e9, hbb] at hq
          cases hq
        · rw [if_neg hg] at hbb
          exact q2 (e9.trans hbb)
      rw [zset_ne q1, zset_ne hqb]
      exact hfr q e q1 q2 hq
  have j25 : ¬ (T < ns.length ∧ nI (ns.getD T 0) = nI v) → Z l D M_N_add (if ns.length = N then 1 else 0) (if ns.length = N then 2 * N else 0) Q h 0 0 25 [some (.ref o), some (.int (nI v)), some (.int (nI T))] [] := by
    intro hno
    refine z_aload_n d_N_add_25 26 rfl rfl rfl ?_
    refine z_get d_N_add_26 29 rfl f_N_13 ho rfl ?_
    refine z_aload_n d_N_add_29 30 rfl rfl rfl ?_
    refine z_get d_N_add_30 33 rfl f_N_7 ho rfl ?_
    refine z_alen d_N_add_33 34 rfl (t := 1) (v := nI N) rfl hb rfl ?_
    refine z_icmp_neN (tgt := 54) d_N_add_34 37 rfl rfl (by omega) (by omega) (fun h34 => ?_) (fun h34 => ?_)
    · exact j54 h b N f 0 0 hno (Nat.zero_le _) (Nat.zero_le _) (by rw [if_neg h34]) (by rw [if_neg h34]) ho hb hob (by omega) hN2 hf (fun q e _ _ x => x)
    · refine z_aload_n d_N_add_37 38 rfl rfl rfl ?_
      refine z_aload_n d_N_add_38 39 rfl rfl rfl ?_
      refine z_get d_N_add_39 42 rfl f_N_7 ho rfl ?_
      refine z_iconst (v := nI 2) d_N_add_42 43 rfl rfl ?_
      refine z_aload_n d_N_add_43 44 rfl rfl rfl ?_
      refine z_get d_N_add_44 47 rfl f_N_13 ho rfl ?_
      first | refine z_imulN d_N_add_47 48 rfl ?_ | refine z_imul d_N_add_47 48 rfl ?_
      refine z_cS (Q' := fun r h' => ∃ q g, h q = none ∧ (∀ i, i < N → g i = f i) ∧ r = some (.ref q) ∧ zset h q (.inl (D.2 1, 2 * ns.length, .inl g)) = h') d_N_add_48 51 rfl ms_J_copyOf_i kl_N_21 (by decide) 1 (0 + 2 * ns.length) rfl rfl (by rw [if_pos h34]; exact Nat.le_refl 1) (by rw [if_pos h34]; omega) (c_J_copyOf_i (2 * ns.length) hb (by omega) (by omega) (fun q g h1 h2 => ⟨q, g, h1, h2, rfl, rfl⟩)) rfl rfl (Nat.le_of_ble_eq_true rfl) ?_
      rintro _ _ ⟨q, g, hq, hg, rfl, rfl⟩
      have hoq : o ≠ q := fun e => by rw [e, hq] at ho; cases ho
      refine z_put d_N_add_51 54 rfl (p_N_7 _) ((zset_ne hoq).trans ho) rfl rfl (Nat.le_of_ble_eq_true rfl) rfl ?_; dsimp only [List.set]
      refine j54 _ q (2 * ns.length) g _ _ hno (by rw [if_pos h34]; exact Nat.le_refl 1) (by rw [if_pos h34]; omega) (by rw [if_pos h34]; omega) (by rw [if_pos h34]; exact hq) (zset_self _ _ _) ((zset_ne (Ne.symm hoq)).trans (zset_self _ _ _)) hoq (by omega) (by omega) (fun i hi => (hg i (by omega)).trans (hf i hi)) ?_
      intro r e r1 r2 hr
      have hrq : r ≠ q := fun e => by rw [e, hq] at hr; cases hr
      rw [zset_ne r1, zset_ne hrq]
      exact hr
  refine z_aload_n d_N_add_0 1 rfl rfl rfl ?_
  refine z_iload_n d_N_add_1 2 rfl rfl rfl ?_
  refine z_cV1 d_N_add_2 5 rfl mv_N_placeOf kl_N_17 (by decide) 0 0 rfl rfl (Nat.zero_le _) (Nat.zero_le _) ho (fun Q' q => c_N_placeOf (nI v) hs hT q) rfl rfl (Nat.le_of_ble_eq_true rfl) ?_
  refine z_ist2 d_N_add_5 6 rfl rfl ?_
  refine z_iload_n d_N_add_6 7 rfl rfl rfl ?_
  refine z_aload_n d_N_add_7 8 rfl rfl rfl ?_
  refine z_get d_N_add_8 11 rfl f_N_13 ho rfl ?_
  refine z_icmp_geN (tgt := 25) d_N_add_11 14 rfl rfl (by omega) (by omega) (fun h11 => ?_) (fun h11 => ?_)
  · exact j25 (fun e => by omega)
  · refine z_aload_n d_N_add_14 15 rfl rfl rfl ?_
    refine z_get d_N_add_15 18 rfl f_N_7 ho rfl ?_
    refine z_iload_n d_N_add_18 19 rfl rfl rfl ?_
    refine z_ialdN d_N_add_19 20 rfl hb (by omega) (by omega) ?_
    rw [hf _ (by omega)]
    refine z_iload_n d_N_add_20 21 rfl rfl rfl ?_
    refine z_icmp_ne (tgt := 25) d_N_add_21 24 rfl rfl (fun h21 => ?_) (fun h21 => ?_)
    · exact j25 (fun e => h21 e.2)
    · exact z_vret d_N_add_24 rfl (Nat.zero_le _) (Nat.zero_le _) (hQ0 (by omega) h21)
end C18
