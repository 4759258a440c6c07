/-! The class: a name less in a set, a set copied. Own work. -/
def delL (ns : List Nat) (T : Nat) : List Nat := ns.take T ++ ns.drop (T + 1)
theorem delL_len {ns : List Nat} {T : Nat} (hT : T < ns.length) : (delL ns T).length = ns.length - 1 := by
  unfold delL
  simp
  omega
theorem delL_get {ns : List Nat} {T : Nat} (hT : T < ns.length) (i : Nat) : (delL ns T).getD i 0 = if i < T then ns.getD i 0 else ns.getD (i + 1) 0 := by
  unfold delL
  rw [List.getD_eq_getElem?_getD, List.getD_eq_getElem?_getD, List.getD_eq_getElem?_getD, List.getElem?_append, List.length_take, Nat.min_eq_left (by omega)]
  by_cases h1 : i < T
  · rw [if_pos h1, if_pos h1, List.getElem?_take_of_lt h1]
  · rw [if_neg h1, if_neg h1, List.getElem?_drop, show T + 1 + (i - T) = i + 1 by omega]
section C19
variable {l : Launch} {D : zD} {M : zM} {h : zH} {o b N T : Nat} {f : Nat → Int32} {ns : List Nat} {Q : Option Value → zH → Prop}
theorem c_N_remove (x : Int32) (hs : nsP D h o b N f ns) (hob : o ≠ b) (hT : plT x ns T)
    (hQ0 : ¬ (T < ns.length ∧ nI (ns.getD T 0) = x) → Q none h)
    (hQ1 : T < ns.length → nI (ns.getD T 0) = x → ∀ h' f', nsP D h' o b N f' (delL ns T) → (∀ q, q ≠ o → q ≠ b → h' q = h q) → Q none h') :
    Runs l D M_N_remove [.ref o, .int x] h 0 0 Q := by
  refine Runs.of rfl rfl (Nat.le_of_ble_eq_true rfl) ?_
  have hs' := hs
  obtain ⟨ho, hb, hN, h10, hN2, hf⟩ := hs'
  have hT1 := hT.1
  refine z_aload_n d_N_remove_0 1 rfl rfl rfl ?_
  refine z_iload_n d_N_remove_1 2 rfl rfl rfl ?_
  refine z_cV1 d_N_remove_2 5 rfl mv_N_placeOf kl_N_17 (by decide) 0 0 rfl rfl (Nat.zero_le _) (Nat.zero_le _) ho (fun Q' q => c_N_placeOf x hs hT q) rfl rfl (Nat.le_of_ble_eq_true rfl) ?_
  refine z_ist2 d_N_remove_5 6 rfl rfl ?_
  refine z_iload_n d_N_remove_6 7 rfl rfl rfl ?_
  refine z_aload_n d_N_remove_7 8 rfl rfl rfl ?_
  refine z_get d_N_remove_8 11 rfl f_N_13 ho rfl ?_
  refine z_icmp_geN (tgt := 57) d_N_remove_11 14 rfl rfl (by omega) (by omega) (fun h11 => ?_) (fun h11 => ?_)
  · exact z_vret d_N_remove_57 rfl (Nat.zero_le _) (Nat.zero_le _) (hQ0 (fun e => by omega))
  · refine z_aload_n d_N_remove_14 15 rfl rfl rfl ?_
    refine z_get d_N_remove_15 18 rfl f_N_7 ho rfl ?_
    refine z_iload_n d_N_remove_18 19 rfl rfl rfl ?_
    refine z_ialdN d_N_remove_19 20 rfl hb (by omega) (by omega) ?_
    rw [hf _ (by omega)]
    refine z_iload_n d_N_remove_20 21 rfl rfl rfl ?_
    refine z_icmp_ne (tgt := 57) d_N_remove_21 24 rfl rfl (fun h21 => ?_) (fun h21 => ?_)
    · exact z_vret d_N_remove_57 rfl (Nat.zero_le _) (Nat.zero_le _) (hQ0 (fun e => h21 e.2))
    · refine z_aload_n d_N_remove_24 25 rfl rfl rfl ?_
      refine z_get d_N_remove_25 28 rfl f_N_7 ho rfl ?_
      refine z_iload_n d_N_remove_28 29 rfl rfl rfl ?_
      refine z_iconst (v := nI 1) d_N_remove_29 30 rfl rfl ?_
      first | refine z_iaddN d_N_remove_30 31 rfl ?_ | refine z_iadd d_N_remove_30 31 rfl ?_
      refine z_aload_n d_N_remove_31 32 rfl rfl rfl ?_
      refine z_get d_N_remove_32 35 rfl f_N_7 ho rfl ?_
      refine z_iload_n d_N_remove_35 36 rfl rfl rfl ?_
      refine z_aload_n d_N_remove_36 37 rfl rfl rfl ?_
      refine z_get d_N_remove_37 40 rfl f_N_13 ho rfl ?_
      refine z_iload_n d_N_remove_40 41 rfl rfl rfl ?_
      refine z_isubN d_N_remove_41 42 rfl (by omega) ?_
      refine z_iconst (v := nI 1) d_N_remove_42 43 rfl rfl ?_
      refine z_isubN d_N_remove_43 44 rfl (by omega) ?_
      refine z_copy (sp := T + 1) (dp := T) (n := ns.length - T - 1) (t := 1) d_N_remove_44 47 rfl kl9_N_27 cp_n cp_s cp_i rfl rfl hb hb (by omega) (by omega) (by omega) (by omega) (fun i hi => rfl) (by decide) (by decide) ?_
      have ho2 : ∀ e, zset h b e o = some (.inr (6, [.ref b, .int (nI ns.length)])) := fun e => (zset_ne hob).trans ho
      refine z_aload_n d_N_remove_47 48 rfl rfl rfl ?_
      refine z_dup d_N_remove_48 49 rfl rfl ?_
      refine z_get d_N_remove_49 52 rfl f_N_13 (ho2 _) rfl ?_
      refine z_iconst (v := nI 1) d_N_remove_52 53 rfl rfl ?_
      refine z_isubN d_N_remove_53 54 rfl (by omega) ?_
      refine z_put d_N_remove_54 57 rfl (p_N_13 _) (ho2 _) rfl rfl (Nat.le_of_ble_eq_true rfl) rfl ?_; dsimp only [List.set]
      refine z_vret d_N_remove_57 rfl (Nat.zero_le _) (Nat.zero_le _) (hQ1 h11 h21 _ _ ⟨?_, (zset_ne (Ne.symm hob)).trans (zset_self _ _ _), ?_, ?_, hN2, ?_⟩ ?_)
      · rw [delL_len h11]; exact zset_self _ _ _
      · rw [delL_len h11]; omega
      · rw [delL_len h11]; omega
      · intro i hi
        rw [delL_len h11] at hi
        rw [delL_get h11]
        unfold va_cpy
        by_cases e1 : i < T
        · rw [if_neg (by omega), if_pos e1]
          exact hf i (by omega)
        · rw [if_pos (by omega), if_neg e1, show T + 1 + (i - T) = i + 1 by omega]
          exact hf _ (by omega)
      · intro q q1 q2
        rw [zset_ne q1, zset_ne q2]
theorem c_N_copyFrom {o2 b2 N2 : Nat} {f2 : Nat → Int32} {ns2 : List Nat} (hs : nsP D h o b N f ns) (hob : o ≠ b) (hs2 : nsP D h o2 b2 N2 f2 ns2) (hoo : o2 ≠ o) (hob2 : b2 ≠ o) (hbb : b2 ≠ b) (hbo : o2 ≠ b)
    (hQ : ∀ h' b' f', nsP D h' o b' (if N < ns2.length then N2 else N) f' ns2 → o ≠ b' → (if N < ns2.length then h b' = none else b' = b) → (∀ q e, q ≠ o → q ≠ b → h q = some e → h' q = some e) → Q none h') :
    Runs l D M_N_copyFrom [.ref o, .ref o2] h (if N < ns2.length then 1 else 0) (if N < ns2.length then N2 else 0) Q := by
  refine Runs.of rfl rfl (Nat.le_of_ble_eq_true rfl) ?_
  obtain ⟨ho, hb, hN, h10, hN2, hf⟩ := hs
  obtain ⟨ho2, hb2, hN', h10', hN2', hf2⟩ := hs2
  have j23 : ∀ (h1 : zH) (b1 N1 : Nat) (f1 : Nat → Int32) (cu su : Nat), cu ≤ (if N < ns2.length then 1 else 0) → su ≤ (if N < ns2.length then N2 else 0) → N1 = (if N < ns2.length then N2 else N) → (if N < ns2.length then h b1 = none else b1 = b) → h1 o = some (.inr (6, [.ref b1, .int (nI ns.length)])) → h1 b1 = some (.inl (D.2 1, N1, .inl f1)) → o ≠ b1 → b2 ≠ b1 → o2 ≠ b1 → ns2.length ≤ N1 → N1 < 2 ^ 20 → (∀ q e, q ≠ o → q ≠ b → h q = some e → h1 q = some e) →
      Z l D M_N_copyFrom (if N < ns2.length then 1 else 0) (if N < ns2.length then N2 else 0) Q h1 cu su 23 [some (.ref o), some (.ref o2)] [] := by
    intro h1 b1 N1 f1 cu su hcu hsu hN1 hbb1 ho1 hb1 ob1 b21 o21 hl1 hN12 hfr
    have hp2 := hfr _ _ hoo hbo ho2
    have hq2 := hfr _ _ hob2 hbb hb2
    have hQ2 := hQ
    rw [← hN1] at hQ2
    refine z_aload_n d_N_copyFrom_23 24 rfl rfl rfl ?_
    refine z_get d_N_copyFrom_24 27 rfl f_N_7 hp2 rfl ?_
    refine z_iconst (v := nI 0) d_N_copyFrom_27 28 rfl rfl ?_
    refine z_aload_n d_N_copyFrom_28 29 rfl rfl rfl ?_
    refine z_get d_N_copyFrom_29 32 rfl f_N_7 ho1 rfl ?_
    refine z_iconst (v := nI 0) d_N_copyFrom_32 33 rfl rfl ?_
    refine z_aload_n d_N_copyFrom_33 34 rfl rfl rfl ?_
    refine z_get d_N_copyFrom_34 37 rfl f_N_13 hp2 rfl ?_
    refine z_copy (sp := 0) (dp := 0) (n := ns2.length) (t := 1) d_N_copyFrom_37 40 rfl kl9_N_27 cp_n cp_s cp_i rfl rfl hq2 hb1 (by omega) (by omega) (by omega) (by omega) (fun i hi => rfl) (by decide) (by decide) ?_
    refine z_aload_n d_N_copyFrom_40 41 rfl rfl rfl ?_
    refine z_aload_n d_N_copyFrom_41 42 rfl rfl rfl ?_
    refine z_get d_N_copyFrom_42 45 rfl f_N_13 ((zset_ne o21).trans hp2) rfl ?_
    refine z_put d_N_copyFrom_45 48 rfl (p_N_13 _) ((zset_ne ob1).trans ho1) rfl rfl (Nat.le_of_ble_eq_true rfl) rfl ?_; dsimp only [List.set]
    refine z_vret d_N_copyFrom_48 rfl hcu hsu (hQ2 _ b1 _ ⟨zset_self _ _ _, (zset_ne (Ne.symm ob1)).trans (zset_self _ _ _), hl1, h10', hN12, ?_⟩ ob1 hbb1 ?_)
    · intro i hi
      unfold va_cpy
      rw [if_pos (by omega), show 0 + (i - 0) = i by omega]
      exact hf2 i hi
    · intro q e q1 q2 hq
      have hqb : q ≠ b1 := by
        intro e9
        by_cases hg : N < ns2.length
        · rw [if_pos hg] at hbb1
          rw [e9, hbb1] at hq
          cases hq
        · rw [if_neg hg] at hbb1
          exact q2 (e9.trans hbb1)
      rw [zset_ne q1, zset_ne hqb]
      exact hfr q e q1 q2 hq
  refine z_aload_n d_N_copyFrom_0 1 rfl rfl rfl ?_
  refine z_get d_N_copyFrom_1 4 rfl f_N_7 ho rfl ?_
  refine z_alen d_N_copyFrom_4 5 rfl (t := 1) (v := nI N) rfl hb rfl ?_
  refine z_aload_n d_N_copyFrom_5 6 rfl rfl rfl ?_
  refine z_get d_N_copyFrom_6 9 rfl f_N_13 ho2 rfl ?_
  refine z_icmp_geN (tgt := 23) d_N_copyFrom_9 12 rfl rfl (by omega) (by omega) (fun h9 => ?_) (fun h9 => ?_)
  · exact j23 h b N f 0 0 (Nat.zero_le _) (Nat.zero_le _) (by rw [if_neg (by omega)]) (by rw [if_neg (by omega)]) ho hb hob hbb hbo h9 hN2 (fun q e _ _ x => x)
  · refine z_aload_n d_N_copyFrom_12 13 rfl rfl rfl ?_
    refine z_aload_n d_N_copyFrom_13 14 rfl rfl rfl ?_
    refine z_get d_N_copyFrom_14 17 rfl f_N_7 ho2 rfl ?_
    refine z_alen d_N_copyFrom_17 18 rfl (t := 1) (v := nI N2) rfl hb2 rfl ?_
    refine z_newI (N := N2) d_N_copyFrom_18 20 rfl ac_int (nI_pos (by omega)) (nI_clamp (by omega)) (by rw [if_pos h9]; exact Nat.le_refl 1) (by rw [if_pos h9]; omega) (by omega) (fun q hq => ?_)
    have hoq : o ≠ q := fun e => by rw [e, hq] at ho; cases ho
    refine z_put d_N_copyFrom_20 23 rfl (p_N_7 _) ((zset_ne hoq).trans ho) rfl rfl (Nat.le_of_ble_eq_true rfl) rfl ?_; dsimp only [List.set]
    refine j23 _ q N2 _ _ _ (by rw [if_pos h9]; exact Nat.le_refl 1) (by rw [if_pos h9]; omega) (by rw [if_pos h9]) (by rw [if_pos h9]; exact hq) (zset_self _ _ _) ((zset_ne (Ne.symm hoq)).trans (zset_self _ _ _)) hoq (fun e => by rw [e, hq] at hb2; cases hb2) (fun e => by rw [e, hq] at ho2; cases ho2) hN' hN2' ?_
    intro r e r1 r2 hr
    have hrq : r ≠ q := fun e => by rw [e, hq] at hr; cases hr
    rw [zset_ne r1, zset_ne hrq]
    exact hr
end C19
