/-! The reference: the list of names. Own work. -/
def SS (L : List Nat) : Prop := L.Pairwise (· < ·)
theorem SS_lt {L : List Nat} (h : SS L) {i j : Nat} (hij : i < j) (hj : j < L.length) : L.getD i 0 < L.getD j 0 := by
  have := List.pairwise_iff_getElem.mp h i j (by omega) hj hij
  simpa [List.getD_eq_getElem?_getD, List.getElem?_eq_getElem hj, List.getElem?_eq_getElem (show i < L.length by omega)] using this
theorem getD_mem {L : List Nat} {i : Nat} (h : i < L.length) : L.getD i 0 ∈ L := by
  rw [List.getD_eq_getElem?_getD, List.getElem?_eq_getElem h]
  exact List.getElem_mem h
theorem mem_getD {L : List Nat} {x : Nat} (h : x ∈ L) : ∃ i, i < L.length ∧ L.getD i 0 = x := by
  obtain ⟨i, hi, e⟩ := List.getElem_of_mem h
  exact ⟨i, hi, by rw [List.getD_eq_getElem?_getD, List.getElem?_eq_getElem hi]; exact e⟩
/-- two rising lists of the same numbers are one -/
theorem SS_ext : ∀ {L M : List Nat}, SS L → SS M → (∀ x, x ∈ L ↔ x ∈ M) → L = M := by
  intro L
  induction L with
  | nil =>
    intro M _ _ h
    cases M with
    | nil => rfl
    | cons b t => exact absurd ((h b).2 List.mem_cons_self) List.not_mem_nil
  | cons a t ih =>
    intro M hL hM h
    cases M with
    | nil => exact absurd ((h a).1 List.mem_cons_self) List.not_mem_nil
    | cons b u =>
      have h1 := List.pairwise_cons.mp hL
      have h2 := List.pairwise_cons.mp hM
      have e : a = b := by
        rcases List.mem_cons.mp ((h a).1 List.mem_cons_self) with e | e
        · exact e
        · rcases List.mem_cons.mp ((h b).2 List.mem_cons_self) with e2 | e2
          · exact e2.symm
          · have := h1.1 b e2
            have := h2.1 a e
            omega
      subst e
      congr 1
      refine ih h1.2 h2.2 fun x => ⟨fun hx => ?_, fun hx => ?_⟩
      · rcases List.mem_cons.mp ((h x).1 (List.mem_cons_of_mem _ hx)) with e | e
        · have := h1.1 x hx
          omega
        · exact e
      · rcases List.mem_cons.mp ((h x).2 (List.mem_cons_of_mem _ hx)) with e | e
        · have := h2.1 x hx
          omega
        · exact e
/-- a rising list within another is no longer -/
theorem SS_len : ∀ {L U : List Nat}, SS L → (∀ x, x ∈ L → x ∈ U) → L.length ≤ U.length := by
  intro L
  induction L with
  | nil => intro U _ _; simp
  | cons a t ih =>
    intro U hL h
    have h1 := List.pairwise_cons.mp hL
    have ha := h a List.mem_cons_self
    have := ih (U := U.erase a) h1.2 (fun x hx => by
      have hx2 := h1.1 x hx
      exact (List.mem_erase_of_ne (by omega)).2 (h x (List.mem_cons_of_mem _ hx)))
    rw [List.length_erase_of_mem ha] at this
    have hpos : 0 < U.length := List.length_pos_of_mem ha
    simp
    omega
theorem SS_ins {L : List Nat} {n k : Nat} (hS : SS L) (hk : k ≤ L.length) (h1 : ∀ i, i < k → L.getD i 0 < n) (h2 : ∀ i, k ≤ i → i < L.length → n < L.getD i 0) : SS (L.take k ++ n :: L.drop k) ∧ (∀ x, x ∈ L.take k ++ n :: L.drop k ↔ x = n ∨ x ∈ L) ∧ (L.take k ++ n :: L.drop k).length = L.length + 1 ∧ ∀ i, i < L.length + 1 → (L.take k ++ n :: L.drop k).getD i 0 = if i < k then L.getD i 0 else if i = k then n else L.getD (i - 1) 0 := by
  have hm : ∀ x, x ∈ L ↔ x ∈ L.take k ∨ x ∈ L.drop k := fun x => by rw [← List.mem_append, List.take_append_drop]
  have ht : ∀ a, a ∈ L.take k → a < n := by
    intro a ha
    obtain ⟨i, hi, e⟩ := mem_getD ha
    have hik : i < k := by simp at hi; omega
    rw [← e]
    have := h1 i hik
    simpa [List.getElem?_take, hik] using this
  have hd : ∀ a, a ∈ L.drop k → n < a := by
    intro a ha
    obtain ⟨i, hi, e⟩ := mem_getD ha
    simp at hi
    rw [← e]
    have := h2 (k + i) (by omega) (by omega)
    simpa using this
  refine ⟨?_, fun x => ?_, by simp; omega, fun i hi => ?_⟩
  · refine List.pairwise_append.mpr ⟨List.Pairwise.sublist (List.take_sublist _ _) hS, List.pairwise_cons.mpr ⟨hd, List.Pairwise.sublist (List.drop_sublist _ _) hS⟩, fun a ha b hb => ?_⟩
    rcases List.mem_cons.mp hb with rfl | hb
    · exact ht a ha
    · exact Nat.lt_trans (ht a ha) (hd b hb)
  · rw [List.mem_append, List.mem_cons, hm]
    constructor
    · rintro (h | h | h)
      · exact Or.inr (Or.inl h)
      · exact Or.inl h
      · exact Or.inr (Or.inr h)
    · rintro (h | h | h)
      · exact Or.inr (Or.inl h)
      · exact Or.inl h
      · exact Or.inr (Or.inr h)
  · have hlt : (L.take k).length = k := by simp; omega
    by_cases hik : i < k
    · rw [if_pos hik, List.getD_eq_getElem?_getD, List.getElem?_append_left (by omega), List.getElem?_take, if_pos hik]
      rfl
    · rw [if_neg hik, List.getD_eq_getElem?_getD, List.getElem?_append_right (by omega), hlt]
      by_cases he : i = k
      · subst he
        simp
      · rw [if_neg he]
        obtain ⟨q, hq⟩ : ∃ q, i - k = q + 1 := ⟨i - k - 1, by omega⟩
        rw [hq, List.getElem?_cons_succ, List.getElem?_drop, show k + q = i - 1 by omega]
        rfl
def listP (va : Nat → Nat → Int32) (f : Nat → Int32) (L : List Nat) : Prop := f 9 = nI L.length ∧ L.length ≤ 900 ∧ SS L ∧ ∀ i, i < L.length → va 8 i = nI (L.getD i 0) ∧ L.getD i 0 < 16777216
section M12
variable {l : Launch} {D : zD} {hp : zH} {o : Nat} {va : Nat → Nat → Int32} {vf : Nat → Int32} {Q : Option Value → zH → Prop}
theorem c_m_enlist (n : Nat) {L : List Nat} (hn : n < 16777216) (hL : listP va vf L) (hlen : L.length < 900)
    (hQ : ∀ (va' : Nat → Nat → Int32) (f : Nat → Int32) (L' : List Nat), (∀ j, j ≠ 8 → va' j = va j) → (∀ j, j ≠ 9 → f j = vf j) → (∀ x, x ∈ L' ↔ x = n ∨ x ∈ L) → listP va' f L' → Q none (zmod D o hp va' f)) :
    Runs l D M_m_enlist [.ref o, .int (nI n)] (zmod D o hp va vf) 0 0 Q := by
  refine Runs.of rfl rfl (Nat.le_of_ble_eq_true rfl) ?_
  obtain ⟨h9, h900, hS, hA⟩ := hL
  -- the place is found
  have put : ∀ k, k ≤ L.length → (∀ i, i < k → L.getD i 0 < n) → (∀ i, k ≤ i → i < L.length → n < L.getD i 0) → Z l D M_m_enlist 0 0 Q (zmod D o hp va vf) 0 0 44 [some (.ref o), some (.int (nI n)), some (.int (nI k)), none] [] := by
    intro k hk h1 h2
    obtain ⟨s1, s2, s3, s4⟩ := SS_ins hS hk h1 h2
    refine z_aload_n d_m_enlist_44 45 rfl rfl rfl ?_
    refine zm_getF 9 d_m_enlist_45 48 rfl f_m_136 rfl ?_; try simp only [pk_us, pk_un, ne_eq, Nat.reduceEqDiff, not_false_eq_true]
    rw [h9]
    refine z_ist3 d_m_enlist_48 49 rfl rfl ?_
    have loop : ∀ (c j : Nat) (x : Nat → Nat → Int32), j = k + c → j ≤ L.length → (∀ q, q ≠ 8 → x q = va q) → (∀ i, i ≤ j → i < L.length → x 8 i = va 8 i) → (∀ i, j < i → i ≤ L.length → x 8 i = va 8 (i - 1)) → Z l D M_m_enlist 0 0 Q (zmod D o hp x vf) 0 0 49 [some (.ref o), some (.int (nI n)), some (.int (nI k)), some (.int (nI j))] [] := by
      intro c
      induction c with
      | zero =>
        intro j x hj hjl hx h3 h4
        refine z_iload_n d_m_enlist_49 50 rfl rfl rfl ?_
        refine z_iload_n d_m_enlist_50 51 rfl rfl rfl ?_
        refine z_icmp_leN (tgt := 74) d_m_enlist_51 54 rfl rfl (by omega) (by omega) (fun h51 => ?_) (fun h51 => ?_)
        · refine z_aload_n d_m_enlist_74 75 rfl rfl rfl ?_
          refine zm_getA 8 d_m_enlist_75 78 rfl f_m_35 rfl ?_
          refine z_iload_n d_m_enlist_78 79 rfl rfl rfl ?_
          refine z_iload_n d_m_enlist_79 80 rfl rfl rfl ?_
          refine zm_iast d_m_enlist_80 81 rfl (by decide) rfl (by simp only [zln]; omega) ?_
          refine z_aload_n d_m_enlist_81 82 rfl rfl rfl ?_
          refine z_dup d_m_enlist_82 83 rfl rfl ?_
          refine zm_getF 9 d_m_enlist_83 86 rfl f_m_136 rfl ?_; try simp only [pk_us, pk_un, ne_eq, Nat.reduceEqDiff, not_false_eq_true]
          rw [h9]
          refine z_iconst (v := nI 1) d_m_enlist_86 87 rfl rfl ?_
          first | refine z_iaddN d_m_enlist_87 88 rfl ?_ | refine z_iadd d_m_enlist_87 88 rfl ?_
          refine zm_putF 9 d_m_enlist_88 91 rfl (p_m_136 _) (by decide) (by decide) ?_
          have := hQ (va_up x 8 (upd (x 8) k (nI n))) (upd vf 9 (nI (L.length + 1))) _ (fun j hj => by simp only [va_up]; rw [if_neg hj]; exact hx j hj) (fun j hj => pk_un hj) s2 ⟨by rw [pk_us, s3], by omega, s1, fun i hi => by
            rw [s3] at hi
            rw [s4 i hi]
            show upd (x 8) k (nI n) i = _ ∧ _
            by_cases e1 : i < k
            · rw [if_pos e1, pk_un (by omega), h3 i (by omega) (by omega)]
              exact hA i (by omega)
            · rw [if_neg e1]
              by_cases e2 : i = k
              · rw [if_pos e2, e2, pk_us]
                exact ⟨rfl, hn⟩
              · rw [if_neg e2, pk_un e2, h4 i (by omega) (by omega)]
                exact hA (i - 1) (by omega)⟩
          exact z_vret d_m_enlist_91 rfl (Nat.le_refl 0) (Nat.le_refl 0) this
        · omega
      | succ c ih =>
        intro j x hj hjl hx h3 h4
        refine z_iload_n d_m_enlist_49 50 rfl rfl rfl ?_
        refine z_iload_n d_m_enlist_50 51 rfl rfl rfl ?_
        refine z_icmp_leN (tgt := 74) d_m_enlist_51 54 rfl rfl (by omega) (by omega) (fun h51 => ?_) (fun h51 => ?_)
        · omega
        · refine z_aload_n d_m_enlist_54 55 rfl rfl rfl ?_
          refine zm_getA 8 d_m_enlist_55 58 rfl f_m_35 rfl ?_
          refine z_iload_n d_m_enlist_58 59 rfl rfl rfl ?_
          refine z_aload_n d_m_enlist_59 60 rfl rfl rfl ?_
          refine zm_getA 8 d_m_enlist_60 63 rfl f_m_35 rfl ?_
          refine z_iload_n d_m_enlist_63 64 rfl rfl rfl ?_
          refine z_iconst (v := nI 1) d_m_enlist_64 65 rfl rfl ?_
          refine z_isubN d_m_enlist_65 66 rfl (by omega) ?_
          refine zm_iald d_m_enlist_66 67 rfl (by decide) rfl (by simp only [zln]; omega) ?_
          rw [h3 (j - 1) (by omega) (by omega)]
          refine zm_iast d_m_enlist_67 68 rfl (by decide) rfl (by simp only [zln]; omega) ?_
          obtain ⟨q, rfl⟩ : ∃ q, j = q + 1 := ⟨j - 1, by omega⟩
          refine z_inc3 d_m_enlist_68 71 rfl (show nI (q + 1) + Int32.ofInt (-1) = nI q from pk_m1 q) rfl ?_
          refine z_goto (tgt := 49) d_m_enlist_71 rfl ?_
          refine ih q _ (by omega) (by omega) (fun j hj => by simp only [va_up]; rw [if_neg hj]; exact hx j hj) (fun i hi1 hi2 => ?_) (fun i hi1 hi2 => ?_)
          · show upd (x 8) (q + 1) _ i = _
            rw [pk_un (by omega)]
            exact h3 i (by omega) hi2
          · show upd (x 8) (q + 1) _ i = _
            by_cases e : i = q + 1
            · subst e
              rw [pk_us]
            · rw [pk_un e]
              exact h4 i (by omega) hi2
    exact loop (L.length - k) L.length va (by omega) (Nat.le_refl _) (fun _ _ => rfl) (fun _ _ _ => rfl) (fun i h5 h6 => by omega)
  have loop1 : ∀ k, k ≤ L.length → (∀ i, k ≤ i → i < L.length → n < L.getD i 0) → Z l D M_m_enlist 0 0 Q (zmod D o hp va vf) 0 0 5 [some (.ref o), some (.int (nI n)), some (.int (nI k)), none] [] := by
    intro k
    induction k with
    | zero =>
      intro hk h2
      refine z_iload_n d_m_enlist_5 6 rfl rfl rfl ?_
      refine z_if_leN (tgt := 27) d_m_enlist_6 9 rfl rfl (by omega) (fun h6 => ?_) (fun h6 => ?_)
      · refine z_iload_n d_m_enlist_27 28 rfl rfl rfl ?_
        refine z_if_leN (tgt := 44) d_m_enlist_28 31 rfl rfl (by omega) (fun h28 => ?_) (fun h28 => ?_)
        · exact put 0 hk (fun i hi => by omega) h2
        · omega
      · omega
    | succ k ih =>
      intro hk h2
      have hAk := hA k (by omega)
      refine z_iload_n d_m_enlist_5 6 rfl rfl rfl ?_
      refine z_if_leN (tgt := 27) d_m_enlist_6 9 rfl rfl (by omega) (fun h6 => ?_) (fun h6 => ?_)
      · omega
      · refine z_aload_n d_m_enlist_9 10 rfl rfl rfl ?_
        refine zm_getA 8 d_m_enlist_10 13 rfl f_m_35 rfl ?_
        refine z_iload_n d_m_enlist_13 14 rfl rfl rfl ?_
        refine z_iconst (v := nI 1) d_m_enlist_14 15 rfl rfl ?_
        refine z_isubN d_m_enlist_15 16 rfl (by omega) ?_
        refine zm_iald d_m_enlist_16 17 rfl (by decide) rfl (by simp only [zln]; omega) ?_
        rw [show k + 1 - 1 = k by omega, hAk.1]
        refine z_iload_n d_m_enlist_17 18 rfl rfl rfl ?_
        refine z_icmp_leN (tgt := 27) d_m_enlist_18 21 rfl rfl (by omega) (by omega) (fun h18 => ?_) (fun h18 => ?_)
        · refine z_iload_n d_m_enlist_27 28 rfl rfl rfl ?_
          refine z_if_leN (tgt := 44) d_m_enlist_28 31 rfl rfl (by omega) (fun h28 => ?_) (fun h28 => ?_)
          · omega
          · refine z_aload_n d_m_enlist_31 32 rfl rfl rfl ?_
            refine zm_getA 8 d_m_enlist_32 35 rfl f_m_35 rfl ?_
            refine z_iload_n d_m_enlist_35 36 rfl rfl rfl ?_
            refine z_iconst (v := nI 1) d_m_enlist_36 37 rfl rfl ?_
            refine z_isubN d_m_enlist_37 38 rfl (by omega) ?_
            refine zm_iald d_m_enlist_38 39 rfl (by decide) rfl (by simp only [zln]; omega) ?_
            rw [show k + 1 - 1 = k by omega, hAk.1]
            refine z_iload_n d_m_enlist_39 40 rfl rfl rfl ?_
            refine z_icmp_neN (tgt := 44) d_m_enlist_40 43 rfl rfl (by omega) (by omega) (fun h40 => ?_) (fun h40 => ?_)
            · refine put (k + 1) hk (fun i hi => ?_) h2
              by_cases e : i = k
              · subst e; omega
              · have := SS_lt hS (i := i) (j := k) (by omega) (by omega)
                omega
            · have := hQ va vf L (fun _ _ => rfl) (fun _ _ => rfl) (fun x => ⟨Or.inr, fun h => h.elim (fun e => by rw [e, ← h40]; exact getD_mem (by omega)) id⟩) ⟨h9, h900, hS, hA⟩
              exact z_vret d_m_enlist_43 rfl (Nat.le_refl 0) (Nat.le_refl 0) this
        · refine z_inc2 d_m_enlist_21 24 rfl (show nI (k + 1) + Int32.ofInt (-1) = nI k from pk_m1 k) rfl ?_
          refine z_goto (tgt := 5) d_m_enlist_24 rfl ?_
          refine ih (by omega) (fun i hi1 hi2 => ?_)
          by_cases e : i = k
          · subst e; exact h18
          · exact h2 i (by omega) hi2
  refine z_aload_n d_m_enlist_0 1 rfl rfl rfl ?_
  refine zm_getF 9 d_m_enlist_1 4 rfl f_m_136 rfl ?_; try simp only [pk_us, pk_un, ne_eq, Nat.reduceEqDiff, not_false_eq_true]
  rw [h9]
  refine z_ist2 d_m_enlist_4 5 rfl rfl ?_
  exact loop1 L.length (Nat.le_refl _) (fun i h1 h2 => by omega)
end M12
