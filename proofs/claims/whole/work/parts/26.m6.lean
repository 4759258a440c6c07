/-! Rows: ints held against 0, diamonds. The reference: repositories, find, times. Own work. -/
section ZB2
variable {l : Launch} {D : zD} {M : zM} {mc ms : Nat} {Q : Option Value → zH → Prop} {hp : zH} {cu su pc : Nat} {lv : List (Option Value)} {rest : List Value}
theorem nI_z {a : Nat} (h : a < 2 ^ 31) : nI a = 0 ↔ a = 0 := nI_eq (b := 0) h (by decide)
theorem z_if_eqN {a : Nat} {off : Int} {tgt : Nat} (hd : decode M.2.1 pc = .ok (.ifCond .eq off, 3)) (pc' : Nat) (he : pc + 3 = pc') (ht : (pc : Int) + off = (tgt : Int)) (hb : a < 2 ^ 31) (kt : a = 0 → Z l D M mc ms Q hp cu su tgt lv rest) (kf : a ≠ 0 → Z l D M mc ms Q hp cu su pc' lv rest) : Z l D M mc ms Q hp cu su pc lv (.int (nI a) :: rest) :=
  z_if_eq hd pc' he ht (fun h => kt ((nI_z hb).1 h)) (fun h => kf (fun e => h ((nI_z hb).2 e)))
theorem z_if_neN {a : Nat} {off : Int} {tgt : Nat} (hd : decode M.2.1 pc = .ok (.ifCond .ne off, 3)) (pc' : Nat) (he : pc + 3 = pc') (ht : (pc : Int) + off = (tgt : Int)) (hb : a < 2 ^ 31) (kt : a ≠ 0 → Z l D M mc ms Q hp cu su tgt lv rest) (kf : a = 0 → Z l D M mc ms Q hp cu su pc' lv rest) : Z l D M mc ms Q hp cu su pc lv (.int (nI a) :: rest) :=
  z_if_ne hd pc' he ht (fun h => kt (fun e => h ((nI_z hb).2 e))) (fun h => kf ((nI_z hb).1 h))
theorem z_if_leN {a : Nat} {off : Int} {tgt : Nat} (hd : decode M.2.1 pc = .ok (.ifCond .le off, 3)) (pc' : Nat) (he : pc + 3 = pc') (ht : (pc : Int) + off = (tgt : Int)) (hb : a < 2 ^ 31) (kt : a = 0 → Z l D M mc ms Q hp cu su tgt lv rest) (kf : a ≠ 0 → Z l D M mc ms Q hp cu su pc' lv rest) : Z l D M mc ms Q hp cu su pc lv (.int (nI a) :: rest) :=
  z_if_le hd pc' he ht (fun h => kt (Nat.le_zero.mp ((nI_leI (b := 0) hb (by decide)).1 h))) (fun h => kf (fun e => h (by subst e; exact (nI_leI (a := 0) (b := 0) (by decide) (by decide)).2 (Nat.le_refl 0))))
theorem z_if_gtN {a : Nat} {off : Int} {tgt : Nat} (hd : decode M.2.1 pc = .ok (.ifCond .gt off, 3)) (pc' : Nat) (he : pc + 3 = pc') (ht : (pc : Int) + off = (tgt : Int)) (hb : a < 2 ^ 31) (kt : a ≠ 0 → Z l D M mc ms Q hp cu su tgt lv rest) (kf : a = 0 → Z l D M mc ms Q hp cu su pc' lv rest) : Z l D M mc ms Q hp cu su pc lv (.int (nI a) :: rest) :=
  z_if_gt hd pc' he ht (fun h => kt (fun e => by subst e; exact absurd h (by decide))) (fun h => kf (Nat.le_zero.mp (Nat.le_of_not_lt fun q => h ((nI_ltI (a := 0) (by decide) hb).2 q))))
theorem z_dia_ne {a b : Nat} {off off2 : Int} {pc1 pc2 tgt : Nat} (hd : decode M.2.1 pc = .ok (.if_icmp .ne off, 3)) (d1 : decode M.2.1 pc1 = .ok (.iconst 1, 1)) (d2 : decode M.2.1 pc2 = .ok (.goto off2, 3)) (d3 : decode M.2.1 tgt = .ok (.iconst 0, 1)) (pcE : Nat) (e1 : pc + 3 = pc1) (e2 : pc1 + 1 = pc2) (ht : (pc : Int) + off = (tgt : Int)) (hg : (pc2 : Int) + off2 = (pcE : Int)) (e3 : tgt + 1 = pcE) (ha : a < 2 ^ 31) (hb : b < 2 ^ 31)
    (k : Z l D M mc ms Q hp cu su pcE lv (.int (nI (if a = b then 1 else 0)) :: rest)) : Z l D M mc ms Q hp cu su pc lv (.int (nI b) :: .int (nI a) :: rest) := by
  refine z_icmp_neN hd pc1 e1 ht ha hb (fun h => ?_) (fun h => ?_)
  · rw [if_neg h] at k
    exact z_iconst (v := nI 0) d3 pcE e3 rfl k
  · rw [if_pos h] at k
    exact z_iconst (v := nI 1) d1 pc2 e2 rfl (z_goto d2 hg k)
end ZB2
def isRp (r : Int32) : Bool := decide (r = nI 0) || decide (r = nI 1)
/-- what a slot holds: the bytes and their number -/
def slotP (va : Nat → Nat → Int32) (s : Nat) (bs : List Nat) : Prop := zrow va s bs ∧ va 1 s = nI bs.length ∧ bs.length ≤ 240
/-- what a repository holds, in the order of its slots -/
def repP (va : Nat → Nat → Int32) (r : Nat) (As : List (List Nat)) : Prop := As.length ≤ 32 ∧ va 3 r = nI As.length ∧ ∀ i, i < As.length → slotP va (32 * r + i) (As.getD i []) ∧ va 2 (32 * r + i) = nI (dg 7 (As.getD i []))
def fnd (nm : Int32) : List (List Nat) → Nat → Option Nat
  | [], _ => none
  | a :: t, i => if nI (dg 7 a) = nm then some i else fnd nm t (i + 1)
theorem drop_cons {As : List (List Nat)} {j : Nat} (h : j < As.length) : As.drop j = As.getD j [] :: As.drop (j + 1) := by
  rw [List.drop_eq_getElem_cons h, List.getD_eq_getElem?_getD, List.getElem?_eq_getElem h]
  rfl
theorem dg7 (bs : List Nat) : dg 7 bs < 16777213 := dg_lt (by decide) bs
section M6
variable {l : Launch} {D : zD} {hp : zH} {o : Nat} {va : Nat → Nat → Int32} {vf : Nat → Int32} {Q : Option Value → zH → Prop}
theorem c_m_isRepository (r : Int32) (hQ : Q (some (.int (zb (isRp r)))) hp) : Runs l D M_m_isRepository [.int r] hp 0 0 Q := by
  refine Runs.of rfl rfl (Nat.le_of_ble_eq_true rfl) ?_
  refine z_iload_n d_m_isRepository_0 1 rfl rfl rfl ?_
  refine z_if_eq (tgt := 9) d_m_isRepository_1 4 rfl rfl (fun h1 => ?_) (fun h1 => ?_)
  · refine z_iconst (v := nI 1) d_m_isRepository_9 10 rfl rfl ?_
    refine z_goto (tgt := 14) d_m_isRepository_10 rfl ?_
    exact z_zretB (b := true) d_m_isRepository_14 rfl (Nat.le_refl 0) (Nat.le_refl 0) (by rw [show isRp r = true by first | (rw [isRp, show r = nI 0 from h1]; rfl) | (rw [isRp, show r = nI 1 from h6]; rfl) | (have a : ¬ r = nI 0 := h1; have b : ¬ r = nI 1 := h6; simp [isRp, a, b])] at hQ; exact hQ)
  · refine z_iload_n d_m_isRepository_4 5 rfl rfl rfl ?_
    refine z_iconst (v := nI 1) d_m_isRepository_5 6 rfl rfl ?_
    refine z_icmp_ne (tgt := 13) d_m_isRepository_6 9 rfl rfl (fun h6 => ?_) (fun h6 => ?_)
    · refine z_iconst (v := nI 0) d_m_isRepository_13 14 rfl rfl ?_
      exact z_zretB (b := false) d_m_isRepository_14 rfl (Nat.le_refl 0) (Nat.le_refl 0) (by rw [show isRp r = false by first | (rw [isRp, show r = nI 0 from h1]; rfl) | (rw [isRp, show r = nI 1 from h6]; rfl) | (have a : ¬ r = nI 0 := h1; have b : ¬ r = nI 1 := h6; simp [isRp, a, b])] at hQ; exact hQ)
    · refine z_iconst (v := nI 1) d_m_isRepository_9 10 rfl rfl ?_
      refine z_goto (tgt := 14) d_m_isRepository_10 rfl ?_
      exact z_zretB (b := true) d_m_isRepository_14 rfl (Nat.le_refl 0) (Nat.le_refl 0) (by rw [show isRp r = true by first | (rw [isRp, show r = nI 0 from h1]; rfl) | (rw [isRp, show r = nI 1 from h6]; rfl) | (have a : ¬ r = nI 0 := h1; have b : ¬ r = nI 1 := h6; simp [isRp, a, b])] at hQ; exact hQ)
theorem c_m_find (r : Nat) (nm : Int32) {As : List (List Nat)} (hr2 : r < 2) (hR : repP va r As) (hQ : Q (some (.int (oI (fnd nm As (32 * r))))) (zmod D o hp va vf)) : Runs l D M_m_find [.ref o, .int (nI r), .int nm] (zmod D o hp va vf) 0 0 Q := by
  refine Runs.of rfl rfl (Nat.le_of_ble_eq_true rfl) ?_
  obtain ⟨h32, hmany, hslot⟩ := hR
  refine z_bipush (v := nI 32) d_m_find_0 2 rfl rfl ?_
  refine z_iload_n d_m_find_2 3 rfl rfl rfl ?_
  first | refine z_imulN d_m_find_3 4 rfl ?_ | refine z_imul d_m_find_3 4 rfl ?_
  refine z_ist3 d_m_find_4 5 rfl rfl ?_
  have loop : ∀ (c j : Nat), j + c = As.length → fnd nm (As.drop j) (32 * r + j) = fnd nm As (32 * r) → Z l D M_m_find 0 0 Q (zmod D o hp va vf) 0 0 5 [some (.ref o), some (.int (nI r)), some (.int nm), some (.int (nI (32 * r + j)))] [] := by
    intro c
    induction c with
    | zero =>
      intro j hj hf
      refine z_iload_n d_m_find_5 6 rfl rfl rfl ?_
      refine z_bipush (v := nI 32) d_m_find_6 8 rfl rfl ?_
      refine z_iload_n d_m_find_8 9 rfl rfl rfl ?_
      first | refine z_imulN d_m_find_9 10 rfl ?_ | refine z_imul d_m_find_9 10 rfl ?_
      refine z_aload_n d_m_find_10 11 rfl rfl rfl ?_
      refine zm_getA 3 d_m_find_11 14 rfl f_m_20 rfl ?_
      refine z_iload_n d_m_find_14 15 rfl rfl rfl ?_
      refine zm_iald d_m_find_15 16 rfl (by decide) rfl (by simp only [zln]; omega) ?_
      rw [hmany]
      first | refine z_iaddN d_m_find_16 17 rfl ?_ | refine z_iadd d_m_find_16 17 rfl ?_
      refine z_icmp_geN (tgt := 38) d_m_find_17 20 rfl rfl (by omega) (by omega) (fun h17 => ?_) (fun h17 => ?_)
      · rw [List.drop_eq_nil_of_le (by omega)] at hf
        rw [← hf] at hQ
        refine z_iconst (v := oI none) d_m_find_38 39 rfl (by decide) ?_
        exact z_iret d_m_find_39 rfl (Nat.le_refl 0) (Nat.le_refl 0) hQ
      · omega
    | succ c ih =>
      intro j hj hf
      refine z_iload_n d_m_find_5 6 rfl rfl rfl ?_
      refine z_bipush (v := nI 32) d_m_find_6 8 rfl rfl ?_
      refine z_iload_n d_m_find_8 9 rfl rfl rfl ?_
      first | refine z_imulN d_m_find_9 10 rfl ?_ | refine z_imul d_m_find_9 10 rfl ?_
      refine z_aload_n d_m_find_10 11 rfl rfl rfl ?_
      refine zm_getA 3 d_m_find_11 14 rfl f_m_20 rfl ?_
      refine z_iload_n d_m_find_14 15 rfl rfl rfl ?_
      refine zm_iald d_m_find_15 16 rfl (by decide) rfl (by simp only [zln]; omega) ?_
      rw [hmany]
      first | refine z_iaddN d_m_find_16 17 rfl ?_ | refine z_iadd d_m_find_16 17 rfl ?_
      refine z_icmp_geN (tgt := 38) d_m_find_17 20 rfl rfl (by omega) (by omega) (fun h17 => ?_) (fun h17 => ?_)
      · omega
      · rw [drop_cons (by omega), fnd] at hf
        refine z_aload_n d_m_find_20 21 rfl rfl rfl ?_
        refine zm_getA 2 d_m_find_21 24 rfl f_m_17 rfl ?_
        refine z_iload_n d_m_find_24 25 rfl rfl rfl ?_
        refine zm_iald d_m_find_25 26 rfl (by decide) rfl (by simp only [zln]; omega) ?_
        rw [(hslot j (by omega)).2]
        refine z_iload_n d_m_find_26 27 rfl rfl rfl ?_
        refine z_icmp_ne (tgt := 32) d_m_find_27 30 rfl rfl (fun h27 => ?_) (fun h27 => ?_)
        · rw [if_neg h27] at hf
          first | refine z_incN3 d_m_find_32 35 rfl rfl ?_ | refine z_inc3 d_m_find_32 35 rfl rfl rfl ?_
          refine z_goto (tgt := 5) d_m_find_35 rfl ?_
          exact ih (j + 1) (by omega) hf
        · rw [if_pos h27] at hf
          rw [← hf] at hQ
          refine z_iload_n d_m_find_30 31 rfl rfl rfl ?_
          exact z_iret d_m_find_31 rfl (Nat.le_refl 0) (Nat.le_refl 0) hQ
  exact loop As.length 0 (by omega) rfl
theorem c_m_timeOf (s : Nat) {bs : List Nat} (hr : slotP va s bs) (hs : s < 66)
    (hQ : ∀ f : Nat → Int32, f 9 = vf 9 → rdP (rdl bs 0) f → Q (some (.int (f 16))) (zmod D o hp va f)) : Runs l D M_m_timeOf [.ref o, .int (nI s)] (zmod D o hp va vf) 0 0 Q := by
  refine Runs.of rfl rfl (Nat.le_of_ble_eq_true rfl) ?_
  refine z_aload_n d_m_timeOf_0 1 rfl rfl rfl ?_
  refine z_iload_n d_m_timeOf_1 2 rfl rfl rfl ?_
  refine z_iconst (v := nI 0) d_m_timeOf_2 3 rfl rfl ?_
  refine zm_cV (fun v a f => (∃ x, v = .int x) ∧ a = va ∧ f 9 = vf 9 ∧ rdP (rdl bs 0) f) d_m_timeOf_3 6 rfl mv_m_readLine kl_m_90 (by decide) (fun Q' h => c_m_readLine s 0 hr.1 hr.2.1 (Nat.zero_le _) hs hr.2.2 (fun f h1 h2 => h _ _ _ ⟨⟨_, rfl⟩, rfl, h1, h2⟩)) rfl rfl (Nat.le_of_ble_eq_true rfl) ?_; rintro _ _ f ⟨⟨x, rfl⟩, rfl, i1, i2⟩
  refine z_pop d_m_timeOf_6 7 rfl rfl ?_
  refine z_aload_n d_m_timeOf_7 8 rfl rfl rfl ?_
  refine zm_getF 16 d_m_timeOf_8 11 rfl f_m_83 rfl ?_
  exact z_iret d_m_timeOf_11 rfl (Nat.le_refl 0) (Nat.le_refl 0) (hQ f i1 i2)
end M6
