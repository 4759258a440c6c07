/-! The class: places in rising lists; loose artifacts; digests of files. Own work. -/
/-- rising names -/
def risL (ns : List Nat) : Prop := ns.Pairwise (· < ·) ∧ ∀ n, n ∈ ns → n < 16777216
theorem getD_memN {ns : List Nat} {i : Nat} (h : i < ns.length) : ns.getD i 0 ∈ ns := by
  rw [List.getD_eq_getElem?_getD, List.getElem?_eq_getElem h]
  exact List.getElem_mem h
theorem plT_ex (x : Int32) : ∀ {ns : List Nat}, risL ns → ∃ T, plT x ns T
  | [], _ => ⟨0, Nat.le_refl 0, fun i hi => absurd hi (Nat.not_lt_zero i)⟩
  | a :: t, ⟨h1, h2⟩ => by
    obtain ⟨h3, h4⟩ := List.pairwise_cons.mp h1
    obtain ⟨T, t1, t2⟩ := plT_ex x (ns := t) ⟨h4, fun n hn => h2 n (List.mem_cons_of_mem _ hn)⟩
    by_cases h : nI a < x
    · refine ⟨T + 1, by simp only [List.length_cons]; omega, fun i hi => ?_⟩
      cases i with
      | zero => exact ⟨fun _ => Nat.succ_pos T, fun _ => h⟩
      | succ i =>
        have := t2 i (by simp only [List.length_cons] at hi; omega)
        rw [List.getD_cons_succ, this]
        omega
    · refine ⟨0, Nat.zero_le _, fun i hi => ⟨fun hlt => absurd ?_ h, fun hlt => absurd hlt (Nat.not_lt_zero i)⟩⟩
      cases i with
      | zero => exact hlt
      | succ i =>
        rw [List.getD_cons_succ] at hlt
        have hm := getD_memN (ns := t) (i := i) (by simp only [List.length_cons] at hi; omega)
        have := h3 _ hm
        have := h2 _ (List.mem_cons_of_mem _ hm)
        exact Int32.lt_trans (nI_lt (h3 _ hm) (by omega)) hlt
theorem plT_mem {v T : Nat} {ns : List Nat} (hr : risL ns) (hv : v < 16777216) (hT : plT (nI v) ns T) : (T < ns.length ∧ nI (ns.getD T 0) = nI v) ↔ v ∈ ns := by
  constructor
  · rintro ⟨h1, h2⟩
    have hm := getD_memN h1
    have hb := hr.2 _ hm
    have e : ns.getD T 0 = v := by
      have := congrArg Int32.toNatClampNeg h2
      rw [nI_clamp (by omega), nI_clamp (by omega)] at this
      exact this
    rw [← e]
    exact hm
  · intro hm
    obtain ⟨i, hi, e⟩ := List.getElem_of_mem hm
    have e0 : ns.getD i 0 = v := by rw [List.getD_eq_getElem?_getD, List.getElem?_eq_getElem hi]; exact e
    have hni : ¬ i < T := fun q => by
      have := (hT.2 i hi).2 q
      rw [e0] at this
      exact absurd this (nI_nlt (Nat.le_refl v) (by omega))
    have hTi : T = i := by
      rcases Nat.lt_or_ge T i with q | q
      · have hTl : T < ns.length := by omega
        have hlt : ns[T] < ns[i] := List.pairwise_iff_getElem.mp hr.1 T i hTl hi q
        have e1 : ns.getD T 0 = ns[T] := by rw [List.getD_eq_getElem?_getD, List.getElem?_eq_getElem hTl]; rfl
        have := (hT.2 T hTl).1 (by rw [e1]; exact nI_lt (by omega) (by omega))
        omega
      · omega
    subst hTi
    exact ⟨hi, by rw [e0]⟩
def losC (ns : List Nat) : List (Nat × List Nat) → Nat
  | [] => 0
  | a :: t => (if dg 7 a.2 ∈ ns then 0 else 1) + losC ns t
section C23
variable {l : Launch} {G : Nat → Prop} {D : zD} {M : zM} {h : zH} {o a b c bc Nc : Nat} {f : Nat → Option Nat} {fc : Nat → Int32} {ns : List Nat} {bs : List Nat} {L : List (Nat × List Nat)} {Q : Option Value → zH → Prop} {v0 v1 v2 v3 v4 v5 : Value}
theorem c_G_isLoose (ho : h o = some (.inr (3, [v0, v1, v2, v3, .ref c, v5]))) (hc : nsP D h c bc Nc fc ns) (hr : risL ns) (ha : arG G D h a bs) (hQ : Q (some (.int (zb (decide (¬ dg 7 bs ∈ ns))))) h) : Runs l D M_G_isLoose [.ref o, .ref a] h 0 0 Q := by
  refine Runs.of rfl rfl (Nat.le_of_ble_eq_true rfl) ?_
  obtain ⟨b1, p1, f1, -, haO, -⟩ := ha
  obtain ⟨T, hT⟩ := plT_ex (nI (dg 7 bs)) hr
  have hd := dg_lt (d := 7) (by decide) bs
  have hm := plT_mem hr (by omega) hT
  refine z_aload_n d_G_isLoose_0 1 rfl rfl rfl ?_
  refine z_get d_G_isLoose_1 4 rfl f_G_35 ho rfl ?_
  refine z_aload_n d_G_isLoose_4 5 rfl rfl rfl ?_
  refine z_get d_G_isLoose_5 8 rfl f_G_45 haO rfl ?_
  refine z_cV1 d_G_isLoose_8 11 rfl mv_N_contains kl_G_121 (by decide) 0 0 rfl rfl (Nat.zero_le _) (Nat.zero_le _) hc.1 (fun Q' q => c_N_contains (nI (dg 7 bs)) hc hT q) rfl rfl (Nat.le_of_ble_eq_true rfl) ?_
  refine z_if_neB (tgt := 18) d_G_isLoose_11 14 rfl rfl (fun h11 => ?_) (fun h11 => ?_)
  · refine z_iconst (v := nI 0) d_G_isLoose_18 19 rfl rfl ?_
    exact z_zretB (b := false) d_G_isLoose_19 rfl (Nat.zero_le _) (Nat.zero_le _) (by rw [decide_eq_false (fun e => e (hm.1 (of_decide_eq_true h11)))] at hQ; exact hQ)
  · refine z_iconst (v := nI 1) d_G_isLoose_14 15 rfl rfl ?_
    refine z_goto (tgt := 19) d_G_isLoose_15 rfl ?_
    exact z_zretB (b := true) d_G_isLoose_19 rfl (Nat.zero_le _) (Nat.zero_le _) (by rw [decide_eq_true (show ¬ dg 7 bs ∈ ns from fun e => of_decide_eq_false h11 (hm.2 e))] at hQ; exact hQ)
theorem c_G_countLoose (ho : h o = some (.inr (3, [.ref b, .int (nI L.length), v2, v3, .ref c, v5]))) (hL : asP G D h b f L) (hc : nsP D h c bc Nc fc ns) (hr : risL ns) (hQ : Q (some (.int (nI (losC ns L)))) h) : Runs l D M_G_countLoose [.ref o] h 0 0 Q := by
  refine Runs.of rfl rfl (Nat.le_of_ble_eq_true rfl) ?_
  have hl := hL.2.1
  refine z_iconst (v := nI 0) d_G_countLoose_0 1 rfl rfl ?_
  refine z_ist1 d_G_countLoose_1 2 rfl rfl ?_
  refine z_iconst (v := nI 0) d_G_countLoose_2 3 rfl rfl ?_
  refine z_ist2 d_G_countLoose_3 4 rfl rfl ?_
  have loop : ∀ (i j m : Nat), j + i = L.length → m ≤ j → losC ns L = m + losC ns (L.drop j) → Z l D M_G_countLoose 0 0 Q h 0 0 4 [some (.ref o), some (.int (nI m)), some (.int (nI j))] [] := by
    intro i
    induction i with
    | zero =>
      intro j m hj hm he
      rw [List.drop_eq_nil_of_le (by omega)] at he
      refine z_iload_n d_G_countLoose_4 5 rfl rfl rfl ?_
      refine z_aload_n d_G_countLoose_5 6 rfl rfl rfl ?_
      refine z_get d_G_countLoose_6 9 rfl f_G_17 ho rfl ?_
      refine z_icmp_geN (tgt := 34) d_G_countLoose_9 12 rfl rfl (by omega) (by omega) (fun h9 => ?_) (fun h9 => ?_)
      · refine z_iload_n d_G_countLoose_34 35 rfl rfl rfl ?_
        exact z_iret d_G_countLoose_35 rfl (Nat.zero_le _) (Nat.zero_le _) (by rw [he] at hQ; exact hQ)
      · omega
    | succ i ih =>
      intro j m hj hm he
      obtain ⟨y, hy⟩ : ∃ c, L[j]? = some c := ⟨L[j]'(by omega), List.getElem?_eq_getElem (by omega)⟩
      rw [drop_consL hy, losC] at he
      obtain ⟨-, -, hya⟩ := hL.2.2 j y hy
      refine z_iload_n d_G_countLoose_4 5 rfl rfl rfl ?_
      refine z_aload_n d_G_countLoose_5 6 rfl rfl rfl ?_
      refine z_get d_G_countLoose_6 9 rfl f_G_17 ho rfl ?_
      refine z_icmp_geN (tgt := 34) d_G_countLoose_9 12 rfl rfl (by omega) (by omega) (fun h9 => ?_) (fun h9 => ?_)
      · omega
      · refine z_aload_n d_G_countLoose_12 13 rfl rfl rfl ?_
        refine z_aload_n d_G_countLoose_13 14 rfl rfl rfl ?_
        refine z_get d_G_countLoose_14 17 rfl f_G_11 ho rfl ?_
        refine z_iload_n d_G_countLoose_17 18 rfl rfl rfl ?_
        refine z_aaldA d_G_countLoose_18 19 rfl hL hy ?_
        refine z_cV1 d_G_countLoose_19 22 rfl mv_G_isLoose kl_G_124 (by decide) 0 0 rfl rfl (Nat.zero_le _) (Nat.zero_le _) ho (fun Q' q => c_G_isLoose ho hc hr hya q) rfl rfl (Nat.le_of_ble_eq_true rfl) ?_
        refine z_if_eqB (tgt := 28) d_G_countLoose_22 25 rfl rfl (fun h22 => ?_) (fun h22 => ?_)
        · rw [if_pos (Decidable.not_not.mp (of_decide_eq_false h22))] at he
          first | refine z_incN2 d_G_countLoose_28 31 rfl rfl ?_ | refine z_inc2 d_G_countLoose_28 31 rfl rfl rfl ?_
          refine z_goto (tgt := 4) d_G_countLoose_31 rfl ?_
          exact ih (j + 1) m (by omega) (by omega) (by omega)
        · rw [if_neg (of_decide_eq_true h22)] at he
          first | refine z_incN1 d_G_countLoose_25 28 rfl rfl ?_ | refine z_inc1 d_G_countLoose_25 28 rfl rfl rfl ?_
          first | refine z_incN2 d_G_countLoose_28 31 rfl rfl ?_ | refine z_inc2 d_G_countLoose_28 31 rfl rfl rfl ?_
          refine z_goto (tgt := 4) d_G_countLoose_31 rfl ?_
          exact ih (j + 1) (m + 1) (by omega) (by omega) (by omega)
  exact loop L.length 0 0 (by omega) (Nat.le_refl 0) (by rw [List.drop_zero, Nat.zero_add])
end C23
