/-! The class: clusters are gathered. Own work. -/
/-- a row in its region -/
def rowW (W : Nat → Nat) (D : zD) (h : zH) (k a : Nat) (bs : List Nat) : Prop := ∃ b f, W a = k ∧ W b = k ∧ h a = some (.inr (7, [.ref b, .int (nI bs.length)])) ∧ h b = some (.inl (D.2 0, 240, .inl f)) ∧ byP f bs ∧ bs.length ≤ 240
theorem rowW.st {R : Nat → Prop} {W W' : Nat → Nat} {D : zD} {h h' : zH} {k a : Nat} {bs : List Nat} (x : rowW W D h k a bs) (s : stp R W h W' h') (hk : ¬ R k) : rowW W' D h' k a bs := by
  obtain ⟨b, f, w1, w2, n1, n2, n3⟩ := x
  obtain ⟨a1, a2⟩ := s a _ n1 (by rw [w1]; exact hk)
  obtain ⟨b1, b2⟩ := s b _ n2 (by rw [w2]; exact hk)
  exact ⟨b, f, a1.trans w1, b1.trans w2, a2, b2, n3⟩
theorem stp_rw {W : Nat → Nat} {D : zD} {h : zH} {k a b n : Nat} {f : Nat → Int32} (wa : W a = k) (wb : W b = k) : stp (· = k) W h W (rwU D h a b n f) := (stp_set _ wb).tr (stp_set _ wa)
theorem rw_ne {D : zD} {h : zH} {a b n : Nat} {f : Nat → Int32} (ha : h a = some (.inr (7, [.ref b, .int (nI n)]))) (hb : h b = some (.inl (D.2 0, 240, .inl f))) : b ≠ a := fun e => by
  rw [e, ha] at hb
  cases hb
theorem rowW_rw {W : Nat → Nat} {D : zD} {h : zH} {k a b : Nat} {f : Nat → Int32} {bs : List Nat} (wa : W a = k) (wb : W b = k) (hab : b ≠ a) (hf : byP f bs) (hl : bs.length ≤ 240) : rowW W D (rwU D h a b bs.length f) k a bs := ⟨b, f, wa, wb, rwU_a _ _ _ _ _ _, rwU_b _ _ _ _ hab, hf, hl⟩
theorem ex_new (L : List (Nat × List Nat)) : ∃ q, ∀ y, y ∈ L → y.1 ≠ q := by
  induction L with
  | nil => exact ⟨0, fun y hy => by cases hy⟩
  | cons a t ih =>
    have key : ∀ l : List (Nat × List Nat), ∃ n, ∀ y, y ∈ l → y.1 < n := by
      intro l
      induction l with
      | nil => exact ⟨0, fun y hy => by cases hy⟩
      | cons c u ih2 =>
        obtain ⟨n, hn⟩ := ih2
        refine ⟨n + c.1 + 1, fun y hy => ?_⟩
        rcases List.mem_cons.1 hy with hy | hy
        · rw [hy]; omega
        · have := hn y hy; omega
    obtain ⟨n, hn⟩ := key (a :: t)
    exact ⟨n, fun y hy e => by have := hn y hy; omega⟩
theorem lsL_len (L : List (Nat × List Nat)) (c : List Nat) : (lsL L c).length ≤ L.length := by
  have := List.length_filter_le (fun x => decide (¬ x ∈ c)) (L.map fun y => dg 7 y.2)
  simpa [lsL] using this
theorem lsL_cons (y : Nat × List Nat) (t : List (Nat × List Nat)) (c : List Nat) : lsL (y :: t) c = if dg 7 y.2 ∈ c then lsL t c else dg 7 y.2 :: lsL t c := by
  unfold lsL
  rw [List.map_cons, List.filter_cons]
  by_cases h : dg 7 y.2 ∈ c
  · simp [h]
  · simp [h]
section C34
variable {l : Launch} {D : zD} {M : zM} {W : Nat → Nat} {h : zH} {k o b hi mi cl as a kr : Nat} {V : BV} {rs bs : List Nat} {Q : Option Value → zH → Prop}
theorem c_G_gather (u : Nat) (x : bgA W D h k o b hi mi cl as V) (hk : 0 < k) (r : rowW W D h kr a rs) (hkr : 0 < kr) (hkk : kr < k ∨ k + 4 < kr)
    (hB : ∀ q, 5 < (lsL V.L V.c.2).length → (∀ y, y ∈ V.L → y.1 ≠ q) → (takeV V (q, clT (lsL V.L V.c.2))).m.2.length < 1000 ∧ (takeV V (q, clT (lsL V.L V.c.2))).c.2.length < 1000 ∧ (takeV V (q, clT (lsL V.L V.c.2))).pot ≤ V.pot + u)
    (hQ : ∀ q W' h' rs', (∀ y, y ∈ V.L → y.1 ≠ q) → stp (fun j => j = kr ∨ (k ≤ j ∧ j ≤ k + 3)) W h W' h' → bgA W' D h' k o b hi mi cl as (gatV V q) → rowW W' D h' kr a rs' → Q none h') : Runs l D M_G_gatherCluster [.ref o, .ref a] h (65 + u) (786 + 2 * u) Q := by
  refine Runs.of rfl rfl (Nat.le_of_ble_eq_true rfl) ?_
  obtain ⟨f, hf⟩ := x.L
  have hlen := hf.2.1
  obtain ⟨q0, hq0⟩ := ex_new V.L
  obtain ⟨cb, cf, -, -, hcn, hcr⟩ := x.c
  have hll := lsL_len V.L V.c.2
  have r0 := r
  obtain ⟨rb, rf, wa, wb, hra, hrb, hby, hrl⟩ := r0
  have hab := rw_ne hra hrb
  have hstay : gatV V q0 = V → Q none h := by
    intro e
    have := hQ q0 W h rs hq0 (stp.rf _ _ _)
    rw [e] at this
    exact this x r
  refine z_aload_n d_G_gatherCluster_0 1 rfl rfl rfl ?_
  refine z_cV1 d_G_gatherCluster_1 4 rfl mv_G_isFull kl_G_48 (by decide) 0 0 rfl rfl (Nat.zero_le _) (Nat.zero_le _) x.o (fun Q' q => c_G_isFull x.o hlen q) rfl rfl (Nat.le_of_ble_eq_true rfl) ?_
  refine z_if_neB (tgt := 15) d_G_gatherCluster_4 7 rfl rfl (fun h4 => ?_) (fun h4 => ?_)
  · refine z_vret d_G_gatherCluster_15 rfl (Nat.zero_le _) (Nat.zero_le _) (hstay ?_)
    unfold gatV
    split
    · rfl
    · exact if_pos (Or.inl (of_decide_eq_true h4))
  · have h32 : ¬ 32 ≤ V.L.length := of_decide_eq_false h4
    refine z_aload_n d_G_gatherCluster_7 8 rfl rfl rfl ?_
    refine z_cV1 d_G_gatherCluster_8 11 rfl mv_G_countLoose kl_G_139 (by decide) 0 0 rfl rfl (Nat.zero_le _) (Nat.zero_le _) x.o (fun Q' q => c_G_countLoose x.o hf hcn hcr.1 q) rfl rfl (Nat.le_of_ble_eq_true rfl) ?_
    rw [losC_len]
    refine z_iconst (v := nI 5) d_G_gatherCluster_11 12 rfl rfl ?_
    refine z_icmp_gtN (tgt := 16) d_G_gatherCluster_12 15 rfl rfl (by omega) (by omega) (fun h12 => ?_) (fun h12 => ?_)
    · refine z_aload_n d_G_gatherCluster_16 17 rfl rfl rfl ?_
      refine z_cV0 d_G_gatherCluster_17 20 rfl mv_R_clear kl_G_143 (by decide) 0 0 rfl rfl (Nat.zero_le _) (Nat.zero_le _) hra (fun Q' q => c_R_clearF hra hrb q) rfl rfl (Nat.le_of_ble_eq_true rfl) ?_
      have j75 : ∀ (g : Nat → Int32) (w2 w3 : Option Value), byP g (bodyT ((lsL V.L V.c.2).take 20)) → Z l D M_G_gatherCluster (65 + u) (786 + 2 * u) Q (rwU D h a rb (bodyT ((lsL V.L V.c.2).take 20)).length g) 0 0 75 [some (.ref o), some (.ref a), w2, w3] [] := by
        intro g w2 w3 hg
        have ht : ((lsL V.L V.c.2).take 20).length ≤ 20 := by rw [List.length_take]; omega
        have hbl : (bodyT ((lsL V.L V.c.2).take 20)).length ≤ 180 := by rw [bodyT_len]; omega
        have hdl := dg7 (bodyT ((lsL V.L V.c.2).take 20))
        refine z_aload_n d_G_gatherCluster_75 76 rfl rfl rfl ?_
        refine z_bipush (v := nI 90) d_G_gatherCluster_76 78 rfl rfl ?_
        refine z_aload_n d_G_gatherCluster_78 79 rfl rfl rfl ?_
        refine z_cV1 d_G_gatherCluster_79 82 rfl mv_R_digest kl_G_150 (by decide) 0 0 rfl rfl (Nat.zero_le _) (Nat.zero_le _) (rwU_a _ _ _ _ _ _) (fun Q' q => c_R_digest hab hg (by omega) q) rfl rfl (Nat.le_of_ble_eq_true rfl) ?_
        refine z_cV (Q' := fun r h' => r = none ∧ ∃ g2, byP g2 (clT (lsL V.L V.c.2)) ∧ rwU D h a rb (clT (lsL V.L V.c.2)).length g2 = h') d_G_gatherCluster_82 85 rfl mv_R_addNameCard kl_G_146 (by decide) 0 0 rfl rfl (Nat.zero_le _) (Nat.zero_le _) (rwU_a _ _ _ _ _ _) (c_R_addNameCard 90 (dg 7 (bodyT ((lsL V.L V.c.2).take 20))) hab hg (by omega) (by decide) (by omega) (fun g2 hg2 => ⟨rfl, g2, hg2, rfl⟩)) rfl rfl (Nat.le_of_ble_eq_true rfl) ?_; rintro _ _ ⟨rfl, g2, hg2, rfl⟩
        have htl := clT_len (lsL V.L V.c.2)
        have s1 : stp (· = kr) W h W (rwU D h a rb (clT (lsL V.L V.c.2)).length g2) := stp_rw wa wb
        have x1 := x.st s1 (by omega) (by omega)
        have r1 : rowW W D (rwU D h a rb (clT (lsL V.L V.c.2)).length g2) kr a (clT (lsL V.L V.c.2)) := rowW_rw wa wb hab hg2 (by omega)
        obtain ⟨f1, hf1⟩ := x1.L
        refine z_aload_n d_G_gatherCluster_85 86 rfl rfl rfl ?_
        refine z_aload_n d_G_gatherCluster_86 87 rfl rfl rfl ?_
        refine z_cV1 d_G_gatherCluster_87 90 rfl mv_R_digest kl_G_150 (by decide) 0 0 rfl rfl (Nat.zero_le _) (Nat.zero_le _) (rwU_a _ _ _ _ _ _) (fun Q' q => c_R_digest hab hg2 (by omega) q) rfl rfl (Nat.le_of_ble_eq_true rfl) ?_
        refine z_cV1 d_G_gatherCluster_90 93 rfl mv_G_holds kl_G_52 (by decide) 0 0 rfl rfl (Nat.zero_le _) (Nat.zero_le _) x1.o (fun Q' q => c_G_holds (nI (dg 7 (clT (lsL V.L V.c.2)))) x1.o hf1 q) rfl rfl (Nat.le_of_ble_eq_true rfl) ?_
        refine z_if_neB (tgt := 104) d_G_gatherCluster_93 96 rfl rfl (fun h93 => ?_) (fun h93 => ?_)
        · refine z_vret d_G_gatherCluster_104 rfl (Nat.zero_le _) (Nat.zero_le _) ?_
          have := hQ q0 W _ (clT (lsL V.L V.c.2)) hq0 (s1.wk (fun j e => Or.inl e))
          rw [show gatV V q0 = V from by
            unfold gatV
            split
            · rfl
            · exact if_pos (Or.inr h93)] at this
          exact this x1 r1
        · refine z_aload_n d_G_gatherCluster_96 97 rfl rfl rfl ?_
          refine z_aload_n d_G_gatherCluster_97 98 rfl rfl rfl ?_
          refine z_cS (Q' := fun r h' => ∃ q, ext (rwU D h a rb (clT (lsL V.L V.c.2)).length g2) h' ∧ arG (fun q => rwU D h a rb (clT (lsL V.L V.c.2)).length g2 q = none) D h' q (clT (lsL V.L V.c.2)) ∧ r = some (.ref q)) d_G_gatherCluster_98 101 rfl ms_A_of kl_G_153 (by decide) 65 786 rfl rfl (by omega) (by omega) (c_A_of (rwU_a _ _ _ _ _ _) (rwU_b _ _ _ _ hab) hg2 (by omega) (fun q h' e1 e2 => ⟨q, e1, e2, rfl⟩)) rfl rfl (Nat.le_of_ble_eq_true rfl) ?_; rintro _ h2 ⟨q, he, hq, rfl⟩
          have hqn : rwU D h a rb (clT (lsL V.L V.c.2)).length g2 q = none := by
            obtain ⟨b9, p9, f9, hG9, -⟩ := hq
            exact hG9
          have hnew : ∀ y, y ∈ V.L → y.1 ≠ q := by
            intro y hy e
            obtain ⟨i, hi⟩ := List.mem_iff_getElem?.1 hy
            obtain ⟨-, -, b9, p9, f9, -, hO, -⟩ := hf1.2.2 i y hi
            rw [e, hqn] at hO
            cases hO
          have s2 : stp (fun j => j = kr ∨ (k ≤ j ∧ j ≤ k + 3)) (W) (rwU D h a rb (clT (lsL V.L V.c.2)).length g2) (Wx W (rwU D h a rb (clT (lsL V.L V.c.2)).length g2)) h2 := stp_ext he
          have s2' : stp (fun _ => False) (W) (rwU D h a rb (clT (lsL V.L V.c.2)).length g2) (Wx W (rwU D h a rb (clT (lsL V.L V.c.2)).length g2)) h2 := stp_ext he
          have x2 := x1.st s2' (fun e => e) (fun _ _ e => e)
          have hq2 : arG (G0 (Wx W (rwU D h a rb (clT (lsL V.L V.c.2)).length g2))) D h2 q (clT (lsL V.L V.c.2)) := hq.to (fun p e h1 h2 => ⟨by
            show Wx W _ p = 0
            unfold Wx
            rw [h1]
            rfl, h2⟩)
          have r2 := r1.st s2' (fun e => e)
          obtain ⟨hb1, hb2, hb3⟩ := hB q (by omega) hnew
          obtain ⟨u1, hu1⟩ := Nat.exists_eq_add_of_le (takeV_pot V (q, clT (lsL V.L V.c.2)))
          refine z_cV (Q' := fun r h' => r = none ∧ ∃ W', stp (fun j => k ≤ j ∧ j ≤ k + 3) (Wx W (rwU D h a rb (clT (lsL V.L V.c.2)).length g2)) h2 W' h' ∧ bgA W' D h' k o b hi mi cl as (takeV V (q, clT (lsL V.L V.c.2)))) d_G_gatherCluster_101 104 rfl mv_G_take kl_G_157 (by decide) (65 + u1) (786 + 2 * u1) rfl rfl (by omega) (by omega) x2.o (c_G_take u1 x2 hk hq2 (by omega) hb1 hb2 hu1 (fun W' h' s y => ⟨rfl, W', s, y⟩)) rfl rfl (Nat.le_of_ble_eq_true rfl) ?_; rintro _ h3 ⟨rfl, W3, s3, x3⟩
          refine z_vret d_G_gatherCluster_104 rfl (by omega) (by omega) ?_
          have := hQ q W3 h3 (clT (lsL V.L V.c.2)) hnew (((s1.wk (fun j e => Or.inl e)).tr s2).tr (s3.wk (fun j e => Or.inr e)))
          rw [show gatV V q = takeV V (q, clT (lsL V.L V.c.2)) from if_neg (by omega)] at this
          exact this x3 (r2.st s3 (by omega))
      have loop : ∀ (i j : Nat) (g : Nat → Int32) (ns : List Nat), j + i = V.L.length → ns.length ≤ 20 → byP g (bodyT ns) → (ns ++ lsL (V.L.drop j) V.c.2).take 20 = (lsL V.L V.c.2).take 20 → Z l D M_G_gatherCluster (65 + u) (786 + 2 * u) Q (rwU D h a rb (bodyT ns).length g) 0 0 24 [some (.ref o), some (.ref a), some (.int (nI ns.length)), some (.int (nI j))] [] := by
        intro i
        induction i with
        | zero =>
          intro j g ns hj hn hg he
          rw [List.drop_eq_nil_of_le (by omega), show lsL [] V.c.2 = [] from rfl, List.append_nil, List.take_of_length_le hn] at he
          have x1 := x.st (stp_rw (D := D) (h := h) (n := (bodyT ns).length) (f := g) wa wb) (by omega) (by omega)
          refine z_iload_n d_G_gatherCluster_24 25 rfl rfl rfl ?_
          refine z_aload_n d_G_gatherCluster_25 26 rfl rfl rfl ?_
          refine z_get d_G_gatherCluster_26 29 rfl f_G_17 x1.o rfl ?_
          refine z_icmp_geN (tgt := 75) d_G_gatherCluster_29 32 rfl rfl (by omega) (by omega) (fun h29 => ?_) (fun h29 => ?_)
          · subst he
            exact j75 g _ _ hg
          · omega
        | succ i ih =>
          intro j g ns hj hn hg he
          obtain ⟨y, hy⟩ : ∃ c, V.L[j]? = some c := ⟨V.L[j]'(by omega), List.getElem?_eq_getElem (by omega)⟩
          have x1 := x.st (stp_rw (D := D) (h := h) (n := (bodyT ns).length) (f := g) wa wb) (by omega) (by omega)
          obtain ⟨f1, hf1⟩ := x1.L
          obtain ⟨-, y240, hya⟩ := hf1.2.2 j y hy
          have hya0 := hya
          obtain ⟨c1, c2, c3, -, hyO, -, -, -, hycr⟩ := hya0
          obtain ⟨cb1, cf1, -, -, hcn1, -⟩ := x1.c
          have hyd := dg7 y.2
          refine z_iload_n d_G_gatherCluster_24 25 rfl rfl rfl ?_
          refine z_aload_n d_G_gatherCluster_25 26 rfl rfl rfl ?_
          refine z_get d_G_gatherCluster_26 29 rfl f_G_17 x1.o rfl ?_
          refine z_icmp_geN (tgt := 75) d_G_gatherCluster_29 32 rfl rfl (by omega) (by omega) (fun h29 => ?_) (fun h29 => ?_)
          · omega
          · refine z_iload_n d_G_gatherCluster_32 33 rfl rfl rfl ?_
            refine z_bipush (v := nI 20) d_G_gatherCluster_33 35 rfl rfl ?_
            refine z_icmp_geN (tgt := 75) d_G_gatherCluster_35 38 rfl rfl (by omega) (by omega) (fun h35 => ?_) (fun h35 => ?_)
            · have hn20 : ns.length = 20 := by omega
              rw [List.take_append_of_le_length (by omega), List.take_of_length_le hn] at he
              subst he
              exact j75 g _ _ hg
            · rw [drop_consL hy, lsL_cons] at he
              refine z_aload_n d_G_gatherCluster_38 39 rfl rfl rfl ?_
              refine z_aload_n d_G_gatherCluster_39 40 rfl rfl rfl ?_
              refine z_get d_G_gatherCluster_40 43 rfl f_G_11 x1.o rfl ?_
              refine z_iload_n d_G_gatherCluster_43 44 rfl rfl rfl ?_
              refine z_aaldA d_G_gatherCluster_44 45 rfl hf1 hy ?_
              refine z_cV1 d_G_gatherCluster_45 48 rfl mv_G_isLoose kl_G_124 (by decide) 0 0 rfl rfl (Nat.zero_le _) (Nat.zero_le _) x1.o (fun Q' q => c_G_isLoose x1.o hcn1 hcr.1 hya q) rfl rfl (Nat.le_of_ble_eq_true rfl) ?_
              refine z_if_eqB (tgt := 69) d_G_gatherCluster_48 51 rfl rfl (fun h48 => ?_) (fun h48 => ?_)
              · rw [if_pos (Decidable.not_not.mp (of_decide_eq_false h48))] at he
                first | refine z_incN3 d_G_gatherCluster_69 72 rfl rfl ?_ | refine z_inc3 d_G_gatherCluster_69 72 rfl rfl rfl ?_
                refine z_goto (tgt := 24) d_G_gatherCluster_72 rfl ?_
                exact ih (j + 1) g ns (by omega) hn hg he
              · rw [if_neg (of_decide_eq_true h48)] at he
                have hbl := bodyT_len ns
                refine z_aload_n d_G_gatherCluster_51 52 rfl rfl rfl ?_
                refine z_bipush (v := nI 77) d_G_gatherCluster_52 54 rfl rfl ?_
                refine z_aload_n d_G_gatherCluster_54 55 rfl rfl rfl ?_
                refine z_get d_G_gatherCluster_55 58 rfl f_G_11 x1.o rfl ?_
                refine z_iload_n d_G_gatherCluster_58 59 rfl rfl rfl ?_
                refine z_aaldA d_G_gatherCluster_59 60 rfl hf1 hy ?_
                refine z_get d_G_gatherCluster_60 63 rfl f_G_45 hyO rfl ?_
                refine z_cV (Q' := fun r h' => r = none ∧ ∃ g2, byP g2 (bodyT ns ++ ([77, 32] ++ nmB (dg 7 y.2) ++ [10])) ∧ rwU D h a rb (bodyT ns ++ ([77, 32] ++ nmB (dg 7 y.2) ++ [10])).length g2 = h') d_G_gatherCluster_63 66 rfl mv_R_addNameCard kl_G_146 (by decide) 0 0 rfl rfl (Nat.zero_le _) (Nat.zero_le _) (rwU_a _ _ _ _ _ _) (c_R_addNameCard 77 (dg 7 y.2) hab hg (by omega) (by decide) (by omega) (fun g2 hg2 => ⟨rfl, g2, hg2, rfl⟩)) rfl rfl (Nat.le_of_ble_eq_true rfl) ?_; rintro _ _ ⟨rfl, g2, hg2, rfl⟩
                rw [← bodyT_snoc] at hg2 ⊢
                first | refine z_incN2 d_G_gatherCluster_66 69 rfl rfl ?_ | refine z_inc2 d_G_gatherCluster_66 69 rfl rfl rfl ?_
                first | refine z_incN3 d_G_gatherCluster_69 72 rfl rfl ?_ | refine z_inc3 d_G_gatherCluster_69 72 rfl rfl rfl ?_
                refine z_goto (tgt := 24) d_G_gatherCluster_72 rfl ?_
                have := ih (j + 1) g2 (ns ++ [dg 7 y.2]) (by omega) (by rw [List.length_append]; simp only [List.length_cons, List.length_nil]; omega) hg2 (by rw [List.append_assoc]; exact he)
                rw [List.length_append] at this
                exact this
      refine z_iconst (v := nI 0) d_G_gatherCluster_20 21 rfl rfl ?_
      refine z_ist2 d_G_gatherCluster_21 22 rfl rfl ?_
      refine z_iconst (v := nI 0) d_G_gatherCluster_22 23 rfl rfl ?_
      refine z_ist3 d_G_gatherCluster_23 24 rfl rfl ?_
      exact loop V.L.length 0 rf [] (by omega) (Nat.zero_le _) (fun i hi => absurd hi (Nat.not_lt_zero i)) (by rw [List.drop_zero, List.nil_append])
    · refine z_vret d_G_gatherCluster_15 rfl (Nat.zero_le _) (Nat.zero_le _) (hstay (if_pos (by omega)))
end C34
