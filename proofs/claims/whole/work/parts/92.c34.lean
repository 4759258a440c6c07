/-! The class: a message is sent. Own work. -/
theorem arG_name {G G' : Nat → Prop} {D : zD} {h : zH} {a : Nat} {bs cs : List Nat} (x : arG G D h a bs) (y : arG G' D h a cs) : dg 7 bs = dg 7 cs := by
  obtain ⟨b1, p1, f1, -, h1, -⟩ := x
  obtain ⟨b2, p2, f2, -, h2, -⟩ := y
  rw [h1] at h2
  have h3 : nI (dg 7 bs) = nI (dg 7 cs) := by
    simp only [aObj, Option.some.injEq, Sum.inr.injEq, Prod.mk.injEq, List.cons.injEq, Value.int.injEq] at h2
    exact h2.2.2.1
  exact dgI_eq.1 h3
theorem asP_adr {G G' : Nat → Prop} {D : zD} {h : zH} {b b' : Nat} {f f' : Nat → Option Nat} {L L' : List (Nat × List Nat)} (x : asP G D h b f L) (y : asP G' D h b' f' L') : adr L L' := by
  intro p q hp hq he
  obtain ⟨i, hi⟩ := List.mem_iff_getElem?.1 hp
  obtain ⟨j, hj⟩ := List.mem_iff_getElem?.1 hq
  have h1 := (x.2.2 i p hi).2.2
  have h2 := (y.2.2 j q hj).2.2
  rw [he] at h1
  exact arG_name h1 h2
section C35
variable {l : Launch} {D : zD} {M : zM} {W : Nat → Nat} {h : zH} {k o b hi mi cl as k2 o2 b2 hi2 mi2 cl2 as2 : Nat} {S R : BV} {At : List (List Nat)} {Tt Kr : List Nat} {Q : Option Value → zH → Prop}
theorem c_G_sendTo (u bud : Nat) (xS : bgA W D h k o b hi mi cl as S) (xR : bgA W D h k2 o2 b2 hi2 mi2 cl2 as2 R) (hk : 0 < k) (hk2 : 0 < k2) (hkk : k2 + 4 < k ∨ k + 4 < k2) (hbud : bud ≤ 10000) (hR : bgR R At Tt Kr) (hT : tlk Tt) (hlm : (sndV S R bud).m.2.length < 1000) (hu : (sndV S R bud).pot = R.pot + u)
    (hQ : ∀ W' h', stp (fun j => k2 ≤ j ∧ j ≤ k2 + 4) W h W' h' → bgA W' D h' k2 o2 b2 hi2 mi2 cl2 as2 (sndV S R bud) → Q (some (.int (nI (sndF S.a.2 S.L (bud, 0, R)).2.1))) h') : Runs l D M_G_sendTo [.ref o, .ref o2, .int (nI bud)] h u (2 * u) Q := by
  refine Runs.of rfl rfl (Nat.le_of_ble_eq_true rfl) ?_
  obtain ⟨f, hf⟩ := xS.L
  obtain ⟨fR, hfR⟩ := xR.L
  have hlen := hf.2.1
  have hA := asP_adr hf hf
  have hA2 := asP_adr hf hfR
  simp only [BV.pot, BV.kL, BV.kH, BV.km, BV.kc, BV.ka, sndV] at hu hlm
  unfold sndV at hQ
  generalize hz : sndF S.a.2 S.L (bud, 0, R) = zf at hu hlm hQ
  have htel := telF_up zf.2.2.L S.c.2 S.L zf.2.2.m
  have hsa := sndF_a S.a.2 S.L (bud, 0, R)
  rw [hz] at hsa
  simp only [BV.pot, BV.kL, BV.kH, BV.km, BV.kc, BV.ka] at hsa
  obtain ⟨mb, mf, mwo, mwb, mn, mok⟩ := xS.m
  have hcp : zf.2.2.a.1 ≤ (cpyS zf.2.2.a S.m).1 := by
    have h1 := sndF_R (K2 := Kr) S.a.2 hT hA (fun w hw => (by
      obtain ⟨i9, hi9⟩ := List.mem_iff_getElem?.1 hw
      exact (hf.2.2 i9 w hi9).2.1)) S.L (bud, 0, R) At (fun w hw => hw) hA2 hR
    rw [hz] at h1
    exact (cpyS_up h1.2.2.2.ao mok).1
  have j78 : ∀ (i j : Nat) (W4 : Nat → Nat) (h4 : zH) (m : NS) (cu : Nat) (w3 w6 : Option Value), j + i = S.L.length → stp (fun j => k2 ≤ j ∧ j ≤ k2 + 4) W h W4 h4 → bgA W4 D h4 k2 o2 b2 hi2 mi2 cl2 as2 (BV.um zf.2.2 m) → telF zf.2.2.L S.c.2 (S.L.drop j) m = telF zf.2.2.L S.c.2 S.L zf.2.2.m → m.1 + zf.2.2.c.1 + zf.2.2.a.1 = R.m.1 + R.c.1 + R.a.1 + cu → okS zf.2.2.a → Z l D M_G_sendTo u (2 * u) Q h4 cu (2 * cu) 78 [some (.ref o), some (.ref o2), some (.int (nI bud)), w3, some (.int (nI zf.2.1)), some (.int (nI j)), w6] [] := by
    intro i
    induction i with
    | zero =>
      intro j W4 h4 m cu w3 w6 hj s4 x4 he hcu hao
      have xS4 := xS.st s4 (by omega) (by omega)
      rw [List.drop_eq_nil_of_le (by omega), telF] at he
      subst he
      refine z_iload d_G_sendTo_78 80 rfl rfl ?_
      refine z_aload_n d_G_sendTo_80 81 rfl rfl rfl ?_
      refine z_get d_G_sendTo_81 84 rfl f_G_17 xS4.o rfl ?_
      refine z_icmp_geN (tgt := 121) d_G_sendTo_84 87 rfl rfl (by omega) (by omega) (fun h84 => ?_) (fun h84 => ?_)
      · obtain ⟨ab, af, awo, awb, an, aok⟩ := x4.a
        have cpu := cpyS_up hao mok
        refine z_aload_n d_G_sendTo_121 122 rfl rfl rfl ?_
        refine z_get d_G_sendTo_122 125 rfl f_G_38 x4.o rfl ?_
        refine z_aload_n d_G_sendTo_125 126 rfl rfl rfl ?_
        refine z_get d_G_sendTo_126 129 rfl f_G_31 xS4.o rfl ?_
        refine z_cV (Q' := fun r h' => r = none ∧ ∃ W', stp (· = k2 + 4) W4 h4 W' h' ∧ setW W' D h' (k2 + 4) as2 (cpyS zf.2.2.a S.m)) d_G_sendTo_129 132 rfl mv_N_copyFrom kl_G_160 (by decide) (cu + (if zf.2.2.a.1 < S.m.2.length then 1 else 0)) (2 * cu + (if zf.2.2.a.1 < S.m.2.length then S.m.1 else 0)) rfl rfl (by unfold cpyS at hu; simp only at hu; split at hu <;> split <;> omega) (by unfold cpyS at hu; simp only at hu; split at hu <;> split <;> omega) an.1 (c_N_copyFromW x4.a xS4.m (by omega) (fun W' h' s y => ⟨rfl, W', s, y⟩)) rfl rfl (Nat.le_of_ble_eq_true rfl) ?_; rintro _ h5 ⟨rfl, W5, s5, y5⟩
        refine z_iload d_G_sendTo_132 134 rfl rfl ?_
        refine z_iret d_G_sendTo_134 rfl (by unfold cpyS at hu; simp only at hu; split at hu <;> split <;> omega) (by unfold cpyS at hu; simp only at hu; split at hu <;> split <;> omega) (hQ W5 h5 (s4.tr (s5.wk (fun j e => by omega))) (x4.sa s5 y5))
      · omega
    | succ i ih =>
      intro j W4 h4 m cu w3 w6 hj s4 x4 he hcu hao
      have xS4 := xS.st s4 (by omega) (by omega)
      obtain ⟨f4, hf4⟩ := xS4.L
      obtain ⟨y, hy⟩ : ∃ c, S.L[j]? = some c := ⟨S.L[j]'(by omega), List.getElem?_eq_getElem (by omega)⟩
      obtain ⟨-, y240, hya⟩ := hf4.2.2 j y hy
      have hya0 := hya
      obtain ⟨c1, c2, c3, -, hyO, -, -, -, hycr⟩ := hya0
      obtain ⟨cb1, cf1, -, -, hcn1, hcr1⟩ := xS4.c
      have hyd := dg7 y.2
      have hcul : cu ≤ u := by
        have h1 := telF_up zf.2.2.L S.c.2 (S.L.drop j) m
        rw [he] at h1
        omega
      rw [drop_consL hy, telF] at he
      have hup := telF_up zf.2.2.L S.c.2 (S.L.drop (j + 1)) (if dg 7 y.2 ∈ S.c.2 then m else wnS zf.2.2.L (some (dg 7 y.2)) m)
      rw [he] at hup
      refine z_iload d_G_sendTo_78 80 rfl rfl ?_
      refine z_aload_n d_G_sendTo_80 81 rfl rfl rfl ?_
      refine z_get d_G_sendTo_81 84 rfl f_G_17 xS4.o rfl ?_
      refine z_icmp_geN (tgt := 121) d_G_sendTo_84 87 rfl rfl (by omega) (by omega) (fun h84 => ?_) (fun h84 => ?_)
      · omega
      · refine z_aload_n d_G_sendTo_87 88 rfl rfl rfl ?_
        refine z_aload_n d_G_sendTo_88 89 rfl rfl rfl ?_
        refine z_get d_G_sendTo_89 92 rfl f_G_11 xS4.o rfl ?_
        refine z_iload d_G_sendTo_92 94 rfl rfl ?_
        refine z_aaldA d_G_sendTo_94 95 rfl hf4 hy ?_
        refine z_cV1 d_G_sendTo_95 98 rfl mv_G_isLoose kl_G_124 (by decide) cu (2 * cu) rfl rfl hcul (Nat.mul_le_mul_left 2 hcul) xS4.o (fun Q' q => c_G_isLoose xS4.o hcn1 hcr1.1 hya q) rfl rfl (Nat.le_of_ble_eq_true rfl) ?_
        refine z_if_eqB (tgt := 115) d_G_sendTo_98 101 rfl rfl (fun h98 => ?_) (fun h98 => ?_)
        · rw [if_pos (Decidable.not_not.mp (of_decide_eq_false h98))] at he
          first | refine z_incN5 d_G_sendTo_115 118 rfl rfl ?_ | refine z_inc5 d_G_sendTo_115 118 rfl rfl rfl ?_
          refine z_goto (tgt := 78) d_G_sendTo_118 rfl ?_
          exact ih (j + 1) W4 h4 m cu w3 w6 (by omega) s4 x4 he hcu hao
        · rw [if_neg (of_decide_eq_true h98)] at he hup
          obtain ⟨u1, hu1⟩ := Nat.exists_eq_add_of_le (wnS_up zf.2.2.L (some (dg 7 y.2)) m).2
          have hl1 := (wnS_up zf.2.2.L (some (dg 7 y.2)) m).1
          refine z_aload_n d_G_sendTo_101 102 rfl rfl rfl ?_
          refine z_aload_n d_G_sendTo_102 103 rfl rfl rfl ?_
          refine z_get d_G_sendTo_103 106 rfl f_G_11 xS4.o rfl ?_
          refine z_iload d_G_sendTo_106 108 rfl rfl ?_
          refine z_aaldA d_G_sendTo_108 109 rfl hf4 hy ?_
          refine z_get d_G_sendTo_109 112 rfl f_G_45 hyO rfl ?_
          refine z_cV (Q' := fun r h' => r = none ∧ ∃ W', stp (· = k2 + 2) W4 h4 W' h' ∧ bgA W' D h' k2 o2 b2 hi2 mi2 cl2 as2 (BV.um zf.2.2 (wnS zf.2.2.L (some (dg 7 y.2)) m))) d_G_sendTo_112 115 rfl mv_G_want kl_G_89 (by decide) (cu + u1) (2 * cu + 2 * u1) rfl rfl (by omega) (by omega) x4.o (c_G_want (some (dg 7 y.2)) u1 x4 (fun v hv => by cases hv; omega) (show m.2.length < 1000 by omega) hu1 (fun W' h' s y => ⟨rfl, W', s, y⟩)) rfl rfl (Nat.le_of_ble_eq_true rfl) ?_; rintro _ h5 ⟨rfl, W5, s5, x5⟩
          first | refine z_incN5 d_G_sendTo_115 118 rfl rfl ?_ | refine z_inc5 d_G_sendTo_115 118 rfl rfl rfl ?_
          refine z_goto (tgt := 78) d_G_sendTo_118 rfl ?_
          rw [show 2 * cu + 2 * u1 = 2 * (cu + u1) by omega]
          exact ih (j + 1) W5 h5 _ (cu + u1) w3 w6 (by omega) (s4.tr (s5.wk (fun j e => by omega))) x5 he (by omega) hao
  have loop : ∀ (i j : Nat) (W4 : Nat → Nat) (h4 : zH) (z : Nat × Nat × BV) (As : List (List Nat)) (cu : Nat) (w6 : Option Value), j + i = S.L.length → z.1 ≤ 10000 → stp (fun j => k2 ≤ j ∧ j ≤ k2 + 4) W h W4 h4 → bgA W4 D h4 k2 o2 b2 hi2 mi2 cl2 as2 z.2.2 → sndF S.a.2 (S.L.drop j) z = zf → z.2.2.m.1 + z.2.2.c.1 + z.2.2.a.1 = R.m.1 + R.c.1 + R.a.1 + cu → bgR z.2.2 As Tt Kr → adr S.L z.2.2.L → Z l D M_G_sendTo u (2 * u) Q h4 cu (2 * cu) 8 [some (.ref o), some (.ref o2), some (.int (nI bud)), some (.int (nI z.1)), some (.int (nI z.2.1)), some (.int (nI j)), w6] [] := by
    intro i
    induction i with
    | zero =>
      intro j W4 h4 z As cu w6 hj hz1 s4 x4 he hcu hb4 ha4
      have xS4 := xS.st s4 (by omega) (by omega)
      rw [List.drop_eq_nil_of_le (by omega), sndF] at he
      subst he
      refine z_iload d_G_sendTo_8 10 rfl rfl ?_
      refine z_aload_n d_G_sendTo_10 11 rfl rfl rfl ?_
      refine z_get d_G_sendTo_11 14 rfl f_G_17 xS4.o rfl ?_
      refine z_icmp_geN (tgt := 75) d_G_sendTo_14 17 rfl rfl (by omega) (by omega) (fun h14 => ?_) (fun h14 => ?_)
      · refine z_iconst (v := nI 0) d_G_sendTo_75 76 rfl rfl ?_
        refine z_ist5 d_G_sendTo_76 78 rfl rfl ?_
        exact j78 S.L.length 0 W4 h4 z.2.2.m cu _ w6 (by omega) s4 x4 (by rw [List.drop_zero]) hcu hb4.ao
      · omega
    | succ i ih =>
      intro j W4 h4 z As cu w6 hj hz1 s4 x4 he hcu hb4 ha4
      have xS4 := xS.st s4 (by omega) (by omega)
      obtain ⟨f4, hf4⟩ := xS4.L
      obtain ⟨y, hy⟩ : ∃ c, S.L[j]? = some c := ⟨S.L[j]'(by omega), List.getElem?_eq_getElem (by omega)⟩
      have hym : y ∈ S.L := List.mem_of_getElem? hy
      obtain ⟨-, y240, hya⟩ := hf4.2.2 j y hy
      have hya0 := hya
      obtain ⟨c1, c2, c3, -, hyO, -, hyb, -, hycr⟩ := hya0
      obtain ⟨ab, af, -, -, han, -⟩ := xS4.a
      have hyd := dg7 y.2
      have hcul : cu ≤ u := by
        have h1 := (sndF_a S.a.2 (S.L.drop j) z).2
        rw [he] at h1
        simp only [BV.pot] at h1
        omega
      rw [drop_consL hy, sndF] at he
      refine z_iload d_G_sendTo_8 10 rfl rfl ?_
      refine z_aload_n d_G_sendTo_10 11 rfl rfl rfl ?_
      refine z_get d_G_sendTo_11 14 rfl f_G_17 xS4.o rfl ?_
      refine z_icmp_geN (tgt := 75) d_G_sendTo_14 17 rfl rfl (by omega) (by omega) (fun h14 => ?_) (fun h14 => ?_)
      · omega
      · refine z_aload_n d_G_sendTo_17 18 rfl rfl rfl ?_
        refine z_get d_G_sendTo_18 21 rfl f_G_11 xS4.o rfl ?_
        refine z_iload d_G_sendTo_21 23 rfl rfl ?_
        refine z_aaldA d_G_sendTo_23 24 rfl hf4 hy ?_
        refine z_ast6 d_G_sendTo_24 26 rfl rfl ?_
        refine z_aload_n d_G_sendTo_26 27 rfl rfl rfl ?_
        refine z_get d_G_sendTo_27 30 rfl f_G_38 xS4.o rfl ?_
        refine z_aload d_G_sendTo_30 32 rfl rfl ?_
        refine z_get d_G_sendTo_32 35 rfl f_G_45 hyO rfl ?_
        refine z_cV1 d_G_sendTo_35 38 rfl mv_N_contains kl_G_121 (by decide) cu (2 * cu) rfl rfl hcul (Nat.mul_le_mul_left 2 hcul) han.1 (fun Q' q => c_N_containsW (dg 7 y.2) xS4.a (by omega) q) rfl rfl (Nat.le_of_ble_eq_true rfl) ?_
        refine z_if_eqB (tgt := 69) d_G_sendTo_38 41 rfl rfl (fun h38 => ?_) (fun h38 => ?_)
        · rw [if_neg (fun e => of_decide_eq_false h38 e.1)] at he
          first | refine z_incN5 d_G_sendTo_69 72 rfl rfl ?_ | refine z_inc5 d_G_sendTo_69 72 rfl rfl rfl ?_
          refine z_goto (tgt := 8) d_G_sendTo_72 rfl ?_
          exact ih (j + 1) W4 h4 z As cu _ (by omega) hz1 s4 x4 he hcu hb4 ha4
        · refine z_aload d_G_sendTo_41 43 rfl rfl ?_
          refine z_get d_G_sendTo_43 46 rfl f_G_113 hyO rfl ?_
          refine z_alen d_G_sendTo_46 47 rfl (t := 0) (v := nI y.2.length) rfl hyb rfl ?_
          refine z_iload_n d_G_sendTo_47 48 rfl rfl rfl ?_
          refine z_icmp_gtN (tgt := 69) d_G_sendTo_48 51 rfl rfl (by omega) (by omega) (fun h48 => ?_) (fun h48 => ?_)
          · rw [if_neg (fun e => by omega)] at he
            first | refine z_incN5 d_G_sendTo_69 72 rfl rfl ?_ | refine z_inc5 d_G_sendTo_69 72 rfl rfl rfl ?_
            refine z_goto (tgt := 8) d_G_sendTo_72 rfl ?_
            exact ih (j + 1) W4 h4 z As cu _ (by omega) hz1 s4 x4 he hcu hb4 ha4
          · rw [if_pos ⟨of_decide_eq_true h38, by omega⟩] at he
            have hb5 := hb4.take' hT y240 hym ha4
            have hup := (sndF_a S.a.2 (S.L.drop (j + 1)) (z.1 - y.2.length, z.2.1 + 1, takeV z.2.2 y)).2
            rw [he] at hup
            simp only [BV.pot, BV.kL, BV.kH, BV.km, BV.kc, BV.ka] at hup
            obtain ⟨u1, hu1⟩ := Nat.exists_eq_add_of_le (takeV_pot z.2.2 y)
            have hu1' := hu1
            simp only [BV.pot, BV.kL, BV.kH, BV.km, BV.kc, BV.ka] at hu1'
            refine z_iload_n d_G_sendTo_51 52 rfl rfl rfl ?_
            refine z_aload d_G_sendTo_52 54 rfl rfl ?_
            refine z_get d_G_sendTo_54 57 rfl f_G_113 hyO rfl ?_
            refine z_alen d_G_sendTo_57 58 rfl (t := 0) (v := nI y.2.length) rfl hyb rfl ?_
            refine z_isubN d_G_sendTo_58 59 rfl (by omega) ?_
            refine z_ist3 d_G_sendTo_59 60 rfl rfl ?_
            first | refine z_incN4 d_G_sendTo_60 63 rfl rfl ?_ | refine z_inc4 d_G_sendTo_60 63 rfl rfl rfl ?_
            refine z_aload_n d_G_sendTo_63 64 rfl rfl rfl ?_
            refine z_aload d_G_sendTo_64 66 rfl rfl ?_
            refine z_cV (Q' := fun r h' => r = none ∧ ∃ W', stp (fun j => k2 ≤ j ∧ j ≤ k2 + 3) W4 h4 W' h' ∧ bgA W' D h' k2 o2 b2 hi2 mi2 cl2 as2 (takeV z.2.2 (y.1, y.2))) d_G_sendTo_66 69 rfl mv_G_take kl_G_157 (by decide) (cu + u1) (2 * cu + 2 * u1) rfl rfl (by omega) (by omega) x4.o (c_G_take (a := y.1) (bs := y.2) u1 x4 hk2 hya y240 (hb5.ml hT) hb5.cl hu1 (fun W' h' s y => ⟨rfl, W', s, y⟩)) rfl rfl (Nat.le_of_ble_eq_true rfl) ?_; rintro _ h5 ⟨rfl, W5, s5, x5⟩
            first | refine z_incN5 d_G_sendTo_69 72 rfl rfl ?_ | refine z_inc5 d_G_sendTo_69 72 rfl rfl rfl ?_
            refine z_goto (tgt := 8) d_G_sendTo_72 rfl ?_
            rw [show 2 * cu + 2 * u1 = 2 * (cu + u1) by omega]
            exact ih (j + 1) W5 h5 (z.1 - y.2.length, z.2.1 + 1, takeV z.2.2 y) _ (cu + u1) _ (by omega) (by simp only; omega) (s4.tr (s5.wk (fun j e => by omega))) x5 he (by simp only; omega) hb5 (ha4.take hA hym)
  refine z_iload_n d_G_sendTo_0 1 rfl rfl rfl ?_
  refine z_ist3 d_G_sendTo_1 2 rfl rfl ?_
  refine z_iconst (v := nI 0) d_G_sendTo_2 3 rfl rfl ?_
  refine z_ist4 d_G_sendTo_3 5 rfl rfl ?_
  refine z_iconst (v := nI 0) d_G_sendTo_5 6 rfl rfl ?_
  refine z_ist5 d_G_sendTo_6 8 rfl rfl ?_
  exact loop S.L.length 0 W h (bud, 0, R) At 0 none (by omega) hbud (stp.rf _ _ _) xR (by rw [List.drop_zero]; exact hz) rfl hR hA2
end C35
