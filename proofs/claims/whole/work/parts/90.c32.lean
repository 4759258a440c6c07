/-! The class: an artifact is taken, all is derived anew. Own work. -/
theorem bgA.sL {W : Nat → Nat} {D : zD} {h : zH} {k o b hi mi cl as : Nat} {V : BV} {y : Nat × List Nat} {f' : Nat → Option Nat} {e1 : va_E} (x : bgA W D h k o b hi mi cl as V) (hk : 0 < k) (hL : asP (G0 W) D (zset (zset h b e1) o (.inr (3, [.ref b, .int (nI (V.L.length + 1)), .ref hi, .ref mi, .ref cl, .ref as]))) b f' (gIns V.L y)) :
    stp (· = k) W h W (zset (zset h b e1) o (.inr (3, [.ref b, .int (nI (V.L.length + 1)), .ref hi, .ref mi, .ref cl, .ref as]))) ∧ bgA W D (zset (zset h b e1) o (.inr (3, [.ref b, .int (nI (V.L.length + 1)), .ref hi, .ref mi, .ref cl, .ref as]))) k o b hi mi cl as (BV.uL V (gIns V.L y)) := by
  have s := (stp_set (h := h) e1 x.wb).tr (stp_set (h := zset h b e1) (.inr (3, [.ref b, .int (nI (V.L.length + 1)), .ref hi, .ref mi, .ref cl, .ref as])) x.wo)
  refine ⟨s, x.wo, x.wb, ?_, ⟨f', hL⟩, x.H.st s (by omega) (by omega), x.m.st s (by omega), x.c.st s (by omega), x.a.st s (by omega)⟩
  rw [show (BV.uL V (gIns V.L y)).L.length = V.L.length + 1 from gIns_len _ _]
  exact zset_self _ _ _
section C33
variable {l : Launch} {D : zD} {M : zM} {W : Nat → Nat} {h : zH} {k o b hi mi cl as a : Nat} {V : BV} {bs : List Nat} {Q : Option Value → zH → Prop}
theorem c_G_take (u : Nat) (x : bgA W D h k o b hi mi cl as V) (hk : 0 < k) (ha : arG (G0 W) D h a bs) (hbs : bs.length ≤ 240) (hlm : (takeV V (a, bs)).m.2.length < 1000) (hlc : (takeV V (a, bs)).c.2.length < 1000) (hu : (takeV V (a, bs)).pot = V.pot + u) (hQ : ∀ W' h', stp (fun j => k ≤ j ∧ j ≤ k + 3) W h W' h' → bgA W' D h' k o b hi mi cl as (takeV V (a, bs)) → Q none h') : Runs l D M_G_take [.ref o, .ref a] h u (2 * u) Q := by
  refine Runs.of rfl rfl (Nat.le_of_ble_eq_true rfl) ?_
  obtain ⟨f, hf⟩ := x.L
  have hlen := hf.2.1
  have hd := dg7 bs
  have ha0 := ha
  obtain ⟨b1, p1, f1, hGa, haO, -, -, -, hcr⟩ := ha0
  have hob : o ≠ b := fun e => by
    have h1 := hf.1
    rw [← e, x.o] at h1
    cases h1
  have hstay : (32 ≤ V.L.length ∨ (fdA (nI (dg 7 bs)) V.L).isSome = true) → Q none h := by
    intro e
    rw [show takeV V (a, bs) = V from if_pos e] at hQ
    exact hQ W h (stp.rf _ _ _) x
  refine z_aload_n d_G_take_0 1 rfl rfl rfl ?_
  refine z_cV1 d_G_take_1 4 rfl mv_G_isFull kl_G_48 (by decide) 0 0 rfl rfl (Nat.zero_le _) (Nat.zero_le _) x.o (fun Q' q => c_G_isFull x.o hlen q) rfl rfl (Nat.le_of_ble_eq_true rfl) ?_
  refine z_if_neB (tgt := 18) d_G_take_4 7 rfl rfl (fun h4 => ?_) (fun h4 => ?_)
  · exact z_vret d_G_take_18 rfl (Nat.zero_le _) (Nat.zero_le _) (hstay (Or.inl (of_decide_eq_true h4)))
  · have h32 : ¬ 32 ≤ V.L.length := of_decide_eq_false h4
    refine z_aload_n d_G_take_7 8 rfl rfl rfl ?_
    refine z_aload_n d_G_take_8 9 rfl rfl rfl ?_
    refine z_get d_G_take_9 12 rfl f_G_45 haO rfl ?_
    refine z_cV1 d_G_take_12 15 rfl mv_G_holds kl_G_52 (by decide) 0 0 rfl rfl (Nat.zero_le _) (Nat.zero_le _) x.o (fun Q' q => c_G_holds (nI (dg 7 bs)) x.o hf q) rfl rfl (Nat.le_of_ble_eq_true rfl) ?_
    refine z_if_eqB (tgt := 19) d_G_take_15 18 rfl rfl (fun h15 => ?_) (fun h15 => ?_)
    · have e0 : takeV V (a, bs) = ⟨gIns V.L (a, bs), hisT (gIns V.L (a, bs)) (a, bs) (gIns V.L (a, bs)) V.H, nnM (gIns V.L (a, bs)) (aCs bs) (remS V.m (dg 7 bs)), nnC (aCs bs) V.c, V.a⟩ := if_neg (fun e => e.elim h32 (fun e => by rw [show fdA (nI (dg 7 (a, bs).2)) V.L = fdA (nI (dg 7 bs)) V.L from rfl, h15] at e; cases e))
      rw [e0] at hQ hlm hlc hu
      simp only [BV.pot, BV.kL, BV.kH, BV.km, BV.kc, BV.ka] at hu hlm hlc
      refine z_aload_n d_G_take_19 20 rfl rfl rfl ?_
      refine z_aload_n d_G_take_20 21 rfl rfl rfl ?_
      refine z_cV (Q' := fun r h' => r = none ∧ stp (· = k) W h W h' ∧ bgA W D h' k o b hi mi cl as (BV.uL V (gIns V.L (a, bs)))) d_G_take_21 24 rfl mv_G_insert kl_G_56 (by decide) 0 0 rfl rfl (Nat.zero_le _) (Nat.zero_le _) x.o (c_G_insert x.o hf ha hbs (by omega) hob (fun e => by have := x.wo.symm.trans e; omega) (fun e => by have := x.wb.symm.trans e; omega) (fun f' y => ⟨rfl, x.sL (y := (a, bs)) hk y⟩)) rfl rfl (Nat.le_of_ble_eq_true rfl) ?_; rintro _ h1 ⟨rfl, s1, x1⟩
      have ha1 := ha.st s1 (by omega)
      obtain ⟨b2, p2, f2, -, haO1, -, -, -, -⟩ := ha1
      refine z_aload_n d_G_take_24 25 rfl rfl rfl ?_
      refine z_get d_G_take_25 28 rfl f_G_31 x1.o rfl ?_
      refine z_aload_n d_G_take_28 29 rfl rfl rfl ?_
      refine z_get d_G_take_29 32 rfl f_G_45 haO1 rfl ?_
      obtain ⟨b3, f3, wo3, wb3, hn3, ok3⟩ := x1.m
      refine z_cV (Q' := fun r h' => r = none ∧ ∃ W', stp (· = k + 2) W h1 W' h' ∧ setW W' D h' (k + 2) mi (remS V.m (dg 7 bs))) d_G_take_32 35 rfl mv_N_remove kl_G_60 (by decide) 0 0 rfl rfl (Nat.zero_le _) (Nat.zero_le _) hn3.1 (c_N_removeW (dg 7 bs) x1.m (by omega) (fun W' h' s y => ⟨rfl, W', s, y⟩)) rfl rfl (Nat.le_of_ble_eq_true rfl) ?_; rintro _ h2 ⟨rfl, W2, s2, y2⟩
      have x2 := x1.sm s2 y2
      have ha2 := (ha.st s1 (by omega)).st s2 (by omega)
      have hru : (nnM (gIns V.L (a, bs)) (aCs bs) (remS V.m (dg 7 bs))).1 + (nnC (aCs bs) V.c).1 = (remS V.m (dg 7 bs)).1 + V.c.1 + u := by
        have : (remS V.m (dg 7 bs)).1 = V.m.1 := rfl
        omega
      refine z_aload_n d_G_take_35 36 rfl rfl rfl ?_
      refine z_aload_n d_G_take_36 37 rfl rfl rfl ?_
      refine z_cV (Q' := fun r h' => r = none ∧ ∃ W', stp (fun j => j = k + 2 ∨ j = k + 3) W2 h2 W' h' ∧ bgA W' D h' k o b hi mi cl as ⟨gIns V.L (a, bs), V.H, nnM (gIns V.L (a, bs)) (aCs bs) (remS V.m (dg 7 bs)), nnC (aCs bs) V.c, V.a⟩) d_G_take_37 40 rfl mv_G_noteNamesOf kl_G_64 (by decide) (0 + u) (0 + 2 * u) rfl rfl (by omega) (by omega) x2.o (c_G_noteNamesOf u x2 hk ha2 hbs hlm hlc hru (fun W' h' s y => ⟨rfl, W', s, y⟩)) rfl rfl (Nat.le_of_ble_eq_true rfl) ?_; rintro _ h3 ⟨rfl, W3, s3, x3⟩
      have ha3 := ha2.st s3 (by omega)
      have s03 : stp (fun j => k ≤ j ∧ j ≤ k + 3) W h W3 h3 := ((s1.wk (fun j e => by omega)).tr (s2.wk (fun j e => by omega))).tr (s3.wk (fun j e => by omega))
      have hl2 := gIns_len V.L (a, bs)
      have loop : ∀ (i j : Nat) (W4 : Nat → Nat) (h4 : zH) (H : List (Nat × List Nat)), j + i = (gIns V.L (a, bs)).length → stp (· = k + 1) W3 h3 W4 h4 → bgA W4 D h4 k o b hi mi cl as ⟨gIns V.L (a, bs), H, nnM (gIns V.L (a, bs)) (aCs bs) (remS V.m (dg 7 bs)), nnC (aCs bs) V.c, V.a⟩ → hisT (gIns V.L (a, bs)) (a, bs) ((gIns V.L (a, bs)).drop j) H = hisT (gIns V.L (a, bs)) (a, bs) (gIns V.L (a, bs)) V.H → Z l D M_G_take u (2 * u) Q h4 (0 + u) (0 + 2 * u) 42 [some (.ref o), some (.ref a), some (.int (nI j))] [] := by
        intro i
        induction i with
        | zero =>
          intro j W4 h4 H hj s4 x4 he
          have o4 : h4 o = some (.inr (3, [.ref b, .int (nI (gIns V.L (a, bs)).length), .ref hi, .ref mi, .ref cl, .ref as])) := x4.o
          rw [List.drop_eq_nil_of_le (by omega), hisT] at he
          refine z_iload_n d_G_take_42 43 rfl rfl rfl ?_
          refine z_aload_n d_G_take_43 44 rfl rfl rfl ?_
          refine z_get d_G_take_44 47 rfl f_G_17 o4 rfl ?_
          refine z_icmp_geN (tgt := 92) d_G_take_47 50 rfl rfl (by omega) (by omega) (fun h47 => ?_) (fun h47 => ?_)
          · rw [he] at x4
            exact z_vret d_G_take_92 rfl (by omega) (by omega) (hQ W4 h4 (s03.tr (s4.wk (fun j e => by omega))) x4)
          · omega
        | succ i ih =>
          intro j W4 h4 H hj s4 x4 he
          obtain ⟨y, hy⟩ : ∃ c, (gIns V.L (a, bs))[j]? = some c := ⟨(gIns V.L (a, bs))[j]'(by omega), List.getElem?_eq_getElem (by omega)⟩
          have o4 : h4 o = some (.inr (3, [.ref b, .int (nI (gIns V.L (a, bs)).length), .ref hi, .ref mi, .ref cl, .ref as])) := x4.o
          rw [drop_consL hy, hisT] at he
          obtain ⟨f4, hf4⟩ := x4.L
          obtain ⟨-, y240, hya⟩ := hf4.2.2 j y hy
          have hya0 := hya
          obtain ⟨c1, c2, c3, -, hyO, -, -, -, hycr⟩ := hya0
          obtain ⟨a4, aok⟩ := aCs_all y.2
          have ha4 := ha3.st s4 (by omega)
          obtain ⟨d1, d2, d3, -, haO4, -, -, -, -⟩ := ha4
          have j76 : (y.1 = (a, bs).1 ∨ nfC (nI (dg 7 (a, bs).2)) (aCs y.2) = true) → Z l D M_G_take u (2 * u) Q h4 (0 + u) (0 + 2 * u) 76 [some (.ref o), some (.ref a), some (.int (nI j))] [] := by
            intro hc
            rw [if_pos hc] at he
            refine z_aload_n d_G_take_76 77 rfl rfl rfl ?_
            refine z_aload_n d_G_take_77 78 rfl rfl rfl ?_
            refine z_get d_G_take_78 81 rfl f_G_11 o4 rfl ?_
            refine z_iload_n d_G_take_81 82 rfl rfl rfl ?_
            refine z_aaldA d_G_take_82 83 rfl hf4 hy ?_
            refine z_cV (Q' := fun r h' => r = none ∧ ∃ W', stp (· = k + 1) W4 h4 W' h' ∧ bgA W' D h' k o b hi mi cl as ⟨gIns V.L (a, bs), nci (gIns V.L (a, bs)) H (y.1, y.2), nnM (gIns V.L (a, bs)) (aCs bs) (remS V.m (dg 7 bs)), nnC (aCs bs) V.c, V.a⟩) d_G_take_83 86 rfl mv_G_noteIfCheckIn kl_G_70 (by decide) (0 + u + 0) (0 + 2 * u + 0) rfl rfl (by omega) (by omega) x4.o (c_G_nci (a := y.1) (bs := y.2) x4 hk hya y240 (fun W' h' s y' => ⟨rfl, W', s, y'⟩)) rfl rfl (Nat.le_of_ble_eq_true rfl) ?_; rintro _ h5 ⟨rfl, W5, s5, x5⟩
            first | refine z_incN2 d_G_take_86 89 rfl rfl ?_ | refine z_inc2 d_G_take_86 89 rfl rfl rfl ?_
            refine z_goto (tgt := 42) d_G_take_89 rfl ?_
            exact ih (j + 1) W5 h5 _ (by omega) (s4.tr s5) x5 he
          refine z_iload_n d_G_take_42 43 rfl rfl rfl ?_
          refine z_aload_n d_G_take_43 44 rfl rfl rfl ?_
          refine z_get d_G_take_44 47 rfl f_G_17 o4 rfl ?_
          refine z_icmp_geN (tgt := 92) d_G_take_47 50 rfl rfl (by omega) (by omega) (fun h47 => ?_) (fun h47 => ?_)
          · omega
          · refine z_aload_n d_G_take_50 51 rfl rfl rfl ?_
            refine z_get d_G_take_51 54 rfl f_G_11 o4 rfl ?_
            refine z_iload_n d_G_take_54 55 rfl rfl rfl ?_
            refine z_aaldA d_G_take_55 56 rfl hf4 hy ?_
            refine z_aload_n d_G_take_56 57 rfl rfl rfl ?_
            refine z_acmp_eq (rx := some y.1) (ry := some a) (tgt := 76) d_G_take_57 60 rfl rfl (fun h57 => ?_) (fun h57 => ?_)
            · exact j76 (Or.inl (Option.some.inj h57))
            · refine z_aload_n d_G_take_60 61 rfl rfl rfl ?_
              refine z_get d_G_take_61 64 rfl f_G_11 o4 rfl ?_
              refine z_iload_n d_G_take_64 65 rfl rfl rfl ?_
              refine z_aaldA d_G_take_65 66 rfl hf4 hy ?_
              refine z_aload_n d_G_take_66 67 rfl rfl rfl ?_
              refine z_get d_G_take_67 70 rfl f_G_45 haO4 rfl ?_
              refine z_cV1 d_G_take_70 73 rfl mv_A_namesFile kl_G_67 (by decide) (0 + u) (0 + 2 * u) rfl rfl (by omega) (by omega) hyO (fun Q' q => c_A_namesFile (nI (dg 7 bs)) hyO hycr.P (by omega) aok q) rfl rfl (Nat.le_of_ble_eq_true rfl) ?_
              refine z_if_eqB (tgt := 86) d_G_take_73 76 rfl rfl (fun h73 => ?_) (fun h73 => ?_)
              · rw [if_neg (fun e => e.elim (fun e => h57 (congrArg some e)) (fun e => by rw [show nfC (nI (dg 7 (a, bs).2)) (aCs y.2) = nfC (nI (dg 7 bs)) (aCs y.2) from rfl, h73] at e; cases e))] at he
                first | refine z_incN2 d_G_take_86 89 rfl rfl ?_ | refine z_inc2 d_G_take_86 89 rfl rfl rfl ?_
                refine z_goto (tgt := 42) d_G_take_89 rfl ?_
                exact ih (j + 1) W4 h4 H (by omega) s4 x4 he
              · exact j76 (Or.inr h73)
      refine z_iconst (v := nI 0) d_G_take_40 41 rfl rfl ?_
      refine z_ist2 d_G_take_41 42 rfl rfl ?_
      exact loop (gIns V.L (a, bs)).length 0 W3 h3 V.H (by omega) (stp.rf _ _ _) x3 (by rw [List.drop_zero])
    · exact z_vret d_G_take_18 rfl (Nat.zero_le _) (Nat.zero_le _) (hstay (Or.inr h15))
theorem c_G_derive (u : Nat) (x : bgA W D h k o b hi mi cl as V) (hk : 0 < k) (hlm : (drvV V).m.2.length < 1000) (hlc : (drvV V).c.2.length < 1000) (hu : (drvV V).pot = V.pot + u) (hQ : ∀ W' h', stp (fun j => k ≤ j ∧ j ≤ k + 3) W h W' h' → bgA W' D h' k o b hi mi cl as (drvV V) → Q none h') : Runs l D M_G_deriveAnew [.ref o] h u (2 * u) Q := by
  refine Runs.of rfl rfl (Nat.le_of_ble_eq_true rfl) ?_
  refine z_aload_n d_G_deriveAnew_0 1 rfl rfl rfl ?_
  refine z_get d_G_deriveAnew_1 4 rfl f_G_24 x.o rfl ?_
  obtain ⟨b1, f1, wo1, wb1, hn1, -⟩ := x.H
  refine z_cV (Q' := fun r h' => r = none ∧ ∃ W', stp (· = k + 1) W h W' h' ∧ hisW W' D h' (k + 1) hi []) d_G_deriveAnew_4 7 rfl mv_H_clear kl_G_73 (by decide) 0 0 rfl rfl (Nat.zero_le _) (Nat.zero_le _) hn1 (c_H_clearW x.H (by omega) (fun W' h' s y => ⟨rfl, W', s, y⟩)) rfl rfl (Nat.le_of_ble_eq_true rfl) ?_; rintro _ h1 ⟨rfl, W1, s1, y1⟩
  have x1 := x.sh s1 y1
  refine z_aload_n d_G_deriveAnew_7 8 rfl rfl rfl ?_
  refine z_get d_G_deriveAnew_8 11 rfl f_G_31 x1.o rfl ?_
  obtain ⟨b2, f2, wo2, wb2, hn2, -⟩ := x1.m
  refine z_cV (Q' := fun r h' => r = none ∧ ∃ W', stp (· = k + 2) W1 h1 W' h' ∧ setW W' D h' (k + 2) mi (V.m.1, [])) d_G_deriveAnew_11 14 rfl mv_N_clear kl_G_76 (by decide) 0 0 rfl rfl (Nat.zero_le _) (Nat.zero_le _) hn2.1 (c_N_clearW x1.m (fun W' h' s y => ⟨rfl, W', s, y⟩)) rfl rfl (Nat.le_of_ble_eq_true rfl) ?_; rintro _ h2 ⟨rfl, W2, s2, y2⟩
  have x2 := x1.sm s2 y2
  refine z_aload_n d_G_deriveAnew_14 15 rfl rfl rfl ?_
  refine z_get d_G_deriveAnew_15 18 rfl f_G_35 x2.o rfl ?_
  obtain ⟨b3, f3, wo3, wb3, hn3, -⟩ := x2.c
  refine z_cV (Q' := fun r h' => r = none ∧ ∃ W', stp (· = k + 3) W2 h2 W' h' ∧ setW W' D h' (k + 3) cl (V.c.1, [])) d_G_deriveAnew_18 21 rfl mv_N_clear kl_G_76 (by decide) 0 0 rfl rfl (Nat.zero_le _) (Nat.zero_le _) hn3.1 (c_N_clearW x2.c (fun W' h' s y => ⟨rfl, W', s, y⟩)) rfl rfl (Nat.le_of_ble_eq_true rfl) ?_; rintro _ h3 ⟨rfl, W3, s3, y3⟩
  have x3 := x2.sc s3 y3
  have s03 : stp (fun j => k ≤ j ∧ j ≤ k + 3) W h W3 h3 := ((s1.wk (fun j e => by omega)).tr (s2.wk (fun j e => by omega))).tr (s3.wk (fun j e => by omega))
  simp only [BV.pot, BV.kL, BV.kH, BV.km, BV.kc, BV.ka, drvV] at hu hlm hlc hQ
  have loop : ∀ (i j : Nat) (W4 : Nat → Nat) (h4 : zH) (z : List (Nat × List Nat) × NS × NS) (cu : Nat), j + i = V.L.length → stp (fun j => k ≤ j ∧ j ≤ k + 3) W h W4 h4 → bgA W4 D h4 k o b hi mi cl as ⟨V.L, z.1, z.2.1, z.2.2, V.a⟩ → drvF V.L (V.L.drop j) z = drvF V.L V.L ([], (V.m.1, []), (V.c.1, [])) → z.2.1.1 + z.2.2.1 = V.m.1 + V.c.1 + cu → Z l D M_G_deriveAnew u (2 * u) Q h4 cu (2 * cu) 23 [some (.ref o), some (.int (nI j))] [] := by
    intro i
    induction i with
    | zero =>
      intro j W4 h4 z cu hj s4 x4 he hcu
      obtain ⟨f4, hf4⟩ := x4.L
      have hlen : V.L.length ≤ 32 := hf4.2.1
      have o4 : h4 o = some (.inr (3, [.ref b, .int (nI V.L.length), .ref hi, .ref mi, .ref cl, .ref as])) := x4.o
      rw [List.drop_eq_nil_of_le (by omega), drvF] at he
      subst he
      refine z_iload_n d_G_deriveAnew_23 24 rfl rfl rfl ?_
      refine z_aload_n d_G_deriveAnew_24 25 rfl rfl rfl ?_
      refine z_get d_G_deriveAnew_25 28 rfl f_G_17 o4 rfl ?_
      refine z_icmp_geN (tgt := 57) d_G_deriveAnew_28 31 rfl rfl (by omega) (by omega) (fun h28 => ?_) (fun h28 => ?_)
      · exact z_vret d_G_deriveAnew_57 rfl (by omega) (by omega) (hQ W4 h4 s4 x4)
      · omega
    | succ i ih =>
      intro j W4 h4 z cu hj s4 x4 he hcu
      obtain ⟨y, hy⟩ : ∃ c, V.L[j]? = some c := ⟨V.L[j]'(by omega), List.getElem?_eq_getElem (by omega)⟩
      have o4 : h4 o = some (.inr (3, [.ref b, .int (nI V.L.length), .ref hi, .ref mi, .ref cl, .ref as])) := x4.o
      rw [drop_consL hy, drvF] at he
      obtain ⟨f4, hf4⟩ := x4.L
      have hlen : V.L.length ≤ 32 := hf4.2.1
      obtain ⟨-, y240, hya⟩ := hf4.2.2 j y hy
      have hup := drvF_up V.L (V.L.drop (j + 1)) (nci V.L z.1 y, nnM V.L (aCs y.2) z.2.1, nnC (aCs y.2) z.2.2)
      rw [he] at hup
      simp only at hup
      obtain ⟨u1, hu1⟩ := Nat.exists_eq_add_of_le (nnM_up V.L (aCs y.2) z.2.1).2
      obtain ⟨u2, hu2⟩ := Nat.exists_eq_add_of_le (nnC_up (aCs y.2) z.2.2).2
      refine z_iload_n d_G_deriveAnew_23 24 rfl rfl rfl ?_
      refine z_aload_n d_G_deriveAnew_24 25 rfl rfl rfl ?_
      refine z_get d_G_deriveAnew_25 28 rfl f_G_17 o4 rfl ?_
      refine z_icmp_geN (tgt := 57) d_G_deriveAnew_28 31 rfl rfl (by omega) (by omega) (fun h28 => ?_) (fun h28 => ?_)
      · omega
      · refine z_aload_n d_G_deriveAnew_31 32 rfl rfl rfl ?_
        refine z_aload_n d_G_deriveAnew_32 33 rfl rfl rfl ?_
        refine z_get d_G_deriveAnew_33 36 rfl f_G_11 o4 rfl ?_
        refine z_iload_n d_G_deriveAnew_36 37 rfl rfl rfl ?_
        refine z_aaldA d_G_deriveAnew_37 38 rfl hf4 hy ?_
        refine z_cV (Q' := fun r h' => r = none ∧ ∃ W', stp (fun j => j = k + 2 ∨ j = k + 3) W4 h4 W' h' ∧ bgA W' D h' k o b hi mi cl as ⟨V.L, z.1, nnM V.L (aCs y.2) z.2.1, nnC (aCs y.2) z.2.2, V.a⟩) d_G_deriveAnew_38 41 rfl mv_G_noteNamesOf kl_G_64 (by decide) (cu + (u1 + u2)) (2 * cu + 2 * (u1 + u2)) rfl rfl (by omega) (by omega) x4.o (c_G_noteNamesOf (a := y.1) (bs := y.2) (u1 + u2) x4 hk hya y240 (show (nnM V.L (aCs y.2) z.2.1).2.length < 1000 by omega) (show (nnC (aCs y.2) z.2.2).2.length < 1000 by omega) (show (nnM V.L (aCs y.2) z.2.1).1 + (nnC (aCs y.2) z.2.2).1 = z.2.1.1 + z.2.2.1 + (u1 + u2) by omega) (fun W' h' s y => ⟨rfl, W', s, y⟩)) rfl rfl (Nat.le_of_ble_eq_true rfl) ?_; rintro _ h5 ⟨rfl, W5, s5, x5⟩
        obtain ⟨f5, hf5⟩ := x5.L
        refine z_aload_n d_G_deriveAnew_41 42 rfl rfl rfl ?_
        refine z_aload_n d_G_deriveAnew_42 43 rfl rfl rfl ?_
        refine z_get d_G_deriveAnew_43 46 rfl f_G_11 x5.o rfl ?_
        refine z_iload_n d_G_deriveAnew_46 47 rfl rfl rfl ?_
        refine z_aaldA d_G_deriveAnew_47 48 rfl hf5 hy ?_
        refine z_cV (Q' := fun r h' => r = none ∧ ∃ W', stp (· = k + 1) W5 h5 W' h' ∧ bgA W' D h' k o b hi mi cl as ⟨V.L, nci V.L z.1 (y.1, y.2), nnM V.L (aCs y.2) z.2.1, nnC (aCs y.2) z.2.2, V.a⟩) d_G_deriveAnew_48 51 rfl mv_G_noteIfCheckIn kl_G_70 (by decide) (cu + (u1 + u2) + 0) (2 * cu + 2 * (u1 + u2) + 0) rfl rfl (by omega) (by omega) x5.o (c_G_nci (a := y.1) (bs := y.2) x5 hk (hya.st s5 (by omega)) y240 (fun W' h' s y' => ⟨rfl, W', s, y'⟩)) rfl rfl (Nat.le_of_ble_eq_true rfl) ?_; rintro _ h6 ⟨rfl, W6, s6, x6⟩
        first | refine z_incN1 d_G_deriveAnew_51 54 rfl rfl ?_ | refine z_inc1 d_G_deriveAnew_51 54 rfl rfl rfl ?_
        refine z_goto (tgt := 23) d_G_deriveAnew_54 rfl ?_
        rw [show 2 * cu + 2 * (u1 + u2) + 0 = 2 * (cu + (u1 + u2) + 0) by omega]
        exact ih (j + 1) W6 h6 (nci V.L z.1 y, nnM V.L (aCs y.2) z.2.1, nnC (aCs y.2) z.2.2) _ (by omega) ((s4.tr (s5.wk (fun j e => by omega))).tr (s6.wk (fun j e => by omega))) x6 he (by simp only; omega)
  refine z_iconst (v := nI 0) d_G_deriveAnew_21 22 rfl rfl ?_
  refine z_ist1 d_G_deriveAnew_22 23 rfl rfl ?_
  exact loop V.L.length 0 W3 h3 ([], (V.m.1, []), (V.c.1, [])) 0 (by omega) s03 x3 (by rw [List.drop_zero]) rfl
end C33
