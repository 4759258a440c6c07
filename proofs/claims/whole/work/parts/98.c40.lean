/-! The class: its constructor, its state. Own work. -/
/-- the class's state: two bags, the draft, the scratch -/
def abW (W : Nat → Nat) (D : zD) (h : zH) (x : Nat) (V : Nat → BV) (dr : List Nat) : Prop := ∃ (g bb hh mm cc aa : Nat → Nat) (dA sA : Nat) (sc : List Nat), W x = 3 ∧ h x = some (.inr (1, [.ref (g 0), .ref (g 1), .ref dA, .ref sA])) ∧ (∀ q, q < 2 → bgA W D h (10 + 10 * q) (g q) (bb q) (hh q) (mm q) (cc q) (aa q) (V q)) ∧ rowW W D h 1 dA dr ∧ rowW W D h 2 sA sc
theorem abW.st {R : Nat → Prop} {W W' : Nat → Nat} {D : zD} {h h' : zH} {x : Nat} {V : Nat → BV} {dr : List Nat} (y : abW W D h x V dr) (s : stp R W h W' h') (hR : ∀ j, j ≤ 24 → ¬ R j) : abW W' D h' x V dr := by
  obtain ⟨g, bb, hh, mm, cc, aa, dA, sA, sc, w, hx, hV, hd, hs⟩ := y
  obtain ⟨a1, a2⟩ := s x _ hx (by rw [w]; exact hR 3 (by omega))
  exact ⟨g, bb, hh, mm, cc, aa, dA, sA, sc, a1.trans w, a2, fun q hq => (hV q hq).st s (hR 0 (by omega)) (fun j hj => hR _ (by omega)), hd.st s (hR 1 (by omega)), hs.st s (hR 2 (by omega))⟩
theorem but_stp {R : Nat → Prop} {o : Nat} {W W' : Nat → Nat} {h h' : zH} {e0 : va_E} (ho : h o = none) (hb : ∀ q e, q ≠ o → zset h o e0 q = some e → W' q = W q ∧ h' q = some e) : stp R W h W' h' := by
  intro q e he _
  have hq := some_ne he ho
  exact hb q e hq ((zset_ne hq).trans he)
theorem mk2_stp {R : Nat → Prop} {W : Nat → Nat} {c c' : zH} {s sb : Nat} {e1 e2 : va_E} (j : Nat) (m : mk2 c c' s sb e1 e2) : stp R W c (fun q => if q = s ∨ q = sb then j else W q) c' := by
  obtain ⟨h1, h2, -, -, -, h3⟩ := m
  intro q e he _
  have r1 := some_ne he h1
  have r2 := some_ne he h2
  exact ⟨by simp only [r1, r2, or_self, if_false], h3 q e he⟩
def nV : BV := ⟨[], [], (16, []), (16, []), (16, [])⟩
def two (a b : Nat) : Nat → Nat := fun q => if q = 0 then a else b
section C41
variable {l : Launch} {D : zD} {M : zM} {W : Nat → Nat} {h : zH} {x : Nat} {Q : Option Value → zH → Prop}
theorem c_B_init (hx : h x = some (.inr (1, [.null, .null, .null, .null]))) (hwx : W x = 3) (hQ : ∀ W' h', stp (· = 3) W h W' h' → abW W' D h' x (fun _ => nV) [] → Q none h') : Runs l D M_B_init [.ref x] h 24 736 Q := by
  refine Runs.of rfl rfl (Nat.le_of_ble_eq_true rfl) ?_
  refine z_aload_n d_B_init_0 1 rfl rfl rfl ?_
  refine z_objInit d_B_init_1 4 rfl kl9_B_1 oi_i oi_c (by decide) (Nat.le_of_ble_eq_true rfl) ?_
  refine z_aload_n d_B_init_4 5 rfl rfl rfl ?_
  refine z_new d_B_init_5 8 rfl nw_B_7 (by decide) (by decide) (fun g0 ng0 => ?_)
  refine z_dup d_B_init_8 9 rfl rfl ?_
  refine z_cI (Q' := fun r h' => r = none ∧ ∃ W' b hi mi cl as, stp (fun _ => False) W h W' h' ∧ bgA W' D h' 10 g0 b hi mi cl as nV) d_B_init_9 12 rfl mi_G_init kl_B_9 (by decide) 10 126 rfl rfl (by decide) (by decide) (c_G_init (W := W) (k := 10) (zset_self _ _ _) (fun W' h' b hi mi cl as f y => ⟨rfl, W', b, hi, mi, cl, as, but_stp ng0 f, y⟩)) rfl rfl (Nat.le_of_ble_eq_true rfl) ?_; rintro _ k1 ⟨rfl, W1, b0, hi0, mi0, cl0, as0, s1, y1⟩
  obtain ⟨w1, x1⟩ := s1 x _ hx (fun e => e)
  refine z_put d_B_init_12 15 rfl p_B_10 x1 rfl rfl (Nat.le_of_ble_eq_true rfl) rfl ?_; dsimp only [List.set]
  have t1 : stp (· = 3) W1 k1 W1 (zset k1 x (.inr (1, [.ref g0, .null, .null, .null]))) := stp_set _ (w1.trans hwx)
  have v1 := y1.st t1 (by omega) (by omega)
  obtain ⟨c1, hc1⟩ : ∃ c, c = zset k1 x (.inr (1, [.ref g0, .null, .null, .null])) := ⟨_, rfl⟩
  have z1 : c1 x = some (.inr (1, [.ref g0, .null, .null, .null])) := by rw [hc1]; exact zset_self _ _ _
  rw [← hc1] at t1 v1 ⊢
  clear hc1
  refine z_aload_n d_B_init_15 16 rfl rfl rfl ?_
  refine z_new d_B_init_16 19 rfl nw_B_7 (by decide) (by decide) (fun g1 ng1 => ?_)
  refine z_dup d_B_init_19 20 rfl rfl ?_
  refine z_cI (Q' := fun r h' => r = none ∧ ∃ W' b hi mi cl as, stp (fun _ => False) W1 c1 W' h' ∧ bgA W' D h' 20 g1 b hi mi cl as nV) d_B_init_20 23 rfl mi_G_init kl_B_9 (by decide) 20 252 rfl rfl (by decide) (by decide) (c_G_init (W := W1) (k := 20) (zset_self _ _ _) (fun W' h' b hi mi cl as f y => ⟨rfl, W', b, hi, mi, cl, as, but_stp ng1 f, y⟩)) rfl rfl (Nat.le_of_ble_eq_true rfl) ?_; rintro _ k2 ⟨rfl, W2, b1, hi1, mi1, cl1, as1, s2, y2⟩
  obtain ⟨w2, x2⟩ := s2 x _ z1 (fun e => e)
  refine z_put d_B_init_23 26 rfl p_B_16 x2 rfl rfl (Nat.le_of_ble_eq_true rfl) rfl ?_; dsimp only [List.set]
  have t2 : stp (· = 3) W2 k2 W2 (zset k2 x (.inr (1, [.ref g0, .ref g1, .null, .null]))) := stp_set _ (w2.trans (w1.trans hwx))
  have u2 := (v1.st s2 (fun e => e) (fun _ _ e => e)).st t2 (by omega) (by omega)
  have v2 := y2.st t2 (by omega) (by omega)
  obtain ⟨c2, hc2⟩ : ∃ c, c = zset k2 x (.inr (1, [.ref g0, .ref g1, .null, .null])) := ⟨_, rfl⟩
  have z2 : c2 x = some (.inr (1, [.ref g0, .ref g1, .null, .null])) := by rw [hc2]; exact zset_self _ _ _
  rw [← hc2] at t2 u2 v2 ⊢
  clear hc2
  refine z_aload_n d_B_init_26 27 rfl rfl rfl ?_
  refine z_new d_B_init_27 30 rfl nw_B_19 (by decide) (by decide) (fun dA ndA => ?_)
  refine z_dup d_B_init_30 31 rfl rfl ?_
  refine z_cI (Q' := fun r h' => r = none ∧ ∃ y, mk2 c2 h' dA y (.inr (7, [.ref y, .int (nI 0)])) (.inl (D.2 0, 240, .inl (fun _ => 0)))) d_B_init_31 34 rfl mi_R_init kl_B_21 (by decide) 22 494 rfl rfl (by decide) (by decide) (c_R_init (zset_self _ _ _) (fun y hy => ⟨rfl, y, mk2_of ndA hy⟩)) rfl rfl (Nat.le_of_ble_eq_true rfl) ?_; rintro _ k3 ⟨rfl, dB, m3⟩
  have s3 : stp (fun _ => False) W2 c2 (fun q => if q = dA ∨ q = dB then 1 else W2 q) k3 := mk2_stp 1 m3
  obtain ⟨W3, hW3⟩ : ∃ W3, W3 = fun q => if q = dA ∨ q = dB then 1 else W2 q := ⟨_, rfl⟩
  rw [← hW3] at s3
  have a3 : W3 dA = 1 := by rw [hW3]; simp only [true_or, if_true]
  have a3' : W3 dB = 1 := by rw [hW3]; simp only [or_true, if_true]
  clear hW3
  obtain ⟨-, -, -, e3, e3', -⟩ := m3
  have r3 : rowW W3 D k3 1 dA [] := ⟨dB, _, a3, a3', e3, e3', fun i hi => absurd hi (Nat.not_lt_zero i), Nat.zero_le _⟩
  obtain ⟨w3, x3⟩ := s3 x _ z2 (fun e => e)
  refine z_put d_B_init_34 37 rfl p_B_22 x3 rfl rfl (Nat.le_of_ble_eq_true rfl) rfl ?_; dsimp only [List.set]
  have t3 : stp (· = 3) W3 k3 W3 (zset k3 x (.inr (1, [.ref g0, .ref g1, .ref dA, .null]))) := stp_set _ (w3.trans (w2.trans (w1.trans hwx)))
  have u3 := (u2.st s3 (fun e => e) (fun _ _ e => e)).st t3 (by omega) (by omega)
  have v3 := (v2.st s3 (fun e => e) (fun _ _ e => e)).st t3 (by omega) (by omega)
  have q3 := r3.st t3 (by omega)
  obtain ⟨c3, hc3⟩ : ∃ c, c = zset k3 x (.inr (1, [.ref g0, .ref g1, .ref dA, .null])) := ⟨_, rfl⟩
  have z3 : c3 x = some (.inr (1, [.ref g0, .ref g1, .ref dA, .null])) := by rw [hc3]; exact zset_self _ _ _
  rw [← hc3] at t3 u3 v3 q3 ⊢
  clear hc3
  refine z_aload_n d_B_init_37 38 rfl rfl rfl ?_
  refine z_new d_B_init_38 41 rfl nw_B_19 (by decide) (by decide) (fun sA nsA => ?_)
  refine z_dup d_B_init_41 42 rfl rfl ?_
  refine z_cI (Q' := fun r h' => r = none ∧ ∃ y, mk2 c3 h' sA y (.inr (7, [.ref y, .int (nI 0)])) (.inl (D.2 0, 240, .inl (fun _ => 0)))) d_B_init_42 45 rfl mi_R_init kl_B_21 (by decide) 24 736 rfl rfl (by decide) (by decide) (c_R_init (zset_self _ _ _) (fun y hy => ⟨rfl, y, mk2_of nsA hy⟩)) rfl rfl (Nat.le_of_ble_eq_true rfl) ?_; rintro _ k4 ⟨rfl, sB, m4⟩
  have s4 : stp (fun _ => False) W3 c3 (fun q => if q = sA ∨ q = sB then 2 else W3 q) k4 := mk2_stp 2 m4
  obtain ⟨W4, hW4⟩ : ∃ W4, W4 = fun q => if q = sA ∨ q = sB then 2 else W3 q := ⟨_, rfl⟩
  rw [← hW4] at s4
  have a4 : W4 sA = 2 := by rw [hW4]; simp only [true_or, if_true]
  have a4' : W4 sB = 2 := by rw [hW4]; simp only [or_true, if_true]
  clear hW4
  obtain ⟨-, -, -, e4, e4', -⟩ := m4
  have r4 : rowW W4 D k4 2 sA [] := ⟨sB, _, a4, a4', e4, e4', fun i hi => absurd hi (Nat.not_lt_zero i), Nat.zero_le _⟩
  obtain ⟨w4, x4⟩ := s4 x _ z3 (fun e => e)
  refine z_put d_B_init_45 48 rfl p_B_26 x4 rfl rfl (Nat.le_of_ble_eq_true rfl) rfl ?_; dsimp only [List.set]
  have wx : W4 x = 3 := w4.trans (w3.trans (w2.trans (w1.trans hwx)))
  have t4 : stp (· = 3) W4 k4 W4 (zset k4 x (.inr (1, [.ref g0, .ref g1, .ref dA, .ref sA]))) := stp_set _ wx
  have u4 := (u3.st s4 (fun e => e) (fun _ _ e => e)).st t4 (by omega) (by omega)
  have v4 := (v3.st s4 (fun e => e) (fun _ _ e => e)).st t4 (by omega) (by omega)
  have q4 := (q3.st s4 (fun e => e)).st t4 (by omega)
  have p4 := r4.st t4 (by omega)
  refine z_vret d_B_init_48 rfl (by decide) (by decide) (hQ W4 _ (((((((s1.wk (fun _ e => e.elim)).tr t1).tr (s2.wk (fun _ e => e.elim))).tr t2).tr (s3.wk (fun _ e => e.elim))).tr t3).tr ((s4.wk (fun _ e => e.elim)).tr t4)) ⟨two g0 g1, two b0 b1, two hi0 hi1, two mi0 mi1, two cl0 cl1, two as0 as1, dA, sA, [], wx, zset_self _ _ _, ?_, q4, p4⟩)
  intro q hq
  have hq2 : q = 0 ∨ q = 1 := by omega
  rcases hq2 with rfl | rfl
  · exact u4
  · exact v4
end C41
