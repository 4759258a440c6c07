/-! The class: a new bag. Own work. -/
theorem some_ne {h : zH} {p q : Nat} {e : va_E} (h1 : h p = some e) (h2 : h q = none) : p ≠ q := fun e9 => by
  rw [e9, h2] at h1
  cases h1
/-- an object and its array were made in free cells -/
def mk2 (c c' : zH) (s sb : Nat) (e1 e2 : va_E) : Prop := c s = none ∧ c sb = none ∧ sb ≠ s ∧ c' s = some e1 ∧ c' sb = some e2 ∧ ∀ p e, c p = some e → c' p = some e
theorem mk2_of {c : zH} {s sb : Nat} {e0 e1 e2 : va_E} (hs : c s = none) (hb : zset c s e0 sb = none) : mk2 c (zset (zset (zset c s e0) sb e2) s e1) s sb e1 e2 := by
  have hne : sb ≠ s := fun e9 => by
    rw [e9, zset_self] at hb
    cases hb
  have hb2 : c sb = none := by rw [zset_ne hne] at hb; exact hb
  refine ⟨hs, hb2, hne, zset_self _ _ _, by rw [zset_ne hne, zset_self], ?_⟩
  intro p e hp
  rw [zset_ne (some_ne hp hs), zset_ne (some_ne hp hb2), zset_ne (some_ne hp hs)]
  exact hp
section C40
variable {l : Launch} {D : zD} {M : zM} {W : Nat → Nat} {h : zH} {o k : Nat} {Q : Option Value → zH → Prop}
theorem c_G_init (ho : h o = some (.inr (3, [.null, .int 0, .null, .null, .null, .null]))) (hQ : ∀ W' h' b hi mi cl as, (∀ q e, q ≠ o → h q = some e → W' q = W q ∧ h' q = some e) → bgA W' D h' k o b hi mi cl as ⟨[], [], (16, []), (16, []), (16, [])⟩ → Q none h') : Runs l D M_G_init [.ref o] h 9 120 Q := by
  refine Runs.of rfl rfl (Nat.le_of_ble_eq_true rfl) ?_
  refine z_aload_n d_G_init_0 1 rfl rfl rfl ?_
  refine z_objInit d_G_init_1 4 rfl kl9_G_3 oi_i oi_c (by decide) (Nat.le_of_ble_eq_true rfl) ?_
  refine z_aload_n d_G_init_4 5 rfl rfl rfl ?_
  refine z_bipush (v := nI 32) d_G_init_5 7 rfl rfl ?_
  refine z_anew (t := 2) (N := 32) d_G_init_7 10 rfl cl_G_9 (by decide) rfl (by decide) rfl (by decide) (by decide) (by decide) (fun b hbn => ?_)
  have ob : o ≠ b := some_ne ho hbn
  refine z_put d_G_init_10 13 rfl p_G_11 ((zset_ne ob).trans ho) rfl rfl (Nat.le_of_ble_eq_true rfl) rfl ?_; dsimp only [List.set]
  refine z_aload_n d_G_init_13 14 rfl rfl rfl ?_
  refine z_iconst (v := nI 0) d_G_init_14 15 rfl rfl ?_
  refine z_put d_G_init_15 18 rfl (p_G_17 _) (zset_self _ _ _) rfl rfl (Nat.le_of_ble_eq_true rfl) rfl ?_; dsimp only [List.set]
  rw [zset_zset]
  obtain ⟨c0, hc0⟩ : ∃ c0, c0 = zset (zset h b (.inl (D.2 2, 32, .inr (.inr (.inr (.inr (fun _ => none))))))) o (.inr (3, [.ref b, .int (nI 0), .null, .null, .null, .null])) := ⟨_, rfl⟩
  rw [← hc0]
  have o0 : c0 o = some (.inr (3, [.ref b, .int (nI 0), .null, .null, .null, .null])) := by rw [hc0]; exact zset_self _ _ _
  have b0 : c0 b = some (.inl (D.2 2, 32, .inr (.inr (.inr (.inr (fun _ => none)))))) := by rw [hc0, zset_ne (Ne.symm ob), zset_self]
  have f0 : ∀ q e, q ≠ o → h q = some e → c0 q = some e := fun q e q1 hq => by rw [hc0, zset_ne q1, zset_ne (some_ne hq hbn)]; exact hq
  clear hc0
  refine z_aload_n d_G_init_18 19 rfl rfl rfl ?_
  refine z_new d_G_init_19 22 rfl nw_G_21 (by decide) (by decide) (fun hi nhi => ?_)
  refine z_dup d_G_init_22 23 rfl rfl ?_
  refine z_cI (Q' := fun r h' => r = none ∧ ∃ y, mk2 c0 h' hi y (.inr (5, [.ref y, .int (nI 0)])) (.inl (D.2 2, 32, .inr (.inr (.inr (.inr (fun _ => none))))))) d_G_init_23 26 rfl mi_H_init kl_G_23 (by decide) 3 66 rfl rfl (by decide) (by decide) (c_H_init (zset_self _ _ _) (fun y hy => ⟨rfl, y, mk2_of nhi hy⟩)) rfl rfl (Nat.le_of_ble_eq_true rfl) ?_; rintro _ k0 ⟨rfl, hb, mhi⟩
  obtain ⟨-, nhb, dhi, ehi, ehb, fhi⟩ := mhi
  refine z_put d_G_init_26 29 rfl p_G_24 (fhi _ _ o0) rfl rfl (Nat.le_of_ble_eq_true rfl) rfl ?_; dsimp only [List.set]
  obtain ⟨c1, hc1⟩ : ∃ c1, c1 = zset k0 o (.inr (3, [.ref b, .int (nI 0), .ref hi, .null, .null, .null])) := ⟨_, rfl⟩
  rw [← hc1]
  have g1 : ∀ p e, p ≠ o → k0 p = some e → c1 p = some e := fun p e hp hq => by rw [hc1, zset_ne hp]; exact hq
  have o1 : c1 o = some (.inr (3, [.ref b, .int (nI 0), .ref hi, .null, .null, .null])) := by rw [hc1]; exact zset_self _ _ _
  clear hc1
  have nohi : hi ≠ o := Ne.symm (some_ne o0 nhi)
  have nohb : hb ≠ o := Ne.symm (some_ne o0 nhb)
  have b1 : c1 b = some (.inl (D.2 2, 32, .inr (.inr (.inr (.inr (fun _ => none)))))) := g1 _ _ (Ne.symm ob) (fhi _ _ b0)
  have f1 : ∀ q e, q ≠ o → h q = some e → c1 q = some e := fun q e q1 hq => g1 _ _ q1 (fhi _ _ (f0 q e q1 hq))
  have xhi1 := g1 _ _ nohi ehi
  have xhb1 := g1 _ _ nohb ehb
  have qhib : hi ≠ b := Ne.symm (some_ne b0 nhi)
  have qhbb : hb ≠ b := Ne.symm (some_ne b0 nhb)
  refine z_aload_n d_G_init_29 30 rfl rfl rfl ?_
  refine z_new d_G_init_30 33 rfl nw_G_28 (by decide) (by decide) (fun mi nmi => ?_)
  refine z_dup d_G_init_33 34 rfl rfl ?_
  refine z_cI (Q' := fun r h' => r = none ∧ ∃ y, mk2 c1 h' mi y (.inr (6, [.ref y, .int (nI 0)])) (.inl (D.2 1, 16, .inl (fun _ => 0)))) d_G_init_34 37 rfl mi_N_init kl_G_30 (by decide) 5 84 rfl rfl (by decide) (by decide) (c_N_init (zset_self _ _ _) (fun y hy => ⟨rfl, y, mk2_of nmi hy⟩)) rfl rfl (Nat.le_of_ble_eq_true rfl) ?_; rintro _ k1 ⟨rfl, mb, mmi⟩
  obtain ⟨-, nmb, dmi, emi, emb, fmi⟩ := mmi
  refine z_put d_G_init_37 40 rfl p_G_31 (fmi _ _ o1) rfl rfl (Nat.le_of_ble_eq_true rfl) rfl ?_; dsimp only [List.set]
  obtain ⟨c2, hc2⟩ : ∃ c2, c2 = zset k1 o (.inr (3, [.ref b, .int (nI 0), .ref hi, .ref mi, .null, .null])) := ⟨_, rfl⟩
  rw [← hc2]
  have g2 : ∀ p e, p ≠ o → k1 p = some e → c2 p = some e := fun p e hp hq => by rw [hc2, zset_ne hp]; exact hq
  have o2 : c2 o = some (.inr (3, [.ref b, .int (nI 0), .ref hi, .ref mi, .null, .null])) := by rw [hc2]; exact zset_self _ _ _
  clear hc2
  have nomi : mi ≠ o := Ne.symm (some_ne o1 nmi)
  have nomb : mb ≠ o := Ne.symm (some_ne o1 nmb)
  have b2 : c2 b = some (.inl (D.2 2, 32, .inr (.inr (.inr (.inr (fun _ => none)))))) := g2 _ _ (Ne.symm ob) (fmi _ _ b1)
  have f2 : ∀ q e, q ≠ o → h q = some e → c2 q = some e := fun q e q1 hq => g2 _ _ q1 (fmi _ _ (f1 q e q1 hq))
  have xmi2 := g2 _ _ nomi emi
  have xmb2 := g2 _ _ nomb emb
  have xhi2 := g2 _ _ nohi (fmi _ _ xhi1)
  have xhb2 := g2 _ _ nohb (fmi _ _ xhb1)
  have qmib : mi ≠ b := Ne.symm (some_ne b1 nmi)
  have qmbb : mb ≠ b := Ne.symm (some_ne b1 nmb)
  have qmihi : mi ≠ hi := Ne.symm (some_ne xhi1 nmi)
  have qmihb : mi ≠ hb := Ne.symm (some_ne xhb1 nmi)
  have qmbhi : mb ≠ hi := Ne.symm (some_ne xhi1 nmb)
  have qmbhb : mb ≠ hb := Ne.symm (some_ne xhb1 nmb)
  refine z_aload_n d_G_init_40 41 rfl rfl rfl ?_
  refine z_new d_G_init_41 44 rfl nw_G_28 (by decide) (by decide) (fun cl ncl => ?_)
  refine z_dup d_G_init_44 45 rfl rfl ?_
  refine z_cI (Q' := fun r h' => r = none ∧ ∃ y, mk2 c2 h' cl y (.inr (6, [.ref y, .int (nI 0)])) (.inl (D.2 1, 16, .inl (fun _ => 0)))) d_G_init_45 48 rfl mi_N_init kl_G_30 (by decide) 7 102 rfl rfl (by decide) (by decide) (c_N_init (zset_self _ _ _) (fun y hy => ⟨rfl, y, mk2_of ncl hy⟩)) rfl rfl (Nat.le_of_ble_eq_true rfl) ?_; rintro _ k2 ⟨rfl, cb, mcl⟩
  obtain ⟨-, ncb, dcl, ecl, ecb, fcl⟩ := mcl
  refine z_put d_G_init_48 51 rfl p_G_35 (fcl _ _ o2) rfl rfl (Nat.le_of_ble_eq_true rfl) rfl ?_; dsimp only [List.set]
  obtain ⟨c3, hc3⟩ : ∃ c3, c3 = zset k2 o (.inr (3, [.ref b, .int (nI 0), .ref hi, .ref mi, .ref cl, .null])) := ⟨_, rfl⟩
  rw [← hc3]
  have g3 : ∀ p e, p ≠ o → k2 p = some e → c3 p = some e := fun p e hp hq => by rw [hc3, zset_ne hp]; exact hq
  have o3 : c3 o = some (.inr (3, [.ref b, .int (nI 0), .ref hi, .ref mi, .ref cl, .null])) := by rw [hc3]; exact zset_self _ _ _
  clear hc3
  have nocl : cl ≠ o := Ne.symm (some_ne o2 ncl)
  have nocb : cb ≠ o := Ne.symm (some_ne o2 ncb)
  have b3 : c3 b = some (.inl (D.2 2, 32, .inr (.inr (.inr (.inr (fun _ => none)))))) := g3 _ _ (Ne.symm ob) (fcl _ _ b2)
  have f3 : ∀ q e, q ≠ o → h q = some e → c3 q = some e := fun q e q1 hq => g3 _ _ q1 (fcl _ _ (f2 q e q1 hq))
  have xcl3 := g3 _ _ nocl ecl
  have xcb3 := g3 _ _ nocb ecb
  have xhi3 := g3 _ _ nohi (fcl _ _ xhi2)
  have xhb3 := g3 _ _ nohb (fcl _ _ xhb2)
  have xmi3 := g3 _ _ nomi (fcl _ _ xmi2)
  have xmb3 := g3 _ _ nomb (fcl _ _ xmb2)
  have qclb : cl ≠ b := Ne.symm (some_ne b2 ncl)
  have qcbb : cb ≠ b := Ne.symm (some_ne b2 ncb)
  have qclhi : cl ≠ hi := Ne.symm (some_ne xhi2 ncl)
  have qclhb : cl ≠ hb := Ne.symm (some_ne xhb2 ncl)
  have qcbhi : cb ≠ hi := Ne.symm (some_ne xhi2 ncb)
  have qcbhb : cb ≠ hb := Ne.symm (some_ne xhb2 ncb)
  have qclmi : cl ≠ mi := Ne.symm (some_ne xmi2 ncl)
  have qclmb : cl ≠ mb := Ne.symm (some_ne xmb2 ncl)
  have qcbmi : cb ≠ mi := Ne.symm (some_ne xmi2 ncb)
  have qcbmb : cb ≠ mb := Ne.symm (some_ne xmb2 ncb)
  refine z_aload_n d_G_init_51 52 rfl rfl rfl ?_
  refine z_new d_G_init_52 55 rfl nw_G_28 (by decide) (by decide) (fun as nas => ?_)
  refine z_dup d_G_init_55 56 rfl rfl ?_
  refine z_cI (Q' := fun r h' => r = none ∧ ∃ y, mk2 c3 h' as y (.inr (6, [.ref y, .int (nI 0)])) (.inl (D.2 1, 16, .inl (fun _ => 0)))) d_G_init_56 59 rfl mi_N_init kl_G_30 (by decide) 9 120 rfl rfl (by decide) (by decide) (c_N_init (zset_self _ _ _) (fun y hy => ⟨rfl, y, mk2_of nas hy⟩)) rfl rfl (Nat.le_of_ble_eq_true rfl) ?_; rintro _ k3 ⟨rfl, ab, mas⟩
  obtain ⟨-, nab, das, eas, eab, fas⟩ := mas
  refine z_put d_G_init_59 62 rfl p_G_38 (fas _ _ o3) rfl rfl (Nat.le_of_ble_eq_true rfl) rfl ?_; dsimp only [List.set]
  obtain ⟨c4, hc4⟩ : ∃ c4, c4 = zset k3 o (.inr (3, [.ref b, .int (nI 0), .ref hi, .ref mi, .ref cl, .ref as])) := ⟨_, rfl⟩
  rw [← hc4]
  have g4 : ∀ p e, p ≠ o → k3 p = some e → c4 p = some e := fun p e hp hq => by rw [hc4, zset_ne hp]; exact hq
  have o4 : c4 o = some (.inr (3, [.ref b, .int (nI 0), .ref hi, .ref mi, .ref cl, .ref as])) := by rw [hc4]; exact zset_self _ _ _
  clear hc4
  have noas : as ≠ o := Ne.symm (some_ne o3 nas)
  have noab : ab ≠ o := Ne.symm (some_ne o3 nab)
  have b4 : c4 b = some (.inl (D.2 2, 32, .inr (.inr (.inr (.inr (fun _ => none)))))) := g4 _ _ (Ne.symm ob) (fas _ _ b3)
  have f4 : ∀ q e, q ≠ o → h q = some e → c4 q = some e := fun q e q1 hq => g4 _ _ q1 (fas _ _ (f3 q e q1 hq))
  have xas4 := g4 _ _ noas eas
  have xab4 := g4 _ _ noab eab
  have xhi4 := g4 _ _ nohi (fas _ _ xhi3)
  have xhb4 := g4 _ _ nohb (fas _ _ xhb3)
  have xmi4 := g4 _ _ nomi (fas _ _ xmi3)
  have xmb4 := g4 _ _ nomb (fas _ _ xmb3)
  have xcl4 := g4 _ _ nocl (fas _ _ xcl3)
  have xcb4 := g4 _ _ nocb (fas _ _ xcb3)
  have qasb : as ≠ b := Ne.symm (some_ne b3 nas)
  have qabb : ab ≠ b := Ne.symm (some_ne b3 nab)
  have qashi : as ≠ hi := Ne.symm (some_ne xhi3 nas)
  have qashb : as ≠ hb := Ne.symm (some_ne xhb3 nas)
  have qabhi : ab ≠ hi := Ne.symm (some_ne xhi3 nab)
  have qabhb : ab ≠ hb := Ne.symm (some_ne xhb3 nab)
  have qasmi : as ≠ mi := Ne.symm (some_ne xmi3 nas)
  have qasmb : as ≠ mb := Ne.symm (some_ne xmb3 nas)
  have qabmi : ab ≠ mi := Ne.symm (some_ne xmi3 nab)
  have qabmb : ab ≠ mb := Ne.symm (some_ne xmb3 nab)
  have qascl : as ≠ cl := Ne.symm (some_ne xcl3 nas)
  have qascb : as ≠ cb := Ne.symm (some_ne xcb3 nas)
  have qabcl : ab ≠ cl := Ne.symm (some_ne xcl3 nab)
  have qabcb : ab ≠ cb := Ne.symm (some_ne xcb3 nab)
  refine z_vret d_G_init_62 rfl (by decide) (by decide) (hQ (fun p => if p = o ∨ p = b then k else if p = hi ∨ p = hb then k + 1 else if p = mi ∨ p = mb then k + 2 else if p = cl ∨ p = cb then k + 3 else if p = as ∨ p = ab then k + 4 else W p) c4 b hi mi cl as ?_ ?_)
  · intro q e q1 hq
    have r1 : q ≠ b := some_ne hq hbn
    have r2 := some_ne (f0 q e q1 hq) nhi
    have r3 := some_ne (f0 q e q1 hq) nhb
    have r4 := some_ne (f1 q e q1 hq) nmi
    have r5 := some_ne (f1 q e q1 hq) nmb
    have r6 := some_ne (f2 q e q1 hq) ncl
    have r7 := some_ne (f2 q e q1 hq) ncb
    have r8 := some_ne (f3 q e q1 hq) nas
    have r9 := some_ne (f3 q e q1 hq) nab
    exact ⟨by simp only [q1, r1, r2, r3, r4, r5, r6, r7, r8, r9, or_self, if_false], f4 q e q1 hq⟩
  · have ok0 : okS (16, []) := ⟨⟨List.Pairwise.nil, fun n hn => by cases hn⟩, Nat.zero_le _, Or.inl rfl⟩
    refine ⟨by simp only [true_or, if_true], by simp only [or_true, if_true], o4, ⟨_, b4, Nat.zero_le _, fun i y hy => by simp [BV.kL, BV.kH] at hy⟩, ⟨hb, _, ?_, ?_, xhi4, xhb4, Nat.zero_le _, fun i y hy => by simp [BV.kL, BV.kH] at hy⟩, ⟨mb, _, ?_, ?_, ⟨xmi4, xmb4, Nat.zero_le _, by decide, by decide, fun i hi => absurd hi (Nat.not_lt_zero i)⟩, ok0⟩, ⟨cb, _, ?_, ?_, ⟨xcl4, xcb4, Nat.zero_le _, by decide, by decide, fun i hi => absurd hi (Nat.not_lt_zero i)⟩, ok0⟩, ⟨ab, _, ?_, ?_, ⟨xas4, xab4, Nat.zero_le _, by decide, by decide, fun i hi => absurd hi (Nat.not_lt_zero i)⟩, ok0⟩⟩
    · simp only [nohi, qhib, or_self, if_false, true_or, if_true]
    · simp only [nohb, qhbb, or_self, if_false, or_true, if_true]
    · simp only [nomi, qmib, qmihi, qmihb, or_self, if_false, true_or, if_true]
    · simp only [nomb, qmbb, qmbhi, qmbhb, or_self, if_false, or_true, if_true]
    · simp only [nocl, qclb, qclhi, qclhb, qclmi, qclmb, or_self, if_false, true_or, if_true]
    · simp only [nocb, qcbb, qcbhi, qcbhb, qcbmi, qcbmb, or_self, if_false, or_true, if_true]
    · simp only [noas, qasb, qashi, qashb, qasmi, qasmb, qascl, qascb, or_self, if_false, true_or, if_true]
    · simp only [noab, qabb, qabhi, qabhb, qabmi, qabmb, qabcl, qabcb, or_self, if_false, or_true, if_true]
end C40
