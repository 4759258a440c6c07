/-! The class: artifacts. Own work. -/
theorem cardG_90 {g : Nat → Nat} {n : Nat} {c : CV} (h : cardG g n = some c) (hc : c.1 = 90) : n = 8 := by
  unfold cardG at h
  split at h
  next h0 =>
    have h1 := cardB_1 h
    unfold cardB at h
    rw [if_neg (by omega), if_pos (by omega)] at h
    unfold card1 at h
    split at h
    next h8 => exact h8
    next => cases h
  next => cases h
theorem eol_lt {bs : List Nat} {k : Nat} (hk : k < bs.length) (hl : bs.getD (bs.length - 1) 0 = 10) : eol bs k < bs.length := by
  have h1 := eol_le (bs := bs) (k := k) (by omega)
  rcases Nat.lt_or_ge (eol bs k) bs.length with h | h
  · exact h
  · exact absurd hl (eolF_no bs _ k (bs.length - 1) (by omega) (by show _ < eol bs k; omega))
theorem rdF_all {bs : List Nat} (hl : bs.getD (bs.length - 1) 0 = 10) : ∀ (F k : Nat) (cs : List CV), k ≤ bs.length → 4 * cs.length ≤ k → (∀ c, c ∈ cs → cvOk c ∧ (c.1 = 90 → 9 ≤ bs.length)) → 4 * (rdF bs F k cs).length ≤ bs.length ∧ ∀ c, c ∈ rdF bs F k cs → cvOk c ∧ (c.1 = 90 → 9 ≤ bs.length) := by
  intro F
  induction F with
  | zero =>
    intro k cs hk h4 ho
    exact ⟨by simp only [rdF]; omega, ho⟩
  | succ F ih =>
    intro k cs hk h4 ho
    rw [rdF]
    split
    next hlt =>
      have e1 := eol_lt hlt hl
      have e2 := eol_le (bs := bs) (k := k) hk
      cases hc : cardG (gB bs k) (eol bs k - k) with
      | none => exact ⟨Nat.zero_le _, fun c h => by cases h⟩
      | some c =>
        obtain ⟨c3, cok⟩ := cardG_3 hc
        refine ih (eol bs k + 1) (cs ++ [c]) (by omega) (by simp; omega) ?_
        intro c' hc'
        rcases List.mem_append.mp hc' with h | h
        · exact ho c' h
        · rw [List.mem_singleton] at h
          subst h
          refine ⟨cok, fun h9 => ?_⟩
          have := cardG_90 hc h9
          omega
    next => exact ⟨by omega, ho⟩
theorem rdC_all (bs : List Nat) : 4 * (rdC bs).length ≤ bs.length ∧ ∀ c, c ∈ rdC bs → cvOk c ∧ (c.1 = 90 → 9 ≤ bs.length) := by
  unfold rdC
  split
  next h => exact rdF_all h.2 bs.length 0 [] (Nat.zero_le _) (Nat.zero_le _) (fun c h => by cases h)
  next => exact ⟨Nat.zero_le _, fun c h => by cases h⟩
/-- the sort of a text, its cards -/
def aS (bs : List Nat) : Nat := if wfC bs (rdC bs) = true then srtC (rdC bs) else 0
def aCs (bs : List Nat) : List CV := if aS bs = 0 then [] else rdC bs
theorem aS_le (bs : List Nat) : aS bs ≤ 3 := by
  unfold aS srtC
  (repeat' split) <;> omega
theorem aCs_all (bs : List Nat) : 4 * (aCs bs).length ≤ bs.length ∧ ∀ c, c ∈ aCs bs → cvOk c := by
  unfold aCs
  split
  · exact ⟨Nat.zero_le _, fun c h => by cases h⟩
  · exact ⟨(rdC_all bs).1, fun c h => ((rdC_all bs).2 c h).1⟩
def aObj (bs : List Nat) (b p : Nat) : va_E := .inr (2, [.ref b, .int (nI (dg 7 bs)), .int (nI (aS bs)), .ref p, .int (numC 68 (aCs bs)), .int (numC 82 (aCs bs))])
/-- an artifact, all of it in good cells -/
def arG (G : Nat → Prop) (D : zD) (h : zH) (a : Nat) (bs : List Nat) : Prop := ∃ b p f, G a ∧ h a = some (aObj bs b p) ∧ G b ∧ h b = some (.inl (D.2 0, bs.length, .inl f)) ∧ byP f bs ∧ crG G D h p (aCs bs)
theorem arG.mono {G G' : Nat → Prop} {D : zD} {h h' : zH} {a : Nat} {bs : List Nat} (x : arG G D h a bs) (hG : ∀ q, G q → G' q) (hh : ∀ q e, G q → h q = some e → h' q = some e) : arG G' D h' a bs := by
  obtain ⟨b, p, f, h1, h2, h3, h4, h5, h6⟩ := x
  exact ⟨b, p, f, hG _ h1, hh _ _ h1 h2, hG _ h3, hh _ _ h3 h4, h5, h6.mono hG hh⟩
theorem crP_set {D : zD} {h : zH} {a p : Nat} {cs : List CV} {vs : List Value} {e : va_E} (ha : h a = some (.inr (2, vs))) (x : crP D h p cs) : crP D (zset h a e) p cs := by
  obtain ⟨f, h1, h2⟩ := x
  have hpa : p ≠ a := fun e => by rw [e, ha] at h1; cases h1
  refine ⟨f, (zset_ne hpa).trans h1, fun i c hc => ?_⟩
  obtain ⟨q, a1, a2⟩ := h2 i c hc
  have hqa : q ≠ a := fun e => by
    rw [e, ha] at a2
    simp [cObj] at a2
  exact ⟨q, a1, (zset_ne hqa).trans a2⟩
section C14
variable {l : Launch} {D : zD} {M : zM} {h : zH} {a b p q : Nat} {f : Nat → Int32} {bs : List Nat} {cs : List CV} {Q : Option Value → zH → Prop}
theorem c_A_init (s : Nat) (ha : h a = some (.inr (2, [.null, .int 0, .int 0, .null, .int 0, .int 0]))) (hb : h b = some (.inl (D.2 0, bs.length, .inl f))) (hf : byP f bs) (hlb : bs.length ≤ 240) (hcr : crP D h p cs) (hl : cs.length ≤ 240) (hok : ∀ c, c ∈ cs → cvOk c)
    (hQ : Q none (zset h a (.inr (2, [.ref b, .int (nI (dg 7 bs)), .int (nI s), .ref p, .int (numC 68 cs), .int (numC 82 cs)])))) : Runs l D M_A_init [.ref a, .ref b, .int (nI s), .ref p] h 0 0 Q := by
  refine Runs.of rfl rfl (Nat.le_of_ble_eq_true rfl) ?_
  have hba : b ≠ a := fun e => by rw [e, ha] at hb; cases hb
  have hb2 : ∀ e, zset h a e b = some (.inl (D.2 0, bs.length, .inl f)) := fun e => (zset_ne hba).trans hb
  refine z_aload_n d_A_init_0 1 rfl rfl rfl ?_
  refine z_objInit d_A_init_1 4 rfl kl9_A_3 oi_i oi_c (by decide) (Nat.le_of_ble_eq_true rfl) ?_
  refine z_aload_n d_A_init_4 5 rfl rfl rfl ?_
  refine z_aload_n d_A_init_5 6 rfl rfl rfl ?_
  refine z_put d_A_init_6 9 rfl p_A_9 ha rfl rfl (Nat.le_of_ble_eq_true rfl) rfl ?_; dsimp only [List.set]
  refine z_aload_n d_A_init_9 10 rfl rfl rfl ?_
  refine z_bipush (v := nI 7) d_A_init_10 12 rfl rfl ?_
  refine z_aload_n d_A_init_12 13 rfl rfl rfl ?_
  refine z_aload_n d_A_init_13 14 rfl rfl rfl ?_
  refine z_alen d_A_init_14 15 rfl (t := 0) rfl (hb2 _) rfl ?_
  refine z_cS1 d_A_init_15 18 rfl ms_B_digestAfter kl_A_15 (by decide) 0 0 rfl rfl (Nat.zero_le _) (Nat.zero_le _) (fun Q' q => c_B_digestAfter 7 bs.length bs.length (hb2 _) hf (Nat.le_refl _) (Nat.le_refl _) (by omega) (by decide) q) rfl rfl (Nat.le_of_ble_eq_true rfl) ?_
  rw [List.take_length]
  refine z_put d_A_init_18 21 rfl p_A_19 (zset_self _ _ _) rfl rfl (Nat.le_of_ble_eq_true rfl) rfl ?_; dsimp only [List.set]
  rw [zset_zset]
  refine z_aload_n d_A_init_21 22 rfl rfl rfl ?_
  refine z_iload_n d_A_init_22 23 rfl rfl rfl ?_
  refine z_put d_A_init_23 26 rfl p_A_23 (zset_self _ _ _) rfl rfl (Nat.le_of_ble_eq_true rfl) rfl ?_; dsimp only [List.set]
  rw [zset_zset]
  refine z_aload_n d_A_init_26 27 rfl rfl rfl ?_
  refine z_aload_n d_A_init_27 28 rfl rfl rfl ?_
  refine z_put d_A_init_28 31 rfl p_A_26 (zset_self _ _ _) rfl rfl (Nat.le_of_ble_eq_true rfl) rfl ?_; dsimp only [List.set]
  rw [zset_zset]
  refine z_aload_n d_A_init_31 32 rfl rfl rfl ?_
  refine z_bipush (v := nI 68) d_A_init_32 34 rfl rfl ?_
  refine z_aload_n d_A_init_34 35 rfl rfl rfl ?_
  refine z_cS1 d_A_init_35 38 rfl ms_A_numberOf kl_A_30 (by decide) 0 0 rfl rfl (Nat.zero_le _) (Nat.zero_le _) (fun Q' q => c_A_numberOf 68 (by decide) (crP_set ha hcr) hl hok q) rfl rfl (Nat.le_of_ble_eq_true rfl) ?_
  refine z_put d_A_init_38 41 rfl p_A_34 (zset_self _ _ _) rfl rfl (Nat.le_of_ble_eq_true rfl) rfl ?_; dsimp only [List.set]
  rw [zset_zset]
  refine z_aload_n d_A_init_41 42 rfl rfl rfl ?_
  refine z_bipush (v := nI 82) d_A_init_42 44 rfl rfl ?_
  refine z_aload_n d_A_init_44 45 rfl rfl rfl ?_
  refine z_cS1 d_A_init_45 48 rfl ms_A_numberOf kl_A_30 (by decide) 0 0 rfl rfl (Nat.zero_le _) (Nat.zero_le _) (fun Q' q => c_A_numberOf 82 (by decide) (crP_set ha hcr) hl hok q) rfl rfl (Nat.le_of_ble_eq_true rfl) ?_
  refine z_put d_A_init_48 51 rfl p_A_37 (zset_self _ _ _) rfl rfl (Nat.le_of_ble_eq_true rfl) rfl ?_; dsimp only [List.set]
  rw [zset_zset]
  exact z_vret d_A_init_51 rfl (Nat.le_refl 0) (Nat.le_refl 0) hQ
theorem c_A_of (ha : h a = some (.inr (7, [.ref b, .int (nI bs.length)]))) (hb : h b = some (.inl (D.2 0, 240, .inl f))) (hf : byP f bs) (hlb : bs.length ≤ 240) (hQ : ∀ q h', ext h h' → arG (fun q => h q = none) D h' q bs → Q (some (.ref q)) h') : Runs l D M_A_of [.ref a] h 65 786 Q := by
  refine Runs.of rfl rfl (Nat.le_of_ble_eq_true rfl) ?_
  obtain ⟨hr4, hrok⟩ := rdC_all bs
  refine z_aload_n d_A_of_0 1 rfl rfl rfl ?_
  refine z_get d_A_of_1 4 rfl f_A_40 ha rfl ?_
  refine z_aload_n d_A_of_4 5 rfl rfl rfl ?_
  refine z_get d_A_of_5 8 rfl f_A_43 ha rfl ?_
  refine z_cS (Q' := fun r h' => ∃ q g, h q = none ∧ byP g bs ∧ r = some (.ref q) ∧ zset h q (.inl (D.2 0, bs.length, .inl g)) = h') d_A_of_8 11 rfl ms_J_copyOf_b kl_A_46 (by decide) 1 (0 + bs.length) rfl rfl (by decide) (by omega) (c_J_copyOf_b hb hf hlb (by decide) (fun q g h1 h2 => ⟨q, g, h1, h2, rfl, rfl⟩)) rfl rfl (Nat.le_of_ble_eq_true rfl) ?_
  rintro _ _ ⟨q1, g, hq1, hg, rfl, rfl⟩
  have x1 : ext h (zset h q1 (.inl (D.2 0, bs.length, .inl g))) := ext_set (ext_refl h) hq1 _
  have hb1 := zset_self h q1 (.inl (D.2 0, bs.length, .inl g))
  generalize zset h q1 (.inl (D.2 0, bs.length, .inl g)) = h1 at x1 hb1
  refine z_ast1 d_A_of_11 12 rfl rfl ?_
  refine z_aload_n d_A_of_12 13 rfl rfl rfl ?_
  refine z_cS (Q' := fun r h' => ∃ p, ext h1 h' ∧ crG (fun q => h1 q = none) D h' p (rdC bs) ∧ r = some (.ref p)) d_A_of_13 16 rfl ms_A_readLines kl_A_52 (by decide) 63 (0 + bs.length + 540) rfl rfl (by decide) (by omega) (c_A_readLines hb1 hg hlb (fun p h' h1 h2 => ⟨p, h1, h2, rfl⟩)) rfl rfl (Nat.le_of_ble_eq_true rfl) ?_
  rintro _ h2 ⟨p, x2, hcr, rfl⟩
  have hb2 := x2 _ _ hb1
  have hcr2 : crG (fun q => h q = none) D h2 p (rdC bs) := hcr.mono (fun q hq => ext_none x1 hq) (fun q e _ x => x)
  have x02 := ext_trans x1 x2
  refine z_ast2 d_A_of_16 17 rfl rfl ?_
  refine z_aload_n d_A_of_17 18 rfl rfl rfl ?_
  refine z_aload_n d_A_of_18 19 rfl rfl rfl ?_
  refine z_cS1 d_A_of_19 22 rfl ms_A_isWellFormed kl_A_56 (by decide) 63 (0 + bs.length + 540) rfl rfl (by decide) (by omega) (fun Q' q => c_A_isWellFormed hb2 hg hlb hcr2.P (by omega) (fun c hc => (hrok c hc).1) (fun z hz h9 => (hrok z (List.mem_of_getLast? hz)).2 h9) q) rfl rfl (Nat.le_of_ble_eq_true rfl) ?_
  have j33 : ∀ (s : Nat), s = aS bs → Z l D M_A_of 65 786 Q h2 63 (0 + bs.length + 540) 33 [some (.ref a), some (.ref q1), some (.ref p), none] [.int (nI s)] := by
    intro s hs
    have hs3 := aS_le bs
    refine z_ist3 d_A_of_33 34 rfl rfl ?_
    refine z_new d_A_of_34 37 rfl nw_A_10 (by decide) (by omega) (fun q2 hq2 => ?_)
    have hq2p : p ≠ q2 := fun e => by obtain ⟨_, y⟩ := hcr2.P; rw [e, hq2] at y; cases y.1
    have hbq : q1 ≠ q2 := fun e => by rw [e, hq2] at hb2; cases hb2
    have x3 : ext h (zset h2 q2 (.inr (2, [.null, .int 0, .int 0, .null, .int 0, .int 0]))) := ext_set x02 (ext_none x02 hq2) _
    have x23 : ext h2 (zset h2 q2 (.inr (2, [.null, .int 0, .int 0, .null, .int 0, .int 0]))) := ext_set (ext_refl h2) hq2 _
    have hn3 := zset_self h2 q2 (.inr (2, [.null, .int 0, .int 0, .null, .int 0, .int 0]))
    generalize zset h2 q2 (.inr (2, [.null, .int 0, .int 0, .null, .int 0, .int 0])) = h3 at x3 x23 hn3
    have fin : ∀ (p' cu su : Nat) (h4 : zH), cu ≤ 65 → su ≤ 786 → ext h3 h4 → crG (fun q => h q = none) D h4 p' (aCs bs) → Z l D M_A_of 65 786 Q h4 cu su 52 [some (.ref a), some (.ref q1), some (.ref p), some (.int (nI s))] [.ref p', .int (nI s), .ref q1, .ref q2, .ref q2] := by
      intro p' cu su h4 hcu hsu x4 hc4
      obtain ⟨a4, aok⟩ := aCs_all bs
      have hn4 := x4 _ _ hn3
      have hb4 := x4 _ _ (x23 _ _ hb2)
      have hfr := ext_none x02 hq2
      refine z_cI0 d_A_of_52 55 rfl mi_A_init kl_A_66 (by decide) cu su rfl rfl hcu hsu (fun Q' q => c_A_init s hn4 hb4 hg hlb hc4.P (by omega) aok q) rfl rfl (Nat.le_of_ble_eq_true rfl) ?_
      refine z_aret (r := some q2) d_A_of_55 rfl (Or.inl ⟨_, rfl⟩) hcu hsu (hQ q2 _ (ext_set (ext_trans x3 x4) hfr _) ?_)
      refine ⟨q1, p', g, hfr, ?_, hq1, (zset_ne hbq).trans hb4, hg, ?_⟩
      · rw [hs]
        exact zset_self _ _ _
      · obtain ⟨u, u1, u2, u3⟩ := hc4
        have hpa : p' ≠ q2 := fun e => by rw [e, hn4] at u2; cases u2
        refine ⟨u, u1, (zset_ne hpa).trans u2, fun i c hc => ?_⟩
        obtain ⟨r, r1, r2, r3⟩ := u3 i c hc
        have hra : r ≠ q2 := fun e => by
          rw [e, hn4] at r3
          simp [cObj] at r3
        exact ⟨r, r1, r2, (zset_ne hra).trans r3⟩
    refine z_dup d_A_of_37 38 rfl rfl ?_
    refine z_aload_n d_A_of_38 39 rfl rfl rfl ?_
    refine z_iload_n d_A_of_39 40 rfl rfl rfl ?_
    refine z_iload_n d_A_of_40 41 rfl rfl rfl ?_
    refine z_if_neN (tgt := 51) d_A_of_41 44 rfl rfl (by omega) (fun h41 => ?_) (fun h41 => ?_)
    · have hcs : aCs bs = rdC bs := by unfold aCs; rw [if_neg (by omega)]
      refine z_aload_n d_A_of_51 52 rfl rfl rfl ?_
      exact fin p _ _ h3 (by omega) (by omega) (ext_refl h3) (by rw [hcs]; exact hcr2.mono (fun _ x => x) (fun q e _ x => x23 q e x))
    · have hcs : aCs bs = [] := by unfold aCs; rw [if_pos (by omega)]
      refine z_iconst (v := nI 0) d_A_of_44 45 rfl rfl ?_
      refine z_anew (t := 3) (N := 0) d_A_of_45 48 rfl cl_A_64 (by decide) rfl (by decide) rfl (by omega) (by omega) (by decide) (fun p' hp' => ?_)
      refine z_goto (tgt := 52) d_A_of_48 rfl ?_
      exact fin p' _ _ _ (by omega) (by omega) (ext_set (ext_refl h3) hp' _) (by rw [hcs]; exact crG_nil (ext_none x3 hp') (zset_self _ _ _))
  refine z_if_eqB (tgt := 32) d_A_of_22 25 rfl rfl (fun h22 => ?_) (fun h22 => ?_)
  · refine z_iconst (v := nI 0) d_A_of_32 33 rfl rfl ?_
    exact j33 0 (by unfold aS; rw [if_neg (by simp [h22])])
  · refine z_aload_n d_A_of_25 26 rfl rfl rfl ?_
    refine z_cS1 d_A_of_26 29 rfl ms_A_sortOf kl_A_60 (by decide) 63 (0 + bs.length + 540) rfl rfl (by decide) (by omega) (fun Q' q => c_A_sortOf hcr2.P (by omega) (fun c hc => (hrok c hc).1) q) rfl rfl (Nat.le_of_ble_eq_true rfl) ?_
    refine z_goto (tgt := 33) d_A_of_29 rfl ?_
    exact j33 _ (by unfold aS; rw [if_pos h22])
end C14
