/-! Class and reference side by side: the calls that change the state. Own work. -/
theorem gatV_L {V : BV} {q : Nat} {y : Nat × List Nat} (h : y ∈ (gatV V q).L) : y ∈ V.L ∨ y = (q, clT (lsL V.L V.c.2)) := by
  unfold gatV at h
  split at h
  · exact Or.inl h
  · exact (takeV_L h).symm
theorem sndF_sub (K : List Nat) : ∀ (t : List (Nat × List Nat)) (z : Nat × Nat × BV) (y : Nat × List Nat), y ∈ (sndF K t z).2.2.L → y ∈ t ∨ y ∈ z.2.2.L
  | [], _, _, h => Or.inr h
  | w :: t, z, y, h => by
    rw [sndF] at h
    rcases sndF_sub K t _ y h with h1 | h1
    · exact Or.inl (List.mem_cons_of_mem _ h1)
    · split at h1
      · rcases takeV_L h1 with h2 | h2
        · rw [h2]; exact Or.inl List.mem_cons_self
        · exact Or.inr h2
      · exact Or.inr h1
/-- a round at some free addresses: what its bags come to -/
theorem rnd_ex {V : Nat → BV} {As : Nat → List (List Nat)} {T K : Nat → List Nat} {b : Nat} (R0 : bgR (V 0) (As 0) (T 0) (K 1)) (R1 : bgR (V 1) (As 1) (T 1) (K 0)) (hT : tOk As T) (A00 : adr (V 0).L (V 0).L) (A01 : adr (V 0).L (V 1).L) (A10 : adr (V 1).L (V 0).L) (A11 : adr (V 1).L (V 1).L) : ∃ q0 q1, (rndV (V 0) (V 1) q0 q1 b).1.pot ≤ 3072 ∧ (rndV (V 0) (V 1) q0 q1 b).2.pot ≤ 3072 := by
  obtain ⟨q0, h0⟩ := ex_new ((V 0).L ++ (V 1).L)
  obtain ⟨q1, h1⟩ := ex_new ((q0, []) :: ((V 0).L ++ (V 1).L))
  have n00 : ∀ y, y ∈ (V 0).L → y.1 ≠ q0 := fun y hy => h0 y (List.mem_append_left _ hy)
  have n01 : ∀ y, y ∈ (V 1).L → y.1 ≠ q0 := fun y hy => h0 y (List.mem_append_right _ hy)
  have n10 : ∀ y, y ∈ (V 0).L → y.1 ≠ q1 := fun y hy => h1 y (List.mem_cons_of_mem _ (List.mem_append_left _ hy))
  have n11 : ∀ y, y ∈ (V 1).L → y.1 ≠ q1 := fun y hy => h1 y (List.mem_cons_of_mem _ (List.mem_append_right _ hy))
  have nq : q0 ≠ q1 := h1 (q0, []) List.mem_cons_self
  have U : ∀ p q, (p ∈ (gatV (V 0) q0).L ∨ p ∈ (gatV (V 1) q1).L) → (q ∈ (gatV (V 0) q0).L ∨ q ∈ (gatV (V 1) q1).L) → p.1 = q.1 → dg 7 p.2 = dg 7 q.2 := by
    have key : ∀ p, (p ∈ (gatV (V 0) q0).L ∨ p ∈ (gatV (V 1) q1).L) → p ∈ (V 0).L ∨ p ∈ (V 1).L ∨ p = (q0, clT (lsL (V 0).L (V 0).c.2)) ∨ p = (q1, clT (lsL (V 1).L (V 1).c.2)) := by
      intro p hp
      rcases hp with hp | hp
      · rcases gatV_L hp with h | h
        · exact Or.inl h
        · exact Or.inr (Or.inr (Or.inl h))
      · rcases gatV_L hp with h | h
        · exact Or.inr (Or.inl h)
        · exact Or.inr (Or.inr (Or.inr h))
    intro p q hp hq he
    rcases key p hp with h2 | h2 | h2 | h2 <;> rcases key q hq with h3 | h3 | h3 | h3
    · exact A00 p q h2 h3 he
    · exact A01 p q h2 h3 he
    · rw [h3] at he; exact absurd he (n00 p h2)
    · rw [h3] at he; exact absurd he (n10 p h2)
    · exact A10 p q h2 h3 he
    · exact A11 p q h2 h3 he
    · rw [h3] at he; exact absurd he (n01 p h2)
    · rw [h3] at he; exact absurd he (n11 p h2)
    · rw [h2] at he; exact absurd he.symm (n00 q h3)
    · rw [h2] at he; exact absurd he.symm (n01 q h3)
    · rw [h2, h3]
    · rw [h2, h3] at he; exact absurd he nq
    · rw [h2] at he; exact absurd he.symm (n10 q h3)
    · rw [h2] at he; exact absurd he.symm (n11 q h3)
    · rw [h2, h3] at he; exact absurd he.symm nq
    · rw [h2, h3]
  have hlen : ∀ q, q < 2 → (As q).length ≤ 32 := by
    intro q hq
    have hq2 : q = 0 ∨ q = 1 := by omega
    rcases hq2 with rfl | rfl
    · exact R0.l
    · exact R1.l
  have t0 := tOk_tlk hT hlen (q := 0) (by omega)
  have t1 := tOk_tlk hT hlen (q := 1) (by omega)
  have hT1 := tOk_rd hT
  have hl1 := rd_len hlen
  have hT2 := tOk_msg (K := K) (r := 0) (b := b) (by omega) hT1
  have hl2 := msg_len (K := K) (r := 0) (b := b) hl1
  have hT3 := tOk_msg (K := msgK (rdA As) T K 0) (r := 1) (b := b) (by omega) hT2
  have hl3 := msg_len (K := msgK (rdA As) T K 0) (r := 1) (b := b) hl2
  have t21 := tOk_tlk hT2 hl2 (q := 1) (by omega)
  have t30 := tOk_tlk hT3 hl3 (q := 0) (by omega)
  have B0 := R0.gat t0 (a := q0) (fun _ => n00)
  have B1 := R1.gat t1 (a := q1) (fun _ => n11)
  have C1 := (sndV_R (b := b) B0 B1 t1 t21 (fun p q hp hq => U p q (Or.inl hp) (Or.inl hq)) (fun p q hp hq => U p q (Or.inl hp) (Or.inr hq))).1
  have S1 : ∀ y, y ∈ (sndV (gatV (V 0) q0) (gatV (V 1) q1) b).L → y ∈ (gatV (V 0) q0).L ∨ y ∈ (gatV (V 1) q1).L := fun y hy => sndF_sub _ _ _ y hy
  have C2 := (sndV_R (b := b) C1 B0 t0 t30 (fun p q hp hq => U p q (S1 p hp) (S1 q hq)) (fun p q hp hq => U p q (S1 p hp) (Or.inl hq))).1
  exact ⟨q0, q1, C2.pb, C1.pb⟩
section LST2
variable {l : Launch} {D : zD} {x o P dA sA : Nat} {h h' : zH} {W W' : Nat → Nat} {V : Nat → BV} {va : Nat → Nat → Int32} {vf : Nat → Int32} {As : Nat → List (List Nat)} {T K : Nat → List Nat} {dr dr' sc sc' : List Nat} {g bb hh mm cc aa : Nat → Nat}
theorem ab_dr (w : W x = 3) (hx : h x = some (.inr (1, [.ref (g 0), .ref (g 1), .ref dA, .ref sA]))) (hV : ∀ q, q < 2 → bgA W D h (10 + 10 * q) (g q) (bb q) (hh q) (mm q) (cc q) (aa q) (V q)) (s : stp (fun j => j = 1 ∨ j = 2) W h W' h') (hd : rowW W' D h' 1 dA dr') (hsc : rowW W' D h' 2 sA sc') : abW W' D h' x V dr' := by
  obtain ⟨a1, a2⟩ := s x _ hx (by rw [w]; omega)
  exact ⟨g, bb, hh, mm, cc, aa, dA, sA, sc', a1.trans w, a2, fun q hq => (hV q hq).st s (by omega) (by omega), hd, hsc⟩
theorem ab_bag {q : Nat} {Y : BV} (hq : q < 2) (w : W x = 3) (hx : h x = some (.inr (1, [.ref (g 0), .ref (g 1), .ref dA, .ref sA]))) (hV : ∀ q, q < 2 → bgA W D h (10 + 10 * q) (g q) (bb q) (hh q) (mm q) (cc q) (aa q) (V q)) (s : stp (fun j => j = 1 ∨ (10 + 10 * q ≤ j ∧ j ≤ 10 + 10 * q + 3)) W h W' h') (hY : bgA W' D h' (10 + 10 * q) (g q) (bb q) (hh q) (mm q) (cc q) (aa q) Y) (hd : rowW W' D h' 1 dA dr') (hsc : rowW W D h 2 sA sc) : abW W' D h' x (upF V q Y) dr' := by
  obtain ⟨a1, a2⟩ := s x _ hx (by rw [w]; omega)
  refine ⟨g, bb, hh, mm, cc, aa, dA, sA, sc, a1.trans w, a2, fun t ht => ?_, hd, hsc.st s (by omega)⟩
  unfold upF
  by_cases e : t = q
  · rw [if_pos e, e]; exact hY
  · rw [if_neg e]; exact (hV t ht).st s (by omega) (by omega)
theorem cm_up {q : Nat} {Y : BV} {B : List (List Nat)} {S : List Nat} {u : Nat} (hq : q < 2) (hc : cmR V As T K P) (hY : bgR Y B S (K (1 - q))) (hT : tOk (upF As q B) (upF T q S)) (hu : Y.pot = (V q).pot + u) : cmR (upF V q Y) (upF As q B) (upF T q S) K (P + u) := by
  refine ⟨fun t ht => ?_, hT, ?_⟩
  · unfold upF
    by_cases e : t = q
    · rw [if_pos e, if_pos e, if_pos e, e]; exact hY
    · rw [if_neg e, if_neg e, if_neg e]; exact hc.1 t ht
  · have h2 := hc.2.2
    have hq2 : q = 0 ∨ q = 1 := by omega
    rcases hq2 with rfl | rfl
    · show Y.pot + (V 1).pot = _
      omega
    · show (V 0).pot + Y.pot = _
      omega
theorem ne_cls {a b i j : Nat} {fs gs : List Value} (h1 : h a = some (.inr (i, fs))) (h2 : h b = some (.inr (j, gs))) (hij : i ≠ j) : a ≠ b := fun e => by
  rw [e, h2] at h1
  simp only [Option.some.injEq, Sum.inr.injEq, Prod.mk.injEq] at h1
  exact hij h1.1.symm
theorem ne_arr {a b i : Nat} {fs : List Value} {e : ClassId × vp_A} (h1 : h a = some (.inr (i, fs))) (h2 : h b = some (.inl e)) : a ≠ b := fun e9 => by
  rw [e9, h2] at h1
  cases h1
theorem ne_reg {a b i j : Nat} (h1 : W a = i) (h2 : W b = j) (hij : i ≠ j) : a ≠ b := fun e => hij (by rw [← h1, ← h2, e])
theorem step_drop (i : INV D x o P h) : stepP l D x o P h M_B_drop M_m_drop [] := by
  obtain ⟨W, V, va, vf, As, T, K, dr, ha, hm, hs, hc⟩ := i
  obtain ⟨g, bb, hh, mm, cc, aa, dA, sA, sc, w, hx, hV, hd, hsc⟩ := id ha
  obtain ⟨dB, fd, wa, wb, hdA, hdB, hfd, hdl⟩ := hd
  have s : stp (· = 1) W h W (rwU D h dA dB 0 fd) := stp_rw wa wb
  have ha1 : abW W D (rwU D h dA dB 0 fd) x V [] := ab_dr w hx hV (s.wk (fun _ e => Or.inl e)) (rowW_rw (bs := []) wa wb (rw_ne hdA hdB) (fun i hi => absurd hi (Nat.not_lt_zero i)) (Nat.zero_le _)) (hsc.st s (by omega))
  have hm1 := hm.st s (by omega)
  exact ⟨0, 0, 0, hc.pb, Nat.zero_le _, Nat.zero_le _, ⟨_, hx⟩, c_B_drop hx hdA hdB ⟨_, rfl, hm1.fs, Runs.at hm1 (c_m_drop hs.2.2.2 (fun va9 k9 s9 => ⟨rfl, inv_m ha1 hm1 hc (hs.sk64 k9 s9)⟩))⟩⟩
theorem step_raw (y : Int64) (n : Int32) (i : INV D x o P h) : stepP l D x o P h M_B_raw M_m_raw [.long y, .int n] := by
  obtain ⟨W, V, va, vf, As, T, K, dr, ha, hm, hs, hc⟩ := i
  obtain ⟨g, bb, hh, mm, cc, aa, dA, sA, sc, w, hx, hV, hd, hsc⟩ := id ha
  obtain ⟨dB, fd, wa, wb, hdA, hdB, hfd, hdl⟩ := hd
  have hab := rw_ne hdA hdB
  refine ⟨0, 0, 0, hc.pb, Nat.zero_le _, Nat.zero_le _, ⟨_, hx⟩, c_B_raw y n hx hdA hdB hfd hdl hab (ne_cls hx hdA (by decide)) (ne_arr hx hdB) ?_ ?_⟩
  · intro e
    refine ⟨_, rfl, hm.fs, Runs.at hm (c_m_raw y n hs.2.2.2 (fun _ => ⟨rfl, (by rw [hm.eq]; exact ⟨W, V, va, vf, As, T, K, dr, ha, hm, hs, hc⟩)⟩) (fun e1 e2 e3 => ?_))⟩
    rcases e with e | e | e
    · exact absurd e e1
    · exact absurd e e2
    · omega
  · intro e1 e2 e3 f9 hf9
    have s : stp (· = 1) W h W (rwU D h dA dB (dr ++ rawL y (toN n)).length f9) := stp_rw wa wb
    have hl9 : (dr ++ rawL y (toN n)).length ≤ 240 := by
      rw [List.length_append, show (rawL y (toN n)).length = toN n by simp [rawL]]
      exact e3
    have ha1 : abW W D (rwU D h dA dB (dr ++ rawL y (toN n)).length f9) x V (dr ++ rawL y (toN n)) := ab_dr w hx hV (s.wk (fun _ e => Or.inl e)) (rowW_rw wa wb hab hf9 hl9) (hsc.st s (by omega))
    have hm1 := hm.st s (by omega)
    refine ⟨_, rfl, hm1.fs, Runs.at hm1 (c_m_raw y n hs.2.2.2 (fun e => ?_) (fun _ _ _ va9 k9 s9 => ⟨rfl, inv_m ha1 hm1 hc (hs.sk64 k9 s9)⟩))⟩
    rcases e with e | e | e
    · exact absurd e e1
    · exact absurd e e2
    · omega
theorem step_card (k a b : Int32) (i : INV D x o P h) : stepP l D x o P h M_B_card M_m_card [.int k, .int a, .int b] := by
  obtain ⟨W, V, va, vf, As, T, K, dr, ha, hm, hs, hc⟩ := i
  obtain ⟨g, bb, hh, mm, cc, aa, dA, sA, sc, w, hx, hV, hd, hsc⟩ := id ha
  obtain ⟨dB, fd, wa, wb, hdA, hdB, hfd, hdl⟩ := id hd
  obtain ⟨sB, fs, wsa, wsb, hsA, hsB, hfs, hsl⟩ := hsc
  have hab := rw_ne hdA hdB
  have hsab := rw_ne hsA hsB
  have r12 : ∀ {p q}, W p = 1 → W q = 2 → p ≠ q := fun h1 h2 => ne_reg h1 h2 (by decide)
  refine ⟨0, 0, 0, hc.pb, Nat.zero_le _, Nat.zero_le _, ⟨_, hx⟩, c_B_card k a b hx hdA hdB hsA hsB hfd hdl hsab (ne_cls hx hsA (by decide)) (ne_arr hx hsB) (r12 wa wsa) (r12 wa wsb) (r12 wb wsa) (r12 wb wsb) hab (ne_cls hx hdA (by decide)) (ne_arr hx hdB) ?_ ?_ ?_⟩
  · intro e
    refine ⟨_, rfl, hm.fs, Runs.at hm (c_m_card k a b hs.2.2.2 (fun _ => ⟨rfl, (by rw [hm.eq]; exact ⟨W, V, va, vf, As, T, K, dr, ha, hm, hs, hc⟩)⟩) (fun L va9 e1 => ?_))⟩
    rw [e] at e1
    cases e1
  · intro L f9 e e2 hf9
    have hL16 : L.length ≤ 16 := by
      have h1 := szW_le k a b
      have h2 := cardW_len k a b (dg 7 dr)
      rw [e] at h2
      unfold szW at h1
      rw [← h2] at h1
      exact h1
    have s : stp (· = 2) W h W (rwU D h sA sB L.length f9) := stp_rw wsa wsb
    have ha1 : abW W D (rwU D h sA sB L.length f9) x V dr := ab_dr w hx hV (s.wk (fun _ e => Or.inr e)) (hd.st s (by omega)) (rowW_rw wsa wsb hsab hf9 (by omega))
    have hm1 := hm.st s (by omega)
    refine ⟨_, rfl, hm1.fs, Runs.at hm1 (c_m_card k a b hs.2.2.2 (fun _ => ⟨rfl, (by rw [hm1.eq]; exact ⟨W, V, va, vf, As, T, K, dr, ha1, hm1, hs, hc⟩)⟩) (fun L' va9 e1 e3 => ?_))⟩
    rw [e] at e1
    cases e1
    omega
  · intro L f8 f9 e e2 hf8 hf9
    have hL16 : L.length ≤ 16 := by
      have h1 := szW_le k a b
      have h2 := cardW_len k a b (dg 7 dr)
      rw [e] at h2
      unfold szW at h1
      rw [← h2] at h1
      exact h1
    have s1 : stp (· = 2) W h W (rwU D h sA sB L.length f8) := stp_rw wsa wsb
    have s2 : stp (· = 1) W (rwU D h sA sB L.length f8) W (rwU D (rwU D h sA sB L.length f8) dA dB (dr ++ L).length f9) := stp_rw wa wb
    have hl9 : (dr ++ L).length ≤ 240 := by rw [List.length_append]; exact e2
    have ha1 : abW W D (rwU D (rwU D h sA sB L.length f8) dA dB (dr ++ L).length f9) x V (dr ++ L) := ab_dr w hx hV ((s1.wk (fun _ e => Or.inr e)).tr (s2.wk (fun _ e => Or.inl e))) (rowW_rw wa wb hab hf9 hl9) ((rowW_rw (h := h) wsa wsb hsab hf8 (by omega)).st s2 (by omega))
    have hm1 := (hm.st s1 (by omega)).st s2 (by omega)
    refine ⟨_, rfl, hm1.fs, Runs.at hm1 (c_m_card k a b hs.2.2.2 (fun e3 => ?_) (fun L' va9 e1 _ k9 s9 => ?_))⟩
    · rcases e3 with e3 | ⟨L', e3, e4⟩
      · rw [e] at e3; cases e3
      · rw [e] at e3; cases e3; omega
    · rw [e] at e1
      cases e1
      exact ⟨rfl, inv_m ha1 hm1 hc (hs.sk64 k9 s9)⟩
theorem step_files (a1 : Int32) (i : INV D x o P h) : stepP l D x o P h M_B_files M_m_files [.int a1] := by
  obtain ⟨W, V, va, vf, As, T, K, dr, ha, hm, hs, hc⟩ := i
  obtain ⟨g, bb, hh, mm, cc, aa, dA, sA, sc, w, hx, hV, hd, hsc⟩ := id ha
  refine ⟨0, 240, 1200, hc.pb, by omega, by omega, ⟨_, hx⟩, c_B_files a1 hx hV hd (fun h' he => ?_)⟩
  have s : stp (fun _ => False) W h (Wx W h) h' := stp_ext he
  have ha1 := ha.st s (fun _ _ e => e)
  have hm1 := hm.st s (fun e => e)
  refine ⟨_, rfl, hm1.fs, Runs.at hm1 (c_m_files a1 hs.1 hs.2.2.2 (fun f9 _ => ⟨?_, inv_m ha1 hm1 hc hs⟩))⟩
  by_cases hr : isRp a1 = true
  · rw [if_pos hr, if_pos hr]
    obtain ⟨q, hq2, rfl⟩ := isRp_of hr
    rw [toN_nI (by omega), fiL_files (hc.1 q hq2).s]
  · rw [if_neg hr, if_neg hr]
theorem take_nil (Y : BV) (p : Nat) : (takeV Y (p, [])).pot = Y.pot := by
  unfold takeV
  split
  · rfl
  · have e : aCs [] = [] := aCs_0 rfl
    simp only [e, nnM, nnC, BV.pot, BV.km, BV.kc, BV.ka, remS]
theorem step_put (a1 : Int32) (i : INV D x o P h) : stepP l D x o P h M_B_put M_m_put [.int a1] := by
  obtain ⟨W, V, va, vf, As, T, K, dr, ha, hm, hs, hc⟩ := i
  obtain ⟨g, bb, hh, mm, cc, aa, dA, sA, sc, w, hx, hV, hd, hsc⟩ := id ha
  have hdl : dr.length ≤ 240 := hs.2.2.2.2.2
  obtain ⟨u, hu, hu0⟩ : ∃ u, (∀ q p, q < 2 → a1 = nI q → (takeV (V q) (p, dr)).pot = (V q).pot + u) ∧ (isRp a1 = false → u = 0) := by
    by_cases hr : isRp a1 = true
    · obtain ⟨q, hq, rfl⟩ := isRp_of hr
      obtain ⟨u, hu⟩ := Nat.exists_eq_add_of_le (takeV_pot (V q) (0, dr))
      refine ⟨u, fun q' p hq' e => ?_, fun e => by rw [e] at hr; cases hr⟩
      have e2 : q = q' := (nI_eq (by omega) (by omega)).1 e
      subst e2
      rw [← hu]
      exact str_pot (takeV_str rfl rfl)
    · exact ⟨0, fun q p hq e => absurd (by rw [e]; exact isRp_nI hq) hr, fun _ => rfl⟩
  have bgt : ∀ q p, q < 2 → (∀ y, y ∈ (V q).L → y.1 ≠ p) → bgR (takeV (V q) (p, dr)) (addA (As q) dr) (T q) (K (1 - q)) := fun q p hq hp => (hc.1 q hq).take (hc.tl q hq) hdl (fun _ => hp)
  have inv0 : u = 0 → INV D x o (P + u) (zmod D o h va vf) := by
    intro e
    rw [hm.eq, e]
    exact ⟨W, V, va, vf, As, T, K, dr, ha, hm, hs, hc⟩
  have hub : P + u ≤ 6144 := by
    by_cases hr : isRp a1 = true
    · obtain ⟨q, hq, rfl⟩ := isRp_of hr
      obtain ⟨p, hp⟩ := ex_new (V q).L
      have h1 := (bgt q p hq hp).pb
      rw [hu q p hq rfl] at h1
      have h2 := hc.2.2
      have p0 := (hc.1 0 (by omega)).pb
      have p1 := (hc.1 1 (by omega)).pb
      have hq2 : q = 0 ∨ q = 1 := by omega
      rcases hq2 with rfl | rfl <;> omega
    · have := hc.pb
      rw [hu0 (by simpa using hr)]
      exact this
  refine ⟨u, 65 + u, 786 + 2 * u, hub, by omega, by omega, ⟨_, hx⟩, c_B_put a1 u hx w hV hd (fun q p hq e hp => ⟨(bgt q p hq hp).ml (hc.tl q hq), (bgt q p hq hp).cl, hu q p hq e⟩) (fun e => ?_) (fun e => ?_) (fun q hq e e1 e2 => ?_) (fun q W' h' hq e e1 e2 s hd' => ?_) (fun q p W' h' hq e e1 e2 e3 hp s hY hd' => ?_)⟩
  · refine ⟨_, rfl, hm.fs, Runs.at hm (c_m_put a1 hs.1 hs.2.2.2 (fun _ => ⟨rfl, inv0 (hu0 e)⟩) (fun e9 => ?_) (fun e9 => ?_))⟩
    · rw [e] at e9; cases e9
    · rw [e] at e9; cases e9
  · subst e
    have h0 : u = 0 := by
      by_cases hr : isRp a1 = true
      · obtain ⟨q, hq, rfl⟩ := isRp_of hr
        have := hu q 0 hq rfl
        rw [take_nil] at this
        omega
      · exact hu0 (by simpa using hr)
    exact ⟨_, rfl, hm.fs, Runs.at hm (c_m_put a1 hs.1 hs.2.2.2 (fun _ => ⟨rfl, inv0 h0⟩) (fun _ e9 => absurd rfl e9) (fun _ e9 => absurd rfl e9))⟩
  · subst e
    have hl := (hc.1 q hq).s.len
    have hln := ((hc.1 q hq).s.fdn _).1 e1
    have h32 := (hc.1 q hq).l
    have h0 : u = 0 := by
      have := hu q 0 hq rfl
      rw [show takeV (V q) (0, dr) = V q from if_pos (Or.inl e2)] at this
      omega
    refine ⟨_, rfl, hm.fs, Runs.at hm (c_m_put (nI q) hs.1 hs.2.2.2 (fun _ => ⟨rfl, inv0 h0⟩) (fun _ _ e9 => ?_) (fun _ _ _ e9 => ?_))⟩
    · rw [toN_nI (by omega)] at e9
      exact absurd hln e9
    · rw [toN_nI (by omega)] at e9
      omega
  · subst e
    have hln := mt ((hc.1 q hq).s.fdn _).2 e2
    have ha1 : abW W' D h' x V [] := ab_dr w hx hV (s.wk (fun _ e => Or.inl e)) hd' (hsc.st s (by omega))
    have hm1 := hm.st s (by omega)
    have h0 : u = 0 := by
      have := hu q 0 hq rfl
      rw [show takeV (V q) (0, dr) = V q from if_pos (Or.inr (by
        cases e9 : fdA (nI (dg 7 dr)) (V q).L with
        | none => exact absurd e9 e2
        | some z => rfl))] at this
      omega
    refine ⟨_, rfl, hm1.fs, Runs.at hm1 (c_m_put (nI q) hs.1 hs.2.2.2 (fun e9 => ?_) (fun _ _ _ va9 k9 s9 => ⟨rfl, by rw [h0]; exact inv_m ha1 hm1 hc (hs.sk64 k9 s9)⟩) (fun _ _ e9 => ?_))⟩
    · rcases e9 with e9 | e9 | e9
      · rw [isRp_nI hq] at e9; cases e9
      · exact absurd e9 e1
      · rw [toN_nI (by omega)] at e9
        exact absurd e9.2 hln
    · rw [toN_nI (by omega)] at e9
      exact absurd e9 hln
  · subst e
    have hln := ((hc.1 q hq).s.fdn _).1 e2
    have hl := (hc.1 q hq).s.len
    have hadd : addA (As q) dr = As q ++ [dr] := if_pos ⟨hln, by omega⟩
    have hY2 := bgt q p hq hp
    rw [hadd] at hY2
    have ha1 : abW W' D h' x (upF V q (takeV (V q) (p, dr))) [] := ab_bag hq w hx hV s hY hd' hsc
    have hm1 := hm.st s (by omega)
    have hTq : upF T q (T q) = T := upF_same T q
    have hT1 : tOk (upF As q (As q ++ [dr])) (upF T q (T q)) := by
      rw [hTq]
      exact tOk_round hc.2.1 (fun a ha => List.mem_append_left _ ha)
    have hc1 := cm_up hq hc hY2 hT1 (hu q p hq rfl)
    rw [hTq] at hc1
    refine ⟨_, rfl, hm1.fs, Runs.at hm1 (c_m_put (nI q) hs.1 hs.2.2.2 (fun e9 => ?_) (fun _ _ e9 => ?_) (fun _ _ _ e9 va1 va9 k1 r1 k9 s9 => ⟨rfl, ?_⟩))⟩
    · rcases e9 with e9 | e9 | e9
      · rw [isRp_nI hq] at e9; cases e9
      · exact absurd e9 e1
      · rw [toN_nI (by omega)] at e9
        omega
    · rw [toN_nI (by omega)] at e9
      exact absurd hln e9
    · rw [toN_nI (by omega)] at k1 r1 e9
      exact inv_m ha1 hm1 hc1 ((hs.hold hq e9 k1 r1).sk64 k9 s9)
theorem step_rebuild (a1 : Int32) (i : INV D x o P h) : stepP l D x o P h M_B_rebuild M_m_rebuild [.int a1] := by
  obtain ⟨W, V, va, vf, As, T, K, dr, ha, hm, hs, hc⟩ := i
  obtain ⟨g, bb, hh, mm, cc, aa, dA, sA, sc, w, hx, hV, hd, hsc⟩ := id ha
  obtain ⟨u, hu, hu0⟩ : ∃ u, (∀ q, q < 2 → a1 = nI q → (drvV (V q)).pot = (V q).pot + u) ∧ (isRp a1 = false → u = 0) := by
    by_cases hr : isRp a1 = true
    · obtain ⟨q, hq, rfl⟩ := isRp_of hr
      obtain ⟨u, hu⟩ := Nat.exists_eq_add_of_le (drvV_pot (V q))
      refine ⟨u, fun q' hq' e => ?_, fun e => by rw [e] at hr; cases hr⟩
      have e2 : q = q' := (nI_eq (by omega) (by omega)).1 e
      subst e2
      exact hu
    · exact ⟨0, fun q hq e => absurd (by rw [e]; exact isRp_nI hq) hr, fun _ => rfl⟩
  have t0 : tlk [] := ⟨Nat.zero_le _, fun x hx => by cases hx⟩
  have hub : P + u ≤ 6144 := by
    by_cases hr : isRp a1 = true
    · obtain ⟨q, hq, rfl⟩ := isRp_of hr
      have h1 := (hc.1 q hq).drv.pb
      rw [hu q hq rfl] at h1
      have h2 := hc.2.2
      have p0 := (hc.1 0 (by omega)).pb
      have p1 := (hc.1 1 (by omega)).pb
      have hq2 : q = 0 ∨ q = 1 := by omega
      rcases hq2 with rfl | rfl <;> omega
    · have := hc.pb
      rw [hu0 (by simpa using hr)]
      exact this
  refine ⟨u, u, 2 * u, hub, by omega, by omega, ⟨_, hx⟩, c_B_rebuild a1 u hx hV (fun q hq e => ⟨(hc.1 q hq).drv.ml t0, (hc.1 q hq).drv.cl, hu q hq e⟩) (fun e => ?_) (fun q W' h' hq e s hY => ?_)⟩
  · refine ⟨_, rfl, hm.fs, Runs.at hm (c_m_rebuild a1 hs (fun va9 f9 hs9 => ⟨?_, ?_⟩))⟩
    · rw [if_neg (by rw [e]; decide)]
    · rw [if_neg (by rw [e]; decide)] at hs9
      rw [hu0 e]
      exact inv_m ha hm hc hs9
  · subst e
    have s2 : stp (fun j => j = 1 ∨ (10 + 10 * q ≤ j ∧ j ≤ 10 + 10 * q + 3)) W h W' h' := s.wk (fun _ e => Or.inr e)
    have ha1 : abW W' D h' x (upF V q (drvV (V q))) dr := ab_bag hq w hx hV s2 hY (hd.st s (by omega)) hsc
    have hm1 := hm.st s (by omega)
    have hAq : upF As q (As q) = As := upF_same As q
    have hT1 : tOk (upF As q (As q)) (upF T q []) := by
      rw [hAq]
      intro t ht
      unfold upF
      by_cases e : t = q
      · rw [if_pos e]; exact ⟨List.Pairwise.nil, fun x hx => by cases hx⟩
      · rw [if_neg e]; exact hc.2.1 t ht
    have hc1 := cm_up hq hc (hc.1 q hq).drv hT1 (hu q hq rfl)
    rw [hAq] at hc1
    refine ⟨_, rfl, hm1.fs, Runs.at hm1 (c_m_rebuild (nI q) hs (fun va9 f9 hs9 => ⟨?_, ?_⟩))⟩
    · rw [if_pos (isRp_nI hq), toN_nI (by omega), ← (hc.1 q hq).drv.ci]
    · rw [if_pos (isRp_nI hq), toN_nI (by omega)] at hs9
      exact inv_m ha1 hm1 hc1 hs9
theorem step_round (a1 : Int32) (i : INV D x o P h) : stepP l D x o P h M_B_round M_m_round [.int a1] := by
  obtain ⟨W, V, va, vf, As, T, K, dr, ha, hm, hs, hc⟩ := i
  obtain ⟨g, bb, hh, mm, cc, aa, dA, sA, sc, w, hx, hV, hd, hsc⟩ := id ha
  have R0 := hc.1 0 (by omega)
  have R1 := hc.1 1 (by omega)
  by_cases hin : a1 < 0 ∨ ¬ a1 ≤ nI 10000
  · refine ⟨0, 0, 0, hc.pb, Nat.zero_le _, Nat.zero_le _, ⟨_, hx⟩, c_B_round0 a1 hin ⟨_, rfl, hm.fs, Runs.at hm (c_m_round a1 hs hc.2.1 (fun _ => ⟨rfl, (by rw [hm.eq]; exact ⟨W, V, va, vf, As, T, K, dr, ha, hm, hs, hc⟩)⟩) (fun e1 e2 => ?_))⟩⟩
    exfalso
    rcases hin with hin | hin
    · exact e1 hin
    · obtain ⟨j, hj, rfl⟩ := nI_of e1
      rw [toN_nI hj] at e2
      exact hin (nI_le e2 (by omega))
  · obtain ⟨u1, u2, u3, u4, hu⟩ := rnd_us (V0 := V 0) (V1 := V 1) R0.mo.lc R1.mo.lc (toN a1)
    have hub : P + (u1 + u2 + u3 + u4) ≤ 6144 := by
      obtain ⟨f0, hf0⟩ := (hV 0 (by omega)).L
      obtain ⟨f1, hf1⟩ := (hV 1 (by omega)).L
      obtain ⟨q0, q1, b0, b1⟩ := rnd_ex (b := toN a1) R0 R1 hc.2.1 (asP_adr hf0 hf0) (asP_adr hf0 hf1) (asP_adr hf1 hf0) (asP_adr hf1 hf1)
      obtain ⟨p1, p2, p3, p4⟩ := hu q0 q1
      have h2 := hc.2.2
      unfold rndV at b0 b1
      simp only at b0 b1
      omega
    refine ⟨u1 + u2 + u3 + u4, _, _, hub, by omega, by omega, ⟨_, hx⟩, c_B_round a1 u1 u2 u3 u4 hx w (hV 0 (by omega)) (hV 1 (by omega)) hsc R0 R1 hc.2.1 hu (fun e => absurd e hin) (fun e1 e2 q0 q1 W' h' sc' s y0 y1 C0 C1 r' => ?_)⟩
    have hm1 := hm.st s (by omega)
    obtain ⟨wx, hx'⟩ := s x _ hx (by rw [w]; omega)
    obtain ⟨V', hV'⟩ : ∃ V' : Nat → BV, V' = fun q => if q = 0 then (rndV (V 0) (V 1) q0 q1 (toN a1)).1 else (rndV (V 0) (V 1) q0 q1 (toN a1)).2 := ⟨_, rfl⟩
    have v0 : V' 0 = (rndV (V 0) (V 1) q0 q1 (toN a1)).1 := by rw [hV']; rfl
    have v1 : V' 1 = (rndV (V 0) (V 1) q0 q1 (toN a1)).2 := by rw [hV']; rfl
    clear hV'
    rw [← v0] at y0 C0
    rw [← v1] at y1 C1
    have ha1 : abW W' D h' x V' dr := by
      refine ⟨g, bb, hh, mm, cc, aa, dA, sA, sc', wx.trans w, hx', fun q hq => ?_, hd.st s (by omega), r'⟩
      have hq2 : q = 0 ∨ q = 1 := by omega
      rcases hq2 with rfl | rfl
      · exact y0
      · exact y1
    have hc1 : cmR V' (msgA (msgA (rdA As) K 0 (toN a1)) (msgK (rdA As) T K 0) 1 (toN a1)) (msgT (msgA (rdA As) K 0 (toN a1)) (msgT (rdA As) T K 0 (toN a1)) (msgK (rdA As) T K 0) 1 (toN a1)) (msgK (msgA (rdA As) K 0 (toN a1)) (msgT (rdA As) T K 0 (toN a1)) (msgK (rdA As) T K 0) 1) (P + (u1 + u2 + u3 + u4)) := by
      refine ⟨fun q hq => ?_, tOk_msg (by omega) (tOk_msg (by omega) (tOk_rd hc.2.1)), ?_⟩
      · have hq2 : q = 0 ∨ q = 1 := by omega
        rcases hq2 with rfl | rfl
        · exact C0
        · exact C1
      · obtain ⟨p1, p2, p3, p4⟩ := hu q0 q1
        have p0 := hc.2.2
        rw [v0, v1]
        unfold rndV
        simp only
        omega
    exact ⟨_, rfl, hm1.fs, Runs.at hm1 (c_m_round a1 hs hc.2.1 (fun e => absurd e hin) (fun _ _ va9 f9 hs9 => ⟨rfl, inv_m ha1 hm1 hc1 hs9⟩))⟩
end LST2
