/-! Class and reference side by side: their common state, call by call. Own work. -/
/-- the reference's cells in their region -/
def mdW (W : Nat → Nat) (D : zD) (h : zH) (o : Nat) (va : Nat → Nat → Int32) (vf : Nat → Int32) : Prop := W o = 30 ∧ (∀ j, j < 9 → W (zad D o j) = 30) ∧ h o = some (.inr (ciM, zmo D o vf)) ∧ ∀ j, j < 9 → h (zad D o j) = some (.inl (D.2 (zkd j), zln j, .inl (va j)))
theorem mdW.st {R : Nat → Prop} {W W' : Nat → Nat} {D : zD} {h h' : zH} {o : Nat} {va : Nat → Nat → Int32} {vf : Nat → Int32} (y : mdW W D h o va vf) (s : stp R W h W' h') (hR : ¬ R 30) : mdW W' D h' o va vf := by
  obtain ⟨w1, w2, h1, h2⟩ := y
  obtain ⟨a1, a2⟩ := s o _ h1 (by rw [w1]; exact hR)
  exact ⟨a1.trans w1, fun j hj => (s _ _ (h2 j hj) (by rw [w2 j hj]; exact hR)).1.trans (w2 j hj), a2, fun j hj => (s _ _ (h2 j hj) (by rw [w2 j hj]; exact hR)).2⟩
theorem zmA_same {D : zD} {h : zH} {o q : Nat} {va : Nat → Nat → Int32} (h2 : ∀ j, j < 9 → h (zad D o j) = some (.inl (D.2 (zkd j), zln j, .inl (va j)))) : ∀ k, k ≤ 9 → zmA D o h va q k = h q
  | 0, _ => rfl
  | k + 1, hk => by
    rw [zmA]
    by_cases e : q = zad D o k
    · rw [if_pos e, e, h2 k (by omega)]
    · rw [if_neg e]
      exact zmA_same h2 k (by omega)
theorem mdW.eq {W : Nat → Nat} {D : zD} {h : zH} {o : Nat} {va : Nat → Nat → Int32} {vf : Nat → Int32} (y : mdW W D h o va vf) : zmod D o h va vf = h := by
  obtain ⟨w1, w2, h1, h2⟩ := y
  funext q
  unfold zmod
  by_cases e : q = o
  · rw [if_pos e, e, h1]
  · rw [if_neg e]
    exact zmA_same h2 9 (Nat.le_refl 9)
theorem zmA_other {D : zD} {h : zH} {o q : Nat} {va : Nat → Nat → Int32} (hq : ∀ j, j < 9 → q ≠ zad D o j) : ∀ k, k ≤ 9 → zmA D o h va q k = h q
  | 0, _ => rfl
  | k + 1, hk => by
    rw [zmA, if_neg (hq k (by omega))]
    exact zmA_other hq k (by omega)
theorem mdW.md {W : Nat → Nat} {D : zD} {h : zH} {o : Nat} {va : Nat → Nat → Int32} {vf : Nat → Int32} (y : mdW W D h o va vf) (va' : Nat → Nat → Int32) (vf' : Nat → Int32) : stp (· = 30) W h W (zmod D o h va' vf') ∧ mdW W D (zmod D o h va' vf') o va' vf' := by
  obtain ⟨w1, w2, h1, h2⟩ := y
  refine ⟨?_, w1, w2, zmod_o _ _ _ _ _, fun j hj => zmod_a _ _ _ _ _ hj⟩
  intro q e he hr
  refine ⟨rfl, ?_⟩
  unfold zmod
  rw [if_neg (fun e9 => hr (by rw [e9]; exact w1)), zmA_other (fun j hj e9 => hr (by rw [e9]; exact w2 j hj)) 9 (Nat.le_refl 9)]
  exact he
/-- the common state, but for the heap -/
def cmR (V : Nat → BV) (As : Nat → List (List Nat)) (T K : Nat → List Nat) (P : Nat) : Prop := (∀ q, q < 2 → bgR (V q) (As q) (T q) (K (1 - q))) ∧ tOk As T ∧ (V 0).pot + (V 1).pot = P
/-- the common state -/
def INV (D : zD) (x o P : Nat) (h : zH) : Prop := ∃ W V va vf As T K dr, abW W D h x V dr ∧ mdW W D h o va vf ∧ mSt As T K dr va ∧ cmR V As T K P
/-- what one call comes to: both answer, alike, and the state is common again -/
def stepP (l : Launch) (D : zD) (x o P : Nat) (h : zH) (Mc Mm : zM) (as : List Value) : Prop := ∃ u mc ms, P + u ≤ 6144 ∧ mc ≤ 240 + u ∧ ms ≤ 1600 + 2 * u ∧ (∃ fs, h x = some (.inr (1, fs))) ∧ Runs l D Mc (.ref x :: as) h mc ms (fun r h1 => ∃ v, r = some (.int v) ∧ (∃ fs, h1 o = some (.inr (ciM, fs))) ∧ Runs l D Mm (.ref o :: as) h1 0 0 (fun r2 h2 => r2 = some (.int v) ∧ INV D x o (P + u) h2))
theorem cmR.tl {V : Nat → BV} {As : Nat → List (List Nat)} {T K : Nat → List Nat} {P : Nat} (h : cmR V As T K P) : ∀ q, q < 2 → tlk (T q) := fun q hq => tOk_tlk h.2.1 (fun q hq => (h.1 q hq).l) hq
theorem bgR.pb {V : BV} {As : List (List Nat)} {T K : List Nat} (h : bgR V As T K) : V.pot ≤ 3072 := (okS_pot h.mo h.co h.ao).1
theorem cmR.pb {V : Nat → BV} {As : Nat → List (List Nat)} {T K : Nat → List Nat} {P : Nat} (h : cmR V As T K P) : P + 0 ≤ 6144 := by
  have h0 := (h.1 0 (by omega)).pb
  have h1 := (h.1 1 (by omega)).pb
  have h2 := h.2.2
  omega
theorem abW.fs {W : Nat → Nat} {D : zD} {h : zH} {x : Nat} {V : Nat → BV} {dr : List Nat} (y : abW W D h x V dr) : ∃ fs, h x = some (.inr (1, fs)) := by
  obtain ⟨g, bb, hh, mm, cc, aa, dA, sA, sc, w, hx, -⟩ := y
  exact ⟨_, hx⟩
theorem mdW.fs {W : Nat → Nat} {D : zD} {h : zH} {o : Nat} {va : Nat → Nat → Int32} {vf : Nat → Int32} (y : mdW W D h o va vf) : ∃ fs, h o = some (.inr (ciM, fs)) := ⟨_, y.2.2.1⟩
theorem Runs.at {l : Launch} {W : Nat → Nat} {D : zD} {M : zM} {as : List Value} {h : zH} {o mc ms : Nat} {va : Nat → Nat → Int32} {vf : Nat → Int32} {Q : Option Value → zH → Prop} (y : mdW W D h o va vf) (r : Runs l D M as (zmod D o h va vf) mc ms Q) : Runs l D M as h mc ms Q := by
  rw [y.eq] at r
  exact r
section LST
variable {l : Launch} {D : zD} {x o P : Nat} {h : zH} {W : Nat → Nat} {V : Nat → BV} {va : Nat → Nat → Int32} {vf : Nat → Int32} {As : Nat → List (List Nat)} {T K : Nat → List Nat} {dr : List Nat}
/-- the reference has only read, or written what does not count -/
theorem inv_m (ha : abW W D h x V dr) (hm : mdW W D h o va vf) (hc : cmR V As T K P) {va' : Nat → Nat → Int32} {vf' : Nat → Int32} (hs : mSt As T K dr va') : INV D x o P (zmod D o h va' vf') := by
  obtain ⟨s, y⟩ := hm.md va' vf'
  exact ⟨W, V, va', vf', As, T, K, dr, ha.st s (by omega), y, hs, hc⟩

theorem step_held (a1 : Int32) (i : INV D x o P h) : stepP l D x o P h M_B_held M_m_held [.int a1] := by
  obtain ⟨W, V, va, vf, As, T, K, dr, ha, hm, hs, hc⟩ := i
  obtain ⟨g, bb, hh, mm, cc, aa, dA, sA, sc, w, hx, hV, hd, hsc⟩ := id ha
  refine ⟨0, 0, 0, hc.pb, Nat.zero_le _, Nat.zero_le _, ⟨_, hx⟩, c_B_held a1 hx hV ⟨_, rfl, hm.fs, Runs.at hm (c_m_held a1 hs ⟨?_, (by rw [hm.eq]; exact ⟨W, V, va, vf, As, T, K, dr, ha, hm, hs, hc⟩)⟩)⟩⟩
  rw [show (if isRp a1 = true then nI (As (toN a1)).length else -1) = (if isRp a1 = true then nI (V (toN a1)).L.length else -1) from by
    by_cases hr : isRp a1 = true
    · rw [if_pos hr, if_pos hr]
      obtain ⟨q, hq2, rfl⟩ := isRp_of hr
      rw [toN_nI (by omega)]
      rw [(hc.1 q hq2).s.len]
    · rw [if_neg hr, if_neg hr]]

theorem step_wanted (a1 : Int32) (i : INV D x o P h) : stepP l D x o P h M_B_wanted M_m_wanted [.int a1] := by
  obtain ⟨W, V, va, vf, As, T, K, dr, ha, hm, hs, hc⟩ := i
  obtain ⟨g, bb, hh, mm, cc, aa, dA, sA, sc, w, hx, hV, hd, hsc⟩ := id ha
  refine ⟨0, 0, 0, hc.pb, Nat.zero_le _, Nat.zero_le _, ⟨_, hx⟩, c_B_wanted a1 hx hV ⟨_, rfl, hm.fs, Runs.at hm (c_m_wanted a1 hs (fun va9 f9 hs9 => ⟨?_, inv_m ha hm hc hs9⟩))⟩⟩
  rw [show (if isRp a1 = true then nI (wantL (As (toN a1)) (T (toN a1))).length else -1) = (if isRp a1 = true then nI (V (toN a1)).m.2.length else -1) from by
    by_cases hr : isRp a1 = true
    · rw [if_pos hr, if_pos hr]
      obtain ⟨q, hq2, rfl⟩ := isRp_of hr
      rw [toN_nI (by omega)]
      rw [(hc.1 q hq2).m]
    · rw [if_neg hr, if_neg hr]]

theorem step_checkIns (a1 : Int32) (i : INV D x o P h) : stepP l D x o P h M_B_checkIns M_m_checkIns [.int a1] := by
  obtain ⟨W, V, va, vf, As, T, K, dr, ha, hm, hs, hc⟩ := i
  obtain ⟨g, bb, hh, mm, cc, aa, dA, sA, sc, w, hx, hV, hd, hsc⟩ := id ha
  refine ⟨0, 0, 0, hc.pb, Nat.zero_le _, Nat.zero_le _, ⟨_, hx⟩, c_B_checkIns a1 hx hV ⟨_, rfl, hm.fs, Runs.at hm (c_m_checkIns a1 hs.1 (fun f9 => ⟨?_, inv_m ha hm hc hs⟩))⟩⟩
  rw [show (if isRp a1 = true then nI (ciN (As (toN a1))) else -1) = (if isRp a1 = true then nI (V (toN a1)).H.length else -1) from by
    by_cases hr : isRp a1 = true
    · rw [if_pos hr, if_pos hr]
      obtain ⟨q, hq2, rfl⟩ := isRp_of hr
      rw [toN_nI (by omega)]
      rw [(hc.1 q hq2).ci]
    · rw [if_neg hr, if_neg hr]]

theorem step_children (a1 a2 : Int32) (i : INV D x o P h) : stepP l D x o P h M_B_children M_m_children [.int a1, .int a2] := by
  obtain ⟨W, V, va, vf, As, T, K, dr, ha, hm, hs, hc⟩ := i
  obtain ⟨g, bb, hh, mm, cc, aa, dA, sA, sc, w, hx, hV, hd, hsc⟩ := id ha
  refine ⟨0, 0, 0, hc.pb, Nat.zero_le _, Nat.zero_le _, ⟨_, hx⟩, c_B_children a1 a2 hx hV ⟨_, rfl, hm.fs, Runs.at hm (c_m_children a1 a2 hs.1 (fun f9 => ⟨?_, inv_m ha hm hc hs⟩))⟩⟩
  rw [show (if isRp a1 = true then nI (chN (As (toN a1)) a2) else -1) = (if isRp a1 = true then nI (kidC a2 (V (toN a1)).H) else -1) from by
    by_cases hr : isRp a1 = true
    · rw [if_pos hr, if_pos hr]
      obtain ⟨q, hq2, rfl⟩ := isRp_of hr
      rw [toN_nI (by omega)]
      rw [(hc.1 q hq2).ch]
    · rw [if_neg hr, if_neg hr]]

theorem step_leaves (a1 : Int32) (i : INV D x o P h) : stepP l D x o P h M_B_leaves M_m_leaves [.int a1] := by
  obtain ⟨W, V, va, vf, As, T, K, dr, ha, hm, hs, hc⟩ := i
  obtain ⟨g, bb, hh, mm, cc, aa, dA, sA, sc, w, hx, hV, hd, hsc⟩ := id ha
  refine ⟨0, 0, 0, hc.pb, Nat.zero_le _, Nat.zero_le _, ⟨_, hx⟩, c_B_leaves a1 hx hV ⟨_, rfl, hm.fs, Runs.at hm (c_m_leaves a1 hs.1 (fun f9 => ⟨?_, inv_m ha hm hc hs⟩))⟩⟩
  rw [show (if isRp a1 = true then nI (lfN (As (toN a1))) else -1) = (if isRp a1 = true then nI (leafC (V (toN a1)).H (V (toN a1)).H) else -1) from by
    by_cases hr : isRp a1 = true
    · rw [if_pos hr, if_pos hr]
      obtain ⟨q, hq2, rfl⟩ := isRp_of hr
      rw [toN_nI (by omega)]
      rw [(hc.1 q hq2).lf]
    · rw [if_neg hr, if_neg hr]]

theorem step_loose (a1 : Int32) (i : INV D x o P h) : stepP l D x o P h M_B_loose M_m_loose [.int a1] := by
  obtain ⟨W, V, va, vf, As, T, K, dr, ha, hm, hs, hc⟩ := i
  obtain ⟨g, bb, hh, mm, cc, aa, dA, sA, sc, w, hx, hV, hd, hsc⟩ := id ha
  refine ⟨0, 0, 0, hc.pb, Nat.zero_le _, Nat.zero_le _, ⟨_, hx⟩, c_B_loose a1 hx hV ⟨_, rfl, hm.fs, Runs.at hm (c_m_loose a1 hs (fun va9 f9 hs9 => ⟨?_, inv_m ha hm hc hs9⟩))⟩⟩
  rw [show (if isRp a1 = true then nI (looseL (As (toN a1))).length else -1) = (if isRp a1 = true then nI (lsL (V (toN a1)).L (V (toN a1)).c.2).length else -1) from by
    by_cases hr : isRp a1 = true
    · rw [if_pos hr, if_pos hr]
      obtain ⟨q, hq2, rfl⟩ := isRp_of hr
      rw [toN_nI (by omega)]
      rw [(hc.1 q hq2).loose]
    · rw [if_neg hr, if_neg hr]]

theorem step_wants (a1 a2 : Int32) (i : INV D x o P h) : stepP l D x o P h M_B_wants M_m_wants [.int a1, .int a2] := by
  obtain ⟨W, V, va, vf, As, T, K, dr, ha, hm, hs, hc⟩ := i
  obtain ⟨g, bb, hh, mm, cc, aa, dA, sA, sc, w, hx, hV, hd, hsc⟩ := id ha
  refine ⟨0, 0, 0, hc.pb, Nat.zero_le _, Nat.zero_le _, ⟨_, hx⟩, c_B_wants a1 a2 hx hV ⟨_, rfl, hm.fs, Runs.at hm (c_m_wants a1 a2 hs (fun va9 f9 hs9 => ⟨?_, inv_m ha hm hc hs9⟩))⟩⟩
  by_cases hr : isRp a1 = true
  · obtain ⟨q, hq2, rfl⟩ := isRp_of hr
    rw [hr, toN_nI (by omega), (hc.1 q hq2).m]
  · rw [Bool.not_eq_true] at hr
    rw [hr, Bool.false_and, Bool.false_and]
theorem step_kind (a1 a2 : Int32) (i : INV D x o P h) : stepP l D x o P h M_B_kind M_m_kind [.int a1, .int a2] := by
  obtain ⟨W, V, va, vf, As, T, K, dr, ha, hm, hs, hc⟩ := i
  obtain ⟨g, bb, hh, mm, cc, aa, dA, sA, sc, w, hx, hV, hd, hsc⟩ := id ha
  refine ⟨0, 0, 0, hc.pb, Nat.zero_le _, Nat.zero_le _, ⟨_, hx⟩, c_B_kind a1 a2 hx hV ⟨_, rfl, hm.fs, Runs.at hm (c_m_kind a1 a2 hs (fun f9 => ⟨?_, inv_m ha hm hc hs⟩))⟩⟩
  by_cases hr : isRp a1 = true
  · rw [if_pos hr, if_pos hr]
    obtain ⟨q, hq2, rfl⟩ := isRp_of hr
    rw [toN_nI (by omega), ← (hc.1 q hq2).s.fd a2]
    cases fdA a2 (V q).L with
    | none => rfl
    | some y =>
      show some (Value.int (nI (sortM y.2))) = some (Value.int (nI (aS y.2)))
      rw [aS_sort]
  · rw [if_neg hr, if_neg hr]
theorem step_octet (a1 a2 a3 : Int32) (i : INV D x o P h) : stepP l D x o P h M_B_octet M_m_octet [.int a1, .int a2, .int a3] := by
  obtain ⟨W, V, va, vf, As, T, K, dr, ha, hm, hs, hc⟩ := i
  obtain ⟨g, bb, hh, mm, cc, aa, dA, sA, sc, w, hx, hV, hd, hsc⟩ := id ha
  refine ⟨0, 0, 0, hc.pb, Nat.zero_le _, Nat.zero_le _, ⟨_, hx⟩, c_B_octet a1 a2 a3 hx hV ⟨_, rfl, hm.fs, Runs.at hm (c_m_octet a1 a2 a3 hs ⟨?_, (by rw [hm.eq]; exact ⟨W, V, va, vf, As, T, K, dr, ha, hm, hs, hc⟩)⟩)⟩⟩
  by_cases hr : isRp a1 = true
  · rw [if_pos hr, if_pos hr]
    obtain ⟨q, hq2, rfl⟩ := isRp_of hr
    rw [toN_nI (by omega), ← (hc.1 q hq2).s.fd a2]
    cases fdA a2 (V q).L with
    | none => rfl
    | some y => rw [Option.map_some]
  · rw [if_neg hr, if_neg hr]
theorem step_timeline (a1 a2 : Int32) (i : INV D x o P h) : stepP l D x o P h M_B_timeline M_m_timeline [.int a1, .int a2] := by
  obtain ⟨W, V, va, vf, As, T, K, dr, ha, hm, hs, hc⟩ := i
  obtain ⟨g, bb, hh, mm, cc, aa, dA, sA, sc, w, hx, hV, hd, hsc⟩ := id ha
  have fin : ∀ v, (if isRp a1 = true ∧ ¬ a2 < 0 then tlF (As (toN a1)) (toN a2) (As (toN a1)) else -1) = v → ∃ w, some (Value.int v) = some (.int w) ∧ (∃ fs, h o = some (.inr (ciM, fs))) ∧ Runs l D M_m_timeline [.ref o, .int a1, .int a2] h 0 0 (fun r2 h2 => r2 = some (.int w) ∧ INV D x o (P + 0) h2) := by
    intro v hv
    exact ⟨v, rfl, hm.fs, Runs.at hm (c_m_timeline a1 a2 hs.1 (fun f9 => ⟨by rw [hv], inv_m ha hm hc hs⟩))⟩
  refine ⟨0, 0, 0, hc.pb, Nat.zero_le _, Nat.zero_le _, ⟨_, hx⟩, c_B_timeline a1 a2 hx hV (fun e => fin _ ?_) (fun q hq e e2 => fin _ ?_) (fun q i z hq e e2 e3 => fin _ ?_)⟩
  · rw [if_neg (fun e9 => by rw [e] at e9; cases e9.1)]
  · subst e
    by_cases h0 : a2 < 0
    · rw [if_neg (fun e9 => e9.2 h0)]
    · rw [if_pos ⟨isRp_nI hq, h0⟩, toN_nI (by omega)]
      obtain ⟨j, hj, rfl⟩ := nI_of h0
      have e3 := e2.resolve_left h0
      rw [toN_nI hj]
      obtain ⟨b2, f2, -, -, -, hn3⟩ := (hV q hq).H
      have := hn3.2.1
      exact (hc.1 q hq).tl0 ((nI_leI (by omega) hj).1 e3)
  · subst e
    subst e2
    obtain ⟨b2, f2, -, -, -, hn3⟩ := (hV q hq).H
    have h32 := hn3.2.1
    have hi := (List.getElem?_eq_some_iff.1 e3).1
    rw [if_pos ⟨isRp_nI hq, nI_pos (by omega)⟩, toN_nI (by omega), toN_nI (by omega)]
    exact (hc.1 q hq).tl e3
theorem step_name (a1 a2 : Int32) (i : INV D x o P h) : stepP l D x o P h M_B_name M_m_name [.int a1, .int a2] := by
  obtain ⟨W, V, va, vf, As, T, K, dr, ha, hm, hs, hc⟩ := i
  obtain ⟨g, bb, hh, mm, cc, aa, dA, sA, sc, w, hx, hV, hd, hsc⟩ := id ha
  have fin : ∀ v, (if isRp a1 = true ∧ ¬ a2 < 0 ∧ toN a2 < (As (toN a1)).length then nI ((nameL (As (toN a1))).getD (toN a2) 0) else -1) = v → ∃ w, some (Value.int v) = some (.int w) ∧ (∃ fs, h o = some (.inr (ciM, fs))) ∧ Runs l D M_m_name [.ref o, .int a1, .int a2] h 0 0 (fun r2 h2 => r2 = some (.int w) ∧ INV D x o (P + 0) h2) := by
    intro v hv
    exact ⟨v, rfl, hm.fs, Runs.at hm (c_m_name a1 a2 hs (fun q hq => (hc.1 q hq).s.2.1) (fun va9 f9 hs9 => ⟨by rw [hv], inv_m ha hm hc hs9⟩))⟩
  refine ⟨0, 0, 0, hc.pb, Nat.zero_le _, Nat.zero_le _, ⟨_, hx⟩, c_B_name a1 a2 hx hV (fun e => fin _ ?_) (fun q hq e e2 => fin _ ?_) (fun q i z hq e e2 e3 => fin _ ?_)⟩
  · rw [if_neg (fun e9 => by rw [e] at e9; cases e9.1)]
  · subst e
    refine if_neg (fun e9 => ?_)
    obtain ⟨-, h0, hlt⟩ := e9
    rw [toN_nI (by omega), ← (hc.1 q hq).s.len] at hlt
    obtain ⟨j, hj, rfl⟩ := nI_of h0
    have e3 := e2.resolve_left h0
    rw [toN_nI hj] at hlt
    have h32 := (hc.1 q hq).l
    have hl := (hc.1 q hq).s.len
    have h4 := (nI_leI (by omega) hj).1 e3
    omega
  · subst e
    subst e2
    obtain ⟨f2, hn3⟩ := (hV q hq).L
    have h32 := hn3.2.1
    have hi := (List.getElem?_eq_some_iff.1 e3).1
    have hl := (hc.1 q hq).s.len
    rw [toN_nI (by omega), toN_nI (by omega), if_pos ⟨isRp_nI hq, nI_pos (by omega), by omega⟩, ← (hc.1 q hq).nm, List.getD_eq_getElem?_getD, List.getElem?_map, e3]
    rfl
theorem step_tag (a1 a2 a3 : Int32) (i : INV D x o P h) : stepP l D x o P h M_B_tag M_m_tag [.int a1, .int a2, .int a3] := by
  obtain ⟨W, V, va, vf, As, T, K, dr, ha, hm, hs, hc⟩ := i
  obtain ⟨g, bb, hh, mm, cc, aa, dA, sA, sc, w, hx, hV, hd, hsc⟩ := id ha
  have fin : ∀ v, (if isRp a1 = true ∧ ¬ a3 < 0 ∧ a3 ≤ nI 9 then tagF a2 (toN a3) (As (toN a1)) (-1, -1, -1) else -1) = v → ∃ w, some (Value.int v) = some (.int w) ∧ (∃ fs, h o = some (.inr (ciM, fs))) ∧ Runs l D M_m_tag [.ref o, .int a1, .int a2, .int a3] h 0 0 (fun r2 h2 => r2 = some (.int w) ∧ INV D x o (P + 0) h2) := by
    intro v hv
    exact ⟨v, rfl, hm.fs, Runs.at hm (c_m_tag a1 a2 a3 hs.1 (fun f9 => ⟨by rw [hv], inv_m ha hm hc hs⟩))⟩
  have dg : dgI a3 = true → ∃ d, d ≤ 9 ∧ a3 = nI d ∧ (¬ a3 < 0 ∧ a3 ≤ nI 9) := by
    intro e
    unfold dgI at e
    rw [Bool.and_eq_true, Bool.not_eq_true', Bool.not_eq_true', decide_eq_false_iff_not, decide_eq_false_iff_not] at e
    obtain ⟨d, hd, rfl⟩ := nI_of e.1
    have h9 : nI d ≤ nI 9 := Int32.not_lt.mp e.2
    exact ⟨d, (nI_leI hd (by omega)).1 h9, rfl, e.1, h9⟩
  refine ⟨0, 0, 0, hc.pb, Nat.zero_le _, Nat.zero_le _, ⟨_, hx⟩, c_B_tag a1 a2 a3 hx hV (fun e => fin _ ?_) (fun q hq e e2 e3 => fin _ ?_) (fun q c hq e e2 e3 => fin _ ?_)⟩
  · refine if_neg (fun e9 => ?_)
    rcases e with e | e
    · rw [e] at e9; cases e9.1
    · unfold dgI at e
      rw [decide_eq_false e9.2.1, decide_eq_false (Int32.not_lt.mpr e9.2.2)] at e
      cases e
  · obtain ⟨d, d9, rfl, h9⟩ := dg e2
    subst e
    rw [if_pos ⟨isRp_nI hq, h9⟩, toN_nI (by omega), toN_nI (by omega)]
    exact ((hc.1 q hq).tag a2 d9).1 e3
  · obtain ⟨d, d9, rfl, h9⟩ := dg e2
    subst e
    rw [if_pos ⟨isRp_nI hq, h9⟩, toN_nI (by omega), toN_nI (by omega)]
    exact ((hc.1 q hq).tag a2 d9).2 c e3

end LST
