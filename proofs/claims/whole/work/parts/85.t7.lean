/-! Bags as values: what is asked of them. Own work. -/
theorem nod_len_eq {A B : List Nat} (ha : A.Nodup) (hb : B.Nodup) (h : ∀ x, x ∈ A ↔ x ∈ B) : A.length = B.length := by
  have h1 := nodup_len ha (fun x hx => (h x).1 hx)
  have h2 := nodup_len hb (fun x hx => (h x).2 hx)
  omega
/-- counting over the check-ins is counting over the history -/
theorem cntH {V : BV} {As : List (List Nat)} {T K : List Nat} (h : bgR V As T K) (p : List Nat → Bool) : lcount (fun b => isCI As b && p b) As = (V.H.filter fun z => p z.2).length := by
  unfold lcount
  have h1 : ((As.filter fun b => isCI As b && p b).map (dg 7)).Nodup := by
    have := h.s.2.1
    rw [List.Nodup, List.pairwise_map] at this ⊢
    exact this.filter _
  have h2 : ((V.H.filter fun z => p z.2).map fun y => dg 7 y.2).Nodup := by
    have := pw_nod h.s.1 h.h.1 (fun y hy => ((h.h.2 y).1 hy).1)
    rw [List.Nodup, List.pairwise_map] at this ⊢
    exact this.filter _
  have := nod_len_eq h1 h2 (by
    intro x
    rw [List.mem_map, List.mem_map]
    constructor
    · rintro ⟨b, hb, rfl⟩
      obtain ⟨h3, h4⟩ := List.mem_filter.1 hb
      rw [Bool.and_eq_true] at h4
      obtain ⟨a, ha⟩ := (h.s.2.2 b).1 h3
      exact ⟨(a, b), List.mem_filter.2 ⟨(h.h.2 _).2 ⟨ha, h4.1⟩, h4.2⟩, rfl⟩
    · rintro ⟨y, hy, rfl⟩
      obtain ⟨h3, h4⟩ := List.mem_filter.1 hy
      obtain ⟨h5, h6⟩ := (h.h.2 _).1 h3
      exact ⟨y.2, List.mem_filter.2 ⟨(h.s.2.2 _).2 ⟨y.1, h5⟩, by rw [h6, h4]; rfl⟩, rfl⟩)
  simpa using this
theorem bgR.ci {V : BV} {As : List (List Nat)} {T K : List Nat} (h : bgR V As T K) : V.H.length = ciN As := by
  have h1 := cntH h (fun _ => true)
  simp only [Bool.and_true] at h1
  unfold ciN
  rw [h1, List.filter_eq_self.2 (fun _ _ => rfl)]
theorem bgR.hs {V : BV} {As : List (List Nat)} {T K : List Nat} (h : bgR V As T K) {z : Nat × List Nat} (hz : z ∈ V.H) : sortM z.2 = 1 := isCI_sort ((h.h.2 z).1 hz).2
theorem kidC_len (x : Int32) : ∀ L : List (Nat × List Nat), kidC x L = (L.filter fun z => npC x (aCs z.2)).length
  | [] => rfl
  | a :: t => by
    rw [kidC, kidC_len x t, List.filter_cons]
    by_cases h : npC x (aCs a.2) = true
    · simp [h]; omega
    · simp [h]
theorem leafC_len (L : List (Nat × List Nat)) : ∀ M : List (Nat × List Nat), leafC L M = (M.filter fun z => decide (kidC (nI (dg 7 z.2)) L = 0)).length
  | [] => rfl
  | a :: t => by
    rw [leafC, leafC_len L t, List.filter_cons]
    by_cases h : kidC (nI (dg 7 a.2)) L = 0
    · simp [h]; omega
    · simp [h]
theorem bgR.ch {V : BV} {As : List (List Nat)} {T K : List Nat} (h : bgR V As T K) (nm : Int32) : kidC nm V.H = chN As nm := by
  have h1 := cntH h (fun b => !decide (nm < 0) && hasL 80 nm (lns b))
  rw [kidC_len]
  have h2 : (V.H.filter fun z => npC nm (aCs z.2)) = V.H.filter fun z => !decide (nm < 0) && hasL 80 nm (lns z.2) := by
    refine List.filter_congr ?_
    intro z hz
    have ha := aCs_lns (bs := z.2) (by have := h.hs hz; omega)
    rw [ha.1]
    exact npC_has (fun c hc => aCs_cv hc) ha.2.2.2.2
  rw [h2, ← h1]
  unfold chN lcount isCh
  congr 2
  funext a
  cases decide (nm < 0) <;> cases isCI As a <;> rfl
theorem bgR.lf {V : BV} {As : List (List Nat)} {T K : List Nat} (h : bgR V As T K) : leafC V.H V.H = lfN As := by
  have h1 := cntH h (fun b => decide (chN As (nI (dg 7 b)) = 0))
  rw [leafC_len]
  unfold lfN
  rw [h1]
  congr 2
  funext z
  rw [h.ch]
theorem eB_bef {a b : List Nat} (ha : sortM a = 1) (hb : sortM b = 1) : bef a b = eB b a := by
  have e1 := num68 (bs := a) (Or.inl ha)
  have e2 := num68 (bs := b) (Or.inl hb)
  have t1 := tmN_le (a := a) (Or.inl ha)
  have t2 := tmN_le (a := b) (Or.inl hb)
  have d1 := dg7 a
  have d2 := dg7 b
  unfold bef eB
  rw [e1, e2]
  by_cases h : tmN b = tmN a
  · rw [if_pos (by rw [h])]
    rw [Bool.eq_iff_iff]
    simp [h]
    rw [nI_ltI (by omega) (by omega)]
  · rw [if_neg (by rw [nI_eq (by omega) (by omega)]; exact h)]
    rw [Bool.eq_iff_iff]
    simp [h]
    rw [nI_ltI (by omega) (by omega)]
theorem bgR.bf {V : BV} {As : List (List Nat)} {T K : List Nat} (h : bgR V As T K) {i : Nat} {z : Nat × List Nat} (hz : V.H[i]? = some z) : befN As z.2 = i := by
  unfold befN
  rw [cntH h (fun b => bef z.2 b)]
  have hzm : z ∈ V.H := List.mem_of_getElem? hz
  have h1 : (V.H.filter fun w => bef z.2 w.2) = V.H.filter fun w => eB w.2 z.2 := by
    refine List.filter_congr ?_
    intro w hw
    exact eB_bef (h.hs hzm) (h.hs hw)
  rw [h1]
  have hlt := (List.getElem?_eq_some_iff.1 hz).1
  have h2 : (V.H.take i).filter (fun w => eB w.2 z.2) = V.H.take i := by
    refine List.filter_eq_self.2 ?_
    intro w hw
    obtain ⟨j, hj, hg⟩ := mem_take_get hw
    exact pw_get h.h.1 hj hg hz
  have h3 : (V.H.drop i).filter (fun w => eB w.2 z.2) = [] := by
    refine List.filter_eq_nil_iff.2 ?_
    intro w hw hc
    obtain ⟨j, hj, hg⟩ := mem_drop_get hw
    by_cases hij : i = j
    · subst hij
      rw [hz] at hg
      cases hg
      rw [eB_ir] at hc
      cases hc
    · have h4 : eB z.2 w.2 = true := pw_get h.h.1 (by omega : i < j) hz hg
      have h5 := eB_tr h4 hc
      rw [eB_ir] at h5
      cases h5
  rw [← List.take_append_drop i V.H, List.filter_append, h2, h3]
  simp
  omega
theorem tlF_some {As : List (List Nat)} {k : Nat} : ∀ {l : List (List Nat)} {a : List Nat}, a ∈ l → isCI As a = true → befN As a = k → (∀ b, b ∈ l → isCI As b = true → befN As b = k → dg 7 b = dg 7 a) → tlF As k l = nI (dg 7 a)
  | [], _, h, _, _, _ => by cases h
  | c :: t, a, h, h1, h2, hu => by
    rw [tlF]
    split
    next hc => rw [hu c (by simp) hc.1 hc.2]
    next hc =>
      rcases List.mem_cons.1 h with h | h
      · subst h; exact absurd ⟨h1, h2⟩ hc
      · exact tlF_some h h1 h2 (fun b hb => hu b (List.mem_cons_of_mem _ hb))
theorem tlF_none {As : List (List Nat)} {k : Nat} : ∀ {l : List (List Nat)}, (∀ b, b ∈ l → isCI As b = true → befN As b ≠ k) → tlF As k l = -1
  | [], _ => rfl
  | c :: t, h => by
    rw [tlF, if_neg (fun hc => h c (by simp) hc.1 hc.2)]
    exact tlF_none (fun b hb => h b (List.mem_cons_of_mem _ hb))
theorem bgR.at {V : BV} {As : List (List Nat)} {T K : List Nat} (h : bgR V As T K) {b : List Nat} (hb : b ∈ As) (hc : isCI As b = true) : ∃ (i : Nat) (a : Nat), V.H[i]? = some (a, b) ∧ befN As b = i := by
  obtain ⟨a, ha⟩ := (h.s.2.2 b).1 hb
  have hm : (a, b) ∈ V.H := (h.h.2 _).2 ⟨ha, hc⟩
  obtain ⟨i, hi⟩ := List.mem_iff_getElem?.1 hm
  exact ⟨i, a, hi, h.bf hi⟩
theorem bgR.tl {V : BV} {As : List (List Nat)} {T K : List Nat} (h : bgR V As T K) {k : Nat} {z : Nat × List Nat} (hz : V.H[k]? = some z) : tlF As k As = nI (dg 7 z.2) := by
  have hm := (h.h.2 z).1 (List.mem_of_getElem? hz)
  refine tlF_some ((h.s.2.2 _).2 ⟨z.1, hm.1⟩) hm.2 (h.bf hz) ?_
  intro b hb hc hk
  obtain ⟨i, a, hi, hi2⟩ := h.at hb hc
  rw [hi2] at hk
  subst hk
  rw [hi] at hz
  cases hz
  rfl
theorem bgR.tl0 {V : BV} {As : List (List Nat)} {T K : List Nat} (h : bgR V As T K) {k : Nat} (hk : V.H.length ≤ k) : tlF As k As = -1 := by
  refine tlF_none ?_
  intro b hb hc he
  obtain ⟨i, a, hi, hi2⟩ := h.at hb hc
  have := (List.getElem?_eq_some_iff.1 hi).1
  omega
theorem bgR.nm {V : BV} {As : List (List Nat)} {T K : List Nat} (h : bgR V As T K) : (V.L.map fun y => dg 7 y.2) = nameL As := by
  refine SS_ext h.s.1 (srt_SS _) ?_
  intro x
  rw [nameL, srt_mem, List.mem_map, List.mem_map]
  constructor
  · rintro ⟨y, hy, rfl⟩; exact ⟨y.2, (h.s.2.2 _).2 ⟨y.1, hy⟩, rfl⟩
  · rintro ⟨b, hb, rfl⟩
    obtain ⟨a, ha⟩ := (h.s.2.2 b).1 hb
    exact ⟨(a, b), ha, rfl⟩
/-- the digest of the files over lines -/
def fiL (L : List (Nat × List Nat)) : List (Option CV) → Nat → Option Nat
  | [], d => some d
  | none :: t, d => fiL L t d
  | some c :: t, d => if c.1 = 70 then (match fdA (oI c.2.2.2.1) L with
    | none => none
    | some y => fiL L t (dg d y.2)) else fiL L t d
theorem fiL_files {L : List (Nat × List Nat)} {As : List (List Nat)} (h : smA L As) : ∀ (cs : List (Option CV)) (d : Nat), fiL L cs d = filesL As cs d
  | [], _ => rfl
  | none :: t, d => by rw [fiL, filesL]; exact fiL_files h t d
  | some c :: t, d => by
    rw [fiL, filesL]
    split
    · have h1 := h.fd (oI c.2.2.2.1)
      cases h2 : fdA (oI c.2.2.2.1) L with
      | none => rw [h2] at h1; rw [← h1]; rfl
      | some y => rw [h2] at h1; rw [← h1]; exact fiL_files h t _
    · exact fiL_files h t d
