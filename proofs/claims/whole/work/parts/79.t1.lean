/-! Bridge of texts: the class's cards are the reference's lines. Own work. -/
theorem chn_snoc (cs : List CV) (c : CV) : chn (cs ++ [c]) = (chn cs && okC cs c) := by
  induction cs with
  | nil => rfl
  | cons a t ih =>
    cases t with
    | nil => simp [chn, okC, folC]
    | cons b u =>
      have h1 : chn (a :: b :: u ++ [c]) = (folC a b && chn (b :: u ++ [c])) := rfl
      have h2 : okC (a :: b :: u) c = okC (b :: u) c := by simp [okC]
      rw [h1, ih, h2]
      simp [chn, Bool.and_assoc]
theorem chn_pre : ∀ (ds cs : List CV), chn (cs ++ ds) = true → chn cs = true
  | [], cs, h => by simpa using h
  | d :: t, cs, h => by
    have h1 := chn_pre t (cs ++ [d]) (by simpa using h)
    rw [chn_snoc] at h1
    simp at h1
    exact h1.1
theorem okC_90 {cs : List CV} {z c : CV} (hz : cs.getLast? = some z) (h9 : z.1 = 90) (hc : c.1 ≤ 90) : okC cs c = false := by
  simp only [okC, hz, h9]
  by_cases h : c.1 = 90
  · simp [h, grw]
  · have h1 : ¬ 90 < c.1 := by omega
    have h2 : ¬ 90 = c.1 := by omega
    simp [h1, h2]
theorem cv_le {c : CV} (h : cvOk c) : c.1 ≤ 90 := by
  obtain ⟨h, _⟩ := h
  omega
/-- a Z card in a chain is its last -/
theorem chn_90 : ∀ (ds cs : List CV) (c : CV), (∀ x, x ∈ ds → cvOk x) → c.1 = 90 → chn (cs ++ c :: ds) = true → ds = []
  | [], _, _, _, _, _ => rfl
  | d :: t, cs, c, ho, h9, h => by
    exfalso
    have h1 : chn (cs ++ [c] ++ [d]) = true := chn_pre t _ (by simpa using h)
    rw [chn_snoc, okC_90 (z := c) (by simp) h9 (cv_le (ho d (by simp)))] at h1
    simp at h1
theorem rdl_card {bs : List Nat} {k e : Nat} {c : CV} (h : rdl bs k = some (e, some c)) : eol bs k < bs.length ∧ e = eol bs k + 1 ∧ cardG (gB bs k) (eol bs k - k) = some c := by
  unfold rdl at h
  split at h
  next h1 =>
    simp only [Option.some.injEq, Prod.mk.injEq] at h
    exact ⟨h1, h.1.symm, h.2⟩
  next => cases h
/-- where a text is well-formed for the reference, the class reads the same cards -/
theorem wfF_rd (bs : List Nat) : ∀ (g k : Nat) (cs r : List CV), bs.length ≤ k + g → k ≤ bs.length → wfF bs g k cs = some r → chn cs = true →
    (∀ c, c ∈ cs → cvOk c) → (∀ z, cs.getLast? = some z → z.1 = 90 → 9 ≤ k ∧ z.2.2.2.1 = some (dg 7 (bs.take (k - 9)))) → (k = 0 ∨ bs.getD (k - 1) 0 = 10) →
    rdF bs g k cs = r ∧ chn r = true ∧ (∀ c, c ∈ r → cvOk c) ∧ (∀ z, r.getLast? = some z → z.1 = 90 → 9 ≤ bs.length ∧ z.2.2.2.1 = some (dg 7 (bs.take (bs.length - 9)))) ∧ (bs.length = 0 ∨ bs.getD (bs.length - 1) 0 = 10) := by
  intro g
  induction g with
  | zero =>
    intro k cs r hf hk h h1 h2 h3 h4
    simp only [wfF, Option.some.injEq] at h
    subst h
    have : k = bs.length := by omega
    subst this
    exact ⟨rfl, h1, h2, h3, h4⟩
  | succ g ih =>
    intro k cs r hf hk h h1 h2 h3 h4
    rw [wfF] at h
    split at h
    next hlt =>
      split at h
      next e c hr =>
        split at h
        next hok =>
          obtain ⟨hr1, hr2, hr3⟩ := rdl_card hr
          have hs := rdl_some hk hr
          have hcv := hs.2.2 c rfl
          simp only [Bool.and_eq_true] at hok
          have hke := eol_le hk
          obtain ⟨i1, i2⟩ := ih e (cs ++ [c]) r (by omega) hs.2.1 h (by rw [chn_snoc, h1, hok.1]; rfl) (by
            intro x hx
            rcases List.mem_append.1 hx with hx | hx
            · exact h2 x hx
            · simp at hx; subst hx; exact hcv) (by
            intro z hz h9
            simp at hz
            subst hz
            have h8 := cardG_90 hr3 h9
            have he : e = k + 9 := by omega
            refine ⟨by omega, ?_⟩
            have ho := hok.2
            simp only [okZ, h9] at ho
            simp at ho
            rw [ho, he]
            rfl) (by
            right
            rw [hr2]
            exact eol_at hk hr1)
          refine ⟨?_, i2⟩
          rw [rdF, if_pos hlt, hr3]
          rw [hr2] at i1
          exact i1
        next => cases h
      next => cases h
    next hge =>
      simp only [Option.some.injEq] at h
      subst h
      have : k = bs.length := by omega
      subst this
      refine ⟨?_, h1, h2, h3, h4⟩
      rw [rdF, if_neg hge]
theorem wf_rdC {bs : List Nat} {cs : List CV} (h : wf bs = some cs) : rdC bs = cs ∧ chn cs = true ∧ (∀ c, c ∈ cs → cvOk c) ∧ (∀ z, cs.getLast? = some z → z.1 = 90 → z.2.2.2.1 = some (dg 7 (bs.take (bs.length - 9)))) := by
  obtain ⟨h1, h2, h3, h4, h5⟩ := wfF_rd bs bs.length 0 [] cs (by omega) (Nat.zero_le _) h rfl (by intro c hc; cases hc) (by intro z hz; cases hz) (Or.inl rfl)
  refine ⟨?_, h2, h3, fun z hz h9 => (h4 z hz h9).2⟩
  unfold rdC
  by_cases h0 : bs.length = 0
  · rw [if_neg (by omega)]
    rw [h0] at h1
    exact h1
  · rw [if_pos ⟨by omega, h5.resolve_left h0⟩]
    exact h1
theorem rdF_pre (bs : List Nat) : ∀ (g k : Nat) (cs : List CV), k ≤ bs.length → (bs.getD (bs.length - 1) 0 = 10) → rdF bs g k cs ≠ [] → ∃ ds, rdF bs g k cs = cs ++ ds ∧ ∀ c, c ∈ ds → cvOk c := by
  intro g
  induction g with
  | zero => intro k cs hk hl h; exact ⟨[], by simp [rdF], by intro c hc; cases hc⟩
  | succ g ih =>
    intro k cs hk hl h
    rw [rdF] at h ⊢
    split
    next hlt =>
      rw [if_pos hlt] at h
      split
      next hn => rw [hn] at h; exact absurd rfl h
      next c hc =>
        rw [hc] at h
        have he := eol_lt hlt hl
        obtain ⟨ds, h1, h2⟩ := ih (eol bs k + 1) (cs ++ [c]) (by omega) hl h
        refine ⟨c :: ds, by rw [h1]; simp, ?_⟩
        intro x hx
        rcases List.mem_cons.1 hx with hx | hx
        · subst hx; exact (cardG_3 hc).2
        · exact h2 x hx
    next => exact ⟨[], by simp, by intro c hc; cases hc⟩
theorem rd_wfF (bs : List Nat) (hl : bs.getD (bs.length - 1) 0 = 10) : ∀ (g k : Nat) (cs r : List CV), bs.length ≤ k + g → k ≤ bs.length → rdF bs g k cs = r → r ≠ [] → chn r = true → wfZ bs r = true → wfF bs g k cs = some r := by
  intro g
  induction g with
  | zero => intro k cs r hf hk h _ _ _; simp only [rdF] at h; simp [wfF, h]
  | succ g ih =>
    intro k cs r hf hk h hne hch hz
    rw [wfF]
    have h0 := h
    rw [rdF] at h
    split
    next hlt =>
      rw [if_pos hlt] at h
      have he := eol_lt hlt hl
      have hkle := eol_le hk
      cases hc : cardG (gB bs k) (eol bs k - k) with
      | none => rw [hc] at h; exact absurd h.symm hne
      | some c =>
        rw [hc] at h
        have hrd : rdl bs k = some (eol bs k + 1, some c) := by rw [rdl, if_pos he, hc]
        rw [hrd]
        simp only at h
        have hw := ih (eol bs k + 1) (cs ++ [c]) r (by omega) (by omega) h hne hch hz
        obtain ⟨ds, hd1, hd2⟩ := rdF_pre bs g (eol bs k + 1) (cs ++ [c]) (by omega) hl (by rw [h]; exact hne)
        rw [h] at hd1
        have hok : okC cs c = true := by
          have := chn_pre ds (cs ++ [c]) (by rw [← hd1]; exact hch)
          rw [chn_snoc] at this
          simp at this
          exact this.2
        have hoz : okZ bs k c = true := by
          by_cases h9 : c.1 = 90
          · have hds : ds = [] := chn_90 ds cs c hd2 h9 (by rw [hd1] at hch; simpa using hch)
            subst hds
            have h8 := cardG_90 hc h9
            have hend : eol bs k + 1 = bs.length := by
              rcases Nat.lt_or_ge (eol bs k + 1) bs.length with hlt2 | hge2
              · exfalso
                cases g with
                | zero => omega
                | succ g =>
                  rw [rdF, if_pos hlt2] at h
                  have he2 := eol_lt hlt2 hl
                  cases hc2 : cardG (gB bs (eol bs k + 1)) (eol bs (eol bs k + 1) - (eol bs k + 1)) with
                  | none => rw [hc2] at h; exact hne h.symm
                  | some c2 =>
                    rw [hc2] at h
                    simp only at h
                    obtain ⟨ds2, hd3, _⟩ := rdF_pre bs g (eol bs (eol bs k + 1) + 1) (cs ++ [c] ++ [c2]) (by omega) hl (by rw [h]; exact hne)
                    rw [h, hd1] at hd3
                    have := congrArg List.length hd3
                    simp at this
              · omega
            have hk9 : bs.length - 9 = k := by omega
            simp only [wfZ, hd1, hk9] at hz
            simp at hz
            simp [okZ, h9, hz.2]
          · simp [okZ, h9]
        simp only [hok, hoz, Bool.and_self, if_true]
        exact hw
    next hge =>
      rw [if_neg hge] at h
      rw [h]
theorem cnt_tot : ∀ (cs : List CV), (∀ c, c ∈ cs → cvOk c) → cs.length = cnt 68 cs + cnt 70 cs + cnt 77 cs + cnt 80 cs + cnt 82 cs + cnt 84 cs + cnt 90 cs
  | [], _ => rfl
  | c :: t, h => by
    have ih := cnt_tot t (fun x hx => h x (List.mem_cons_of_mem _ hx))
    have hc := (h c (by simp)).1
    simp only [cnt_cons, List.length_cons]
    rcases hc with hc | hc | hc | hc | hc | hc | hc <;> simp [hc] <;> omega
theorem cnt_pos {n : Nat} {cs : List CV} (h : cnt n cs ≠ 0) : ∃ c, c ∈ cs ∧ c.1 = n := by
  unfold cnt at h
  have h2 : 0 < (cs.filter fun x => decide (x.1 = n)).length := by omega
  obtain ⟨c, hc⟩ := List.exists_mem_of_length_pos h2
  simp at hc
  exact ⟨c, hc.1, hc.2⟩
theorem cnt_zero {n : Nat} {cs : List CV} (h : cnt n cs = 0) {c : CV} (hc : c ∈ cs) : c.1 ≠ n := by
  intro he
  unfold cnt at h
  have h2 := List.length_eq_zero_iff.1 h
  have h3 : c ∈ cs.filter fun x => decide (x.1 = n) := by simp [hc, he]
  rw [h2] at h3
  cases h3
theorem cnt_app (n : Nat) (a b : List CV) : cnt n (a ++ b) = cnt n a + cnt n b := by simp [cnt]
theorem chn_z1 {cs : List CV} (ho : ∀ c, c ∈ cs → cvOk c) (hch : chn cs = true) (h : cnt 90 cs ≠ 0) : cnt 90 cs = 1 ∧ ∃ z, cs.getLast? = some z ∧ z.1 = 90 := by
  obtain ⟨c, hc, h9⟩ := cnt_pos h
  obtain ⟨a, b, hab⟩ := List.append_of_mem hc
  have hb : b = [] := chn_90 b a c (fun x hx => ho x (by rw [hab]; simp [hx])) h9 (by rw [← hab]; exact hch)
  subst hb
  refine ⟨?_, c, by rw [hab]; simp, h9⟩
  have ha : cnt 90 a = 0 := by
    rcases Nat.eq_zero_or_pos (cnt 90 a) with h0 | h0
    · exact h0
    · exfalso
      obtain ⟨d, hd, hd9⟩ := cnt_pos (by omega : cnt 90 a ≠ 0)
      obtain ⟨u, v, huv⟩ := List.append_of_mem hd
      have := chn_90 (v ++ [c]) u d (fun x hx => ho x (by rw [hab, huv]; simp at hx ⊢; exact Or.inr (Or.inr hx))) hd9 (by rw [hab, huv] at hch; simpa using hch)
      simp at this
  rw [hab, cnt_app, ha]
  simp [cnt, h9]
theorem srt_sort {cs : List CV} (ho : ∀ c, c ∈ cs → cvOk c) (h1 : cnt 90 cs = 1) : srtC cs = sortC cs := by
  have ht := cnt_tot cs ho
  have e0 : ¬ cnt 90 cs = 0 := by omega
  have e1 : (cnt 68 cs = 1 ∧ cnt 84 cs ≠ 0 ∧ stars cs = 0 ∧ cs.length = cnt 84 cs + 2) ↔ (cnt 68 cs = 1 ∧ cnt 84 cs ≠ 0 ∧ stars cs = 0 ∧ cnt 70 cs + cnt 77 cs + cnt 80 cs + cnt 82 cs = 0) := by
    constructor <;> rintro ⟨a, b, c, d⟩ <;> exact ⟨a, b, c, by omega⟩
  have e2 : (cnt 77 cs ≠ 0 ∧ cs.length = cnt 77 cs + 1) ↔ (cnt 77 cs ≠ 0 ∧ cnt 68 cs + cnt 70 cs + cnt 80 cs + cnt 82 cs + cnt 84 cs = 0) := by
    constructor <;> rintro ⟨a, b⟩ <;> exact ⟨a, by omega⟩
  simp only [srtC, sortC, if_neg e0, e1, e2]
/-- the class finds the reference's sort -/
theorem aS_sort (bs : List Nat) : aS bs = sortM bs := by
  unfold aS sortM
  cases hw : wf bs with
  | some cs =>
    obtain ⟨h1, h2, h3, h4⟩ := wf_rdC hw
    rw [h1]
    simp only
    by_cases h9 : cnt 90 cs = 0
    · have hz : wfZ bs cs = false := by
        unfold wfZ
        cases hl : cs.getLast? with
        | none => rfl
        | some z =>
          have hm : z ∈ cs := List.mem_of_getLast? hl
          have := cnt_zero h9 hm
          simp [this]
      rw [if_neg (by simp [wfC, hz])]
      simp [sortC, h9]
    · obtain ⟨h5, z, h6, h7⟩ := chn_z1 h3 h2 h9
      rw [if_pos, srt_sort h3 h5]
      simp [wfC, h2, wfZ, h6, h7, h4 z h6 h7]
  | none =>
    simp only
    split
    next h =>
      exfalso
      simp only [wfC, Bool.and_eq_true] at h
      have hne : rdC bs ≠ [] := by
        intro h0
        rw [h0] at h
        simp [wfZ] at h
      have hcond : 0 < bs.length ∧ bs.getD (bs.length - 1) 0 = 10 := by
        by_cases hc : 0 < bs.length ∧ bs.getD (bs.length - 1) 0 = 10
        · exact hc
        · exact absurd (by rw [rdC, if_neg hc]) hne
      have hr : rdF bs bs.length 0 [] = rdC bs := by rw [rdC, if_pos hcond]
      have := rd_wfF bs hcond.2 bs.length 0 [] (rdC bs) (by omega) (Nat.zero_le _) hr hne h.1 h.2
      rw [wf, this] at hw
      cases hw
    next => rfl
/-- the class's cards are the reference's lines -/
theorem aCs_lns {bs : List Nat} (h : sortM bs ≠ 0) : lns bs = (aCs bs).map some ∧ sortM bs = sortC (aCs bs) ∧ chn (aCs bs) = true ∧ cnt 90 (aCs bs) = 1 ∧ cnt 80 (aCs bs) ≤ 1 := by
  obtain ⟨cs, h1, h2⟩ := sort_wf h
  obtain ⟨h3, h4, h5, _⟩ := wf_rdC h1
  obtain ⟨h6, _, h7⟩ := wf_all h1
  have ha : aCs bs = cs := by rw [aCs, if_neg (by rw [aS_sort]; exact h), h3]
  rw [ha]
  refine ⟨h6, h2, h4, ?_, h7⟩
  have h9 : cnt 90 cs ≠ 0 := by
    intro h9
    rw [h2, sortC, if_pos h9] at h
    exact h rfl
  exact (chn_z1 h5 h4 h9).1
theorem aCs_0 {bs : List Nat} (h : sortM bs = 0) : aCs bs = [] := by rw [aCs, if_pos (by rw [aS_sort]; exact h)]
